
/-! the register's object; marks; the journal cut and copied -/
def SMS (S : Nat → Prop) (M M' : QM) (g g' : Nat → Nat) : Prop := ∀ s, s < 244 → ¬ S s → Sm M M' (g s) ∧ g' s = g s
theorem GF.ss {S : Nat → Prop} {M M' : QM} {g g' : Nat → Nat} (hg : gI M g) (h : GF S M M' g g') : SMS S M M' g g' := fun s hs hS => ⟨h.sm hg hs hS, h.2.1 s hs hS⟩
def gK (M : QM) (g : Nat → Nat) : Prop := ∀ s, s < 244 → (q_kd M (g s)).1 ≠ 5 ∧ q_kd M (g s) ≠ (1, 3)
theorem gK_fr {A : Nat → Prop} {M M' : QM} {g : Nat → Nat} (hg : gI M g) (h : gK M g) (hf : q_fr A M M') : gK M' g := fun s hs => by rw [hf.2.2.1 _ (hg.2 s hs)]; exact h s hs
theorem gK_car {M M' : QM} {g g' cN cT c : Nat → Nat} {C : CWs} (hg : gI M g) (h : gK M g) (hF : GF carS M M' g g') (hs : ∀ s, s < 19 → g' s = g s) (hC : CMm M' g' cN cT c C) : gK M' g' := fun s hs' => by
  by_cases e : carS s
  · exact CMm_kk hC hs' e
  · have : s < 19 := by unfold carS at e; omega
    rw [hs s this, hF.1.2.2.1 _ (hg.2 s hs')]
    exact h s hs'
theorem SMS_l {A : Nat → Prop} {M M' : QM} {g : Nat → Nat} {s e : Nat} (hg : gI M g) (h : gK M g) (hf : q_fr (fun x => x = g s ∨ A x) M M') (hs : s < 244) (hA : ∀ x, A x → (q_kd M x).1 = 5) : SMS (fun t => t = s) M M' g g := fun t ht hn => by
  refine ⟨Sm_fr hf (hg.2 t ht) ?_, rfl⟩
  rintro (z | z)
  · exact hn (hg.1 t s ht hs z)
  · exact (h t ht).1 (hA _ z)
theorem FLm_ss {M M' : QM} {g g' c : Nat → Nat} {N : List (Int × Int × Int)} {O : List Nat} {S : Nat → Prop} (h : FLm M g c N O) (hF : SMS S M M' g g') (hS : ∀ s, flS s → ¬ S s) : FLm M' g' c N O := by
  have e : ∀ s, flS s → g' s = g s := fun s hs => (hF s (by unfold flS at hs; omega) (hS s hs)).2
  have m : ∀ s, flS s → Sm M M' (g s) := fun s hs => (hF s (by unfold flS at hs; omega) (hS s hs)).1
  have f : ∀ s, 18 ≤ s → s < 24 → flS s := fun s h1 h2 => ⟨h1, h2⟩
  have m18 := m 18 (f 18 (by omega) (by omega))
  have m23 := m 23 (f 23 (by omega) (by omega))
  obtain ⟨h1, h2, h3, h4, h5, h6, h7, h8, h9, h10, h11, h12⟩ := h
  unfold FLm
  rw [e 18 (f 18 (by omega) (by omega)), e 23 (f 23 (by omega) (by omega)), m18.1, m23.1]
  refine ⟨h1, by rw [m18.2, h2], by rw [m18.2, h3], by rw [m18.2, h4], h5, h6, fun k hk => ?_, fun k hk i q hq => ?_, fun i hi => by rw [m23.2]; exact h9 i hi, fun i v hv => by rw [m23.2]; exact h10 i v hv, h11, h12⟩
  · have mk := m (19 + k) (f _ (by omega) (by omega))
    rw [e (19 + k) (f _ (by omega) (by omega)), m18.2, mk.1]
    obtain ⟨a1, a2, a3, a4, a5, a6⟩ := h7 k hk
    exact ⟨a1, a2, a3, a4, a5, fun i hi => by rw [mk.2]; exact a6 i hi⟩
  · have mk := m (19 + k) (f _ (by omega) (by omega))
    rw [e (19 + k) (f _ (by omega) (by omega)), mk.2]
    exact h8 k hk i q hq
theorem WMm_ss {M M' : QM} {g g' : Nat → Nat} {cN cT : Nat → Nat} {W : Nat → Pl} {n : Nat} {mg sp : Int} {S : Nat → Prop} (h : WMm M g cN cT W n mg sp) (hF : SMS S M M' g g') (hS : ∀ s, s = 16 ∨ s = 17 ∨ s = 18 ∨ 24 ≤ s → ¬ S s) : WMm M' g' cN cT W n mg sp := by
  obtain ⟨⟨kw, fpa, fn, hn, kpa, hpl⟩, f0, f1, f2⟩ := h
  obtain ⟨s16, e16⟩ := hF 16 (by omega) (hS 16 (Or.inl rfl))
  obtain ⟨s17, e17⟩ := hF 17 (by omega) (hS 17 (Or.inr (Or.inl rfl)))
  obtain ⟨s18, e18⟩ := hF 18 (by omega) (hS 18 (by omega))
  unfold WMm WRd
  rw [e16, e17, e18, s16.1, s17.1]
  refine ⟨⟨kw, by rw [s16.2, fpa], by rw [s16.2, fn], hn, kpa, fun j hj => ?_⟩, by rw [s16.2, f0], by rw [s16.2, f1], by rw [s16.2, f2]⟩
  obtain ⟨q1, q2⟩ := hpl j hj
  have ea : ∀ k, k < 11 → gA g' j k = gA g j k := fun k hk => (hF _ (by omega) (hS _ (by omega))).2
  refine ⟨by rw [s17.2, ea 0 (by omega), q1], PLr_sm q2 (fun k hk => ?_) (fun k hk => ea k hk)⟩
  exact (hF (24 + 11 * j + k) (by omega) (hS _ (by omega))).1
theorem CMm_ss {M M' : QM} {g g' cN cT c : Nat → Nat} {C : CWs} {S : Nat → Prop} (h : CMm M g cN cT c C) (hF : SMS S M M' g g') (hS : ∀ s, 16 ≤ s → ¬ S s) : CMm M' g' cN cT c C :=
  ⟨WMm_ss h.1 hF (fun s hs => hS s (by omega)), FLm_ss h.2.1 hF (fun s hs => hS s (by unfold flS at hs; omega)), h.2.2⟩
/-- the register's object: its state as numbers -/
def RO (M : QM) (g : Nat → Nat) (hs ch lr hc : Int) : Prop := q_kd M (g 0) = (1, 12) ∧ q_fv M (g 0) 0 = qr (g 1) ∧ q_fv M (g 0) 1 = qr (g 3) ∧ q_fv M (g 0) 2 = qr (g 16) ∧ q_fv M (g 0) 3 = qr (g 5) ∧ q_fv M (g 0) 4 = qr (g 7) ∧ q_fv M (g 0) 5 = qr (g 10) ∧ q_fv M (g 0) 6 = qr (g 12) ∧ q_fv M (g 0) 7 = qr (g 13) ∧ q_fv M (g 0) 8 = qi hs ∧ q_fv M (g 0) 9 = qr (g 14) ∧ q_fv M (g 0) 10 = qi ch ∧ q_fv M (g 0) 11 = qi lr ∧ q_fv M (g 0) 12 = qr (g 15) ∧ q_fv M (g 0) 13 = qi hc
theorem RO_ss {M M' : QM} {g g' : Nat → Nat} {hs ch lr hc : Int} {S : Nat → Prop} (h : RO M g hs ch lr hc) (hF : SMS S M M' g g') (h0 : ¬ S 0) (he : ∀ s, s ≤ 16 → g' s = g s) : RO M' g' hs ch lr hc := by
  have s0 := (hF 0 (by omega) h0).1
  unfold RO at h ⊢
  rw [he 0 (by omega), he 1 (by omega), he 3 (by omega), he 16 (by omega), he 5 (by omega), he 7 (by omega), he 10 (by omega), he 12 (by omega), he 13 (by omega), he 14 (by omega), he 15 (by omega), s0.1]
  simp only [s0.2]
  exact h
/-- marks -/
def MK (M : QM) (g : Nat → Nat) (ms : List Int) : Prop := q_kd M (g 14) = (2, 6) ∧ ms.length ≤ 6 ∧ (∀ (i : Nat) (v : Int), ms[i]? = some v → q_fv M (g 14) i = qi v) ∧ ∀ i, i < 6 → ∃ z, q_fv M (g 14) i = qi z
theorem MK_ss {M M' : QM} {g g' : Nat → Nat} {ms : List Int} {S : Nat → Prop} (h : MK M g ms) (hF : SMS S M M' g g') (h0 : ¬ S 14) : MK M' g' ms := by
  obtain ⟨s0, e0⟩ := hF 14 (by omega) h0
  unfold MK at h ⊢
  rw [e0, s0.1]
  simp only [s0.2]
  exact h
def kpM (ms : List Int) (v : Int) : List Int := (if ms.length = 6 then ms.tail else ms) ++ [v]
theorem kpM_len {ms : List Int} {v : Int} (h : ms.length ≤ 6) : (kpM ms v).length = min (ms.length + 1) 6 ∧ (kpM ms v).length ≤ 6 := by
  unfold kpM
  split <;> simp <;> omega
section KM
variable {M : QM} {g : Nat → Nat} {hs lr hc : Int} {ms : List Int} {d : Nat}
theorem km_room {C : QC} {v : Int} {l : List Int} (hg : gI M g) (hw : q_wf M) (hR : RO M g hs l.length lr hc) (hM : MK M g l) (hl : l.length < 6) : ∃ M', (∀ P, Rr C mX12_keepMark (43, [some (qr (g 0)), some (qi v)], [], M) P = P none M') ∧ RO M' g hs (l.length + 1 : Nat) lr hc ∧ MK M' g (l ++ [v]) ∧ GF (fun s => s = 0 ∨ s = 14) M M' g g ∧ q_qt M M' := by
  have n0 := g_ne hg (s := 0) (t := 14) (by omega) (by omega) (by omega)
  obtain ⟨k0, r0, r1, r2, r3, r4, r5, r6, r7, r8, r9, r10, r11, r12, r13⟩ := id hR
  obtain ⟨m0, m1, m2, m3⟩ := hM
  have b5 : (q_kd M (g 14)).1 = 2 := by rw [m0]
  have e5 : (q_kd M (g 14)).2 = 6 := by rw [m0]
  have f1 : GF (fun s => s = 0 ∨ s = 14) M (q_wr M (g 14) l.length (qi v)) g g := GF_wr hg hw (by omega) (Or.inr rfl)
  have f2 : GF (fun s => s = 0 ∨ s = 14) (q_wr M (g 14) l.length (qi v)) (q_wr (q_wr M (g 14) l.length (qi v)) (g 0) 10 (qi ((l.length : Int) + 1))) g g := GF_wr f1.2.2.2.1 f1.2.2.2.2 (by omega) (Or.inl rfl)
  have v0 : ∀ j, q_fv (q_wr M (g 14) l.length (qi v)) (g 0) j = q_fv M (g 0) j := fun j => by rw [q_fv_wrE, if_neg (fun z => n0 z.1)]
  have v14 : ∀ j, q_fv (q_wr (q_wr M (g 14) l.length (qi v)) (g 0) 10 (qi ((l.length : Int) + 1))) (g 14) j = if j = l.length then qi v else q_fv M (g 14) j := fun j => by
    rw [q_fv_wrE, if_neg (fun z => n0 z.1.symm), q_fv_wrE]
    by_cases e : j = l.length
    · rw [if_pos ⟨rfl, e⟩, if_pos e]
    · rw [if_neg (fun z => e z.2), if_neg e]
  have en : ((l.length : Int) + 1) = ((l.length + 1 : Nat) : Int) := by omega
  refine ⟨q_wr (q_wr M (g 14) l.length (qi v)) (g 0) 10 (qi ((l.length : Int) + 1)), fun P => ?_, ⟨k0, ?_, ?_, ?_, ?_, ?_, ?_, ?_, ?_, ?_, ?_, ?_, ?_, ?_, ?_⟩, ⟨m0, by simp; omega, fun i w hw => ?_, fun i hi => ?_⟩, f1.tr f2, q_qt.wr.tr q_qt.wr⟩
  · have w10 : q_fv (q_wr M (g 14) l.length (qi v)) (g 0) 10 = qi l.length := by rw [v0, r10]
    simp (disch := first | assumption | exact bI_lo | exact bI_hi | exact bI_01 | (show (List.map q_wd _).sum ≤ 8; with_unfolding_all exact Nat.le_of_ble_eq_true rfl) | omega | (simp only [q_kd_wr]; first | assumption | omega)) only [kX12_keepMark_43, kX12_keepMark_44, kX12_keepMark_47, kX12_keepMark_48, kX12_keepMark_51, kX12_keepMark_52, kX12_keepMark_53, kX12_keepMark_54i, kX12_keepMark_54r, kX12_keepMark_55, kX12_keepMark_58, kX12_keepMark_59, kX12_keepMark_60, kX12_keepMark_63, q_cut_i, q_cut_r, q_cut_l, q_cut_n, q_psh_n, q_psh_s, bI_eq0, ite_not, r9, r10, q_toN, w10]
  · exact q_fwo (by decide) (by rw [v0, r0])
  · exact q_fwo (by decide) (by rw [v0, r1])
  · exact q_fwo (by decide) (by rw [v0, r2])
  · exact q_fwo (by decide) (by rw [v0, r3])
  · exact q_fwo (by decide) (by rw [v0, r4])
  · exact q_fwo (by decide) (by rw [v0, r5])
  · exact q_fwo (by decide) (by rw [v0, r6])
  · exact q_fwo (by decide) (by rw [v0, r7])
  · exact q_fwo (by decide) (by rw [v0, r8])
  · exact q_fwo (by decide) (by rw [v0, r9])
  · rw [q_fws, en]
  · exact q_fwo (by decide) (by rw [v0, r11])
  · exact q_fwo (by decide) (by rw [v0, r12])
  · exact q_fwo (by decide) (by rw [v0, r13])
  · rw [v14]
    by_cases e : i = l.length
    · subst e
      rw [List.getElem?_append_right (Nat.le_refl _), Nat.sub_self] at hw
      have : w = v := by simpa using hw.symm
      rw [if_pos rfl, this]
    · rw [if_neg e]
      by_cases g2 : i < l.length
      · rw [List.getElem?_append_left g2] at hw
        exact m2 i w hw
      · rw [List.getElem?_eq_none (by simp; omega)] at hw
        simp at hw
  · rw [v14]
    split
    · exact ⟨_, rfl⟩
    · exact m3 i hi
end KM
section CUTS
variable {M : QM} {d : Nat}
theorem vX12_cutJournal {a e cap n : Nat} {G : Nat} {L : List Nat} {J : List Od} (hw : q_wf M) (hG : q_kd M G = (1, 12)) (hGa : q_fv M G 6 = qr a) (hJ : JR M a e cap L J) (hn : n ≤ J.length) (hl : J.length ≤ 2000) : ∃ M', q_C (d + 4) iX12_cutJournal [qr G, qi n] M none M' ∧ JR M' a e cap (L.take n) (J.take n) ∧ q_fr (fun x => x = a ∨ (x = e ∧ 0 < cap)) M M' ∧ q_qt M M' := by
  have nGa : G ≠ a := q_neK hG hJ.1.1 (by simp)
  have nGe : G ≠ e := q_neK hG hJ.1.2.2.2.2.1 ALk_n1
  have loop : ∀ (m k : Nat) (A : QM), k = n + m → k ≤ L.length → q_fr (fun x => x = a ∨ (x = e ∧ 0 < cap)) M A → q_qt M A → AL A a e cap (L.take k) → ∃ B, (∀ P, Rr (q_C (d + 3)) mX12_cutJournal (10, [some (qr G), some (qi n), some (qi ((k : Int) - 1))], [], A) P = P none B) ∧ q_fr (fun x => x = a ∨ (x = e ∧ 0 < cap)) M B ∧ q_qt M B ∧ AL B a e cap (L.take n) := by
    intro m
    induction m with
    | zero =>
      intro k A hk hkl hf hq hA
      have e : k = n := by omega
      subst e
      have ll := hJ.2.1
      refine ⟨A, fun P => ?_, hf, hq, hA⟩
      rw [kX12_cutJournal_10]
      simp (disch := first | assumption | exact bI_lo | exact bI_hi | exact bI_01 | (show (List.map q_wd _).sum ≤ 8; with_unfolding_all exact Nat.le_of_ble_eq_true rfl) | omega) only [kX12_cutJournal_11, kX12_cutJournal_12, kX12_cutJournal_15, kX12_cutJournal_16, kX12_cutJournal_19, kX12_cutJournal_20, kX12_cutJournal_23, kX12_cutJournal_24E, kX12_cutJournal_27i, kX12_cutJournal_27r, kX12_cutJournal_28, kX12_cutJournal_31, kX12_cutJournal_34, q_cut_i, q_cut_r, q_cut_l, q_cut_n, q_psh_n, q_psh_s, bI_eq0, ite_not, ↓if_pos, ↓if_neg, ↓ite_bI_t, ↓ite_bI_f]
    | succ m ih =>
      intro k A hk hkl hf hq hA
      have hlen : (L.take k).length = (n + m) + 1 := by rw [List.length_take, Nat.min_eq_left hkl]; omega
      have ll := hJ.2.1
      obtain ⟨B1, r1, r2, r3, r4⟩ := vAL_rem (d := d) hA hlen
      have et : (L.take k).take (n + m) = L.take (n + m) := by rw [List.take_take, Nat.min_eq_left (by omega)]
      rw [et] at r2
      have capp : 0 < cap := by have := hA.2.2.2.2.2.1; omega
      obtain ⟨B, t1, t2, t3, t4⟩ := ih (n + m) B1 rfl (by omega) (hf.tr2 r3 (fun x _ z => z.elim Or.inl (fun z => Or.inr ⟨z, capp⟩))) (hq.tr r4) r2
      refine ⟨B, fun P => ?_, t2, t3, t4⟩
      have t1' := t1 P
      have Gl : G < q_top M := hw.lt (by rw [hG]; simp)
      have kG : q_kd A G = (1, 12) := by rw [hq.1, hG]
      have vG : q_fv A G 6 = qr a := by rw [hf.2.2.2 G Gl (fun z => z.elim nGa (fun z => nGe z.1)), hGa]
      have k15 := hA.1
      have ek : (k : Int) - 1 = ((n + m : Nat) : Int) := by omega
      obtain ⟨w, hv⟩ : ∃ w, q_fv A e (n + m) = qr w := by
        have hx : (L.take k)[n + m]? = some (L.take k)[n + m] := List.getElem?_eq_getElem (by omega)
        exact ⟨_, (hA.2.2.2.2.2.2.2.1 _ _ hx).1⟩
      rw [hv] at r1
      rw [ek]
      rw [kX12_cutJournal_10]
      simp (disch := first | assumption | exact bI_lo | exact bI_hi | exact bI_01 | (show (List.map q_wd _).sum ≤ 8; with_unfolding_all exact Nat.le_of_ble_eq_true rfl) | omega) only [kX12_cutJournal_11, kX12_cutJournal_12, kX12_cutJournal_15, kX12_cutJournal_16, kX12_cutJournal_19, kX12_cutJournal_20, kX12_cutJournal_23, kX12_cutJournal_24E, kX12_cutJournal_27i, kX12_cutJournal_27r, kX12_cutJournal_28, kX12_cutJournal_31, kX12_cutJournal_34, q_cut_i, q_cut_r, q_cut_l, q_cut_n, q_psh_n, q_psh_s, bI_eq0, ite_not, ↓if_pos, ↓if_neg, ↓ite_bI_t, ↓ite_bI_f, vG, T_of r1]
      rw [show ((n + m : Nat) : Int) + -1 = ((n + m : Nat) : Int) - 1 by omega]
      exact t1'
  have ll := hJ.2.1
  have hA0 : AL M a e cap (L.take J.length) := by rw [List.take_of_length_le (by omega)]; exact hJ.1
  obtain ⟨B, r1, r2, r3, r4⟩ := loop (J.length - n) J.length M (by omega) (by omega) q_fr.rf ⟨fun _ => rfl, rfl, ⟨by omega, by omega⟩⟩ hA0
  refine ⟨B, C_of (fun P => ?_), JR_take hJ r4 (fun b hb => ?_), r2, r3⟩
  · have r1' := r1 P
    have k15 := hJ.1.1
    rw [eX12_cutJournal]
    simp (disch := first | assumption | exact bI_lo | exact bI_hi | exact bI_01 | (show (List.map q_wd _).sum ≤ 8; with_unfolding_all exact Nat.le_of_ble_eq_true rfl) | omega) only [kX12_cutJournal_0, kX12_cutJournal_1, kX12_cutJournal_4E, kX12_cutJournal_7, kX12_cutJournal_8, kX12_cutJournal_9, q_cut_i, q_cut_r, q_cut_l, q_cut_n, q_psh_n, q_psh_s, bI_eq0, ite_not, hGa, uAL_size hJ.1, ll]
    exact r1'
  · refine Sm_fr r2 (hw.lt (by rw [hb]; simp)) ?_
    rintro (z | z)
    · rw [z, hJ.1.1] at hb; simp at hb
    · rw [z.1, hJ.1.2.2.2.2.1] at hb; exact ALk_n1 hb.symm
end CUTS
