
/-! tell -/
theorem JR_gf {S : Nat → Prop} {M M' : QM} {g : Nat → Nat} {s e cap : Nat} {L : List Nat} {J : List Od} (hg : gI M g) (hw : q_wf M) (hk : gK M g) (hF : q_fr (fun x => ∃ t, t < 244 ∧ S t ∧ x = g t) M M') (hs : s < 244) (hS : ¬ S s) (hJ : JR M (g s) e cap L J) : JR M' (g s) e cap L J := by
  refine JR_fr hw hJ hF ?_ (fun hcp => ?_) (fun b hb => ?_)
  · rintro ⟨t, ht, hc, z⟩
    exact hS (hg.1 _ _ hs ht z ▸ hc)
  · rintro ⟨t, ht, hc, z⟩
    have := (hk t ht).1
    rw [← z, AL_k5 hJ.1 hcp] at this
    simp at this
  · rintro ⟨t, ht, hc, z⟩
    have := (hk t ht).2
    rw [← z, hb] at this
    simp at this
theorem OB_gf {S : Nat → Prop} {M M' : QM} {g : Nat → Nat} {o : Nat} {q : Od} (hw : q_wf M) (hk : gK M g) (hF : q_fr (fun x => ∃ t, t < 244 ∧ S t ∧ x = g t) M M') (h : OB M o q) : OB M' o q := by
  refine OB_sm h (Sm_fr hF (hw.lt (by rw [h.1]; simp)) ?_)
  rintro ⟨t, ht, hc, z⟩
  have := (hk t ht).2
  rw [← z, h.1] at this
  simp at this
theorem RO_lr {M : QM} {g : Nat → Nat} {hs ch lr hc v : Int} (h : RO M g hs ch lr hc) : RO (q_wr M (g 0) 11 (qi v)) g hs ch v hc := by
  obtain ⟨k0, r0, r1, r2, r3, r4, r5, r6, r7, r8, r9, r10, r11, r12, r13⟩ := h
  exact ⟨k0, q_fwo (by decide) r0, q_fwo (by decide) r1, q_fwo (by decide) r2, q_fwo (by decide) r3, q_fwo (by decide) r4, q_fwo (by decide) r5, q_fwo (by decide) r6, q_fwo (by decide) r7, q_fwo (by decide) r8, q_fwo (by decide) r9, q_fwo (by decide) r10, q_fws, q_fwo (by decide) r12, q_fwo (by decide) r13⟩
/-- the register: world, journal, snapshot, marks -/
def CRI (M : QM) (g cN cT c : Nat → Nat) (e1 c1 : Nat) (L1 : List Nat) (e2 c2 : Nat) (L2 : List Nat) (C : CWs) (J J2 : List Od) (ms : List Int) (hs lr hc : Int) : Prop := gI M g ∧ q_wf M ∧ gK M g ∧ q_kd M (q_gs M 0) = (9, 0) ∧ RO M g hs ms.length lr hc ∧ MK M g ms ∧ CMm M g cN cT c C ∧ JR M (g 12) e1 c1 L1 J ∧ JR M (g 13) e2 c2 L2 J2 ∧ (e1 ≠ e2 ∨ c1 = 0 ∨ c2 = 0)
def gO (M : QM) (g g' : Nat → Nat) : Prop := (∀ s, s < 19 → g' s = g s) ∧ ∀ s, s < 244 → g' s = g s ∨ q_top M ≤ g' s
theorem gO.rf {M : QM} {g : Nat → Nat} : gO M g g := ⟨fun _ _ => rfl, fun _ _ => Or.inl rfl⟩
theorem gO.wk {M M1 : QM} {g g' : Nat → Nat} (h : gO M1 g g') (ht : q_top M ≤ q_top M1) : gO M g g' := ⟨h.1, fun s hs => (h.2 s hs).imp_right (fun z => Nat.le_trans ht z)⟩
def gE (M : QM) (g g' : Nat → Nat) (e c e' c' : Nat) : Prop := gO M g g' ∧ ((e' = e ∧ c' = c) ∨ q_top M ≤ e')
theorem gE.rf {M : QM} {g : Nat → Nat} {e c : Nat} : gE M g g e c e c := ⟨gO.rf, Or.inl ⟨rfl, rfl⟩⟩
theorem gE.wk {M M1 : QM} {g g' : Nat → Nat} {e c e' c' : Nat} (h : gE M1 g g' e c e' c') (ht : q_top M ≤ q_top M1) : gE M g g' e c e' c' := ⟨h.1.wk ht, h.2.imp_right (fun z => Nat.le_trans ht z)⟩
def tS (s : Nat) : Prop := s = 0 ∨ s = 12 ∨ s = 14 ∨ carS s
def cwh (C : CWs) (q : Od) : Int := cNo (cW C) (cn C) q
def poS (cN cT c : Nat → Nat) : Nat := cs cN 20 + cs cT 20 + cs c 4
theorem cNo_b {W : Nat → Pl} {n : Nat} {q : Od} : 0 ≤ cNo W n q ∧ cNo W n q ≤ 9 := by
  have e := cNoE_b W n q.2.1 q.2.2.2.1
  unfold cNo cNoR cNoF cNoM cNoS cNoG cNoC
  repeat' split
  all_goals omega
section TEL
variable {M : QM} {g cN cT c : Nat → Nat} {e1 c1 e2 c2 : Nat} {L1 L2 : List Nat} {C : CWs} {J J2 : List Od} {ms : List Int} {hs lr hc : Int} {d : Nat}
theorem CRI_lr {v : Int} (h : CRI M g cN cT c e1 c1 L1 e2 c2 L2 C J J2 ms hs lr hc) : CRI (q_wr M (g 0) 11 (qi v)) g cN cT c e1 c1 L1 e2 c2 L2 C J J2 ms hs v hc ∧ q_fr (fun x => ∃ s, s < 244 ∧ s = 0 ∧ x = g s) M (q_wr M (g 0) 11 (qi v)) := by
  obtain ⟨hg, hw, hk, h0, hR, hM, hC, hJ, hJ2, hd⟩ := h
  have f : GF (fun s => s = 0) M (q_wr M (g 0) 11 (qi v)) g g := GF_wr hg hw (by omega) rfl
  exact ⟨⟨f.2.2.2.1, f.2.2.2.2, gK_fr hg hk f.1, h0, RO_lr hR, MK_ss hM (f.ss hg) (by omega), CMm_ss hC (f.ss hg) (fun s hs => by omega), JR_gf hg hw hk f.1 (by omega) (by omega) hJ, JR_gf hg hw hk f.1 (by omega) (by omega) hJ2, hd⟩, f.1⟩
theorem vX12_tellN {o : Nat} {q : Od} (h : CRI M g cN cT c e1 c1 L1 e2 c2 L2 C J J2 ms hs lr hc) (ho : OB M o q) (hr : odR q) (hn : cwh C q ≠ 0) : q_C (d + 7) iX12_tell [qr (g 0), qr o] M (some (qi (-3))) (q_wr M (g 0) 11 (qi (cwh C q))) := by
  obtain ⟨hg, hw, hk, h0, hR, hM, hC, hJ, hJ2, hd⟩ := h
  obtain ⟨k0, r0, r1, r2, r3, r4, r5, r6, r7, r8, r9, r10, r11, r12, r13⟩ := id hR
  have kw := hC.1.1.1
  have hb := cNo_b (W := cW C) (n := cn C) (q := q)
  have rf := fun x : QP => uX6_refusal (d := d + 1) (x := x) hC.1.1 ho hr
  have hn' : ¬ cNo (cW C) (cn C) q = 0 := hn
  refine C_of (fun P => ?_)
  rw [eX12_tell]
  simp (disch := first | assumption | exact bI_lo | exact bI_hi | exact bI_01 | (show (List.map q_wd _).sum ≤ 8; with_unfolding_all exact Nat.le_of_ble_eq_true rfl) | omega) only [kX12_tell_0, kX12_tell_1, kX12_tell_4, kX12_tell_5E, kX12_tell_8, kX12_tell_9, kX12_tell_10, kX12_tell_13, kX12_tell_14, kX12_tell_15, kX12_tell_18, kX12_tell_20, kX12_tell_21, kX12_tell_22, kX12_tell_25E, kX12_tell_28, kX12_tell_31, kX12_tell_34, kX12_tell_36, kX12_tell_37, kX12_tell_38, kX12_tell_39, kX12_tell_42E, kX12_tell_45E, kX12_tell_48, kX12_tell_49, kX12_tell_52, kX12_tell_53E, kX12_tell_56i, kX12_tell_56r, kX12_tell_57, kX12_tell_58, kX12_tell_61, kX12_tell_62E, kX12_tell_65, q_cut_i, q_cut_r, q_cut_l, q_cut_n, q_psh_n, q_psh_s, bI_eq0, ite_not, ↓if_pos, ↓if_neg, ↓ite_bI_t, ↓ite_bI_f, r2, rf]
  rfl
theorem vX12_tellY {o : Nat} {q : Od} (h : CRI M g cN cT c e1 c1 L1 e2 c2 L2 C J J2 ms hs lr hc) (ho : OB M o q) (hr : odR q) (hB : CB C) (hJl : J.length < 512) (hn : cwh C q = 0) (hok : oOk C q) : ∃ M' g' cN' cT' c' e1' c1' L1', q_C (d + 7) iX12_tell [qr (g 0), qr o] M (some (qi (cDo C q).2)) M' ∧ CRI M' g' cN' cT' c' e1' c1' L1' e2 c2 L2 (cDo C q).1 (J ++ [q]) J2 (kpM ms J.length) hs lr hc ∧ q_fr (fun x => (∃ s, s < 244 ∧ tS s ∧ x = g s) ∨ (x = e1 ∧ 0 < c1)) M M' ∧ gE M g g' e1 c1 e1' c1' ∧ q_gr M M' (c1 + poS cN cT c) (c1' + poS cN' cT' c') := by
  obtain ⟨hg, hw, hk, h0, hR, hM, hC, hJ, hJ2, hd⟩ := h
  obtain ⟨M1, s1, R1, K1, f1, q1⟩ := vX12_keepMark (d := d + 5) (v := J.length) hg hw hR hM
  have g1 := f1.2.2.2.1
  have w1 := f1.2.2.2.2
  have k1 := gK_fr hg hk f1.1
  have h01 : q_kd M1 (q_gs M1 0) = (9, 0) := by rw [f1.1.2.1, q1.1, h0]
  have C1 : CMm M1 g cN cT c C := CMm_ss hC (f1.ss hg) (fun s hs => by omega)
  have J1 := JR_gf hg hw hk f1.1 (s := 12) (by omega) (by omega) hJ
  have J21 := JR_gf hg hw hk f1.1 (s := 13) (by omega) (by omega) hJ2
  have o1 := OB_gf hw hk f1.1 ho
  have ll := J1.2.1
  obtain ⟨M2, e', c', s2, A2, f2, w2, r2, d2⟩ := vAL_add (d := d) w1 J1.1 h01 (by omega) o1.1
  have g2 : gI M2 g := ⟨g1.1, fun s hs => Nat.lt_of_lt_of_le (g1.2 s hs) f2.1⟩
  have k2 := gK_fr g1 k1 f2
  have h02 : q_kd M2 (q_gs M2 0) = (9, 0) := by rw [f2.2.1, f2.2.2.1 _ (w1.lt (by rw [h01]; simp)), h01]
  have e1k : q_kd M1 e1 = ALk c1 := J1.1.2.2.2.2.1
  have S2 : SMS (fun t => t = 12) M1 M2 g g := SMS_l (e := 0) g1 k1 f2 (by omega) (fun x hx => by rw [hx.1, e1k]; exact ALk_1 hx.2)
  have C2 : CMm M2 g cN cT c C := CMm_ss C1 S2 (fun s hs => by omega)
  have R2 := RO_ss R1 S2 (by omega) (fun _ _ => rfl)
  have K2 := MK_ss K1 S2 (by omega)
  have ob2 : ∀ b, q_kd M1 b = (1, 3) → Sm M1 M2 b := fun b hb => by
    refine Sm_fr f2 (w1.lt (by rw [hb]; simp)) ?_
    rintro (z | z)
    · rw [z, J1.1.1] at hb; simp at hb
    · rw [z.1, e1k] at hb; exact ALk_n1 hb.symm
  have J2' := JR_push J1 A2 ob2 o1 hr
  have J22 : JR M2 (g 13) e2 c2 L2 J2 := by
    refine JR_fr w1 J21 f2 ?_ (fun hc => ?_) (fun b hb => ?_)
    · rintro (z | z)
      · exact absurd (g1.1 _ _ (by omega) (by omega) z) (by omega)
      · exact (q_neK J21.1.1 e1k ALk_n1) z.1
    · rintro (z | z)
      · exact (q_neK J1.1.1 J21.1.2.2.2.2.1 ALk_n1) z.symm
      · have := z.1; have := z.2; omega
    · rintro (z | z)
      · rw [z, J1.1.1] at hb; simp at hb
      · rw [z.1, e1k] at hb; exact ALk_n1 hb.symm
  have o2 := OB_sm o1 (ob2 o o1.1)
  obtain ⟨M3, g3, cN3, cT3, c3, s3, C3, f3, i3, r3⟩ := vX11_carryOut (d := d + 1) g2 w2 C2 hB o2 hr hok
  have e2l : e2 < q_top M1 := w1.lt (by rw [J21.1.2.2.2.2.1]; exact ALk_n0)
  refine ⟨M3, g3, cN3, cT3, c3, e', c', L1 ++ [o], C_of (fun P => ?_), ⟨f3.2.2.2.1, f3.2.2.2.2, gK_car g2 k2 f3 i3 C3, ?_, RO_ss R2 (f3.ss g2) (by unfold carS; omega) (fun s hs => i3 s (by omega)), MK_ss K2 (f3.ss g2) (by unfold carS; omega), C3, ?_, ?_, ?_⟩, ?_, ⟨⟨i3, fun s hs => (f3.2.2.1 s hs).imp_right (fun z => by have := f2.1; have := f1.1.1; omega)⟩, d2.imp_right (fun z => Nat.le_trans f1.1.1 z)⟩, ?_⟩
  · obtain ⟨k0, r0, r1, rr2, r3, r4, r5, r6, r7, r8, r9, r10, r11, r12, r13⟩ := id hR
    obtain ⟨y0, -, -, y2, -, -, -, y6, -⟩ := id R1
    obtain ⟨z0, -, -, z2, -, -, -, z6, -⟩ := id R2
    have kw := hC.1.1.1
    have kw2 := C2.1.1.1
    have kJ := hJ.1.1
    have kJ1 := J1.1.1
    have hn' : cNo (cW C) (cn C) q = 0 := hn
    have rf := fun x : QP => uX6_refusal (d := d + 1) (x := x) hC.1.1 ho hr
    rw [eX12_tell]
    rw [hn'] at rf
    have lm := hJ.2.1
    simp (disch := first | assumption | exact bI_lo | exact bI_hi | exact bI_01 | (show (List.map q_wd _).sum ≤ 8; with_unfolding_all exact Nat.le_of_ble_eq_true rfl) | omega) only [kX12_tell_0, kX12_tell_1, kX12_tell_4, kX12_tell_5E, kX12_tell_8, kX12_tell_9, kX12_tell_10, kX12_tell_13, kX12_tell_14, kX12_tell_15, kX12_tell_18, kX12_tell_20, kX12_tell_21, kX12_tell_22, kX12_tell_25E, kX12_tell_28, kX12_tell_31, kX12_tell_34, kX12_tell_36, kX12_tell_37, kX12_tell_38, kX12_tell_39, kX12_tell_42E, kX12_tell_45E, kX12_tell_48, kX12_tell_49, kX12_tell_52, kX12_tell_53E, kX12_tell_56i, kX12_tell_56r, kX12_tell_57, kX12_tell_58, kX12_tell_61, kX12_tell_62E, kX12_tell_65, q_cut_i, q_cut_r, q_cut_l, q_cut_n, q_psh_n, q_psh_s, bI_eq0, ite_not, ↓if_pos, ↓if_neg, ↓ite_bI_t, ↓ite_bI_f, rr2, rf, r6, uAL_size hJ.1, lm, T_of s1, y6, T_of s2, z2, T_of s3]
  · rw [f3.1.2.1, f3.1.2.2.1 _ (w2.lt (by rw [h02]; simp)), h02]
  · rw [i3 12 (by omega)]; exact JR_car g2 w2 C2 f3 (by omega) J2'
  · rw [i3 13 (by omega)]; exact JR_car g2 w2 C2 f3 (by omega) J22
  · rcases d2 with z | z
    · rw [z.1, z.2]; exact hd
    · left; omega
  · have t := q1.2.1
    have u1 : q_fr (fun x => (∃ s, s < 244 ∧ tS s ∧ x = g s) ∨ (x = e1 ∧ 0 < c1)) M M1 := f1.1.wk (fun x _ z => by
      obtain ⟨s, hs, hS, e⟩ := z
      exact Or.inl ⟨s, hs, by unfold tS; omega, e⟩)
    have u2 : q_fr (fun x => (∃ s, s < 244 ∧ tS s ∧ x = g s) ∨ (x = e1 ∧ 0 < c1)) M1 M2 := f2.wk (fun x _ z => by
      rcases z with z | z
      · exact Or.inl ⟨12, by omega, by unfold tS; omega, z⟩
      · exact Or.inr z)
    have u3 : q_fr (fun x => (∃ s, s < 244 ∧ tS s ∧ x = g s) ∨ (x = e1 ∧ 0 < c1)) M2 M3 := f3.1.wk (fun x _ z => by
      obtain ⟨s, hs, hS, e⟩ := z
      exact Or.inl ⟨s, hs, Or.inr (Or.inr (Or.inr hS)), e⟩)
    exact (u1.tr u2).tr u3
  · have t1 := q_gr.rf (cap := 0) q1
    obtain ⟨p1, p2, p3⟩ := t1
    obtain ⟨p4, p5, p6⟩ := r2
    obtain ⟨p7, p8, p9⟩ := r3
    unfold poS
    refine ⟨?_, ?_, ?_⟩ <;> omega
end TEL
