
/-! run -/
theorem uX5_size {M : QM} {r b e cap : Nat} {L : List Nat} {J : List Od} {a nu w : Int} {d : Nat} {x : QP} (hR : RD M r b a nu w) (hJ : JR M b e cap L J) : q_T (d + 2) iX5_size [qr r] M x = x (some (qi J.length)) M := by
  obtain ⟨k, f0, f1, f2, f3⟩ := hR
  have kb := hJ.1.1
  rw [eX5_size]
  simp (disch := first | assumption | exact bI_lo | exact bI_hi | exact bI_01 | (show (List.map q_wd _).sum ≤ 8; with_unfolding_all exact Nat.le_of_ble_eq_true rfl) | omega) only [kX5_size_0, kX5_size_1, kX5_size_4E, kX5_size_7, q_cut_i, q_cut_r, q_cut_l, q_cut_n, q_psh_n, q_psh_s, bI_eq0, ite_not, f0, uAL_size hJ.1, hJ.2.1]
theorem uX5_order {M : QM} {r b e cap : Nat} {L : List Nat} {J : List Od} {a nu w : Int} {d : Nat} {x : QP} (hR : RD M r b a nu w) (hJ : JR M b e cap L J) (hl : J.length ≤ 2000) {i v : Nat} (hv : L[i]? = some v) : q_T (d + 4) iX5_order [qr r, qi i] M x = x (some (qr v)) M := by
  obtain ⟨k, f0, f1, f2, f3⟩ := hR
  have kb := hJ.1.1
  have ll := hJ.2.1
  have il : i < L.length := by
    rcases Nat.lt_or_ge i L.length with z | z
    · exact z
    · rw [List.getElem?_eq_none z] at hv; simp at hv
  have kv := (hJ.1.2.2.2.2.2.2.2.1 i v hv).2
  have rg := fun x : QP => uAL_get (d := d) (x := x) hJ.1 hv
  rw [eX5_order]
  simp (disch := first | assumption | exact bI_lo | exact bI_hi | exact bI_01 | (show (List.map q_wd _).sum ≤ 8; with_unfolding_all exact Nat.le_of_ble_eq_true rfl) | omega) only [kX5_order_0, kX5_order_1, kX5_order_4, kX5_order_5, kX5_order_6, kX5_order_9E, kX5_order_12, kX5_order_15, kX5_order_16, kX5_order_19, kX5_order_20E, kX5_order_23n, kX5_order_23r, kX5_order_26, kX5_order_29, kX5_order_30, q_cut_i, q_cut_r, q_cut_l, q_cut_n, q_psh_n, q_psh_s, bI_eq0, ite_not, ↓if_pos, ↓if_neg, ↓ite_bI_t, ↓ite_bI_f, f0, uAL_size hJ.1, rg]
def xS (s : Nat) : Prop := s = 12 ∨ carS s
def eD (e c e' c' : Nat) : Prop := e ≠ e' ∨ c = 0 ∨ c' = 0
section RUN
variable {M : QM} {g cN cT c : Nat → Nat} {e1 c1 e2 c2 : Nat} {L1 L2 : List Nat} {C : CWs} {J J2 : List Od} {ms : List Int} {hs lr hc : Int} {d : Nat}
theorem CRI_e {M' : QM} {S : Nat → Prop} {e3 c3 : Nat} (h : CRI M g cN cT c e1 c1 L1 e2 c2 L2 C J J2 ms hs lr hc) (hS' : ∀ s, S s → (1 ≤ s ∧ s ≤ 11) ∨ s = 15) (hk3 : 0 < c3 → (q_kd M e3).1 = 5) (n1 : eD e3 c3 e1 c1) (n2 : eD e3 c3 e2 c2) (hF : q_fr (fun x => (∃ t, t < 244 ∧ S t ∧ x = g t) ∨ (x = e3 ∧ 0 < c3)) M M') (hw' : q_wf M') : CRI M' g cN cT c e1 c1 L1 e2 c2 L2 C J J2 ms hs lr hc := by
  obtain ⟨hg, hw, hk, h0, hR, hM, hC, hJ, hJ2, hd⟩ := h
  have n : ∀ s, s = 0 ∨ (12 ≤ s ∧ s ≤ 14) ∨ 16 ≤ s → ¬ S s := fun s hs z => by have := hS' s z; omega
  have hS : SMS S M M' g g := fun t ht hn => ⟨Sm_fr hF (hg.2 t ht) (fun z => by
    rcases z with ⟨u, hu, hSu, e⟩ | ⟨z, zc⟩
    · exact hn (hg.1 t u ht hu e ▸ hSu)
    · exact (hk t ht).1 (by rw [z]; exact hk3 zc)), rfl⟩
  have jr : ∀ {s e' cap : Nat} {L : List Nat} {J' : List Od}, s < 244 → ¬ S s → eD e3 c3 e' cap → JR M (g s) e' cap L J' → JR M' (g s) e' cap L J' := fun {s e' cap L J'} hs1 hs2 hed hj => by
    refine JR_fr hw hj hF ?_ (fun hcp => ?_) (fun b hb => ?_)
    · rintro (⟨u, hu, hSu, e⟩ | ⟨z, zc⟩)
      · exact hs2 (hg.1 s u hs1 hu e ▸ hSu)
      · exact (hk s hs1).1 (by rw [z]; exact hk3 zc)
    · have ke := AL_k5 hj.1 hcp
      rintro (⟨u, hu, hSu, e⟩ | ⟨z, zc⟩)
      · exact (hk u hu).1 (by rw [← e, ke])
      · unfold eD at hed; omega
    · rintro (⟨u, hu, hSu, e⟩ | ⟨z, zc⟩)
      · exact (hk u hu).2 (by rw [← e, hb])
      · have := hk3 zc; rw [← z, hb] at this; simp at this
  exact ⟨⟨hg.1, fun s hs => Nat.lt_of_lt_of_le (hg.2 s hs) hF.1⟩, hw', gK_fr hg hk hF, by rw [hF.2.1, hF.2.2.1 _ (hw.lt (by rw [h0]; simp)), h0], RO_ss hR hS (n 0 (by omega)) (fun _ _ => rfl), MK_ss hM hS (n 14 (by omega)), CMm_ss hC hS (fun t ht => n t (by omega)), jr (by omega) (n 12 (by omega)) n1 hJ, jr (by omega) (n 13 (by omega)) n2 hJ2, hd⟩
/-- an order of a text: into the journal, and carried out -/
theorem vOrd {o : Nat} {q : Od} (h : CRI M g cN cT c e1 c1 L1 e2 c2 L2 C J J2 ms hs lr hc) (ho : OB M o q) (hr : odR q) (hB : CB C) (hJl : J.length ≤ 2000) (hok : oOk C q) : ∃ M2 M' g' cN' cT' c' e1' c1' L1', q_C (d + 6) iJx4a65c_add_9ea2d [qr (g 12), qr o] M (some (qi 1)) M2 ∧ q_C (d + 6) iX11_carryOut [qr (g 16), qr o] M2 (some (qi (cDo C q).2)) M' ∧ q_kd M2 (g 0) = (1, 12) ∧ q_fv M2 (g 0) 2 = qr (g 16) ∧ q_kd M2 (g 16) = (1, 11) ∧ CRI M' g' cN' cT' c' e1' c1' L1' e2 c2 L2 (cDo C q).1 (J ++ [q]) J2 ms hs lr hc ∧ q_fr (fun x => (∃ s, s < 244 ∧ xS s ∧ x = g s) ∨ (x = e1 ∧ 0 < c1)) M M' ∧ gE M g g' e1 c1 e1' c1' ∧ q_gr M M' (c1 + poS cN cT c) (c1' + poS cN' cT' c') := by
  obtain ⟨g1, w1, k1, h01, hR, hM, hC, hJ, J21, hd⟩ := h
  have ll := hJ.2.1
  obtain ⟨M2, e', c', s2, A2, f2, w2, r2, d2⟩ := vAL_add (d := d) w1 hJ.1 h01 (by omega) ho.1
  have g2 : gI M2 g := ⟨g1.1, fun s hs => Nat.lt_of_lt_of_le (g1.2 s hs) f2.1⟩
  have k2 := gK_fr g1 k1 f2
  have h02 : q_kd M2 (q_gs M2 0) = (9, 0) := by rw [f2.2.1, f2.2.2.1 _ (w1.lt (by rw [h01]; simp)), h01]
  have e1k : q_kd M e1 = ALk c1 := hJ.1.2.2.2.2.1
  have S2 : SMS (fun t => t = 12) M M2 g g := SMS_l (e := 0) g1 k1 f2 (by omega) (fun x hx => by rw [hx.1, e1k]; exact ALk_1 hx.2)
  have C2 : CMm M2 g cN cT c C := CMm_ss hC S2 (fun s hs => by omega)
  have R2 := RO_ss hR S2 (by omega) (fun _ _ => rfl)
  have K2 := MK_ss hM S2 (by omega)
  have ob2 : ∀ b, q_kd M b = (1, 3) → Sm M M2 b := fun b hb => by
    refine Sm_fr f2 (w1.lt (by rw [hb]; simp)) ?_
    rintro (z | z)
    · rw [z, hJ.1.1] at hb; simp at hb
    · rw [z.1, e1k] at hb; exact ALk_n1 hb.symm
  have J2' := JR_push hJ A2 ob2 ho hr
  have J22 : JR M2 (g 13) e2 c2 L2 J2 := by
    refine JR_fr w1 J21 f2 ?_ (fun hc => ?_) (fun b hb => ?_)
    · rintro (z | z)
      · exact absurd (g1.1 _ _ (by omega) (by omega) z) (by omega)
      · exact (q_neK J21.1.1 e1k ALk_n1) z.1
    · rintro (z | z)
      · exact (q_neK hJ.1.1 J21.1.2.2.2.2.1 ALk_n1) z.symm
      · have := z.1; have := z.2; omega
    · rintro (z | z)
      · rw [z, hJ.1.1] at hb; simp at hb
      · rw [z.1, e1k] at hb; exact ALk_n1 hb.symm
  have o2 := OB_sm ho (ob2 o ho.1)
  obtain ⟨M3, g3, cN3, cT3, c3, s3, C3, f3, i3, r3⟩ := vX11_carryOut (d := d + 1) g2 w2 C2 hB o2 hr hok
  have e2l : e2 < q_top M := w1.lt (by rw [J21.1.2.2.2.2.1]; exact ALk_n0)
  refine ⟨M2, M3, g3, cN3, cT3, c3, e', c', L1 ++ [o], s2, s3, R2.1, R2.2.2.2.1, C2.1.1.1, ⟨f3.2.2.2.1, f3.2.2.2.2, gK_car g2 k2 f3 i3 C3, ?_, RO_ss R2 (f3.ss g2) (by unfold carS; omega) (fun s hs => i3 s (by omega)), MK_ss K2 (f3.ss g2) (by unfold carS; omega), C3, ?_, ?_, ?_⟩, ?_, ⟨⟨i3, fun s hs => (f3.2.2.1 s hs).imp_right (fun z => Nat.le_trans f2.1 z)⟩, d2⟩, ?_⟩
  · rw [f3.1.2.1, f3.1.2.2.1 _ (w2.lt (by rw [h02]; simp)), h02]
  · rw [i3 12 (by omega)]; exact JR_car g2 w2 C2 f3 (by omega) J2'
  · rw [i3 13 (by omega)]; exact JR_car g2 w2 C2 f3 (by omega) J22
  · rcases d2 with z | z
    · rw [z.1, z.2]; exact hd
    · left; omega
  · have u2 : q_fr (fun x => (∃ s, s < 244 ∧ xS s ∧ x = g s) ∨ (x = e1 ∧ 0 < c1)) M M2 := f2.wk (fun x _ z => by
      rcases z with z | z
      · exact Or.inl ⟨12, by omega, Or.inl rfl, z⟩
      · exact Or.inr z)
    have u3 : q_fr (fun x => (∃ s, s < 244 ∧ xS s ∧ x = g s) ∨ (x = e1 ∧ 0 < c1)) M2 M3 := f3.1.wk (fun x _ z => by
      obtain ⟨s, hs, hS, e⟩ := z
      exact Or.inl ⟨s, hs, Or.inr hS, e⟩)
    exact u2.tr u3
  · obtain ⟨p4, p5, p6⟩ := r2
    obtain ⟨p7, p8, p9⟩ := r3
    unfold poS
    refine ⟨?_, ?_, ?_⟩ <;> omega
def rnS (s : Nat) : Prop := s = 0 ∨ s = 1 ∨ s = 3 ∨ s = 4 ∨ s = 12 ∨ s = 14 ∨ carS s
def rnFr (g : Nat → Nat) (e1 c1 e3 c3 x : Nat) : Prop := (∃ s, s < 244 ∧ rnS s ∧ x = g s) ∨ (x = e1 ∧ 0 < c1) ∨ (x = e3 ∧ 0 < c3)
/-- the reader as it stands between calls -/
def RDI (M : QM) (g : Nat → Nat) (e1 c1 e2 c2 e3 c3 : Nat) : Prop := (∃ a nu w, RD M (g 3) (g 4) a nu w) ∧ (∃ L3 os, JR M (g 4) e3 c3 L3 os) ∧ eD e3 c3 e1 c1 ∧ eD e3 c3 e2 c2
/-- what is read -/
theorem run_head {h : Int → Int} {l : List Int} {e3 c3 : Nat} (hI : CRI M g cN cT c e1 c1 L1 e2 c2 L2 C J J2 ms hs lr hc) (hT : TP M (g 1) (g 2) l) (hD : RDI M g e1 c1 e2 c2 e3 c3) (hh : ∀ i : Int, 0 ≤ i → tpH l i = h i) (hb : ∀ i, -1000 ≤ h i ∧ h i < 1000) (hn : ∀ i, (l.length : Int) ≤ i → h i = -1) : ∃ M2 e3' c3' L3' os' res, (∀ P, q_T (d + 9) iX12_run [qr (g 0)] M P = Rr (q_C (d + 8)) mX12_run (20, [some (qr (g 0)), some (qi res), none, none, none, none, none], [qi res], M2) P) ∧ CRI M2 g cN cT c e1 c1 L1 e2 c2 L2 C J J2 ms hs lr hc ∧ TP M2 (g 1) (g 2) [] ∧ (∃ a nu w, RD M2 (g 3) (g 4) a nu w) ∧ JR M2 (g 4) e3' c3' L3' os' ∧ os'.length ≤ 81 ∧ rdP h (pAll h l.length 81 0) res [] os' ∧ eD e3' c3' e1 c1 ∧ eD e3' c3' e2 c2 ∧ q_fr (rnFr g e1 c1 e3 c3) M M2 ∧ ((e3' = e3 ∧ c3' = c3) ∨ q_top M ≤ e3') ∧ q_gu M M2 c3 c3' 81 405 := by
  obtain ⟨⟨a, nu, w, hR3⟩, ⟨L3, os, hJ3⟩, d1, d2⟩ := hD
  obtain ⟨hg, hw, hk, h0, hR, hM, hC, hJ, hJ2, hd⟩ := id hI
  obtain ⟨k0, r0, r1, r2, r3, r4, r5, r6, r7, r8, r9, r10, r11, r12, r13⟩ := id hR
  obtain ⟨B, e3', c3', L3', os', res, a', t1, O, rp, ol⟩ := vX5_read (d := d) hh hb hn (⟨hR3, hT, hJ3, hw, h0⟩ : RDB M (g 3) (g 4) (g 1) (g 2) l e3 c3 L3 os a nu w)
  obtain ⟨⟨nu', w', BB⟩, fB, gB, dB⟩ := O
  obtain ⟨RB', TB, JB, wB, h0B⟩ := BB
  have IB : CRI B g cN cT c e1 c1 L1 e2 c2 L2 C J J2 ms hs lr hc := CRI_e (S := fun s => s = 3 ∨ s = 4) hI (fun s z => by omega) (fun z => by rw [AL_k5 hJ3.1 z]) d1 d2 (fB.wk (fun x _ z => by
    rcases z with z | z | z
    · exact Or.inl ⟨3, by omega, Or.inl rfl, z⟩
    · exact Or.inl ⟨4, by omega, Or.inr rfl, z⟩
    · exact Or.inr z)) wB
  obtain ⟨-, -, -, -, hRB, -⟩ := id IB
  obtain ⟨k0', y0, y1, y2, y3, y4, y5, y6, y7, y8, y9, y10, y11, y12, y13⟩ := id hRB
  have cl := fun {P : QP} hP => sX8_clear (d := d + 7) TB (P := P) hP
  obtain ⟨M2, hM2⟩ : ∃ M2, q_wr B (g 1) 1 (qi 0) = M2 := ⟨_, rfl⟩
  rw [hM2] at cl
  have T2 : TP M2 (g 1) (g 2) [] ∧ q_C (d + 8) iX8_clear [qr (g 1)] B none M2 := by
    have : q_C (d + 8) iX8_clear [qr (g 1)] B none M2 ∧ TP M2 (g 1) (g 2) [] := by
      obtain ⟨v', M', hc', h1', h2', h3'⟩ := cl (P := fun v M' => v = none ∧ M' = M2 ∧ TP M2 (g 1) (g 2) []) (fun z => ⟨rfl, rfl, z⟩)
      rw [h1', h2'] at hc'
      exact ⟨hc', h3'⟩
    exact ⟨this.2, this.1⟩
  have f2 : q_fr (fun x => x = g 1) B M2 := by rw [← hM2]; exact q_fr.wr rfl
  have q2 : q_qt B M2 := by rw [← hM2]; exact q_qt.wr
  have I2 := CRI_q (s := 1) IB (Or.inl ⟨by omega, by omega⟩) f2 (wB.qt q2)
  have n13 := g_ne hg (s := 1) (t := 3) (by omega) (by omega) (by omega)
  have n14 := g_ne hg (s := 1) (t := 4) (by omega) (by omega) (by omega)
  have R2 := RD.fr wB RB' f2 (fun z => n13 z.symm)
  have J2' : JR M2 (g 4) e3' c3' L3' os' := JR_fr wB JB f2 (fun z => n14 z.symm) (fun hcp z => by
    have k5 := AL_k5 JB.1 hcp
    rw [z, TB.1] at k5; simp at k5) (fun b hb z => by rw [z, TB.1] at hb; simp at hb)
  have e1l : e1 < q_top M := hw.lt (by rw [hJ.1.2.2.2.2.1]; exact ALk_n0)
  have e2l : e2 < q_top M := hw.lt (by rw [hJ2.1.2.2.2.2.1]; exact ALk_n0)
  have kr3 := hR3.1
  have ktB := TB.1
  refine ⟨M2, e3', c3', L3', os', res, fun P => ?_, I2, T2.1, ⟨a', nu', w', R2⟩, J2', ol, rp, ?_, ?_, ?_, dB, ?_⟩
  · rw [eX12_run]
    simp (disch := first | assumption | exact bI_lo | exact bI_hi | exact bI_01 | (show (List.map q_wd _).sum ≤ 8; with_unfolding_all exact Nat.le_of_ble_eq_true rfl) | omega) only [kX12_run_0, kX12_run_1, kX12_run_4, kX12_run_5, kX12_run_8E, kX12_run_11, kX12_run_12, kX12_run_13, kX12_run_16E, kX12_run_19, q_cut_i, q_cut_r, q_cut_l, q_cut_n, q_psh_n, q_psh_s, bI_eq0, ite_not, r0, r1, T_of t1, y0, T_of T2.2]
  · unfold eD at d1 ⊢
    rcases dB with z | z
    · rw [z.1, z.2]; exact d1
    · left; omega
  · unfold eD at d2 ⊢
    rcases dB with z | z
    · rw [z.1, z.2]; exact d2
    · left; omega
  · refine (fB.wk (fun x _ z => ?_)).tr (f2.wk (fun x _ z => Or.inl ⟨1, by omega, Or.inr (Or.inl rfl), z⟩))
    rcases z with z | z | z
    · exact Or.inl ⟨3, by omega, by unfold rnS; omega, z⟩
    · exact Or.inl ⟨4, by omega, by unfold rnS; omega, z⟩
    · exact Or.inr (Or.inr z)
  · obtain ⟨u1, u2, u3⟩ := gB
    obtain ⟨-, -, v1, v2⟩ := q2
    refine ⟨u1, ?_, ?_⟩ <;> omega
end RUN
