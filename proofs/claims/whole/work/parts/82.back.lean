
/-! back, image, undo -/
section BAK
variable {M : QM} {g cN cT c : Nat → Nat} {e1 c1 e2 c2 : Nat} {L1 L2 : List Nat} {C : CWs} {J J2 : List Od} {ms : List Int} {hs lr hc : Int} {d : Nat} {x : QP}
theorem RO_ch {ch v : Int} (h : RO M g hs ch lr hc) : RO (q_wr M (g 0) 10 (qi v)) g hs v lr hc := by
  obtain ⟨k0, r0, r1, r2, r3, r4, r5, r6, r7, r8, r9, r10, r11, r12, r13⟩ := h
  exact ⟨k0, q_fwo (by decide) r0, q_fwo (by decide) r1, q_fwo (by decide) r2, q_fwo (by decide) r3, q_fwo (by decide) r4, q_fwo (by decide) r5, q_fwo (by decide) r6, q_fwo (by decide) r7, q_fwo (by decide) r8, q_fwo (by decide) r9, q_fws, q_fwo (by decide) r11, q_fwo (by decide) r12, q_fwo (by decide) r13⟩
theorem RO_hs {ch v : Int} (h : RO M g hs ch lr hc) : RO (q_wr M (g 0) 8 (qi v)) g v ch lr hc := by
  obtain ⟨k0, r0, r1, r2, r3, r4, r5, r6, r7, r8, r9, r10, r11, r12, r13⟩ := h
  exact ⟨k0, q_fwo (by decide) r0, q_fwo (by decide) r1, q_fwo (by decide) r2, q_fwo (by decide) r3, q_fwo (by decide) r4, q_fwo (by decide) r5, q_fwo (by decide) r6, q_fwo (by decide) r7, q_fws, q_fwo (by decide) r9, q_fwo (by decide) r10, q_fwo (by decide) r11, q_fwo (by decide) r12, q_fwo (by decide) r13⟩
theorem MK_take {k : Nat} (h : MK M g ms) : MK M g (ms.take k) := by
  obtain ⟨m0, m1, m2, m3⟩ := h
  refine ⟨m0, by rw [List.length_take]; omega, fun i v hv => ?_, m3⟩
  rw [List.getElem?_take] at hv
  split at hv
  · exact m2 i v hv
  · simp at hv
theorem CRI_ch {k : Nat} (h : CRI M g cN cT c e1 c1 L1 e2 c2 L2 C J J2 ms hs lr hc) (hk' : k ≤ ms.length) : CRI (q_wr M (g 0) 10 (qi k)) g cN cT c e1 c1 L1 e2 c2 L2 C J J2 (ms.take k) hs lr hc ∧ q_fr (tFr g e1 c1) M (q_wr M (g 0) 10 (qi k)) := by
  obtain ⟨hg, hw, hk, h0, hR, hM, hC, hJ, hJ2, hd⟩ := h
  have f : GF (fun s => s = 0) M (q_wr M (g 0) 10 (qi k)) g g := GF_wr hg hw (by omega) rfl
  refine ⟨⟨f.2.2.2.1, f.2.2.2.2, gK_fr hg hk f.1, h0, ?_, MK_take (MK_ss hM (f.ss hg) (by omega)), CMm_ss hC (f.ss hg) (fun s hs => by omega), JR_gf hg hw hk f.1 (by omega) (by omega) hJ, JR_gf hg hw hk f.1 (by omega) (by omega) hJ2, hd⟩, f.1.wk (fun x _ z => ?_)⟩
  · rw [List.length_take, Nat.min_eq_left hk']
    exact RO_ch hR
  · obtain ⟨s, hs, hS, e⟩ := z
    exact Or.inl ⟨s, hs, Or.inl hS, e⟩
theorem CRI_hs {v : Int} (h : CRI M g cN cT c e1 c1 L1 e2 c2 L2 C J J2 ms hs lr hc) : CRI (q_wr M (g 0) 8 (qi v)) g cN cT c e1 c1 L1 e2 c2 L2 C J J2 ms v lr hc ∧ q_fr (fun x => x = g 0) M (q_wr M (g 0) 8 (qi v)) := by
  obtain ⟨hg, hw, hk, h0, hR, hM, hC, hJ, hJ2, hd⟩ := h
  have f : GF (fun s => s = 0) M (q_wr M (g 0) 8 (qi v)) g g := GF_wr hg hw (by omega) rfl
  exact ⟨⟨f.2.2.2.1, f.2.2.2.2, gK_fr hg hk f.1, h0, RO_hs hR, MK_ss hM (f.ss hg) (by omega), CMm_ss hC (f.ss hg) (fun s hs => by omega), JR_gf hg hw hk f.1 (by omega) (by omega) hJ, JR_gf hg hw hk f.1 (by omega) (by omega) hJ2, hd⟩, q_fr.wr rfl⟩
/-- the journal's list was changed -/
theorem CRI_j {M2 : QM} {e' c' : Nat} {L' : List Nat} {J' : List Od} (h : CRI M g cN cT c e1 c1 L1 e2 c2 L2 C J J2 ms hs lr hc) (hf : q_fr (fun x => x = g 12 ∨ (x = e1 ∧ 0 < c1)) M M2) (hw2 : q_wf M2) (hJ' : JR M2 (g 12) e' c' L' J') (hd' : e' ≠ e2 ∨ c' = 0 ∨ c2 = 0) : CRI M2 g cN cT c e' c' L' e2 c2 L2 C J' J2 ms hs lr hc := by
  obtain ⟨hg, hw, hk, h0, hR, hM, hC, hJ, hJ2, hd⟩ := h
  have e1k : q_kd M e1 = ALk c1 := hJ.1.2.2.2.2.1
  have S2 : SMS (fun t => t = 12) M M2 g g := SMS_l (e := 0) hg hk hf (by omega) (fun x hx => by rw [hx.1, e1k]; exact ALk_1 hx.2)
  refine ⟨⟨hg.1, fun s hs => Nat.lt_of_lt_of_le (hg.2 s hs) hf.1⟩, hw2, gK_fr hg hk hf, by rw [hf.2.1, hf.2.2.1 _ (hw.lt (by rw [h0]; simp)), h0], RO_ss hR S2 (by omega) (fun _ _ => rfl), MK_ss hM S2 (by omega), CMm_ss hC S2 (fun s hs => by omega), hJ', ?_, hd'⟩
  refine JR_fr hw hJ2 hf ?_ (fun hc => ?_) (fun b hb => ?_)
  · rintro (z | z)
    · exact absurd (hg.1 _ _ (by omega) (by omega) z) (by omega)
    · exact (q_neK hJ2.1.1 e1k ALk_n1) z.1
  · rintro (z | z)
    · exact (q_neK hJ.1.1 hJ2.1.2.2.2.2.1 ALk_n1) z.symm
    · have := z.1; have := z.2; omega
  · rintro (z | z)
    · rw [z, hJ.1.1] at hb; simp at hb
    · rw [z.1, e1k] at hb; exact ALk_n1 hb.symm
/-- the snapshot's list was changed -/
theorem CRI_s {M2 : QM} {e' c' : Nat} {L' : List Nat} {J' : List Od} (h : CRI M g cN cT c e1 c1 L1 e2 c2 L2 C J J2 ms hs lr hc) (hf : q_fr (fun x => x = g 13 ∨ (x = e2 ∧ 0 < c2)) M M2) (hw2 : q_wf M2) (hJ0 : JR M2 (g 12) e1 c1 L1 J) (hJ' : JR M2 (g 13) e' c' L' J') (hd' : e1 ≠ e' ∨ c1 = 0 ∨ c' = 0) : CRI M2 g cN cT c e1 c1 L1 e' c' L' C J J' ms hs lr hc := by
  obtain ⟨hg, hw, hk, h0, hR, hM, hC, hJ, hJ2, hd⟩ := h
  have e2k : q_kd M e2 = ALk c2 := hJ2.1.2.2.2.2.1
  have S2 : SMS (fun t => t = 13) M M2 g g := SMS_l (e := 0) hg hk hf (by omega) (fun x hx => by rw [hx.1, e2k]; exact ALk_1 hx.2)
  exact ⟨⟨hg.1, fun s hs => Nat.lt_of_lt_of_le (hg.2 s hs) hf.1⟩, hw2, gK_fr hg hk hf, by rw [hf.2.1, hf.2.2.1 _ (hw.lt (by rw [h0]; simp)), h0], RO_ss hR S2 (by omega) (fun _ _ => rfl), MK_ss hM S2 (by omega), CMm_ss hC S2 (fun s hs => by omega), hJ0, hJ', hd'⟩
/-- the world was changed -/
theorem CRI_c {M2 : QM} {g' cN' cT' c' : Nat → Nat} {C' : CWs} (h : CRI M g cN cT c e1 c1 L1 e2 c2 L2 C J J2 ms hs lr hc) (hF : GF carS M M2 g g') (hi : ∀ s, s < 19 → g' s = g s) (hC' : CMm M2 g' cN' cT' c' C') : CRI M2 g' cN' cT' c' e1 c1 L1 e2 c2 L2 C' J J2 ms hs lr hc := by
  obtain ⟨hg, hw, hk, h0, hR, hM, hC, hJ, hJ2, hd⟩ := h
  refine ⟨hF.2.2.2.1, hF.2.2.2.2, gK_car hg hk hF hi hC', by rw [hF.1.2.1, hF.1.2.2.1 _ (hw.lt (by rw [h0]; simp)), h0], RO_ss hR (hF.ss hg) (by unfold carS; omega) (fun s hs => hi s (by omega)), MK_ss hM (hF.ss hg) (by unfold carS; omega), hC', ?_, ?_, hd⟩
  · rw [hi 12 (by omega)]; exact JR_car hg hw hC hF (by omega) hJ
  · rw [hi 13 (by omega)]; exact JR_car hg hw hC hF (by omega) hJ2
theorem fr_car {M2 : QM} {g' : Nat → Nat} (hF : GF carS M M2 g g') : q_fr (tFr g e1 c1) M M2 := hF.1.wk (fun x _ z => by
  obtain ⟨s, hs, hS, e⟩ := z
  exact Or.inl ⟨s, hs, Or.inr (Or.inr (Or.inr hS)), e⟩)
theorem fr_jr {M2 : QM} (hf : q_fr (fun x => x = g 12 ∨ (x = e1 ∧ 0 < c1)) M M2) : q_fr (tFr g e1 c1) M M2 := hf.wk (fun x _ z => by
  rcases z with z | z
  · exact Or.inl ⟨12, by omega, Or.inr (Or.inl rfl), z⟩
  · exact Or.inr z)
def jOk (C : CWs) (J : List Od) : Prop := ∀ (i : Nat) (q : Od), J[i]? = some q → oOk (cRun (clrC C) (J.take i)) q ∧ CB (cRun (clrC C) (J.take i))
theorem uX12_backN (h : CRI M g cN cT c e1 c1 L1 e2 c2 L2 C J J2 ms hs lr hc) (hn : ms.length = 0) : q_T (d + 1) iX12_back [qr (g 0)] M x = x (some (qi (-3))) M := by
  obtain ⟨hg, hw, hk, h0, hR, hM, hC, hJ, hJ2, hd⟩ := h
  obtain ⟨k0, r0, r1, r2, r3, r4, r5, r6, r7, r8, r9, r10, r11, r12, r13⟩ := id hR
  rw [eX12_back]
  simp (disch := first | assumption | exact bI_lo | exact bI_hi | exact bI_01 | (show (List.map q_wd _).sum ≤ 8; with_unfolding_all exact Nat.le_of_ble_eq_true rfl) | omega) only [kX12_back_0, kX12_back_1, kX12_back_4, kX12_back_5, kX12_back_8, kX12_back_9, kX12_back_12, kX12_back_13, kX12_back_16, kX12_back_17, kX12_back_20, kX12_back_22, kX12_back_23, kX12_back_24i, kX12_back_24r, kX12_back_25, kX12_back_28, kX12_back_29, kX12_back_30, kX12_back_33, kX12_back_34, kX12_back_35, kX12_back_38, kX12_back_39, kX12_back_42, kX12_back_43E, kX12_back_46, kX12_back_47E, kX12_back_50, kX12_back_51, kX12_back_54, q_cut_i, q_cut_r, q_cut_l, q_cut_n, q_psh_n, q_psh_s, bI_eq0, ite_not, ↓if_pos, ↓if_neg, ↓ite_bI_t, ↓ite_bI_f, r10]
theorem vX12_backY {m k : Nat} (h : CRI M g cN cT c e1 c1 L1 e2 c2 L2 C J J2 ms hs lr hc) (hn : ms.length = k + 1) (hm : ms[k]? = some (m : Int)) (hmJ : m ≤ J.length) (hl : J.length ≤ 2000) (hok : jOk C (J.take m)) : ∃ M' g' cN' cT' c', q_C (d + 7) iX12_back [qr (g 0)] M (some (qi k)) M' ∧ CRI M' g' cN' cT' c' e1 c1 (L1.take m) e2 c2 L2 (cRun (clrC C) (J.take m)) (J.take m) J2 (ms.take k) hs lr hc ∧ q_fr (tFr g e1 c1) M M' ∧ gO M g g' ∧ q_gr M M' (c1 + poS cN cT c) (c1 + poS cN' cT' c') := by
  have hk6 : ms.length ≤ 6 := h.2.2.2.2.2.1.2.1
  obtain ⟨h1, f1⟩ := CRI_ch (k := k) h (by omega)
  obtain ⟨M1, hM1⟩ : ∃ M1, q_wr M (g 0) 10 (qi k) = M1 := ⟨_, rfl⟩
  have q1 : q_qt M M1 := by rw [← hM1]; exact q_qt.wr
  rw [hM1] at h1 f1
  obtain ⟨hg1, hw1, hk1, h01, hR1, hMK1, hC1, hJ1, hJ21, hd1⟩ := id h1
  obtain ⟨M2, t2, J2', f2, q2⟩ := vX12_cutJournal (d := d + 2) (n := m) hw1 hR1.1 hR1.2.2.2.2.2.2.2.1 hJ1 hmJ hl
  have h2 := CRI_j h1 f2 (hw1.qt q2) J2' hd1
  obtain ⟨hg2, hw2, hk2, h02, hR2, hMK2, hC2, hJ2', hJ22, hd2⟩ := id h2
  obtain ⟨M3, g3, cN3, cT3, c3, t3, C3, f3, i3, r3⟩ := vX12_tellAgain (d := d) hg2 hw2 ⟨hR2.1, hR2.2.2.2.1, hR2.2.2.2.2.2.2.2.1⟩ hC2 hJ2' (by rw [List.length_take]; omega) hok
  have h3 := CRI_c h2 f3 i3 C3
  refine ⟨M3, g3, cN3, cT3, c3, C_of (fun P => ?_), h3, (f1.tr (fr_jr f2)).tr (fr_car f3), ⟨i3, fun s hs => (f3.2.2.1 s hs).imp_right (fun z => Nat.le_trans (f1.tr (fr_jr f2)).1 z)⟩, ?_⟩
  · obtain ⟨hg, hw, hk, h0, hR, hM, hC, hJ, hJ2, hd⟩ := h
    obtain ⟨k0, r0, r1, r2, r3, r4, r5, r6, r7, r8, r9, r10, r11, r12, r13⟩ := id hR
    obtain ⟨m0, m1, m2, m3⟩ := id hM
    have b2 : 2 ≤ (q_kd M (g 14)).1 := by rw [m0]; exact Nat.le_refl 2
    have b9 : (q_kd M (g 14)).1 ≤ 9 := by rw [m0]; exact Nat.le_of_ble_eq_true rfl
    have e5 : ((q_kd M (g 14)).2 : Int) = 6 := by rw [m0]; rfl
    have kM1 : q_kd M1 (g 14) = (2, 6) := by rw [q1.1, m0]
    have b5 : (q_kd M1 (g 14)).1 = 2 := by rw [kM1]
    have e51 : ((q_kd M1 (g 14)).2 : Int) = 6 := by rw [kM1]; rfl
    have vm : q_fv M1 (g 14) k = qi m := by
      rw [← hM1, q_fv_wrE, if_neg (fun z => g_ne hg (s := 14) (t := 0) (by omega) (by omega) (by omega) z.1)]
      exact m2 k m hm
    obtain ⟨y0, -, -, -, -, -, -, -, -, -, y9, y10, -⟩ := id hR1
    obtain ⟨z0, -⟩ := id hR2
    have h3R := h3.2.2.2.2.1
    have i0 := i3 0 (by omega)
    have w10 : q_fv M3 (g 0) 10 = qi k := by
      have := h3R.2.2.2.2.2.2.2.2.2.2.2.1
      rw [i0, List.length_take, Nat.min_eq_left (by omega)] at this
      exact this
    have w0 : q_kd M3 (g 0) = (1, 12) := by have := h3R.1; rw [i0] at this; exact this
    rw [List.length_take, Nat.min_eq_left (by omega)] at y10
    have ek : (ms.length : Int) - 1 = k := by omega
    rw [eX12_back]
    simp (disch := first | assumption | exact bI_lo | exact bI_hi | exact bI_01 | (show (List.map q_wd _).sum ≤ 8; with_unfolding_all exact Nat.le_of_ble_eq_true rfl) | omega) only [kX12_back_0, kX12_back_1, kX12_back_4, kX12_back_5, kX12_back_8, kX12_back_9, kX12_back_12, kX12_back_13, kX12_back_16, kX12_back_17, kX12_back_20, kX12_back_22, kX12_back_23, kX12_back_24i, kX12_back_24r, kX12_back_25, kX12_back_28, kX12_back_29, kX12_back_30, kX12_back_33, kX12_back_34, kX12_back_35, kX12_back_38, kX12_back_39, kX12_back_42, kX12_back_43E, kX12_back_46, kX12_back_47E, kX12_back_50, kX12_back_51, kX12_back_54, q_cut_i, q_cut_r, q_cut_l, q_cut_n, q_psh_n, q_psh_s, bI_eq0, ite_not, ↓if_pos, ↓if_neg, ↓ite_bI_t, ↓ite_bI_f, r10, r9, e5, ek, hM1, y9, y10, q_toN, vm, T_of t2, T_of t3, w10]
  · have a1 := q_gr.rf (cap := 0) q1
    have a2 := q_gr.rf (cap := 0) q2
    obtain ⟨p1, p2, p3⟩ := a1
    obtain ⟨p4, p5, p6⟩ := a2
    obtain ⟨p7, p8, p9⟩ := r3
    unfold poS
    refine ⟨?_, ?_, ?_⟩ <;> omega
end BAK
