
/-! again -/
theorem RO_s2 {M M' : QM} {g g' : Nat → Nat} {hs ch lr hc : Int} (h : RO M g hs ch lr hc) (h0 : Sm M M' (g 0)) (he : ∀ s, s ≤ 16 → s ≠ 8 → s ≠ 9 → g' s = g s) : RO M' g' hs ch lr hc := by
  unfold RO at h ⊢
  rw [he 0 (by omega) (by omega) (by omega), he 1 (by omega) (by omega) (by omega), he 3 (by omega) (by omega) (by omega), he 16 (by omega) (by omega) (by omega), he 5 (by omega) (by omega) (by omega), he 7 (by omega) (by omega) (by omega), he 10 (by omega) (by omega) (by omega), he 12 (by omega) (by omega) (by omega), he 13 (by omega) (by omega) (by omega), he 14 (by omega) (by omega) (by omega), he 15 (by omega) (by omega) (by omega), h0.1]
  simp only [h0.2]
  exact h
section AGA
variable {M : QM} {g cN cT c : Nat → Nat} {e1 c1 e2 c2 : Nat} {L1 L2 : List Nat} {C : CWs} {J J2 : List Od} {ms : List Int} {hs lr hc : Int} {d : Nat} {x : QP}
def cAgN (C : CWs) (p y : Int) : Int := if ¬ (0 ≤ p ∧ p < cn C) then -1 else if ¬ (0 ≤ y ∧ y < 10000) then -2 else if 24 < (plH (cW C p.toNat)).length then -3 else 0
theorem uX12_againN {p y : Int} (h : CRI M g cN cT c e1 c1 L1 e2 c2 L2 C J J2 ms hs lr hc) (hp : q_i32 p) (hy : q_i32 y) (hB : CB C) (hn : cAgN C p y ≠ 0) : q_T (d + 2) iX12_again [qr (g 0), qi p, qi y] M x = x (some (qi (cAgN C p y))) M := by
  obtain ⟨hg, hw', hk, h0, hR, hM, hC, hJ, hJ2, hd⟩ := h
  obtain ⟨k0, r0, r1, r2, r3, r4, r5, r6, r7, r8, r9, r10, r11, r12, r13⟩ := id hR
  obtain ⟨p1, p2⟩ := hp
  obtain ⟨y1, y2⟩ := hy
  have kw := hC.1.1.1
  have n20 := hC.1.1.2.2.2.1
  rw [eX12_again]
  unfold cAgN at hn ⊢
  by_cases g1 : 0 ≤ p ∧ p < cn C
  · rw [if_neg (fun z => z g1)] at hn ⊢
    have hp := (hC.1.1.2.2.2.2.2 p.toNat (by omega)).2
    have hpy := fun z : QP => uX11_placeY (d := d) (x := z) hC.1.1 g1.1 g1.2
    have bl := (hB.1 p.toNat (by omega)).2.2.1
    by_cases g2 : 0 ≤ y ∧ y < 10000
    · rw [if_neg (fun z => z g2)] at hn ⊢
      by_cases g3 : 24 < (plH (cW C p.toNat)).length
      · rw [if_pos g3]
        simp (disch := first | assumption | exact PLr_0 hp | exact PLr_k1 hp | exact PLr_k4 hp | exact PLr_k7 hp | exact bI_lo | exact bI_hi | exact bI_01 | (show (List.map q_wd _).sum ≤ 8; with_unfolding_all exact Nat.le_of_ble_eq_true rfl) | omega) only [kX12_again_0, kX12_again_1, kX12_again_4, kX12_again_5E, kX12_again_8, kX12_again_9, kX12_again_10r, kX12_again_10n, kX12_again_13, kX12_again_14, kX12_again_15, kX12_again_16E, kX12_again_19, kX12_again_22, kX12_again_24, kX12_again_25, kX12_again_26, kX12_again_29E, kX12_again_32, kX12_again_34, kX12_again_37, kX12_again_39, kX12_again_40, kX12_again_41, kX12_again_44, kX12_again_45, kX12_again_46, kX12_again_49E, kX12_again_52, q_cut_i, q_cut_r, q_cut_l, q_cut_n, q_psh_n, q_psh_s, bI_eq0, ite_not, ↓if_pos, ↓if_neg, ↓ite_bI_t, ↓ite_bI_f, r2, hpy, uX12_isDay, PLr_f8 hp, uX1_told hp]
      · rw [if_neg g3] at hn
        exact absurd rfl hn
    · rw [if_pos g2]
      simp (disch := first | assumption | exact PLr_0 hp | exact PLr_k1 hp | exact PLr_k4 hp | exact PLr_k7 hp | exact bI_lo | exact bI_hi | exact bI_01 | (show (List.map q_wd _).sum ≤ 8; with_unfolding_all exact Nat.le_of_ble_eq_true rfl) | omega) only [kX12_again_0, kX12_again_1, kX12_again_4, kX12_again_5E, kX12_again_8, kX12_again_9, kX12_again_10r, kX12_again_10n, kX12_again_13, kX12_again_14, kX12_again_15, kX12_again_16E, kX12_again_19, kX12_again_22, kX12_again_24, kX12_again_25, kX12_again_26, kX12_again_29E, kX12_again_32, kX12_again_34, kX12_again_37, kX12_again_39, kX12_again_40, kX12_again_41, kX12_again_44, kX12_again_45, kX12_again_46, kX12_again_49E, kX12_again_52, q_cut_i, q_cut_r, q_cut_l, q_cut_n, q_psh_n, q_psh_s, bI_eq0, ite_not, ↓if_pos, ↓if_neg, ↓ite_bI_t, ↓ite_bI_f, r2, hpy, uX12_isDay]
  · rw [if_pos g1]
    simp (disch := first | assumption | exact bI_lo | exact bI_hi | exact bI_01 | (show (List.map q_wd _).sum ≤ 8; with_unfolding_all exact Nat.le_of_ble_eq_true rfl) | omega) only [kX12_again_0, kX12_again_1, kX12_again_4, kX12_again_5E, kX12_again_8, kX12_again_9, kX12_again_10r, kX12_again_10n, kX12_again_13, kX12_again_14, kX12_again_15, kX12_again_16E, kX12_again_19, kX12_again_22, kX12_again_24, kX12_again_25, kX12_again_26, kX12_again_29E, kX12_again_32, kX12_again_34, kX12_again_37, kX12_again_39, kX12_again_40, kX12_again_41, kX12_again_44, kX12_again_45, kX12_again_46, kX12_again_49E, kX12_again_52, q_cut_i, q_cut_r, q_cut_l, q_cut_n, q_psh_n, q_psh_s, bI_eq0, ite_not, ↓if_pos, ↓if_neg, ↓ite_bI_t, ↓ite_bI_f, r2, uX11_placeN hC.1.1 g1]
theorem vX12_againY {p : Nat} {y : Int} {cR : Nat} {l0 : List (Int × Int)} (h : CRI M g cN cT c e1 c1 L1 e2 c2 L2 C J J2 ms hs lr hc) (hL : TL M (g 7) (g 8) (g 9) cR l0) (hst : tlSrt l0) (hl0 : l0.length ≤ 100) (hB : CB C) (hn : cAgN C p y = 0) : ∃ M' g' cR', q_C (d + 5) iX12_again [qr (g 0), qi p, qi y] M (some (qi (if (evFold y l0 (plH (cW C p))).2 = true then tlAt (evFold y l0 (plH (cW C p))).1 y else -5))) M' ∧ CRI M' g' cN cT c e1 c1 L1 e2 c2 L2 C J J2 ms hs lr hc ∧ TL M' (g' 7) (g' 8) (g' 9) cR' (evFold y l0 (plH (cW C p))).1 ∧ GF (fun s => s = 7 ∨ s = 8 ∨ s = 9) M M' g g' ∧ g' 7 = g 7 ∧ q_gr M M' cR cR' := by
  unfold cAgN at hn
  have m1 : 0 ≤ (p : Int) ∧ (p : Int) < cn C := Decidable.byContradiction (fun z => by rw [if_pos z] at hn; omega)
  rw [if_neg (fun z => z m1)] at hn
  have m2 : 0 ≤ y ∧ y < 10000 := Decidable.byContradiction (fun z => by rw [if_pos z] at hn; omega)
  rw [if_neg (fun z => z m2)] at hn
  have m3 : ¬ 24 < (plH (cW C (p : Int).toNat)).length := fun z => by rw [if_pos z] at hn; omega
  rw [q_toN] at m3
  obtain ⟨hg, hw', hk, h0, hR, hM, hC, hJ, hJ2, hd⟩ := id h
  have n20 := hC.1.1.2.2.2.1
  have hp := (hC.1.1.2.2.2.2.2 p (by omega)).2
  have hH := hp.2.2.2.2.2.2.1
  obtain ⟨r, M', hC', rfl, s', p', cR', hT⟩ := sX1_parentOn (d := d) (day := y) hH hw' hL (by omega) hst hl0 ⟨by omega, by omega⟩ (by
    rintro a (rfl | rfl | rfl)
    · exact ⟨g_ne hg (by omega) (by omega) (by omega), g_ne hg (by omega) (by omega) (by omega)⟩
    · exact ⟨g_ne hg (by omega) (by omega) (by omega), g_ne hg (by omega) (by omega) (by omega)⟩
    · exact ⟨g_ne hg (by omega) (by omega) (by omega), g_ne hg (by omega) (by omega) (by omega)⟩) (P := fun r M' => r = some (qi (if (evFold y l0 (plH (cW C p))).2 = true then tlAt (evFold y l0 (plH (cW C p))).1 y else -5)) ∧ ∃ s' p' cR', TLM M M' (g 7) (g 8) (g 9) cR s' p' cR' (evFold y l0 (plH (cW C p))).1) (fun M' s' p' cR' h => ⟨rfl, s', p', cR', h⟩)
  obtain ⟨t1, t2, t3, t4, t5, t6⟩ := hT
  have ks : q_kd M' s' = (2, cR') := t1.2.2.2.2.1
  have kp : q_kd M' p' = (2, cR') := t1.2.2.2.2.2.1
  have hF : GF (fun s => s = 7 ∨ s = 8 ∨ s = 9) M M' g (upF (upF g 8 s') 9 p') := by
    refine GF_g2 hg t3 ?_ t2 (by omega) (by omega) (by omega) (Or.inr (Or.inl rfl)) (Or.inr (Or.inr rfl)) t5 t6 t1.2.2.2.2.2.2.2.2.2.1 (t3.lt (by rw [ks]; simp)) (t3.lt (by rw [kp]; simp))
    rintro x (rfl | rfl | rfl)
    · exact ⟨7, by omega, Or.inl rfl, rfl⟩
    · exact ⟨8, by omega, Or.inr (Or.inl rfl), rfl⟩
    · exact ⟨9, by omega, Or.inr (Or.inr rfl), rfl⟩
  obtain ⟨g', hg'⟩ : ∃ g', g' = upF (upF g 8 s') 9 p' := ⟨_, rfl⟩
  have e7 : g' 7 = g 7 := by rw [hg', upF_o (by omega), upF_o (by omega)]
  have e8 : g' 8 = s' := by rw [hg', upF_o (by omega), upF_s]
  have e9 : g' 9 = p' := by rw [hg', upF_s]
  rw [← hg'] at hF
  have hS := hF.ss hg
  refine ⟨M', g', cR', C_of (fun P => ?_), ⟨hF.2.2.2.1, hF.2.2.2.2, fun s hs => ?_, by rw [hF.1.2.1, hF.1.2.2.1 _ (hw'.lt (by rw [h0]; simp)), h0], RO_s2 hR (hS 0 (by omega) (by omega)).1 (fun s h1 h2 h3 => by by_cases z : s = 7; rw [z, e7]; exact (hS s (by omega) (by omega)).2), MK_ss hM hS (by omega), CMm_ss hC hS (fun s hs => by omega), ?_, ?_, hd⟩, by rw [e7, e8, e9]; exact t1, hF, e7, t4⟩
  · obtain ⟨k0, r0, r1, r2, r3, r4, r5, r6, r7, r8, r9, r10, r11, r12, r13⟩ := id hR
    have kw := hC.1.1.1
    have hpy := fun z : QP => uX11_placeY (d := d + 3) (x := z) hC.1.1 (p := p) (by omega) (by omega)
    rw [q_toN] at hpy
    have bl := (hB.1 p (by omega)).2.2.1
    rw [eX12_again]
    simp (disch := first | assumption | exact PLr_0 hp | exact PLr_k1 hp | exact PLr_k4 hp | exact PLr_k7 hp | exact bI_lo | exact bI_hi | exact bI_01 | (show (List.map q_wd _).sum ≤ 8; with_unfolding_all exact Nat.le_of_ble_eq_true rfl) | omega) only [kX12_again_0, kX12_again_1, kX12_again_4, kX12_again_5E, kX12_again_8, kX12_again_9, kX12_again_10r, kX12_again_10n, kX12_again_13, kX12_again_14, kX12_again_15, kX12_again_16E, kX12_again_19, kX12_again_22, kX12_again_24, kX12_again_25, kX12_again_26, kX12_again_29E, kX12_again_32, kX12_again_34, kX12_again_37, kX12_again_39, kX12_again_40, kX12_again_41, kX12_again_44, kX12_again_45, kX12_again_46, kX12_again_49E, kX12_again_52, q_cut_i, q_cut_r, q_cut_l, q_cut_n, q_psh_n, q_psh_s, bI_eq0, ite_not, ↓if_pos, ↓if_neg, ↓ite_bI_t, ↓ite_bI_f, r2, hpy, uX12_isDay, PLr_f8 hp, uX1_told hp, r4, T_of hC']
  · by_cases z8 : s = 8
    · rw [z8, e8, ks]; simp
    · by_cases z9 : s = 9
      · rw [z9, e9, kp]; simp
      · by_cases z7 : s = 7
        · rw [z7, e7, t1.1]; simp
        · rw [(hS s hs (by omega)).2, hF.1.2.2.1 _ (hg.2 s hs)]; exact hk s hs
  · rw [(hS 12 (by omega) (by omega)).2]; exact JR_gf hg hw' hk hF.1 (by omega) (by omega) hJ
  · rw [(hS 13 (by omega) (by omega)).2]; exact JR_gf hg hw' hk hF.1 (by omega) (by omega) hJ2
end AGA
