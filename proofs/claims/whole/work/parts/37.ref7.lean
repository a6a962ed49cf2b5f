/-! the reference's methods: renames, moves, splits, merges, closes, copies -/
def rRen (S : RS) (p y : Int) : RS := rHap (up (rNms S p y) 1 (15 + 78 * p + 4) y) p y 1 (S 0 9)
theorem tX13_renames {d m : Nat} {S : RS} {M : QM} {x : QP} (hK : RK m M) (hR : RG S) {p y : Int} {N c : Nat} (hN : S 1 1 = N) (hN2 : N < 700) (hc : S 0 9 = c) (hc2 : c ≤ 8) (h1 : 0 ≤ p ∧ p < 20) (h3 : -1000000 ≤ y ∧ y ≤ 1000000) (h5 : 0 ≤ S 1 (15 + 78 * p + 5)) : q_T (d + 3) iX13_renames [qr m, qi p, qi y] (ov m S M) x = x (some (qi (S 1 (rNm (S 1) p y N + 2)))) (ov m (rRen S p y) M) := by
  have hb := rNm_b (S 1) p y N
  have R1 : RG (rNms S p y) := RG_rNms hR (by omega) h3 (by omega)
  have R2 : RG (up (rNms S p y) 1 (15 + 78 * p + 4) y) := RG_up R1 (by omega) (by omega)
  have b5 : 0 ≤ up (rNms S p y) 1 (15 + 78 * p + 4) y 1 (15 + 78 * p + 5) := by rw [up_j (by omega), rNms_o (by omega) (by omega) (by omega)]; exact h5
  have b9 : rNms S p y 0 = S 0 := rNms_k (by omega)
  rw [eX13_renames]
  unfold rRen
  rw [hc]
  simp (disch := first | assumption | exact RK0 hK | exact RK1a hK | exact RK2a hK | exact RK3a hK | exact RK4a hK | exact RK5a hK | exact RK6a hK | exact RK7a hK | exact RGl hR | exact RGh hR | exact bI_lo | exact bI_hi | exact bI_01 | (show (List.map q_wd _).sum ≤ 8; with_unfolding_all exact Nat.le_of_ble_eq_true rfl) | (refine RK1c hK ?_; omega) | (refine RK2c hK ?_; omega) | (refine RK3c hK ?_; omega) | (refine RK4c hK ?_; omega) | (refine RK5c hK ?_; omega) | (refine RK6c hK ?_; omega) | (refine RK7c hK ?_; omega) | omega) only [kX13_renames_0, kX13_renames_1, kX13_renames_2, kX13_renames_3E, kX13_renames_6, kX13_renames_7, kX13_renames_8, kX13_renames_9, kX13_renames_10E, kX13_renames_13, kX13_renames_14, kX13_renames_15, kX13_renames_16, kX13_renames_17E, kX13_renames_20, kX13_renames_21, kX13_renames_22, kX13_renames_23, kX13_renames_24, kX13_renames_25, kX13_renames_28E, kX13_renames_31, kX13_renames_32, q_cut_i, q_cut_r, q_cut_l, q_cut_n, q_kd_ov, ov_f0, ov_f1, ov_f2, ov_f3, ov_f4, ov_f5, ov_f6, ov_f7, ov_f8, ov_f9, ov_f10, ov_f11, ov_f12, ov_f13, ov_f14, ov_f15, ov_f16, ov_r, ov_w, ov_w1, ov_w2, ov_w4, ov_w5, ov_w6, ov_w7, ov_w9, ov_w11, ov_w13, ov_w16, up_s, up_k, up_j, up_up, q_psh_n, q_psh_s, bI_eq0, ite_not, ↓if_pos, ↓if_neg, ↓ite_bI_t, ↓ite_bI_f, tX13_lengthOn hK hR hN (Nat.le_of_lt hN2), tX13_names hK hR hN hN2 hc hc2 (p := p) (y := y) (by omega) h3, tX13_lays hK, tX13_happens hK R2 (p := p) h1.1 h1.2 b5, b9, hc]
def rMov (S : RS) (p par y : Int) : RS := rHap (up (rTell S p y par) 1 (15 + 78 * p + 4) y) p y 2 par
theorem tX13_moves {d m : Nat} {S : RS} {M : QM} {x : QP} (hK : RK m M) (hR : RG S) {p par y : Int} {N : Nat} (hN : S 1 2 = N) (hN2 : N < 700) (h1 : 0 ≤ p ∧ p < 20) (h2 : -1000000 ≤ par ∧ par ≤ 1000000) (h3 : -1000000 ≤ y ∧ y ≤ 1000000) (h5 : 0 ≤ S 1 (15 + 78 * p + 5)) : q_T (d + 3) iX13_moves [qr m, qi p, qi par, qi y] (ov m S M) x = x (some (qi (rPar (S 1) p y N))) (ov m (rMov S p par y) M) := by
  have R1 : RG (rTell S p y par) := RG_rTell hR (by omega) h3 h2 (by omega)
  have R2 : RG (up (rTell S p y par) 1 (15 + 78 * p + 4) y) := RG_up R1 (by omega) (by omega)
  have b5 : 0 ≤ up (rTell S p y par) 1 (15 + 78 * p + 4) y 1 (15 + 78 * p + 5) := by rw [up_j (by omega), rTell_o (by omega) (by omega)]; exact h5
  rw [eX13_moves]
  unfold rMov
  simp (disch := first | assumption | exact RK0 hK | exact RK1a hK | exact RK2a hK | exact RK3a hK | exact RK4a hK | exact RK5a hK | exact RK6a hK | exact RK7a hK | exact RGl hR | exact RGh hR | exact bI_lo | exact bI_hi | exact bI_01 | (show (List.map q_wd _).sum ≤ 8; with_unfolding_all exact Nat.le_of_ble_eq_true rfl) | (refine RK1c hK ?_; omega) | (refine RK2c hK ?_; omega) | (refine RK3c hK ?_; omega) | (refine RK4c hK ?_; omega) | (refine RK5c hK ?_; omega) | (refine RK6c hK ?_; omega) | (refine RK7c hK ?_; omega) | omega) only [kX13_moves_0, kX13_moves_1, kX13_moves_2, kX13_moves_3E, kX13_moves_6, kX13_moves_8, kX13_moves_9, kX13_moves_10, kX13_moves_11, kX13_moves_12E, kX13_moves_15, kX13_moves_16, kX13_moves_17, kX13_moves_18, kX13_moves_19E, kX13_moves_22, kX13_moves_23, kX13_moves_24, kX13_moves_25, kX13_moves_26, kX13_moves_27E, kX13_moves_30, kX13_moves_32, q_cut_i, q_cut_r, q_cut_l, q_cut_n, q_kd_ov, ov_f0, ov_f1, ov_f2, ov_f3, ov_f4, ov_f5, ov_f6, ov_f7, ov_f8, ov_f9, ov_f10, ov_f11, ov_f12, ov_f13, ov_f14, ov_f15, ov_f16, ov_r, ov_w, ov_w1, ov_w2, ov_w4, ov_w5, ov_w6, ov_w7, ov_w9, ov_w11, ov_w13, ov_w16, up_s, up_k, up_j, up_up, q_psh_n, q_psh_s, bI_eq0, ite_not, ↓if_pos, ↓if_neg, ↓ite_bI_t, ↓ite_bI_f, tX13_parentOn hK hR hN (Nat.le_of_lt hN2), tX13_tellsParent hK hR hN hN2, tX13_lays hK, tX13_happens hK R2 (p := p) h1.1 h1.2 b5]
def rClo (S : RS) (p y : Int) : RS := rHap (up (up S 1 (15 + 78 * p + 4) y) 1 (15 + 78 * p + 2) y) p y 4 (-5)
theorem tX13_closes {d m : Nat} {S : RS} {M : QM} {x : QP} (hK : RK m M) (hR : RG S) {p y : Int} (h1 : 0 ≤ p ∧ p < 20) (h3 : -1000000 ≤ y ∧ y ≤ 1000000) (h5 : 0 ≤ S 1 (15 + 78 * p + 5)) (h6 : S 1 (15 + 78 * p + 5) ≤ 100000) : q_T (d + 3) iX13_closes [qr m, qi p, qi y] (ov m S M) x = x (some (qi (y - S 1 (15 + 78 * p + 1)))) (ov m (rClo S p y) M) := by
  have R2 : RG (up (up S 1 (15 + 78 * p + 4) y) 1 (15 + 78 * p + 2) y) := RG_up (RG_up hR (by omega) (by omega)) (by omega) (by omega)
  have b5 : up (up S 1 (15 + 78 * p + 4) y) 1 (15 + 78 * p + 2) y 1 (15 + 78 * p + 5) = S 1 (15 + 78 * p + 5) := by rw [up_j (by omega), up_j (by omega)]
  have R3 : RG (rClo S p y) := RG_rHap R2 h3 (by omega) (by omega) (by omega)
  have b1 : rClo S p y 1 (15 + 78 * p + 1) = S 1 (15 + 78 * p + 1) := by
    unfold rClo
    rw [rHap_o (by omega) (by omega), up_j (by omega), up_j (by omega)]
  rw [eX13_closes]
  have e : ∀ z : QP, q_T (d + 2) iX13_happens [qr m, qi p, qi y, qi 4, qi (-5)] (ov m (up (up S 1 (15 + 78 * p + 4) y) 1 (15 + 78 * p + 2) y) M) z = z none (ov m (rClo S p y) M) := fun z => tX13_happens hK R2 (p := p) h1.1 h1.2 (by omega)
  simp (disch := first | assumption | exact RK0 hK | exact RK1a hK | exact RK2a hK | exact RK3a hK | exact RK4a hK | exact RK5a hK | exact RK6a hK | exact RK7a hK | exact RGl hR | exact RGh hR | exact bI_lo | exact bI_hi | exact bI_01 | (show (List.map q_wd _).sum ≤ 8; with_unfolding_all exact Nat.le_of_ble_eq_true rfl) | (refine RK1c hK ?_; omega) | (refine RK2c hK ?_; omega) | (refine RK3c hK ?_; omega) | (refine RK4c hK ?_; omega) | (refine RK5c hK ?_; omega) | (refine RK6c hK ?_; omega) | (refine RK7c hK ?_; omega) | omega) only [kX13_closes_0, kX13_closes_1, kX13_closes_2, kX13_closes_3, kX13_closes_4E, kX13_closes_7, kX13_closes_8, kX13_closes_9, kX13_closes_10, kX13_closes_11E, kX13_closes_14, kX13_closes_15, kX13_closes_16, kX13_closes_17, kX13_closes_18, kX13_closes_20E, kX13_closes_23, kX13_closes_24, kX13_closes_25, kX13_closes_26, kX13_closes_27E, kX13_closes_30, kX13_closes_31, q_cut_i, q_cut_r, q_cut_l, q_cut_n, q_kd_ov, ov_f0, ov_f1, ov_f2, ov_f3, ov_f4, ov_f5, ov_f6, ov_f7, ov_f8, ov_f9, ov_f10, ov_f11, ov_f12, ov_f13, ov_f14, ov_f15, ov_f16, ov_r, ov_w, ov_w1, ov_w2, ov_w4, ov_w5, ov_w6, ov_w7, ov_w9, ov_w11, ov_w13, ov_w16, up_s, up_k, up_j, up_up, q_psh_n, q_psh_s, bI_eq0, ite_not, ↓if_pos, ↓if_neg, ↓ite_bI_t, ↓ite_bI_f, tX13_lays hK, e, tX13_has hK R3, b1]
def rSpl (S : RS) (p y : Int) (N : Nat) : RS := (fun T : RS => up T 1 6 (T 1 6 + 1)) (rHap (up (rHap (rFou S (S 1 (15 + 78 * p + 0)) (rPar (S 1) p y N) y) (S 1 0) y 5 p) 1 (15 + 78 * p + 4) y) p y 7 (S 1 0))
theorem rFou_k {S : RS} {t par y : Int} {k : Nat} (h : k ≠ 1) : rFou S t par y k = S k := by
  unfold rFou
  rw [rHap_k h, rNms_k h]
  split
  · rw [rTell_k h, rF1_k h]
  · rw [rF1_k h]
theorem rFou_b {S : RS} {k par y : Int} {n N NP c : Nat} (hn : S 1 0 = n) (hn2 : n < 20) (hN : S 1 1 = N) (hN2 : N < 700) (hP : S 1 2 = NP) (hP2 : NP < 700) (hc : S 0 9 = c) (hc2 : c ≤ 8) : (fun T : RS => T 1 1 = N ∧ T 1 2 = (if 0 < k then (NP : Int) + 1 else NP) ∧ T 1 0 = n + 1 ∧ T 0 9 = c ∧ T 1 (15 + 78 * (n : Int) + 5) = 0 ∧ ∀ j : Int, 3 ≤ j → (j < 15 + 78 * n ∨ (15 + 78 * n + 6 ≤ j ∧ j < 9275 + 3 * NP) ∨ 9275 + 3 * NP + 3 ≤ j) → T 1 j = S 1 j) (if 0 < k then rTell (rF1 S k y) n y par else rF1 S k y) := by
  have a2 : rF1 S k y 1 2 = NP := by rw [rF1_o (by omega) (by omega), hP]
  have a1 : rF1 S k y 1 1 = N := by rw [rF1_o (by omega) (by omega), hN]
  have a0 : rF1 S k y 1 0 = n + 1 := by
    unfold rF1
    rw [hn, up_j (by omega), up_j (by omega), up_j (by omega), up_j (by omega), up_j (by omega), up_j (by omega), up_s]
  have a5 : rF1 S k y 1 (15 + 78 * (n : Int) + 5) = 0 := by unfold rF1; rw [hn, up_s]
  dsimp only
  split
  · refine ⟨?_, ?_, ?_, ?_, ?_, fun j h1 h2 => ?_⟩
    · rw [rTell_o (by omega) (by omega), a1]
    · unfold rTell; rw [up_s, a2]
    · rw [rTell_o (by omega) (by omega), a0]
    · rw [rTell_k (by omega), rF1_k (by omega), hc]
    · rw [rTell_o (by omega) (by omega), a5]
    · rw [rTell_o (by omega) (by omega), rF1_o (by omega) (by omega)]
  · refine ⟨a1, a2, a0, ?_, a5, fun j h1 h2 => ?_⟩
    · rw [rF1_k (by omega), hc]
    · rw [rF1_o (by omega) (by omega)]
theorem RG_rFou {S : RS} (hR : RG S) {k par y : Int} {n N NP c : Nat} (hn : S 1 0 = n) (hn2 : n < 20) (hN : S 1 1 = N) (hN2 : N < 700) (hP : S 1 2 = NP) (hP2 : NP < 700) (hc : S 0 9 = c) (hc2 : c ≤ 8) (h1 : 0 ≤ k ∧ k ≤ 1000000) (h2 : 0 < k → -1000000 ≤ par ∧ par ≤ 1000000) (h3 : -1000000 ≤ y ∧ y ≤ 1000000) : RG (rFou S k par y) := by
  have hb := rFou_b (k := k) (par := par) (y := y) hn hn2 hN hN2 hP hP2 hc hc2
  dsimp only at hb
  have R1 : RG (rF1 S k y) := RG_rF1 hR (by omega) h3 (by omega)
  have a2 : rF1 S k y 1 2 = NP := by rw [rF1_o (by omega) (by omega), hP]
  unfold rFou
  rw [hn]
  have R2 : RG (if 0 < k then rTell (rF1 S k y) n y par else rF1 S k y) := by
    split
    · rename_i g
      exact RG_rTell R1 (by omega) h3 (h2 g) (by omega)
    · exact R1
  refine RG_rHap (RG_rNms R2 (by omega) h3 (by omega)) h3 (by omega) (by
    split
    · omega
    · have := h2 (by omega)
      omega) ?_
  rw [rNms_o (by omega) (by omega) (by omega), hb.2.2.2.2.1]
  omega
theorem rFou_o {S : RS} {k par y : Int} {n N NP c : Nat} (hn : S 1 0 = n) (hn2 : n < 20) (hN : S 1 1 = N) (hN2 : N < 700) (hP : S 1 2 = NP) (hP2 : NP < 700) (hc : S 0 9 = c) (hc2 : c ≤ 8) {j : Int} (h1 : 3 ≤ j) (h2 : j < 15 + 78 * n ∨ (15 + 78 * n + 78 ≤ j ∧ j < 1575 + 11 * N) ∨ (1575 + 11 * N + 11 ≤ j ∧ j < 9275 + 3 * NP) ∨ 9275 + 3 * NP + 3 ≤ j) : rFou S k par y 1 j = S 1 j := by
  have hb := rFou_b (k := k) (par := par) (y := y) hn hn2 hN hN2 hP hP2 hc hc2
  dsimp only at hb
  obtain ⟨b1, b2, b0, b9, b5, bo⟩ := hb
  unfold rFou
  rw [hn, rHap_o (by rw [rNms_o (by omega) (by omega) (by omega)]; omega) (by omega), rNms_o (by omega) (by omega) (by omega), bo j h1 (by omega)]
theorem rFou_5 {S : RS} {k par y : Int} {n N NP c : Nat} (hn : S 1 0 = n) (hn2 : n < 20) (hN : S 1 1 = N) (hN2 : N < 700) (hP : S 1 2 = NP) (hP2 : NP < 700) (hc : S 0 9 = c) (hc2 : c ≤ 8) : rFou S k par y 1 (15 + 78 * (n : Int) + 5) = 1 ∧ rFou S k par y 1 0 = n + 1 := by
  have hb := rFou_b (k := k) (par := par) (y := y) hn hn2 hN hN2 hP hP2 hc hc2
  dsimp only at hb
  obtain ⟨b1, b2, b0, b9, b5, bo⟩ := hb
  unfold rFou
  rw [hn]
  have e : rNms (if 0 < k then rTell (rF1 S k y) n y par else rF1 S k y) n y 1 (15 + 78 * (n : Int) + 5) = 0 := by rw [rNms_o (by omega) (by omega) (by omega), b5]
  refine ⟨?_, ?_⟩
  · rw [rHap_5 (by omega), e]; rfl
  · rw [rHap_o (by omega) (by omega), rNms_o (by omega) (by omega) (by omega), b0]
set_option maxHeartbeats 2000000 in
theorem tX13_splits {d m : Nat} {S : RS} {M : QM} {x : QP} (hK : RK m M) (hR : RG S) {p y : Int} {n N NP c : Nat} (hn : S 1 0 = n) (hn2 : n < 20) (hN : S 1 1 = N) (hN2 : N < 700) (hP : S 1 2 = NP) (hP2 : NP < 700) (hc : S 0 9 = c) (hc2 : c ≤ 8) (h1 : 0 ≤ p ∧ p < n) (h3 : -1000000 ≤ y ∧ y ≤ 1000000) (hk : 0 ≤ S 1 (15 + 78 * p + 0) ∧ S 1 (15 + 78 * p + 0) ≤ 1000000) (hp : -1000000 ≤ rPar (S 1) p y NP ∧ rPar (S 1) p y NP ≤ 1000000) (h5 : 0 ≤ S 1 (15 + 78 * p + 5)) (h6 : S 1 (15 + 78 * p + 5) ≤ 100000) : q_T (d + 4) iX13_splits [qr m, qi p, qi y] (ov m S M) x = x (some (qi n)) (ov m (rSpl S p y NP) M) := by
  have hF := fun z : QP => tX13_founds (d := d) (x := z) hK hR hn hn2 hN hN2 hP hP2 hc hc2 hk (fun _ => hp) h3
  have R1 := RG_rFou hR hn hn2 hN hN2 hP hP2 hc hc2 hk (fun _ => hp) h3
  obtain ⟨f5, f0⟩ := rFou_5 (k := S 1 (15 + 78 * p + 0)) (par := rPar (S 1) p y NP) (y := y) hn hn2 hN hN2 hP hP2 hc hc2
  have fo : ∀ j : Int, 3 ≤ j → (j < 15 + 78 * n) → rFou S (S 1 (15 + 78 * p + 0)) (rPar (S 1) p y NP) y 1 j = S 1 j := fun j g1 g2 => rFou_o hn hn2 hN hN2 hP hP2 hc hc2 g1 (Or.inl g2)
  unfold rSpl
  rw [hn]
  obtain ⟨S1, hS1⟩ : ∃ S1, S1 = rFou S (S 1 (15 + 78 * p + 0)) (rPar (S 1) p y NP) y := ⟨_, rfl⟩
  rw [← hS1] at R1 f5 f0 fo hF ⊢
  have H1 := fun z : QP => tX13_happens (d := d + 1) (x := z) hK R1 (p := (n : Int)) (y := y) (sort := 5) (num := p) (by omega) (by omega) (by omega)
  have R2 : RG (rHap S1 n y 5 p) := RG_rHap R1 h3 (by omega) (by omega) (by omega)
  have R3 : RG (up (rHap S1 n y 5 p) 1 (15 + 78 * p + 4) y) := RG_up R2 (by omega) (by omega)
  have g5 : up (rHap S1 n y 5 p) 1 (15 + 78 * p + 4) y 1 (15 + 78 * p + 5) = S 1 (15 + 78 * p + 5) := by
    rw [up_j (by omega), rHap_o (by omega) (by omega), fo _ (by omega) (by omega)]
  have H2 := fun z : QP => tX13_happens (d := d + 1) (x := z) hK R3 (p := p) (y := y) (sort := 7) (num := n) (by omega) (by omega) (by omega)
  rw [eX13_splits]
  simp (disch := first | assumption | exact RK0 hK | exact RK1a hK | exact RK2a hK | exact RK3a hK | exact RK4a hK | exact RK5a hK | exact RK6a hK | exact RK7a hK | exact RGl hR | exact RGh hR | exact bI_lo | exact bI_hi | exact bI_01 | (show (List.map q_wd _).sum ≤ 8; with_unfolding_all exact Nat.le_of_ble_eq_true rfl) | (refine RK1c hK ?_; omega) | (refine RK2c hK ?_; omega) | (refine RK3c hK ?_; omega) | (refine RK4c hK ?_; omega) | (refine RK5c hK ?_; omega) | (refine RK6c hK ?_; omega) | (refine RK7c hK ?_; omega) | omega) only [kX13_splits_0, kX13_splits_1, kX13_splits_2, kX13_splits_3, kX13_splits_4E, kX13_splits_7, kX13_splits_8, kX13_splits_9, kX13_splits_10E, kX13_splits_13, kX13_splits_14E, kX13_splits_17, kX13_splits_18, kX13_splits_19, kX13_splits_20, kX13_splits_21, kX13_splits_22, kX13_splits_23E, kX13_splits_26, kX13_splits_27, kX13_splits_28, kX13_splits_29, kX13_splits_30E, kX13_splits_33, kX13_splits_34, kX13_splits_35, kX13_splits_36, kX13_splits_38, kX13_splits_39E, kX13_splits_42, kX13_splits_43, kX13_splits_46, kX13_splits_48, kX13_splits_49, kX13_splits_50, kX13_splits_51, kX13_splits_52, kX13_splits_53, kX13_splits_54, q_cut_i, q_cut_r, q_cut_l, q_cut_n, q_kd_ov, ov_f0, ov_f1, ov_f2, ov_f3, ov_f4, ov_f5, ov_f6, ov_f7, ov_f8, ov_f9, ov_f10, ov_f11, ov_f12, ov_f13, ov_f14, ov_f15, ov_f16, ov_r, ov_w, ov_w1, ov_w2, ov_w4, ov_w5, ov_w6, ov_w7, ov_w9, ov_w11, ov_w13, ov_w16, up_s, up_k, up_j, up_up, q_psh_n, q_psh_s, bI_eq0, ite_not, ↓if_pos, ↓if_neg, ↓ite_bI_t, ↓ite_bI_f, tX13_has hK hR, tX13_parentOn hK hR hP (Nat.le_of_lt hP2), hF, H1, H2, tX13_lays hK]
/-- who has the place that ends as a parent: what is told of them -/
def rMl (S : RS) (p into y : Int) (N : Nat) : Nat → RS × Nat
  | 0 => (S, 0)
  | q + 1 => if rFst (rMl S p into y N q).1 q p y N = -1 then rMl S p into y N q else (rHap (rMl S p into y N q).1 q (rFst (rMl S p into y N q).1 q p y N) 8 into, (rMl S p into y N q).2 + 1)
def rM0 (S : RS) (p into y : Int) : RS := rHap (rHap (up S 1 (15 + 78 * p + 4) y) p y 3 into) into y 6 p
def rMrg (S : RS) (p into y : Int) (N n : Nat) : RS := (fun T : RS => up T 1 5 (T 1 5 + 1)) (rTell (up (up (rMl (rM0 S p into y) p into y N n).1 1 (15 + 78 * p + 2) y) 1 (15 + 78 * p + 3) into) (-1 - p) y into)
theorem rM0_f {S : RS} (hR : RG S) {p into y : Int} (h1 : 0 ≤ p ∧ p < 20) (h2 : 0 ≤ into ∧ into < 20) (h3 : -1000000 ≤ y ∧ y ≤ 1000000) (h5 : ∀ q : Int, 0 ≤ q → q < 20 → 0 ≤ S 1 (15 + 78 * q + 5) ∧ S 1 (15 + 78 * q + 5) ≤ 100000) :
    RG (rHap (up S 1 (15 + 78 * p + 4) y) p y 3 into) ∧ RG (rM0 S p into y) ∧ (∀ k, k ≠ 1 → rM0 S p into y k = S k) ∧ (∀ j : Int, (j < 15 ∨ 1575 ≤ j) → rM0 S p into y 1 j = S 1 j) ∧ (∀ q : Int, 0 ≤ q → q < 20 → 0 ≤ rHap (up S 1 (15 + 78 * p + 4) y) p y 3 into 1 (15 + 78 * q + 5) ∧ rHap (up S 1 (15 + 78 * p + 4) y) p y 3 into 1 (15 + 78 * q + 5) ≤ 100001) ∧ (∀ q : Int, 0 ≤ q → q < 20 → 0 ≤ rM0 S p into y 1 (15 + 78 * q + 5) ∧ rM0 S p into y 1 (15 + 78 * q + 5) ≤ 100002) := by
  have R0 : RG (up S 1 (15 + 78 * p + 4) y) := RG_up hR (by omega) (by omega)
  have u5 : ∀ q : Int, up S 1 (15 + 78 * p + 4) y 1 (15 + 78 * q + 5) = S 1 (15 + 78 * q + 5) := fun q => up_j (by omega)
  have hp := h5 p h1.1 h1.2
  have R1 : RG (rHap (up S 1 (15 + 78 * p + 4) y) p y 3 into) := RG_rHap R0 h3 (by omega) (by omega) (by rw [u5]; omega)
  have v5 : ∀ q : Int, 0 ≤ q → q < 20 → 0 ≤ rHap (up S 1 (15 + 78 * p + 4) y) p y 3 into 1 (15 + 78 * q + 5) ∧ rHap (up S 1 (15 + 78 * p + 4) y) p y 3 into 1 (15 + 78 * q + 5) ≤ 100001 := by
    intro q q1 q2
    have := h5 q q1 q2
    by_cases e : q = p
    · subst e
      rw [rHap_5 (by rw [u5]; omega), u5]; omega
    · rw [rHap_o (by rw [u5]; omega) (by omega), u5]; omega
  have hi := v5 into h2.1 h2.2
  refine ⟨R1, RG_rHap R1 h3 (by omega) (by omega) (by omega), fun k hk => ?_, fun j hj => ?_, v5, fun q q1 q2 => ?_⟩
  · unfold rM0
    rw [rHap_k hk, rHap_k hk, up_k hk]
  · unfold rM0
    rw [rHap_o hi.1 (by omega), rHap_o (by rw [u5]; omega) (by omega), up_j (by omega)]
  · unfold rM0
    have := v5 q q1 q2
    by_cases e : q = into
    · subst e
      rw [rHap_5 hi.1]; omega
    · rw [rHap_o hi.1 (by omega)]; omega
theorem rFst_b {S : RS} {p par fr : Int} {N : Nat} (h : ∀ k : Nat, k < N → -1000000 ≤ S 1 (9275 + 3 * (k : Int) + 1) ∧ S 1 (9275 + 3 * (k : Int) + 1) ≤ 1000000) (h2 : -1000000 ≤ S 1 (15 + 78 * p + 1) ∧ S 1 (15 + 78 * p + 1) ≤ 1000000) (h3 : -1000000 ≤ fr ∧ fr ≤ 1000000) : -1000000 ≤ rFst S p par fr N ∧ rFst S p par fr N ≤ 1000000 := by
  have hl : ∀ st : Int, ∀ n : Nat, n ≤ N → -1000000 ≤ rFd S p par st N n ∧ rFd S p par st N n ≤ 1000000 := by
    intro st n
    induction n with
    | zero => intro _; simp [rFd]
    | succ n ih =>
      intro hn
      rw [rFd]
      split
      · exact ih (by omega)
      · exact h n (by omega)
  have := hl (max fr (S 1 (15 + 78 * p + 1))) N (Nat.le_refl N)
  unfold rFst
  split <;> omega
theorem rPar_c {b b' : Int → Int} {p y : Int} : ∀ n : Nat, (∀ j : Int, 9275 ≤ j → b' j = b j) → rPar b' p y n = rPar b p y n
  | 0, _ => rfl
  | n + 1, h => by rw [rPar, rPar, rPar_c n h, h _ (by omega), h _ (by omega), h _ (by omega)]
theorem rFst_c {S T : RS} {p par fr : Int} {N : Nat} (h : ∀ j : Int, (j < 15 ∨ 1575 ≤ j ∨ (j - 15) % 78 < 4) → S 1 j = T 1 j) : rFst S p par fr N = rFst T p par fr N := by
  have e1 : S 1 (15 + 78 * p + 1) = T 1 (15 + 78 * p + 1) := h _ (by omega)
  have e2 : S 1 (15 + 78 * p + 2) = T 1 (15 + 78 * p + 2) := h _ (by omega)
  have hx : ∀ z : Int, rEx S p z = rEx T p z := fun z => by unfold rEx; rw [e1, e2]
  have hp : ∀ z : Int, rPar (S 1) p z N = rPar (T 1) p z N := fun z => rPar_c N (fun j hj => h j (by omega))
  have hd : ∀ (st : Int) (n : Nat), rFd S p par st N n = rFd T p par st N n := by
    intro st n
    induction n with
    | zero => rfl
    | succ n ih =>
      rw [rFd, rFd, ih, h (9275 + 3 * (n : Int) + 1) (by omega), hp]
      simp only [hx]
  unfold rFst
  simp only [e1, hp, hd, hx]
theorem rMl_f {T : RS} {p into y : Int} {N : Nat} (h2 : 0 ≤ into ∧ into < 20) (hR : RG T) (hd : ∀ q : Nat, q < 20 → -1000000 ≤ rFst T q p y N ∧ rFst T q p y N ≤ 1000000) (h5 : ∀ q : Int, 0 ≤ q → q < 20 → 0 ≤ T 1 (15 + 78 * q + 5) ∧ T 1 (15 + 78 * q + 5) ≤ 100002) : ∀ n : Nat, n ≤ 20 →
    RG (rMl T p into y N n).1 ∧ (∀ k, k ≠ 1 → (rMl T p into y N n).1 k = T k) ∧ (∀ j : Int, (j < 15 ∨ 1575 ≤ j ∨ (j - 15) % 78 < 5) → (rMl T p into y N n).1 1 j = T 1 j) ∧ (∀ q : Int, 0 ≤ q → q < 20 → 0 ≤ (rMl T p into y N n).1 1 (15 + 78 * q + 5) ∧ (rMl T p into y N n).1 1 (15 + 78 * q + 5) ≤ 100002 + (if q < n then 1 else 0)) ∧ (rMl T p into y N n).2 ≤ n := by
  intro n
  induction n with
  | zero =>
    intro _
    refine ⟨hR, fun _ _ => rfl, fun _ _ => rfl, fun q q1 q2 => ?_, Nat.le_refl 0⟩
    have := h5 q q1 q2
    rw [if_neg (by omega)]
    show 0 ≤ T 1 (15 + 78 * q + 5) ∧ T 1 (15 + 78 * q + 5) ≤ _
    omega
  | succ n ih =>
    intro hn
    obtain ⟨i1, i2, i3, i4, i5⟩ := ih (by omega)
    have ef : rFst (rMl T p into y N n).1 n p y N = rFst T n p y N := rFst_c (fun j hj => i3 j (by omega))
    have hf := hd n (by omega)
    have hn4 := i4 n (by omega) (by omega)
    rw [if_neg (by omega)] at hn4
    rw [rMl, ef]
    split
    · refine ⟨i1, i2, i3, fun q q1 q2 => ?_, by omega⟩
      have := i4 q q1 q2
      split at this
      · rw [if_pos (by omega)]; omega
      · split <;> omega
    · refine ⟨RG_rHap i1 hf (by omega) (by omega) (by omega), fun k hk => ?_, fun j hj => ?_, fun q q1 q2 => ?_, ?_⟩
      · show rHap _ _ _ _ _ k = _
        rw [rHap_k hk]; exact i2 k hk
      · show rHap _ _ _ _ _ 1 j = _
        rw [rHap_o hn4.1 (by omega)]; exact i3 j hj
      · show 0 ≤ rHap _ _ _ _ _ 1 _ ∧ rHap _ _ _ _ _ 1 _ ≤ _
        by_cases e : q = n
        · subst e
          rw [rHap_5 hn4.1, if_pos (by omega)]; omega
        · rw [rHap_o hn4.1 (by omega)]
          have := i4 q q1 q2
          split at this
          · rw [if_pos (by omega)]; omega
          · rw [if_neg (by omega)]; omega
      · show _ + 1 ≤ _
        omega
set_option maxHeartbeats 2000000 in
theorem tX13_merges {d m : Nat} {S : RS} {M : QM} {x : QP} (hK : RK m M) (hR : RG S) {p into y : Int} {n NP : Nat} (hn : S 1 0 = n) (hn2 : n ≤ 20) (hP : S 1 2 = NP) (hP2 : NP < 700) (h1 : 0 ≤ p ∧ p < 20) (h2 : 0 ≤ into ∧ into < 20) (h3 : -1000000 ≤ y ∧ y ≤ 1000000) (h5 : ∀ q : Int, 0 ≤ q → q < 20 → 0 ≤ S 1 (15 + 78 * q + 5) ∧ S 1 (15 + 78 * q + 5) ≤ 100000) (h6 : ∀ k : Nat, k < NP → -1000000 ≤ S 1 (9275 + 3 * (k : Int) + 1) ∧ S 1 (9275 + 3 * (k : Int) + 1) ≤ 1000000) (h7 : ∀ q : Nat, q < 20 → -1000000 ≤ S 1 (15 + 78 * (q : Int) + 1) ∧ S 1 (15 + 78 * (q : Int) + 1) ≤ 1000000) : q_T (d + 5) iX13_merges [qr m, qi p, qi into, qi y] (ov m S M) x = x (some (qi (rMl (rM0 S p into y) p into y NP n).2)) (ov m (rMrg S p into y NP n) M) := by
  obtain ⟨R1, R2, k2, j2, v5, w5⟩ := rM0_f hR h1 h2 h3 h5
  have R0 : RG (up S 1 (15 + 78 * p + 4) y) := RG_up hR (by omega) (by omega)
  have u5 : up S 1 (15 + 78 * p + 4) y 1 (15 + 78 * p + 5) = S 1 (15 + 78 * p + 5) := up_j (by omega)
  have H1 := fun z : QP => tX13_happens (d := d + 2) (x := z) hK R0 (p := p) (y := y) (sort := 3) (num := into) h1.1 h1.2 (by rw [u5]; exact (h5 p h1.1 h1.2).1)
  have H2 := fun z : QP => tX13_happens (d := d + 2) (x := z) hK R1 (p := into) (y := y) (sort := 6) (num := p) h2.1 h2.2 (v5 into h2.1 h2.2).1
  have c1 : ∀ q : Nat, rM0 S p into y 1 (15 + 78 * (q : Int) + 1) = S 1 (15 + 78 * (q : Int) + 1) := by
    intro q
    unfold rM0
    rw [rHap_o (v5 into h2.1 h2.2).1 (by omega), rHap_o (by rw [u5]; exact (h5 p h1.1 h1.2).1) (by omega), up_j (by omega)]
  have hd : ∀ q : Nat, q < 20 → -1000000 ≤ rFst (rM0 S p into y) q p y NP ∧ rFst (rM0 S p into y) q p y NP ≤ 1000000 := fun q hq => rFst_b (fun k hk => by rw [j2 _ (by omega)]; exact h6 k hk) (by rw [c1]; exact h7 q hq) h3
  have hl := rMl_f h2 R2 hd w5
  have loop : ∀ n1 k : Nat, k + n1 = n → ∀ l6, Rr (q_C (d + 4)) mX13_merges (30, [some (qr m), some (qi p), some (qi into), some (qi y), some (qi (rMl (rM0 S p into y) p into y NP k).2), some (qi k), l6], [], ov m (rMl (rM0 S p into y) p into y NP k).1 M) x = x (some (qi (rMl (rM0 S p into y) p into y NP n).2)) (ov m (rMrg S p into y NP n) M) := by
    intro n1
    induction n1 with
    | zero =>
      intro k hk l6
      have e : k = n := by omega
      subst e
      obtain ⟨i1, i2, i3, i4, i5⟩ := hl k hn2
      have e0 : (rMl (rM0 S p into y) p into y NP k).1 1 0 = k := by rw [i3 0 (by omega), j2 0 (by omega), hn]
      have e2 : (rMl (rM0 S p into y) p into y NP k).1 1 2 = NP := by rw [i3 2 (by omega), j2 2 (by omega), hP]
      have R3 : RG (up (up (rMl (rM0 S p into y) p into y NP k).1 1 (15 + 78 * p + 2) y) 1 (15 + 78 * p + 3) into) := RG_up (RG_up i1 (by omega) (by omega)) (by omega) (by omega)
      have e3 : up (up (rMl (rM0 S p into y) p into y NP k).1 1 (15 + 78 * p + 2) y) 1 (15 + 78 * p + 3) into 1 2 = NP := by rw [up_j (by omega), up_j (by omega), e2]
      have H3 := fun z : QP => tX13_tellsParent (d := d + 3) (x := z) hK R3 (p := -1 - p) (y := y) (par := into) e3 hP2
      rw [kX13_merges_30]
      unfold rMrg
      simp (disch := first | assumption | exact RK0 hK | exact RK1a hK | exact RK2a hK | exact RK3a hK | exact RK4a hK | exact RK5a hK | exact RK6a hK | exact RK7a hK | exact RGl hR | exact RGh hR | exact bI_lo | exact bI_hi | exact bI_01 | (show (List.map q_wd _).sum ≤ 8; with_unfolding_all exact Nat.le_of_ble_eq_true rfl) | (refine RK1c hK ?_; omega) | (refine RK2c hK ?_; omega) | (refine RK3c hK ?_; omega) | (refine RK4c hK ?_; omega) | (refine RK5c hK ?_; omega) | (refine RK6c hK ?_; omega) | (refine RK7c hK ?_; omega) | omega) only [kX13_merges_0, kX13_merges_1, kX13_merges_2, kX13_merges_3, kX13_merges_4E, kX13_merges_7, kX13_merges_8, kX13_merges_9, kX13_merges_10, kX13_merges_11, kX13_merges_12E, kX13_merges_15, kX13_merges_16, kX13_merges_17, kX13_merges_18, kX13_merges_20, kX13_merges_21E, kX13_merges_24, kX13_merges_25, kX13_merges_27, kX13_merges_28, kX13_merges_32, kX13_merges_33, kX13_merges_36, kX13_merges_37, kX13_merges_38, kX13_merges_41, kX13_merges_42, kX13_merges_44, kX13_merges_45, kX13_merges_46E, kX13_merges_49, kX13_merges_51, kX13_merges_53, kX13_merges_54, kX13_merges_57, kX13_merges_60, kX13_merges_61, kX13_merges_63, kX13_merges_65, kX13_merges_67, kX13_merges_68E, kX13_merges_71, kX13_merges_74, kX13_merges_77, kX13_merges_80, kX13_merges_81, kX13_merges_82, kX13_merges_83, kX13_merges_84E, kX13_merges_87, kX13_merges_88, kX13_merges_89, kX13_merges_90, kX13_merges_91E, kX13_merges_94, kX13_merges_95, kX13_merges_96, kX13_merges_97, kX13_merges_98, kX13_merges_99, kX13_merges_100E, kX13_merges_103, kX13_merges_104, kX13_merges_107, kX13_merges_108, kX13_merges_109, kX13_merges_110, kX13_merges_111, kX13_merges_112, kX13_merges_113, kX13_merges_115, q_cut_i, q_cut_r, q_cut_l, q_cut_n, q_kd_ov, ov_f0, ov_f1, ov_f2, ov_f3, ov_f4, ov_f5, ov_f6, ov_f7, ov_f8, ov_f9, ov_f10, ov_f11, ov_f12, ov_f13, ov_f14, ov_f15, ov_f16, ov_r, ov_w, ov_w1, ov_w2, ov_w4, ov_w5, ov_w6, ov_w7, ov_w9, ov_w11, ov_w13, ov_w16, up_s, up_k, up_j, up_up, q_psh_n, q_psh_s, bI_eq0, ite_not, ↓if_pos, ↓if_neg, ↓ite_bI_t, ↓ite_bI_f, e0, tX13_lays hK, H3]
    | succ n1 ih =>
      intro k hk l6
      obtain ⟨i1, i2, i3, i4, i5⟩ := hl k (by omega)
      have e0 : (rMl (rM0 S p into y) p into y NP k).1 1 0 = n := by rw [i3 0 (by omega), j2 0 (by omega), hn]
      have e2 : (rMl (rM0 S p into y) p into y NP k).1 1 2 = NP := by rw [i3 2 (by omega), j2 2 (by omega), hP]
      have ef : rFst (rMl (rM0 S p into y) p into y NP k).1 k p y NP = rFst (rM0 S p into y) k p y NP := rFst_c (fun j hj => i3 j (by omega))
      have hf := hd k (by omega)
      rw [← ef] at hf
      have i4' := i4 k (by omega) (by omega)
      have H4 := fun z : QP => tX13_firstDay (d := d) (x := z) hK i1 (p := k) (par := p) (fr := y) e2 (Nat.le_of_lt hP2) (by omega) (by omega) (by omega) (by omega) (by omega) (by omega)
      have H5 := fun z : QP => tX13_happens (d := d + 2) (x := z) hK i1 (p := k) (y := rFst (rMl (rM0 S p into y) p into y NP k).1 k p y NP) (sort := 8) (num := into) (by omega) (by omega) i4'.1
      have ih' := ih (k + 1) (by omega) (some (qi (rFst (rMl (rM0 S p into y) p into y NP k).1 k p y NP)))
      rw [rMl] at ih'
      rw [kX13_merges_30]
      by_cases g : rFst (rMl (rM0 S p into y) p into y NP k).1 k p y NP = -1
      · rw [if_pos g] at ih'
        simp (disch := first | assumption | exact RK0 hK | exact RK1a hK | exact RK2a hK | exact RK3a hK | exact RK4a hK | exact RK5a hK | exact RK6a hK | exact RK7a hK | exact RGl hR | exact RGh hR | exact bI_lo | exact bI_hi | exact bI_01 | (show (List.map q_wd _).sum ≤ 8; with_unfolding_all exact Nat.le_of_ble_eq_true rfl) | (refine RK1c hK ?_; omega) | (refine RK2c hK ?_; omega) | (refine RK3c hK ?_; omega) | (refine RK4c hK ?_; omega) | (refine RK5c hK ?_; omega) | (refine RK6c hK ?_; omega) | (refine RK7c hK ?_; omega) | omega) only [kX13_merges_0, kX13_merges_1, kX13_merges_2, kX13_merges_3, kX13_merges_4E, kX13_merges_7, kX13_merges_8, kX13_merges_9, kX13_merges_10, kX13_merges_11, kX13_merges_12E, kX13_merges_15, kX13_merges_16, kX13_merges_17, kX13_merges_18, kX13_merges_20, kX13_merges_21E, kX13_merges_24, kX13_merges_25, kX13_merges_27, kX13_merges_28, kX13_merges_32, kX13_merges_33, kX13_merges_36, kX13_merges_37, kX13_merges_38, kX13_merges_41, kX13_merges_42, kX13_merges_44, kX13_merges_45, kX13_merges_46E, kX13_merges_49, kX13_merges_51, kX13_merges_53, kX13_merges_54, kX13_merges_57, kX13_merges_60, kX13_merges_61, kX13_merges_63, kX13_merges_65, kX13_merges_67, kX13_merges_68E, kX13_merges_71, kX13_merges_74, kX13_merges_77, kX13_merges_80, kX13_merges_81, kX13_merges_82, kX13_merges_83, kX13_merges_84E, kX13_merges_87, kX13_merges_88, kX13_merges_89, kX13_merges_90, kX13_merges_91E, kX13_merges_94, kX13_merges_95, kX13_merges_96, kX13_merges_97, kX13_merges_98, kX13_merges_99, kX13_merges_100E, kX13_merges_103, kX13_merges_104, kX13_merges_107, kX13_merges_108, kX13_merges_109, kX13_merges_110, kX13_merges_111, kX13_merges_112, kX13_merges_113, kX13_merges_115, q_cut_i, q_cut_r, q_cut_l, q_cut_n, q_kd_ov, ov_f0, ov_f1, ov_f2, ov_f3, ov_f4, ov_f5, ov_f6, ov_f7, ov_f8, ov_f9, ov_f10, ov_f11, ov_f12, ov_f13, ov_f14, ov_f15, ov_f16, ov_r, ov_w, ov_w1, ov_w2, ov_w4, ov_w5, ov_w6, ov_w7, ov_w9, ov_w11, ov_w13, ov_w16, up_s, up_k, up_j, up_up, q_psh_n, q_psh_s, bI_eq0, ite_not, ↓if_pos, ↓if_neg, ↓ite_bI_t, ↓ite_bI_f, e0, H4]
        exact ih'
      · rw [if_neg g] at ih'
        simp (disch := first | assumption | exact RK0 hK | exact RK1a hK | exact RK2a hK | exact RK3a hK | exact RK4a hK | exact RK5a hK | exact RK6a hK | exact RK7a hK | exact RGl hR | exact RGh hR | exact bI_lo | exact bI_hi | exact bI_01 | (show (List.map q_wd _).sum ≤ 8; with_unfolding_all exact Nat.le_of_ble_eq_true rfl) | (refine RK1c hK ?_; omega) | (refine RK2c hK ?_; omega) | (refine RK3c hK ?_; omega) | (refine RK4c hK ?_; omega) | (refine RK5c hK ?_; omega) | (refine RK6c hK ?_; omega) | (refine RK7c hK ?_; omega) | omega) only [kX13_merges_0, kX13_merges_1, kX13_merges_2, kX13_merges_3, kX13_merges_4E, kX13_merges_7, kX13_merges_8, kX13_merges_9, kX13_merges_10, kX13_merges_11, kX13_merges_12E, kX13_merges_15, kX13_merges_16, kX13_merges_17, kX13_merges_18, kX13_merges_20, kX13_merges_21E, kX13_merges_24, kX13_merges_25, kX13_merges_27, kX13_merges_28, kX13_merges_32, kX13_merges_33, kX13_merges_36, kX13_merges_37, kX13_merges_38, kX13_merges_41, kX13_merges_42, kX13_merges_44, kX13_merges_45, kX13_merges_46E, kX13_merges_49, kX13_merges_51, kX13_merges_53, kX13_merges_54, kX13_merges_57, kX13_merges_60, kX13_merges_61, kX13_merges_63, kX13_merges_65, kX13_merges_67, kX13_merges_68E, kX13_merges_71, kX13_merges_74, kX13_merges_77, kX13_merges_80, kX13_merges_81, kX13_merges_82, kX13_merges_83, kX13_merges_84E, kX13_merges_87, kX13_merges_88, kX13_merges_89, kX13_merges_90, kX13_merges_91E, kX13_merges_94, kX13_merges_95, kX13_merges_96, kX13_merges_97, kX13_merges_98, kX13_merges_99, kX13_merges_100E, kX13_merges_103, kX13_merges_104, kX13_merges_107, kX13_merges_108, kX13_merges_109, kX13_merges_110, kX13_merges_111, kX13_merges_112, kX13_merges_113, kX13_merges_115, q_cut_i, q_cut_r, q_cut_l, q_cut_n, q_kd_ov, ov_f0, ov_f1, ov_f2, ov_f3, ov_f4, ov_f5, ov_f6, ov_f7, ov_f8, ov_f9, ov_f10, ov_f11, ov_f12, ov_f13, ov_f14, ov_f15, ov_f16, ov_r, ov_w, ov_w1, ov_w2, ov_w4, ov_w5, ov_w6, ov_w7, ov_w9, ov_w11, ov_w13, ov_w16, up_s, up_k, up_j, up_up, q_psh_n, q_psh_s, bI_eq0, ite_not, ↓if_pos, ↓if_neg, ↓ite_bI_t, ↓ite_bI_f, e0, H4, H5]
        exact ih'
  rw [eX13_merges]
  simp (disch := first | assumption | exact RK0 hK | exact RK1a hK | exact RK2a hK | exact RK3a hK | exact RK4a hK | exact RK5a hK | exact RK6a hK | exact RK7a hK | exact RGl hR | exact RGh hR | exact bI_lo | exact bI_hi | exact bI_01 | (show (List.map q_wd _).sum ≤ 8; with_unfolding_all exact Nat.le_of_ble_eq_true rfl) | (refine RK1c hK ?_; omega) | (refine RK2c hK ?_; omega) | (refine RK3c hK ?_; omega) | (refine RK4c hK ?_; omega) | (refine RK5c hK ?_; omega) | (refine RK6c hK ?_; omega) | (refine RK7c hK ?_; omega) | omega) only [kX13_merges_0, kX13_merges_1, kX13_merges_2, kX13_merges_3, kX13_merges_4E, kX13_merges_7, kX13_merges_8, kX13_merges_9, kX13_merges_10, kX13_merges_11, kX13_merges_12E, kX13_merges_15, kX13_merges_16, kX13_merges_17, kX13_merges_18, kX13_merges_20, kX13_merges_21E, kX13_merges_24, kX13_merges_25, kX13_merges_27, kX13_merges_28, q_cut_i, q_cut_r, q_cut_l, q_cut_n, q_kd_ov, ov_f0, ov_f1, ov_f2, ov_f3, ov_f4, ov_f5, ov_f6, ov_f7, ov_f8, ov_f9, ov_f10, ov_f11, ov_f12, ov_f13, ov_f14, ov_f15, ov_f16, ov_r, ov_w, ov_w1, ov_w2, ov_w4, ov_w5, ov_w6, ov_w7, ov_w9, ov_w11, ov_w13, ov_w16, up_s, up_k, up_j, up_up, q_psh_n, q_psh_s, bI_eq0, ite_not, ↓if_pos, ↓if_neg, ↓ite_bI_t, ↓ite_bI_f, tX13_lays hK, H1, H2]
  exact loop n 0 (by omega) _
/-- copies of blocks -/
def rCpN (S : RS) (f t : Int) (n : Nat) : RS := fun k j => if k = 1 ∧ 13475 * t ≤ j ∧ j < 13475 * t + n then S 1 (13475 * f + (j - 13475 * t)) else S k j
theorem rCpN_0 {S : RS} {f t : Int} : rCpN S f t 0 = S := by
  funext k j
  unfold rCpN
  rw [if_neg (by omega)]
theorem rCpN_k {S : RS} {f t : Int} {n k : Nat} (h : k ≠ 1) : rCpN S f t n k = S k := by
  funext j
  unfold rCpN
  rw [if_neg (by omega)]
theorem rCpN_o {S : RS} {f t j : Int} {n : Nat} (h : j < 13475 * t ∨ 13475 * t + n ≤ j) : rCpN S f t n 1 j = S 1 j := by
  unfold rCpN
  rw [if_neg (by omega)]
theorem rCpN_i {S : RS} {f t j : Int} {n : Nat} (h : 0 ≤ j) (h2 : j < n) : rCpN S f t n 1 (13475 * t + j) = S 1 (13475 * f + j) := by
  unfold rCpN
  rw [if_pos (by omega)]
  congr 1
  omega
theorem rCpN_s {S : RS} {f t : Int} {n : Nat} : up (rCpN S f t n) 1 (13475 * t + n) (S 1 (13475 * f + n)) = rCpN S f t (n + 1) := by
  funext k j
  unfold up rCpN
  by_cases h : k = 1 ∧ j = 13475 * t + n
  · rw [if_pos h, if_pos (by omega), h.2]
    congr 1
    omega
  · rw [if_neg h]
    by_cases h2 : k = 1 ∧ 13475 * t ≤ j ∧ j < 13475 * t + n
    · rw [if_pos h2, if_pos (by omega)]
    · rw [if_neg h2, if_neg (by omega)]
theorem RG_rCpN {S : RS} (hR : RG S) {f t : Int} {n : Nat} : RG (rCpN S f t n) := by
  intro k j
  unfold rCpN
  split
  · exact hR 1 _
  · exact hR k j
theorem tX13_copies {d m : Nat} {S : RS} {M : QM} {x : QP} (hK : RK m M) (hR : RG S) {f t : Int} (h1 : 0 ≤ f ∧ f < 9) (h2 : 0 ≤ t ∧ t < 9) (h3 : f ≠ t) : q_T (d + 1) iX13_copies [qr m, qi f, qi t] (ov m S M) x = x none (ov m (rCpN S f t 13475) M) := by
  have loop : ∀ n k : Nat, k + n = 13475 → Rr (q_C d) mX13_copies (2, [some (qr m), some (qi f), some (qi t), some (qi k)], [], ov m (rCpN S f t k) M) x = x none (ov m (rCpN S f t 13475) M) := by
    intro n
    induction n with
    | zero =>
      intro k hk
      have e : k = 13475 := by omega
      subst e
      rw [kX13_copies_2]
      simp (disch := first | assumption | exact RK0 hK | exact RK1a hK | exact RK2a hK | exact RK3a hK | exact RK4a hK | exact RK5a hK | exact RK6a hK | exact RK7a hK | exact RGl hR | exact RGh hR | exact bI_lo | exact bI_hi | exact bI_01 | (show (List.map q_wd _).sum ≤ 8; with_unfolding_all exact Nat.le_of_ble_eq_true rfl) | (refine RK1c hK ?_; omega) | (refine RK2c hK ?_; omega) | (refine RK3c hK ?_; omega) | (refine RK4c hK ?_; omega) | (refine RK5c hK ?_; omega) | (refine RK6c hK ?_; omega) | (refine RK7c hK ?_; omega) | omega) only [kX13_copies_0, kX13_copies_1, kX13_copies_3, kX13_copies_6, kX13_copies_9, kX13_copies_10, kX13_copies_13, kX13_copies_16, kX13_copies_17, kX13_copies_18, kX13_copies_19, kX13_copies_20, kX13_copies_21, kX13_copies_24, kX13_copies_27, kX13_copies_28, kX13_copies_29, kX13_copies_30, kX13_copies_31, kX13_copies_32, kX13_copies_33, kX13_copies_36, kX13_copies_39, q_cut_i, q_cut_r, q_cut_l, q_cut_n, q_kd_ov, ov_f0, ov_f1, ov_f2, ov_f3, ov_f4, ov_f5, ov_f6, ov_f7, ov_f8, ov_f9, ov_f10, ov_f11, ov_f12, ov_f13, ov_f14, ov_f15, ov_f16, ov_r, ov_w, ov_w1, ov_w2, ov_w4, ov_w5, ov_w6, ov_w7, ov_w9, ov_w11, ov_w13, ov_w16, up_s, up_k, up_j, up_up, q_psh_n, q_psh_s, bI_eq0, ite_not, ↓if_pos, ↓if_neg, ↓ite_bI_t, ↓ite_bI_f]
    | succ n ih =>
      intro k hk
      have ih' := ih (k + 1) (by omega)
      rw [← rCpN_s] at ih'
      have e : rCpN S f t k 1 (13475 * f + k) = S 1 (13475 * f + k) := rCpN_o (by omega)
      rw [kX13_copies_2]
      simp (disch := first | assumption | exact RK0 hK | exact RK1a hK | exact RK2a hK | exact RK3a hK | exact RK4a hK | exact RK5a hK | exact RK6a hK | exact RK7a hK | exact RGl hR | exact RGh hR | exact bI_lo | exact bI_hi | exact bI_01 | (show (List.map q_wd _).sum ≤ 8; with_unfolding_all exact Nat.le_of_ble_eq_true rfl) | (refine RK1c hK ?_; omega) | (refine RK2c hK ?_; omega) | (refine RK3c hK ?_; omega) | (refine RK4c hK ?_; omega) | (refine RK5c hK ?_; omega) | (refine RK6c hK ?_; omega) | (refine RK7c hK ?_; omega) | omega) only [kX13_copies_0, kX13_copies_1, kX13_copies_3, kX13_copies_6, kX13_copies_9, kX13_copies_10, kX13_copies_13, kX13_copies_16, kX13_copies_17, kX13_copies_18, kX13_copies_19, kX13_copies_20, kX13_copies_21, kX13_copies_24, kX13_copies_27, kX13_copies_28, kX13_copies_29, kX13_copies_30, kX13_copies_31, kX13_copies_32, kX13_copies_33, kX13_copies_36, kX13_copies_39, q_cut_i, q_cut_r, q_cut_l, q_cut_n, q_kd_ov, ov_f0, ov_f1, ov_f2, ov_f3, ov_f4, ov_f5, ov_f6, ov_f7, ov_f8, ov_f9, ov_f10, ov_f11, ov_f12, ov_f13, ov_f14, ov_f15, ov_f16, ov_r, ov_w, ov_w1, ov_w2, ov_w4, ov_w5, ov_w6, ov_w7, ov_w9, ov_w11, ov_w13, ov_w16, up_s, up_k, up_j, up_up, q_psh_n, q_psh_s, bI_eq0, ite_not, ↓if_pos, ↓if_neg, ↓ite_bI_t, ↓ite_bI_f, e]
      exact ih'
  have l0 := loop 13475 0 rfl
  rw [rCpN_0] at l0
  rw [eX13_copies]
  simp (disch := first | assumption | exact RK0 hK | exact RK1a hK | exact RK2a hK | exact RK3a hK | exact RK4a hK | exact RK5a hK | exact RK6a hK | exact RK7a hK | exact RGl hR | exact RGh hR | exact bI_lo | exact bI_hi | exact bI_01 | (show (List.map q_wd _).sum ≤ 8; with_unfolding_all exact Nat.le_of_ble_eq_true rfl) | (refine RK1c hK ?_; omega) | (refine RK2c hK ?_; omega) | (refine RK3c hK ?_; omega) | (refine RK4c hK ?_; omega) | (refine RK5c hK ?_; omega) | (refine RK6c hK ?_; omega) | (refine RK7c hK ?_; omega) | omega) only [kX13_copies_0, kX13_copies_1, q_cut_i, q_cut_r, q_cut_l, q_cut_n]
  exact l0
def rSh (S : RS) : RS := rCpN (rCpN (rCpN (rCpN (rCpN S 2 1 13475) 3 2 13475) 4 3 13475) 5 4 13475) 6 5 13475
def rKeep (S : RS) : RS := if S 0 1 = 6 then rCpN (rSh S) 0 6 13475 else rCpN (up S 0 1 (S 0 1 + 1)) 0 (S 0 1 + 1) 13475
theorem tX13_keeps {d m : Nat} {S : RS} {M : QM} {x : QP} (hK : RK m M) (hR : RG S) (h1 : 0 ≤ S 0 1 ∧ S 0 1 ≤ 6) : q_T (d + 2) iX13_keeps [qr m] (ov m S M) x = x none (ov m (rKeep S) M) := by
  rw [eX13_keeps]
  unfold rKeep
  by_cases g : S 0 1 = 6
  · rw [if_pos g]
    have R1 := RG_rCpN hR (f := 2) (t := 1) (n := 13475)
    have R2 := RG_rCpN R1 (f := 3) (t := 2) (n := 13475)
    have R3 := RG_rCpN R2 (f := 4) (t := 3) (n := 13475)
    have R4 := RG_rCpN R3 (f := 5) (t := 4) (n := 13475)
    have R5 := RG_rCpN R4 (f := 6) (t := 5) (n := 13475)
    have c1 := fun z : QP => tX13_copies (d := d) (x := z) hK hR (f := 2) (t := 1) (by omega) (by omega) (by omega)
    have c2 := fun z : QP => tX13_copies (d := d) (x := z) hK R1 (f := 3) (t := 2) (by omega) (by omega) (by omega)
    have c3 := fun z : QP => tX13_copies (d := d) (x := z) hK R2 (f := 4) (t := 3) (by omega) (by omega) (by omega)
    have c4 := fun z : QP => tX13_copies (d := d) (x := z) hK R3 (f := 5) (t := 4) (by omega) (by omega) (by omega)
    have c5 := fun z : QP => tX13_copies (d := d) (x := z) hK R4 (f := 6) (t := 5) (by omega) (by omega) (by omega)
    have e0 : rSh S 0 1 = 6 := by unfold rSh; rw [rCpN_k (by omega), rCpN_k (by omega), rCpN_k (by omega), rCpN_k (by omega), rCpN_k (by omega), g]
    have c6 := fun z : QP => tX13_copies (d := d) (x := z) hK (S := rSh S) R5 (f := 0) (t := 6) (by omega) (by omega) (by omega)
    have e6 : up (rSh S) 0 1 6 = rSh S := by
      have := up_same (S := rSh S) (k := 0) (j := 1)
      rw [e0] at this; exact this
    simp (disch := first | assumption | exact RK0 hK | exact RK1a hK | exact RK2a hK | exact RK3a hK | exact RK4a hK | exact RK5a hK | exact RK6a hK | exact RK7a hK | exact RGl hR | exact RGh hR | exact bI_lo | exact bI_hi | exact bI_01 | (show (List.map q_wd _).sum ≤ 8; with_unfolding_all exact Nat.le_of_ble_eq_true rfl) | (refine RK1c hK ?_; omega) | (refine RK2c hK ?_; omega) | (refine RK3c hK ?_; omega) | (refine RK4c hK ?_; omega) | (refine RK5c hK ?_; omega) | (refine RK6c hK ?_; omega) | (refine RK7c hK ?_; omega) | omega) only [kX13_keeps_0, kX13_keeps_1, kX13_keeps_4, kX13_keeps_6, kX13_keeps_9, q_cut_i, q_cut_r, q_cut_l, q_cut_n, q_kd_ov, ov_f0, ov_f1, ov_f2, ov_f3, ov_f4, ov_f5, ov_f6, ov_f7, ov_f8, ov_f9, ov_f10, ov_f11, ov_f12, ov_f13, ov_f14, ov_f15, ov_f16, ov_r, ov_w, ov_w1, ov_w2, ov_w4, ov_w5, ov_w6, ov_w7, ov_w9, ov_w11, ov_w13, ov_w16, up_s, up_k, up_j, up_up, q_psh_n, q_psh_s, bI_eq0, ite_not, ↓if_pos, ↓if_neg, ↓ite_bI_t, ↓ite_bI_f]
    have st : ∀ (k k' : Int) (T : RS) (z : QP), k' = k + 1 → 1 ≤ k → k < 6 → RG T → Rr (q_C (d + 1)) mX13_keeps (11, [some (qr m), some (qi k)], [], ov m T M) z = Rr (q_C (d + 1)) mX13_keeps (11, [some (qr m), some (qi k')], [], ov m (rCpN T k' k 13475) M) z := by
      intro k k' T z e k1 k2 hT
      subst e
      rw [kX13_keeps_11]
      simp (disch := first | assumption | exact RK0 hK | exact RK1a hK | exact RK2a hK | exact RK3a hK | exact RK4a hK | exact RK5a hK | exact RK6a hK | exact RK7a hK | exact RGl hR | exact RGh hR | exact bI_lo | exact bI_hi | exact bI_01 | (show (List.map q_wd _).sum ≤ 8; with_unfolding_all exact Nat.le_of_ble_eq_true rfl) | (refine RK1c hK ?_; omega) | (refine RK2c hK ?_; omega) | (refine RK3c hK ?_; omega) | (refine RK4c hK ?_; omega) | (refine RK5c hK ?_; omega) | (refine RK6c hK ?_; omega) | (refine RK7c hK ?_; omega) | omega) only [kX13_keeps_0, kX13_keeps_1, kX13_keeps_4, kX13_keeps_6, kX13_keeps_9, kX13_keeps_10, kX13_keeps_12, kX13_keeps_14, kX13_keeps_17, kX13_keeps_18, kX13_keeps_19, kX13_keeps_20, kX13_keeps_21, kX13_keeps_22E, kX13_keeps_25, kX13_keeps_28, kX13_keeps_31, kX13_keeps_32i, kX13_keeps_32r, kX13_keeps_33, kX13_keeps_36, kX13_keeps_37, kX13_keeps_38, kX13_keeps_41, kX13_keeps_42i, kX13_keeps_42r, kX13_keeps_43, kX13_keeps_46, kX13_keeps_47, kX13_keeps_48, kX13_keeps_51, kX13_keeps_52, kX13_keeps_53, kX13_keeps_54, kX13_keeps_57E, kX13_keeps_60, q_cut_i, q_cut_r, q_cut_l, q_cut_n, q_kd_ov, ov_f0, ov_f1, ov_f2, ov_f3, ov_f4, ov_f5, ov_f6, ov_f7, ov_f8, ov_f9, ov_f10, ov_f11, ov_f12, ov_f13, ov_f14, ov_f15, ov_f16, ov_r, ov_w, ov_w1, ov_w2, ov_w4, ov_w5, ov_w6, ov_w7, ov_w9, ov_w11, ov_w13, ov_w16, up_s, up_k, up_j, up_up, q_psh_n, q_psh_s, bI_eq0, ite_not, ↓if_pos, ↓if_neg, ↓ite_bI_t, ↓ite_bI_f, tX13_copies hK hT]
    rw [kX13_keeps_10, q_cut_r, st 1 2 S x rfl (by omega) (by omega) hR, st 2 3 _ x rfl (by omega) (by omega) R1, st 3 4 _ x rfl (by omega) (by omega) R2, st 4 5 _ x rfl (by omega) (by omega) R3, st 5 6 _ x rfl (by omega) (by omega) R4]
    show Rr (q_C (d + 1)) mX13_keeps (11, [some (qr m), some (qi 6)], [], ov m (rSh S) M) x = _
    rw [kX13_keeps_11]
    simp (disch := first | assumption | exact RK0 hK | exact RK1a hK | exact RK2a hK | exact RK3a hK | exact RK4a hK | exact RK5a hK | exact RK6a hK | exact RK7a hK | exact RGl hR | exact RGh hR | exact bI_lo | exact bI_hi | exact bI_01 | (show (List.map q_wd _).sum ≤ 8; with_unfolding_all exact Nat.le_of_ble_eq_true rfl) | (refine RK1c hK ?_; omega) | (refine RK2c hK ?_; omega) | (refine RK3c hK ?_; omega) | (refine RK4c hK ?_; omega) | (refine RK5c hK ?_; omega) | (refine RK6c hK ?_; omega) | (refine RK7c hK ?_; omega) | omega) only [kX13_keeps_0, kX13_keeps_1, kX13_keeps_4, kX13_keeps_6, kX13_keeps_9, kX13_keeps_10, kX13_keeps_12, kX13_keeps_14, kX13_keeps_17, kX13_keeps_18, kX13_keeps_19, kX13_keeps_20, kX13_keeps_21, kX13_keeps_22E, kX13_keeps_25, kX13_keeps_28, kX13_keeps_31, kX13_keeps_32i, kX13_keeps_32r, kX13_keeps_33, kX13_keeps_36, kX13_keeps_37, kX13_keeps_38, kX13_keeps_41, kX13_keeps_42i, kX13_keeps_42r, kX13_keeps_43, kX13_keeps_46, kX13_keeps_47, kX13_keeps_48, kX13_keeps_51, kX13_keeps_52, kX13_keeps_53, kX13_keeps_54, kX13_keeps_57E, kX13_keeps_60, q_cut_i, q_cut_r, q_cut_l, q_cut_n, q_kd_ov, ov_f0, ov_f1, ov_f2, ov_f3, ov_f4, ov_f5, ov_f6, ov_f7, ov_f8, ov_f9, ov_f10, ov_f11, ov_f12, ov_f13, ov_f14, ov_f15, ov_f16, ov_r, ov_w, ov_w1, ov_w2, ov_w4, ov_w5, ov_w6, ov_w7, ov_w9, ov_w11, ov_w13, ov_w16, up_s, up_k, up_j, up_up, q_psh_n, q_psh_s, bI_eq0, ite_not, ↓if_pos, ↓if_neg, ↓ite_bI_t, ↓ite_bI_f, e0]
    rw [show (6 : Int) - 1 + 1 = 6 from rfl, e6, c6, q_psh_n, kX13_keeps_60]
  · rw [if_neg g]
    have R1 : RG (up S 0 1 (S 0 1 + 1)) := RG_up hR (by omega) (by omega)
    have c1 := fun z : QP => tX13_copies (d := d) (x := z) hK R1 (f := 0) (t := S 0 1 + 1) (by omega) (by omega) (by omega)
    simp (disch := first | assumption | exact RK0 hK | exact RK1a hK | exact RK2a hK | exact RK3a hK | exact RK4a hK | exact RK5a hK | exact RK6a hK | exact RK7a hK | exact RGl hR | exact RGh hR | exact bI_lo | exact bI_hi | exact bI_01 | (show (List.map q_wd _).sum ≤ 8; with_unfolding_all exact Nat.le_of_ble_eq_true rfl) | (refine RK1c hK ?_; omega) | (refine RK2c hK ?_; omega) | (refine RK3c hK ?_; omega) | (refine RK4c hK ?_; omega) | (refine RK5c hK ?_; omega) | (refine RK6c hK ?_; omega) | (refine RK7c hK ?_; omega) | omega) only [kX13_keeps_0, kX13_keeps_1, kX13_keeps_4, kX13_keeps_6, kX13_keeps_9, kX13_keeps_10, kX13_keeps_11, kX13_keeps_12, kX13_keeps_14, kX13_keeps_17, kX13_keeps_18, kX13_keeps_19, kX13_keeps_20, kX13_keeps_21, kX13_keeps_22E, kX13_keeps_25, kX13_keeps_28, kX13_keeps_31, kX13_keeps_32i, kX13_keeps_32r, kX13_keeps_33, kX13_keeps_36, kX13_keeps_37, kX13_keeps_38, kX13_keeps_41, kX13_keeps_42i, kX13_keeps_42r, kX13_keeps_43, kX13_keeps_46, kX13_keeps_47, kX13_keeps_48, kX13_keeps_51, kX13_keeps_52, kX13_keeps_53, kX13_keeps_54, kX13_keeps_57E, kX13_keeps_60, q_cut_i, q_cut_r, q_cut_l, q_cut_n, q_kd_ov, ov_f0, ov_f1, ov_f2, ov_f3, ov_f4, ov_f5, ov_f6, ov_f7, ov_f8, ov_f9, ov_f10, ov_f11, ov_f12, ov_f13, ov_f14, ov_f15, ov_f16, ov_r, ov_w, ov_w1, ov_w2, ov_w4, ov_w5, ov_w6, ov_w7, ov_w9, ov_w11, ov_w13, ov_w16, up_s, up_k, up_j, up_up, q_psh_n, q_psh_s, bI_eq0, ite_not, ↓if_pos, ↓if_neg, ↓ite_bI_t, ↓ite_bI_f, c1]
