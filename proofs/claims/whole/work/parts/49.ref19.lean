/-! the reference's methods: the calls that change -/
theorem rPar_c2 {b b' : Int → Int} {p y : Int} : ∀ n : Nat, n ≤ 1400 → (∀ j : Int, j < 13475 → b' j = b j) → rPar b' p y n = rPar b p y n
  | 0, _, _ => rfl
  | n + 1, hn, h => by rw [rPar, rPar, rPar_c2 n (by omega) h, h _ (by omega), h _ (by omega), h _ (by omega)]
theorem rNoE_c2 {S T : RS} {p y : Int} (h0 : S 1 0 ≤ 20) (h : ∀ j : Int, j < 13475 → T 1 j = S 1 j) : rNoE T p y = rNoE S p y := by
  unfold rNoE
  rw [h 0 (by omega)]
  by_cases g : 0 ≤ p ∧ p ≤ S 1 0 - 1
  · rw [h (15 + 78 * p + 2) (by omega), h (15 + 78 * p + 4) (by omega)]
  · rw [if_pos g, if_pos g]
theorem RB_c2 {S T : RS} {n N NP : Nat} (hNP : NP < 700) (h : ∀ j : Int, j < 13475 → T 1 j = S 1 j) (hb : RB S n N NP) : RB T n N NP := by
  obtain ⟨hn, hn2, e1, e2, b5, b6, b7, b8, b9, b10, b11⟩ := hb
  refine ⟨by rw [h 0 (by omega), hn], hn2, by rw [h 1 (by omega), e1], by rw [h 2 (by omega), e2], fun q q1 q2 => ?_, fun k hk => ?_, fun q hq => ?_, fun q q1 q2 => ?_, fun p y => ?_, fun p y g1 g2 => ?_, fun q q1 q2 => ?_⟩
  · rw [h _ (by omega)]; exact b5 q q1 q2
  · rw [h _ (by omega)]; exact b6 k hk
  · rw [h _ (by omega)]; exact b7 q hq
  · rw [h _ (by omega)]; exact b8 q q1 q2
  · rw [rPar_c2 NP (by omega) h]; exact b9 p y
  · rw [rNoE_c2 (by omega) h] at g1
    have := rNoE_0 g1
    rw [h _ (by omega)] at g2
    rw [rPar_c2 NP (by omega) h]; exact b10 p y g1 g2
  · rw [h _ (by omega)]; exact b11 q q1 q2
theorem rSpl_k {S : RS} {p y : Int} {N k : Nat} (h : k ≠ 1) : rSpl S p y N k = S k := by
  unfold rSpl
  dsimp only
  rw [up_k h, rHap_k h, up_k h, rHap_k h, rFou_k h]
theorem rMl_k {T : RS} {p into y : Int} {N : Nat} {k : Nat} (h : k ≠ 1) : ∀ n : Nat, (rMl T p into y N n).1 k = T k
  | 0 => rfl
  | n + 1 => by
    rw [rMl]
    split
    · exact rMl_k h n
    · show rHap _ _ _ _ _ k = _
      rw [rHap_k h, rMl_k h n]
theorem rMrg_k {S : RS} {p into y : Int} {N n k : Nat} (h : k ≠ 1) : rMrg S p into y N n k = S k := by
  unfold rMrg rM0
  dsimp only
  rw [up_k h, rTell_k h, up_k h, up_k h, rMl_k h, rHap_k h, rHap_k h, up_k h]
theorem rOp_k {S : RS} {cc a b y : Int} {NP n k : Nat} (h : k ≠ 1) : rOp S cc a b y NP n k = S k := by
  unfold rOp rRen rMov rClo
  repeat' split
  · exact rFou_k h
  · rw [rHap_k h, up_k h, rNms_k h]
  · rw [rHap_k h, up_k h, rTell_k h]
  · exact rSpl_k h
  · exact rMrg_k h
  · rw [rHap_k h, up_k h, up_k h]
/-- what holds where a command may be done -/
def cOk (cc a b y : Int) : Prop := (cc = 102 → 0 ≤ a ∧ a ≤ 3) ∧ (cc = 102 ∨ cc = 114 ∨ cc = 109 ∨ cc = 115 ∨ cc = 103 ∨ cc = 99)
theorem RG_rSpl {S : RS} (hR : RG S) {p y : Int} {n N NP c : Nat} (hn : S 1 0 = n) (hn2 : n < 20) (hN : S 1 1 = N) (hN2 : N < 700) (hP : S 1 2 = NP) (hP2 : NP < 700) (hc : S 0 9 = c) (hc2 : c ≤ 8) (h1 : 0 ≤ p ∧ p < n) (h3 : -1000000 ≤ y ∧ y ≤ 1000000) (hk : 0 ≤ S 1 (15 + 78 * p + 0) ∧ S 1 (15 + 78 * p + 0) ≤ 1000000) (hp : -1000000 ≤ rPar (S 1) p y NP ∧ rPar (S 1) p y NP ≤ 1000000) (h5 : 0 ≤ S 1 (15 + 78 * p + 5)) (h6 : S 1 (15 + 78 * p + 5) ≤ 100000) (hs : S 1 6 ≤ 1000000) : RG (rSpl S p y NP) := by
  have R1 := RG_rFou hR hn hn2 hN hN2 hP hP2 hc hc2 hk (fun _ => hp) h3
  obtain ⟨f5, f0⟩ := rFou_5 (k := S 1 (15 + 78 * p + 0)) (par := rPar (S 1) p y NP) (y := y) hn hn2 hN hN2 hP hP2 hc hc2
  have fo : ∀ j : Int, 3 ≤ j → (j < 15 + 78 * n) → rFou S (S 1 (15 + 78 * p + 0)) (rPar (S 1) p y NP) y 1 j = S 1 j := fun j g1 g2 => rFou_o hn hn2 hN hN2 hP hP2 hc hc2 g1 (Or.inl g2)
  unfold rSpl
  rw [hn]
  obtain ⟨S1, hS1⟩ : ∃ S1, S1 = rFou S (S 1 (15 + 78 * p + 0)) (rPar (S 1) p y NP) y := ⟨_, rfl⟩
  rw [← hS1] at R1 f5 f0 fo ⊢
  have R2 : RG (rHap S1 n y 5 p) := RG_rHap R1 h3 (by omega) (by omega) (by omega)
  have R3 : RG (up (rHap S1 n y 5 p) 1 (15 + 78 * p + 4) y) := RG_up R2 (by omega) (by omega)
  have g5 : up (rHap S1 n y 5 p) 1 (15 + 78 * p + 4) y 1 (15 + 78 * p + 5) = S 1 (15 + 78 * p + 5) := by
    rw [up_j (by omega), rHap_o (by omega) (by omega), fo _ (by omega) (by omega)]
  have g6 : rHap (up (rHap S1 n y 5 p) 1 (15 + 78 * p + 4) y) p y 7 n 1 6 = S 1 6 := by
    rw [rHap_o (by omega) (by omega), up_j (by omega), rHap_o (by omega) (by omega), fo _ (by omega) (by omega)]
  have R4 : RG (rHap (up (rHap S1 n y 5 p) 1 (15 + 78 * p + 4) y) p y 7 n) := RG_rHap R3 h3 (by omega) (by omega) (by omega)
  have := (hR 1 6).1
  dsimp only
  exact RG_up R4 (by rw [g6]; omega) (by rw [g6]; omega)
theorem RG_rMrg {S : RS} (hR : RG S) {p into y : Int} {n NP : Nat} (hn : S 1 0 = n) (hn2 : n ≤ 20) (hP : S 1 2 = NP) (hP2 : NP < 700) (h1 : 0 ≤ p ∧ p < 20) (h2 : 0 ≤ into ∧ into < 20) (h3 : -1000000 ≤ y ∧ y ≤ 1000000) (h5 : ∀ q : Int, 0 ≤ q → q < 20 → 0 ≤ S 1 (15 + 78 * q + 5) ∧ S 1 (15 + 78 * q + 5) ≤ 100000) (h6 : ∀ k : Nat, k < NP → -1000000 ≤ S 1 (9275 + 3 * (k : Int) + 1) ∧ S 1 (9275 + 3 * (k : Int) + 1) ≤ 1000000) (h7 : ∀ q : Nat, q < 20 → -1000000 ≤ S 1 (15 + 78 * (q : Int) + 1) ∧ S 1 (15 + 78 * (q : Int) + 1) ≤ 1000000) (hs : S 1 5 ≤ 1000000) : RG (rMrg S p into y NP n) ∧ (∀ q : Nat, q < 20 → rFst (rM0 S p into y) q p y NP = rFst S q p y NP) := by
  obtain ⟨R1, R2, k2, j2, v5, w5⟩ := rM0_f hR h1 h2 h3 h5
  have u5 : up S 1 (15 + 78 * p + 4) y 1 (15 + 78 * p + 5) = S 1 (15 + 78 * p + 5) := up_j (by omega)
  have ce : ∀ j : Int, (j < 15 ∨ 1575 ≤ j ∨ (j - 15) % 78 < 4) → rM0 S p into y 1 j = S 1 j := by
    intro j hj
    unfold rM0
    rw [rHap_o (v5 into h2.1 h2.2).1 (by omega), rHap_o (by rw [u5]; exact (h5 p h1.1 h1.2).1) (by omega), up_j (by omega)]
  have cf : ∀ q : Nat, q < 20 → rFst (rM0 S p into y) q p y NP = rFst S q p y NP := fun q hq => rFst_c ce
  have hd : ∀ q : Nat, q < 20 → -1000000 ≤ rFst (rM0 S p into y) q p y NP ∧ rFst (rM0 S p into y) q p y NP ≤ 1000000 := fun q hq => rFst_b (fun k hk => by rw [j2 _ (by omega)]; exact h6 k hk) (by rw [ce _ (by omega)]; exact h7 q hq) h3
  obtain ⟨i1, i2, i3, i4, i5⟩ := rMl_f h2 R2 hd w5 n hn2
  have e2 : (rMl (rM0 S p into y) p into y NP n).1 1 2 = NP := by rw [i3 2 (by omega), j2 2 (by omega), hP]
  have e5 : (rMl (rM0 S p into y) p into y NP n).1 1 5 = S 1 5 := by rw [i3 5 (by omega), j2 5 (by omega)]
  have R3 : RG (up (up (rMl (rM0 S p into y) p into y NP n).1 1 (15 + 78 * p + 2) y) 1 (15 + 78 * p + 3) into) := RG_up (RG_up i1 (by omega) (by omega)) (by omega) (by omega)
  have e3 : up (up (rMl (rM0 S p into y) p into y NP n).1 1 (15 + 78 * p + 2) y) 1 (15 + 78 * p + 3) into 1 2 = NP := by rw [up_j (by omega), up_j (by omega), e2]
  have R4 := RG_rTell R3 (p := -1 - p) (y := y) (par := into) (by omega) h3 (by omega) (by rw [e3]; omega)
  have e6 : rTell (up (up (rMl (rM0 S p into y) p into y NP n).1 1 (15 + 78 * p + 2) y) 1 (15 + 78 * p + 3) into) (-1 - p) y into 1 5 = S 1 5 := by
    rw [rTell_o (by omega) (by rw [e3]; omega), up_j (by omega), up_j (by omega), e5]
  have := (hR 1 5).1
  refine ⟨?_, cf⟩
  unfold rMrg
  dsimp only
  exact RG_up R4 (by rw [e6]; omega) (by rw [e6]; omega)
set_option maxHeartbeats 4000000 in
theorem RG_rOp {S : RS} (hR : RG S) {cc a b y : Int} {w n N NP : Nat} (hw : S 0 9 = w) (hw2 : w ≤ 8) (hb : RB S n N NP) (hN : N < 700) (hNP : NP < 700) (hs5 : S 1 5 ≤ 1000000) (hs6 : S 1 6 ≤ 1000000) (hc : cOk cc a b y) (g : rNo S cc a b y NP n = 0) : RG (rOp S cc a b y NP n) := by
  obtain ⟨hn, hn2, e1, e2, b5, b6, b7, b8, b9, b10, b11⟩ := hb
  obtain ⟨hk, rc⟩ := hc
  have hE : rNoE S a y = 0 → (0 ≤ a ∧ a < n) ∧ (-1000000 ≤ y ∧ y ≤ 1000000) ∧ 0 ≤ S 1 (15 + 78 * a + 5) ∧ S 1 (15 + 78 * a + 5) ≤ 100000 := by
    intro h
    obtain ⟨f1, f2, f3, f4, f5⟩ := rNoE_0 h
    have h5 := b5 a (by omega) (by omega)
    have h4 := b11 a (by omega) (by omega)
    exact ⟨by omega, by omega, h5⟩
  rcases rc with rfl | rfl | rfl | rfl | rfl | rfl
  · have g : rNoF S a b y = 0 := g
    obtain ⟨f1, f2, f3, f4⟩ := rNoF_0 g
    exact RG_rFou hR hn (by omega) e1 hN e2 hNP hw hw2 (by omega) (fun _ => by omega) (by omega)
  · have g : rNoE S a y = 0 := g
    obtain ⟨h1, h2, h3, h4⟩ := hE g
    show RG (rRen S a y)
    unfold rRen
    refine RG_rHap (RG_up (RG_rNms hR (by omega) h2 (by omega)) (by omega) (by omega)) h2 (by omega) (by omega) ?_
    rw [up_j (by omega), rNms_o (by omega) (by omega) (by omega)]; omega
  · have g : rNoM S a b y = 0 := g
    obtain ⟨f1, f2, f3, f4, f5⟩ := rNoM_0 g
    obtain ⟨h1, h2, h3, h4⟩ := hE f3
    show RG (rMov S a b y)
    unfold rMov
    refine RG_rHap (RG_up (RG_rTell hR (by omega) h2 (by omega) (by omega)) (by omega) (by omega)) h2 (by omega) (by omega) ?_
    rw [up_j (by omega), rTell_o (by omega) (by omega)]; omega
  · have g : rNoS S a y NP = 0 := g
    obtain ⟨f1, f2, f3⟩ := rNoS_0 g
    obtain ⟨h1, h2, h3, h4⟩ := hE f1
    exact RG_rSpl hR hn (by omega) e1 hN e2 hNP hw hw2 h1 h2 (b8 a (by omega) (by omega)) (b9 a y) h3 h4 hs6
  · have g : rNoG S a b y = 0 := g
    obtain ⟨f1, f2, f3, f4, f5, f6⟩ := rNoG_0 g
    obtain ⟨h1, h2, h3, h4⟩ := hE f4
    exact (RG_rMrg hR hn hn2 e2 hNP (by omega) (by omega) h2 b5 b6 b7 hs5).1
  · have g : rNoC S a y NP n = 0 := g
    obtain ⟨f1, f2⟩ := rNoC_0 g
    obtain ⟨h1, h2, h3, h4⟩ := hE f1
    show RG (rClo S a y)
    unfold rClo
    refine RG_rHap (RG_up (RG_up hR (by omega) (by omega)) (by omega) (by omega)) h2 (by omega) (by omega) ?_
    rw [up_j (by omega), up_j (by omega)]; omega
/-- the calls -/
theorem tX13_foundK {d m : Nat} {S : RS} {M : QM} {x : QP} (hK : RK m M) (hR : RG S) {k par y : Int} (v0 : 0 ≤ S 0 4) (v1 : S 0 4 ≤ 80) (h1 : -2147483648 ≤ k) (h2 : k < 2147483648) (g : ¬ (0 ≤ k ∧ k ≤ 3)) : q_T (d + 5) iX13_found [qr m, qi k, qi par, qi y] (ov m S M) x = x (some (qi (-1))) (ov m (rOw S) M) := by
  rw [eX13_found]
  simp (disch := first | assumption | exact RK0 hK | exact RK1a hK | exact RK2a hK | exact RK3a hK | exact RK4a hK | exact RK5a hK | exact RK6a hK | exact RK7a hK | exact RGl hR | exact RGh hR | exact bI_lo | exact bI_hi | exact bI_01 | (show (List.map q_wd _).sum ≤ 8; with_unfolding_all exact Nat.le_of_ble_eq_true rfl) | (refine RK1c hK ?_; omega) | (refine RK2c hK ?_; omega) | (refine RK3c hK ?_; omega) | (refine RK4c hK ?_; omega) | (refine RK5c hK ?_; omega) | (refine RK6c hK ?_; omega) | (refine RK7c hK ?_; omega) | omega) only [kX13_found_0, kX13_found_1E, kX13_found_4, kX13_found_6, kX13_found_7, kX13_found_8, kX13_found_9E, kX13_found_12, kX13_found_15, kX13_found_16, kX13_found_17, kX13_found_19, kX13_found_22, kX13_found_23, kX13_found_24, kX13_found_25, kX13_found_26E, kX13_found_29, kX13_found_32, kX13_found_34, kX13_found_36, kX13_found_38, kX13_found_41, kX13_found_42, kX13_found_44E, kX13_found_47, kX13_found_48, kX13_found_49E, kX13_found_52, kX13_found_53, kX13_found_54, kX13_found_55, kX13_found_56E, kX13_found_59, q_cut_i, q_cut_r, q_cut_l, q_cut_n, q_kd_ov, ov_f0, ov_f1, ov_f2, ov_f3, ov_f4, ov_f5, ov_f6, ov_f7, ov_f8, ov_f9, ov_f10, ov_f11, ov_f12, ov_f13, ov_f14, ov_f15, ov_f16, ov_r, ov_w, ov_w1, ov_w2, ov_w4, ov_w5, ov_w6, ov_w7, ov_w9, ov_w11, ov_w13, ov_w16, up_s, up_k, up_j, up_up, q_psh_n, q_psh_s, bI_eq0, ite_not, ↓if_pos, ↓if_neg, ↓ite_bI_t, ↓ite_bI_f, tX13_isOneWord hK hR, tX13_in]
abbrev q_i32 (z : Int) : Prop := -2147483648 ≤ z ∧ z < 2147483648
set_option maxHeartbeats 2000000 in
theorem tX13_foundR {d m : Nat} {S : RS} {M : QM} {x : QP} (hK : RK m M) (hR : RG S) {k par y : Int} {n N NP : Nat} (v0 : 0 ≤ S 0 4) (v1 : S 0 4 ≤ 80) (hb : RB S n N NP) (g : 0 ≤ k ∧ k ≤ 3) (hp : q_i32 par) (hy : q_i32 y) (hno : ¬ (oneW S = true ∧ rNoF (rOw S) k par y = 0)) : q_T (d + 6) iX13_found [qr m, qi k, qi par, qi y] (ov m S M) x = x (some (qi (-3))) (ov m (up (rOw S) 0 7 (if oneW S = true then rNoF (rOw S) k par y else 9)) M) := by
  have RT := RG_rOw hR
  have T1 : rOw S 1 = S 1 := rOw_k (by omega) (by omega)
  have hn : rOw S 1 0 = n := by rw [T1]; exact hb.1
  have hn2 := hb.2.1
  have hf := fun (z : QP) (v : Int) => tX13_refuse (d := d + 4) (x := z) (v := v) hK RT
  have nb := rNo_b (S := rOw S) (cc := 102) (a := k) (b := par) (y := y) (NP := NP) (n := n)
  have hno0 : rNo (rOw S) 102 k par y NP n = rNoF (rOw S) k par y := rfl
  rw [hno0] at nb
  rw [eX13_found]
  by_cases w : oneW S = true
  · rw [if_pos w]
    have hno' : rNoF (rOw S) k par y ≠ 0 := fun h => hno ⟨w, h⟩
    have hF := fun z : QP => tX13_noFounding (d := d + 1) (x := z) hK RT (k := k) (par := par) (y := y) (by omega) (by omega) (by omega) (by omega) hy.1 hy.2 hp.1 hp.2
    simp (disch := first | assumption | exact RK0 hK | exact RK1a hK | exact RK2a hK | exact RK3a hK | exact RK4a hK | exact RK5a hK | exact RK6a hK | exact RK7a hK | exact RGl hR | exact RGh hR | exact bI_lo | exact bI_hi | exact bI_01 | (show (List.map q_wd _).sum ≤ 8; with_unfolding_all exact Nat.le_of_ble_eq_true rfl) | (refine RK1c hK ?_; omega) | (refine RK2c hK ?_; omega) | (refine RK3c hK ?_; omega) | (refine RK4c hK ?_; omega) | (refine RK5c hK ?_; omega) | (refine RK6c hK ?_; omega) | (refine RK7c hK ?_; omega) | omega) only [kX13_found_0, kX13_found_1E, kX13_found_4, kX13_found_6, kX13_found_7, kX13_found_8, kX13_found_9E, kX13_found_12, kX13_found_15, kX13_found_16, kX13_found_17, kX13_found_19, kX13_found_22, kX13_found_23, kX13_found_24, kX13_found_25, kX13_found_26E, kX13_found_29, kX13_found_32, kX13_found_34, kX13_found_36, kX13_found_38, kX13_found_41, kX13_found_42, kX13_found_44E, kX13_found_47, kX13_found_48, kX13_found_49E, kX13_found_52, kX13_found_53, kX13_found_54, kX13_found_55, kX13_found_56E, kX13_found_59, q_cut_i, q_cut_r, q_cut_l, q_cut_n, q_kd_ov, ov_f0, ov_f1, ov_f2, ov_f3, ov_f4, ov_f5, ov_f6, ov_f7, ov_f8, ov_f9, ov_f10, ov_f11, ov_f12, ov_f13, ov_f14, ov_f15, ov_f16, ov_r, ov_w, ov_w1, ov_w2, ov_w4, ov_w5, ov_w6, ov_w7, ov_w9, ov_w11, ov_w13, ov_w16, up_s, up_k, up_j, up_up, q_psh_n, q_psh_s, bI_eq0, ite_not, ↓if_pos, ↓if_neg, ↓ite_bI_t, ↓ite_bI_f, tX13_isOneWord hK hR, tX13_in, hF, hf]
  · rw [if_neg w]
    simp (disch := first | assumption | exact RK0 hK | exact RK1a hK | exact RK2a hK | exact RK3a hK | exact RK4a hK | exact RK5a hK | exact RK6a hK | exact RK7a hK | exact RGl hR | exact RGh hR | exact bI_lo | exact bI_hi | exact bI_01 | (show (List.map q_wd _).sum ≤ 8; with_unfolding_all exact Nat.le_of_ble_eq_true rfl) | (refine RK1c hK ?_; omega) | (refine RK2c hK ?_; omega) | (refine RK3c hK ?_; omega) | (refine RK4c hK ?_; omega) | (refine RK5c hK ?_; omega) | (refine RK6c hK ?_; omega) | (refine RK7c hK ?_; omega) | omega) only [kX13_found_0, kX13_found_1E, kX13_found_4, kX13_found_6, kX13_found_7, kX13_found_8, kX13_found_9E, kX13_found_12, kX13_found_15, kX13_found_16, kX13_found_17, kX13_found_19, kX13_found_22, kX13_found_23, kX13_found_24, kX13_found_25, kX13_found_26E, kX13_found_29, kX13_found_32, kX13_found_34, kX13_found_36, kX13_found_38, kX13_found_41, kX13_found_42, kX13_found_44E, kX13_found_47, kX13_found_48, kX13_found_49E, kX13_found_52, kX13_found_53, kX13_found_54, kX13_found_55, kX13_found_56E, kX13_found_59, q_cut_i, q_cut_r, q_cut_l, q_cut_n, q_kd_ov, ov_f0, ov_f1, ov_f2, ov_f3, ov_f4, ov_f5, ov_f6, ov_f7, ov_f8, ov_f9, ov_f10, ov_f11, ov_f12, ov_f13, ov_f14, ov_f15, ov_f16, ov_r, ov_w, ov_w1, ov_w2, ov_w4, ov_w5, ov_w6, ov_w7, ov_w9, ov_w11, ov_w13, ov_w16, up_s, up_k, up_j, up_up, q_psh_n, q_psh_s, bI_eq0, ite_not, ↓if_pos, ↓if_neg, ↓ite_bI_t, ↓ite_bI_f, tX13_isOneWord hK hR, tX13_in, hf]
set_option maxHeartbeats 2000000 in
theorem tX13_foundY {d m : Nat} {S : RS} {M : QM} {x : QP} (hK : RK m M) (hR : RG S) {k par y : Int} {n N NP : Nat} (v0 : 0 ≤ S 0 4) (v1 : S 0 4 ≤ 80) (c0 : 0 ≤ S 0 1 ∧ S 0 1 ≤ 6) (hb : RB S n N NP) (hN : N < 700) (hNP : NP < 700) (g : 0 ≤ k ∧ k ≤ 3) (hp : q_i32 par) (w : oneW S = true) (hno : rNoF (rOw S) k par y = 0) : q_T (d + 6) iX13_found [qr m, qi k, qi par, qi y] (ov m S M) x = x (some (qi (rAn (rKeep (rOw S)) 102 k par y N NP n))) (ov m (rOp (rKeep (rOw S)) 102 k par y NP n) M) := by
  have RT := RG_rOw hR
  have T1 : rOw S 1 = S 1 := rOw_k (by omega) (by omega)
  have hn2 := hb.2.1
  have c1 : rOw S 0 1 = S 0 1 := rOw_0 (by omega) (by omega) (by omega) (by omega)
  have hw := oneW_c w
  obtain ⟨f1, f2, f3, f4⟩ := rNoF_0 hno
  have hn : rOw S 1 0 = n := by rw [T1]; exact hb.1
  have RU := RG_rKeep RT (by rw [c1]; exact c0)
  have hbU : RB (rKeep (rOw S)) n N NP := RB_c2 hNP (fun j hj => rKeep_b (by rw [c1]; exact c0.1) hj) (RB_c T1 hb)
  obtain ⟨u0, -, u1, u2, -⟩ := hbU
  have u9 : rKeep (rOw S) 0 9 = (S 0 4).toNat := by rw [rKeep_0 (by omega), rOw_9 w]; omega
  have hF := fun z : QP => tX13_noFounding (d := d + 1) (x := z) hK RT (k := k) (par := par) (y := y) (by omega) (by omega) (by omega) (by omega) (by omega) (by omega) hp.1 hp.2
  have hG := fun z : QP => tX13_founds (d := d + 2) (x := z) hK RU (k := k) (par := par) (y := y) u0 (by omega) u1 hN u2 hNP u9 (by omega) (by omega) (fun h => by have := f1 h; omega) (by omega)
  have hKp := fun z : QP => tX13_keeps (d := d + 3) (x := z) hK RT (by rw [c1]; exact c0)
  rw [eX13_found]
  simp (disch := first | assumption | exact RK0 hK | exact RK1a hK | exact RK2a hK | exact RK3a hK | exact RK4a hK | exact RK5a hK | exact RK6a hK | exact RK7a hK | exact RGl hR | exact RGh hR | exact bI_lo | exact bI_hi | exact bI_01 | (show (List.map q_wd _).sum ≤ 8; with_unfolding_all exact Nat.le_of_ble_eq_true rfl) | (refine RK1c hK ?_; omega) | (refine RK2c hK ?_; omega) | (refine RK3c hK ?_; omega) | (refine RK4c hK ?_; omega) | (refine RK5c hK ?_; omega) | (refine RK6c hK ?_; omega) | (refine RK7c hK ?_; omega) | omega) only [kX13_found_0, kX13_found_1E, kX13_found_4, kX13_found_6, kX13_found_7, kX13_found_8, kX13_found_9E, kX13_found_12, kX13_found_15, kX13_found_16, kX13_found_17, kX13_found_19, kX13_found_22, kX13_found_23, kX13_found_24, kX13_found_25, kX13_found_26E, kX13_found_29, kX13_found_32, kX13_found_34, kX13_found_36, kX13_found_38, kX13_found_41, kX13_found_42, kX13_found_44E, kX13_found_47, kX13_found_48, kX13_found_49E, kX13_found_52, kX13_found_53, kX13_found_54, kX13_found_55, kX13_found_56E, kX13_found_59, q_cut_i, q_cut_r, q_cut_l, q_cut_n, q_kd_ov, ov_f0, ov_f1, ov_f2, ov_f3, ov_f4, ov_f5, ov_f6, ov_f7, ov_f8, ov_f9, ov_f10, ov_f11, ov_f12, ov_f13, ov_f14, ov_f15, ov_f16, ov_r, ov_w, ov_w1, ov_w2, ov_w4, ov_w5, ov_w6, ov_w7, ov_w9, ov_w11, ov_w13, ov_w16, up_s, up_k, up_j, up_up, q_psh_n, q_psh_s, bI_eq0, ite_not, ↓if_pos, ↓if_neg, ↓ite_bI_t, ↓ite_bI_f, tX13_isOneWord hK hR, tX13_in, hF, hno, hKp, hG]
  rfl
