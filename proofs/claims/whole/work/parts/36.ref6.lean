/-! the reference's methods: what changes a block -/
theorem up_c {S : RS} {k k' : Nat} {j j' v w : Int} (h : k ≠ k' ∨ j ≠ j') : up (up S k j v) k' j' w = up (up S k' j' w) k j v := by
  funext a b
  unfold up
  by_cases h1 : a = k ∧ b = j
  · by_cases h2 : a = k' ∧ b = j'
    · omega
    · rw [if_neg h2, if_pos h1, if_pos h1]
  · rw [if_neg h1]
    by_cases h2 : a = k' ∧ b = j'
    · rw [if_pos h2, if_neg h1]
    · rw [if_neg h2, if_neg h1]
def rTell (S : RS) (p y par : Int) : RS := up (up (up (up S 1 (9275 + 3 * S 1 2) p) 1 (9275 + 3 * S 1 2 + 1) y) 1 (9275 + 3 * S 1 2 + 2) par) 1 2 (S 1 2 + 1)
theorem tX13_tellsParent {d m : Nat} {S : RS} {M : QM} {x : QP} (hK : RK m M) (hR : RG S) {p y par : Int} {N : Nat} (hN : S 1 2 = N) (hN2 : N < 700) : q_T (d + 1) iX13_tellsParent [qr m, qi p, qi y, qi par] (ov m S M) x = x none (ov m (rTell S p y par) M) := by
  rw [eX13_tellsParent]
  unfold rTell
  simp (disch := first | assumption | exact RK0 hK | exact RK1a hK | exact RK2a hK | exact RK3a hK | exact RK4a hK | exact RK5a hK | exact RK6a hK | exact RK7a hK | exact RGl hR | exact RGh hR | exact bI_lo | exact bI_hi | exact bI_01 | (show (List.map q_wd _).sum ≤ 8; with_unfolding_all exact Nat.le_of_ble_eq_true rfl) | (refine RK1c hK ?_; omega) | (refine RK2c hK ?_; omega) | (refine RK3c hK ?_; omega) | (refine RK4c hK ?_; omega) | (refine RK5c hK ?_; omega) | (refine RK6c hK ?_; omega) | (refine RK7c hK ?_; omega) | omega) only [kX13_tellsParent_0, kX13_tellsParent_3, kX13_tellsParent_4, kX13_tellsParent_5, kX13_tellsParent_8, kX13_tellsParent_9, kX13_tellsParent_10, kX13_tellsParent_11, kX13_tellsParent_12, kX13_tellsParent_14, kX13_tellsParent_15, kX13_tellsParent_18, kX13_tellsParent_20, kX13_tellsParent_21, kX13_tellsParent_22, kX13_tellsParent_23, kX13_tellsParent_26, kX13_tellsParent_28, kX13_tellsParent_29, kX13_tellsParent_30, kX13_tellsParent_31, kX13_tellsParent_32, kX13_tellsParent_33, kX13_tellsParent_36, kX13_tellsParent_38, kX13_tellsParent_39, kX13_tellsParent_40, kX13_tellsParent_41, kX13_tellsParent_42, kX13_tellsParent_43, kX13_tellsParent_46, kX13_tellsParent_47, kX13_tellsParent_48, kX13_tellsParent_49, kX13_tellsParent_50, kX13_tellsParent_51, kX13_tellsParent_52, q_cut_i, q_cut_r, q_cut_l, q_cut_n, q_kd_ov, ov_f0, ov_f1, ov_f2, ov_f3, ov_f4, ov_f5, ov_f6, ov_f7, ov_f8, ov_f9, ov_f10, ov_f11, ov_f12, ov_f13, ov_f14, ov_f15, ov_f16, ov_r, ov_w, ov_w1, ov_w2, ov_w4, ov_w5, ov_w6, ov_w7, ov_w9, ov_w11, ov_w13, ov_w16, up_s, up_k, up_j, up_up, q_psh_n, q_psh_s, bI_eq0, ite_not, ↓if_pos, ↓if_neg, ↓ite_bI_t, ↓ite_bI_f]
theorem rTell_k {S : RS} {p y par : Int} {k : Nat} (h : k ≠ 1) : rTell S p y par k = S k := by
  unfold rTell
  rw [up_k h, up_k h, up_k h, up_k h]
theorem rTell_o {S : RS} {p y par j : Int} (h : j ≠ 2) (h2 : j < 9275 + 3 * S 1 2 ∨ 9275 + 3 * S 1 2 + 3 ≤ j) : rTell S p y par 1 j = S 1 j := by
  unfold rTell
  rw [up_j h, up_j (by omega), up_j (by omega), up_j (by omega)]
theorem RG_rTell {S : RS} (hR : RG S) {p y par : Int} (h1 : -1000000 ≤ p ∧ p ≤ 1000000) (h2 : -1000000 ≤ y ∧ y ≤ 1000000) (h3 : -1000000 ≤ par ∧ par ≤ 1000000) (hN : S 1 2 ≤ 1000) : RG (rTell S p y par) := by
  have := (hR 1 2).1
  exact RG_up (RG_up (RG_up (RG_up hR (by omega) (by omega)) (by omega) (by omega)) (by omega) (by omega)) (by omega) (by omega)
def rCw (S : RS) (base : Int) : Nat → RS
  | 0 => S
  | c + 1 => up (rCw S base c) 1 (base + 3 + c) (S 3 c)
theorem rCw_k {S : RS} {base : Int} {k : Nat} (h : k ≠ 1) : ∀ c : Nat, rCw S base c k = S k
  | 0 => rfl
  | c + 1 => by rw [rCw, up_k h, rCw_k h c]
theorem rCw_o {S : RS} {base j : Int} : ∀ c : Nat, (j < base + 3 ∨ base + 3 + c ≤ j) → rCw S base c 1 j = S 1 j
  | 0, _ => rfl
  | c + 1, h => by rw [rCw, up_j (by omega), rCw_o c (by omega)]
theorem rCw_i {S : RS} {base : Int} {i : Nat} : ∀ c : Nat, i < c → rCw S base c 1 (base + 3 + i) = S 3 i
  | 0, h => by omega
  | c + 1, h => by
    rw [rCw]
    by_cases e : i = c
    · rw [e, up_s]
    · rw [up_j (by omega), rCw_i c (by omega)]
theorem RG_rCw {S : RS} (hR : RG S) {base : Int} : ∀ c : Nat, RG (rCw S base c)
  | 0 => hR
  | c + 1 => RG_up (RG_rCw hR c) (hR 3 c).1 (hR 3 c).2
def rNms (S : RS) (p y : Int) : RS := up (rCw (up (up (up S 1 (1575 + 11 * S 1 1) p) 1 (1575 + 11 * S 1 1 + 1) y) 1 (1575 + 11 * S 1 1 + 2) (S 0 9)) (1575 + 11 * S 1 1) (S 0 9).toNat) 1 1 (S 1 1 + 1)
theorem tX13_names {d m : Nat} {S : RS} {M : QM} {x : QP} (hK : RK m M) (hR : RG S) {p y : Int} {N c : Nat} (hN : S 1 1 = N) (hN2 : N < 700) (hc : S 0 9 = c) (hc2 : c ≤ 8) (h1 : -1000000 ≤ p ∧ p ≤ 1000000) (h2 : -1000000 ≤ y ∧ y ≤ 1000000) : q_T (d + 1) iX13_names [qr m, qi p, qi y] (ov m S M) x = x none (ov m (rNms S p y) M) := by
  unfold rNms
  rw [hN, hc, Int.toNat_natCast]
  obtain ⟨S0, hS0⟩ : ∃ S0, S0 = up (up (up S 1 (1575 + 11 * (N : Int)) p) 1 (1575 + 11 * (N : Int) + 1) y) 1 (1575 + 11 * (N : Int) + 2) (c : Int) := ⟨_, rfl⟩
  have hR0 : RG S0 := by rw [hS0]; exact RG_up (RG_up (RG_up hR (by omega) (by omega)) (by omega) (by omega)) (by omega) (by omega)
  have e9 : S0 0 9 = c := by rw [hS0, up_k (by omega), up_k (by omega), up_k (by omega), hc]
  have e1 : S0 1 1 = N := by rw [hS0, up_j (by omega), up_j (by omega), up_j (by omega), hN]
  have loop : ∀ n k : Nat, k + n = c → Rr (q_C d) mX13_names (45, [some (qr m), some (qi p), some (qi y), some (qi (1575 + 11 * (N : Int))), some (qi k)], [], ov m (rCw S0 (1575 + 11 * (N : Int)) k) M) x = x none (ov m (up (rCw S0 (1575 + 11 * (N : Int)) c) 1 1 (N + 1)) M) := by
    intro n
    induction n with
    | zero =>
      intro k hk
      have e : k = c := by omega
      subst e
      have w1 : rCw S0 (1575 + 11 * (N : Int)) k 0 = S0 0 := rCw_k (by omega) k
      have w2 : rCw S0 (1575 + 11 * (N : Int)) k 1 1 = N := by rw [rCw_o k (by omega), e1]
      rw [kX13_names_45]
      simp (disch := first | assumption | exact RK0 hK | exact RK1a hK | exact RK2a hK | exact RK3a hK | exact RK4a hK | exact RK5a hK | exact RK6a hK | exact RK7a hK | exact RGl hR | exact RGh hR | exact bI_lo | exact bI_hi | exact bI_01 | (show (List.map q_wd _).sum ≤ 8; with_unfolding_all exact Nat.le_of_ble_eq_true rfl) | (refine RK1c hK ?_; omega) | (refine RK2c hK ?_; omega) | (refine RK3c hK ?_; omega) | (refine RK4c hK ?_; omega) | (refine RK5c hK ?_; omega) | (refine RK6c hK ?_; omega) | (refine RK7c hK ?_; omega) | omega) only [kX13_names_0, kX13_names_3, kX13_names_5, kX13_names_6, kX13_names_9, kX13_names_10, kX13_names_11, kX13_names_12, kX13_names_13, kX13_names_14, kX13_names_15, kX13_names_18, kX13_names_19, kX13_names_20, kX13_names_21, kX13_names_22, kX13_names_25, kX13_names_26, kX13_names_27, kX13_names_28, kX13_names_29, kX13_names_30, kX13_names_31, kX13_names_34, kX13_names_35, kX13_names_36, kX13_names_37, kX13_names_38, kX13_names_41, kX13_names_42, kX13_names_43, kX13_names_47, kX13_names_48, kX13_names_51, kX13_names_54, kX13_names_55, kX13_names_58, kX13_names_59, kX13_names_60, kX13_names_61, kX13_names_63, kX13_names_64, kX13_names_65, kX13_names_68, kX13_names_70, kX13_names_71, kX13_names_72, kX13_names_75, kX13_names_78, kX13_names_79, kX13_names_82, kX13_names_83, kX13_names_84, kX13_names_85, kX13_names_86, kX13_names_87, kX13_names_88, q_cut_i, q_cut_r, q_cut_l, q_cut_n, q_kd_ov, ov_f0, ov_f1, ov_f2, ov_f3, ov_f4, ov_f5, ov_f6, ov_f7, ov_f8, ov_f9, ov_f10, ov_f11, ov_f12, ov_f13, ov_f14, ov_f15, ov_f16, ov_r, ov_w, ov_w1, ov_w2, ov_w4, ov_w5, ov_w6, ov_w7, ov_w9, ov_w11, ov_w13, ov_w16, up_s, up_k, up_j, up_up, q_psh_n, q_psh_s, bI_eq0, ite_not, ↓if_pos, ↓if_neg, ↓ite_bI_t, ↓ite_bI_f, w1, w2, e9]
    | succ n ih =>
      intro k hk
      have ih' := ih (k + 1) (by omega)
      rw [rCw] at ih'
      have w1 : rCw S0 (1575 + 11 * (N : Int)) k 0 = S0 0 := rCw_k (by omega) k
      have w3 : rCw S0 (1575 + 11 * (N : Int)) k 3 = S0 3 := rCw_k (by omega) k
      rw [kX13_names_45]
      simp (disch := first | assumption | exact RK0 hK | exact RK1a hK | exact RK2a hK | exact RK3a hK | exact RK4a hK | exact RK5a hK | exact RK6a hK | exact RK7a hK | exact RGl hR | exact RGh hR | exact bI_lo | exact bI_hi | exact bI_01 | (show (List.map q_wd _).sum ≤ 8; with_unfolding_all exact Nat.le_of_ble_eq_true rfl) | (refine RK1c hK ?_; omega) | (refine RK2c hK ?_; omega) | (refine RK3c hK ?_; omega) | (refine RK4c hK ?_; omega) | (refine RK5c hK ?_; omega) | (refine RK6c hK ?_; omega) | (refine RK7c hK ?_; omega) | omega) only [kX13_names_0, kX13_names_3, kX13_names_5, kX13_names_6, kX13_names_9, kX13_names_10, kX13_names_11, kX13_names_12, kX13_names_13, kX13_names_14, kX13_names_15, kX13_names_18, kX13_names_19, kX13_names_20, kX13_names_21, kX13_names_22, kX13_names_25, kX13_names_26, kX13_names_27, kX13_names_28, kX13_names_29, kX13_names_30, kX13_names_31, kX13_names_34, kX13_names_35, kX13_names_36, kX13_names_37, kX13_names_38, kX13_names_41, kX13_names_42, kX13_names_43, kX13_names_47, kX13_names_48, kX13_names_51, kX13_names_54, kX13_names_55, kX13_names_58, kX13_names_59, kX13_names_60, kX13_names_61, kX13_names_63, kX13_names_64, kX13_names_65, kX13_names_68, kX13_names_70, kX13_names_71, kX13_names_72, kX13_names_75, kX13_names_78, kX13_names_79, kX13_names_82, kX13_names_83, kX13_names_84, kX13_names_85, kX13_names_86, kX13_names_87, kX13_names_88, q_cut_i, q_cut_r, q_cut_l, q_cut_n, q_kd_ov, ov_f0, ov_f1, ov_f2, ov_f3, ov_f4, ov_f5, ov_f6, ov_f7, ov_f8, ov_f9, ov_f10, ov_f11, ov_f12, ov_f13, ov_f14, ov_f15, ov_f16, ov_r, ov_w, ov_w1, ov_w2, ov_w4, ov_w5, ov_w6, ov_w7, ov_w9, ov_w11, ov_w13, ov_w16, up_s, up_k, up_j, up_up, q_psh_n, q_psh_s, bI_eq0, ite_not, ↓if_pos, ↓if_neg, ↓ite_bI_t, ↓ite_bI_f, w1, w3, e9]
      exact ih'
  rw [eX13_names]
  simp (disch := first | assumption | exact RK0 hK | exact RK1a hK | exact RK2a hK | exact RK3a hK | exact RK4a hK | exact RK5a hK | exact RK6a hK | exact RK7a hK | exact RGl hR | exact RGh hR | exact bI_lo | exact bI_hi | exact bI_01 | (show (List.map q_wd _).sum ≤ 8; with_unfolding_all exact Nat.le_of_ble_eq_true rfl) | (refine RK1c hK ?_; omega) | (refine RK2c hK ?_; omega) | (refine RK3c hK ?_; omega) | (refine RK4c hK ?_; omega) | (refine RK5c hK ?_; omega) | (refine RK6c hK ?_; omega) | (refine RK7c hK ?_; omega) | omega) only [kX13_names_0, kX13_names_3, kX13_names_5, kX13_names_6, kX13_names_9, kX13_names_10, kX13_names_11, kX13_names_12, kX13_names_13, kX13_names_14, kX13_names_15, kX13_names_18, kX13_names_19, kX13_names_20, kX13_names_21, kX13_names_22, kX13_names_25, kX13_names_26, kX13_names_27, kX13_names_28, kX13_names_29, kX13_names_30, kX13_names_31, kX13_names_34, kX13_names_35, kX13_names_36, kX13_names_37, kX13_names_38, kX13_names_41, kX13_names_42, kX13_names_43, q_cut_i, q_cut_r, q_cut_l, q_cut_n, q_kd_ov, ov_f0, ov_f1, ov_f2, ov_f3, ov_f4, ov_f5, ov_f6, ov_f7, ov_f8, ov_f9, ov_f10, ov_f11, ov_f12, ov_f13, ov_f14, ov_f15, ov_f16, ov_r, ov_w, ov_w1, ov_w2, ov_w4, ov_w5, ov_w6, ov_w7, ov_w9, ov_w11, ov_w13, ov_w16, up_s, up_k, up_j, up_up, q_psh_n, q_psh_s, bI_eq0, ite_not, ↓if_pos, ↓if_neg, ↓ite_bI_t, ↓ite_bI_f, hN, hc]
  rw [← hS0]
  exact loop c 0 (by omega)
theorem rNms_k {S : RS} {p y : Int} {k : Nat} (h : k ≠ 1) : rNms S p y k = S k := by
  unfold rNms
  rw [up_k h, rCw_k h, up_k h, up_k h, up_k h]
theorem rNms_o {S : RS} {p y j : Int} (h : j ≠ 1) (h2 : j < 1575 + 11 * S 1 1 ∨ 1575 + 11 * S 1 1 + 11 ≤ j) (h3 : S 0 9 ≤ 8) : rNms S p y 1 j = S 1 j := by
  unfold rNms
  rw [up_j h, rCw_o _ (by omega), up_j (by omega), up_j (by omega), up_j (by omega)]
theorem RG_rNms {S : RS} (hR : RG S) {p y : Int} (h1 : -1000000 ≤ p ∧ p ≤ 1000000) (h2 : -1000000 ≤ y ∧ y ≤ 1000000) (hN : S 1 1 ≤ 1000) : RG (rNms S p y) := by
  have := (hR 1 1).1
  have := hR 0 9
  exact RG_up (RG_rCw (RG_up (RG_up (RG_up hR (by omega) (by omega)) (by omega) (by omega)) (by omega) (by omega)) _) (by omega) (by omega)
theorem rHap_k {S : RS} {p y so nu : Int} {k : Nat} (h : k ≠ 1) : rHap S p y so nu k = S k := by
  unfold rHap
  split
  · rw [up_k h, up_k h, up_k h, up_k h]
  · rw [up_k h]
theorem rHap_o {S : RS} {p y so nu j : Int} (h0 : 0 ≤ S 1 (15 + 78 * p + 5)) (h : j < 15 + 78 * p + 5 ∨ 15 + 78 * p + 78 ≤ j) : rHap S p y so nu 1 j = S 1 j := by
  unfold rHap
  split
  · rw [up_j (by omega), up_j (by omega), up_j (by omega), up_j (by omega)]
  · rw [up_j (by omega)]
theorem rHap_5 {S : RS} {p y so nu : Int} (h0 : 0 ≤ S 1 (15 + 78 * p + 5)) : rHap S p y so nu 1 (15 + 78 * p + 5) = S 1 (15 + 78 * p + 5) + 1 := by
  unfold rHap
  split
  · rw [up_j (by omega), up_j (by omega), up_j (by omega), up_s]
  · rw [up_s]
theorem RG_rHap {S : RS} (hR : RG S) {p y so nu : Int} (h1 : -1000000 ≤ y ∧ y ≤ 1000000) (h2 : -1000000 ≤ so ∧ so ≤ 1000000) (h3 : -1000000 ≤ nu ∧ nu ≤ 1000000) (h : S 1 (15 + 78 * p + 5) ≤ 1000000) : RG (rHap S p y so nu) := by
  have := (hR 1 (15 + 78 * p + 5)).1
  unfold rHap
  split
  · exact RG_up (RG_up (RG_up (RG_up hR (by omega) (by omega)) (by omega) (by omega)) (by omega) (by omega)) (by omega) (by omega)
  · exact RG_up hR (by omega) (by omega)
/-- the fields of a new place -/
def rF1 (S : RS) (k y : Int) : RS := up (up (up (up (up (up (up S 1 0 (S 1 0 + 1)) 1 (15 + 78 * S 1 0 + 0) k) 1 (15 + 78 * S 1 0 + 1) y) 1 (15 + 78 * S 1 0 + 2) (-1)) 1 (15 + 78 * S 1 0 + 3) (-1)) 1 (15 + 78 * S 1 0 + 4) y) 1 (15 + 78 * S 1 0 + 5) 0
theorem rF1_k {S : RS} {t y : Int} {k : Nat} (h : k ≠ 1) : rF1 S t y k = S k := by
  unfold rF1
  rw [up_k h, up_k h, up_k h, up_k h, up_k h, up_k h, up_k h]
theorem rF1_o {S : RS} {k y j : Int} (h : j ≠ 0) (h2 : j < 15 + 78 * S 1 0 ∨ 15 + 78 * S 1 0 + 6 ≤ j) : rF1 S k y 1 j = S 1 j := by
  unfold rF1
  rw [up_j (by omega), up_j (by omega), up_j (by omega), up_j (by omega), up_j (by omega), up_j (by omega), up_j (by omega)]
theorem RG_rF1 {S : RS} (hR : RG S) {k y : Int} (h1 : -1000000 ≤ k ∧ k ≤ 1000000) (h2 : -1000000 ≤ y ∧ y ≤ 1000000) (h : S 1 0 ≤ 1000) : RG (rF1 S k y) := by
  have := (hR 1 0).1
  exact RG_up (RG_up (RG_up (RG_up (RG_up (RG_up (RG_up hR (by omega) (by omega)) (by omega) (by omega)) (by omega) (by omega)) (by omega) (by omega)) (by omega) (by omega)) (by omega) (by omega)) (by omega) (by omega)
def rFou (S : RS) (k par y : Int) : RS := rHap (rNms (if 0 < k then rTell (rF1 S k y) (S 1 0) y par else rF1 S k y) (S 1 0) y) (S 1 0) y 0 (if k = 0 then -5 else par)
theorem tX13_founds {d m : Nat} {S : RS} {M : QM} {x : QP} (hK : RK m M) (hR : RG S) {k par y : Int} {n N NP c : Nat} (hn : S 1 0 = n) (hn2 : n < 20) (hN : S 1 1 = N) (hN2 : N < 700) (hP : S 1 2 = NP) (hP2 : NP < 700) (hc : S 0 9 = c) (hc2 : c ≤ 8) (h1 : 0 ≤ k ∧ k ≤ 1000000) (h2 : 0 < k → -1000000 ≤ par ∧ par ≤ 1000000) (h3 : -1000000 ≤ y ∧ y ≤ 1000000) : q_T (d + 3) iX13_founds [qr m, qi k, qi par, qi y] (ov m S M) x = x (some (qi n)) (ov m (rFou S k par y) M) := by
  have R1 : RG (rF1 S k y) := RG_rF1 hR (by omega) h3 (by omega)
  have a1 : rF1 S k y 1 1 = N := by rw [rF1_o (by omega) (by omega), hN]
  have a2 : rF1 S k y 1 2 = NP := by rw [rF1_o (by omega) (by omega), hP]
  have a9 : rF1 S k y 0 9 = c := by rw [rF1_k (by omega), hc]
  have a5 : rF1 S k y 1 (15 + 78 * (n : Int) + 5) = 0 := by unfold rF1; rw [hn, up_s]
  have fin : ∀ (S2 : RS) (ab : Int), (-1000000 ≤ ab ∧ ab ≤ 1000000) → RG S2 → S2 1 1 = N → S2 0 9 = c → S2 1 (15 + 78 * (n : Int) + 5) = 0 → Rr (q_C (d + 2)) mX13_founds (90, [some (qr m), some (qi k), some (qi par), some (qi y), some (qi n), some (qi ab)], [], ov m S2 M) x = x (some (qi n)) (ov m (rHap (rNms S2 n y) n y 0 ab) M) := by
    intro S2 ab hab R2 b1 b9 b5
    have R3 : RG (rNms S2 n y) := RG_rNms R2 (by omega) h3 (by omega)
    have b5' : 0 ≤ rNms S2 n y 1 (15 + 78 * (n : Int) + 5) := by rw [rNms_o (by omega) (by omega) (by omega), b5]; omega
    simp (disch := first | assumption | exact RK0 hK | exact RK1a hK | exact RK2a hK | exact RK3a hK | exact RK4a hK | exact RK5a hK | exact RK6a hK | exact RK7a hK | exact RGl hR | exact RGh hR | exact bI_lo | exact bI_hi | exact bI_01 | (show (List.map q_wd _).sum ≤ 8; with_unfolding_all exact Nat.le_of_ble_eq_true rfl) | (refine RK1c hK ?_; omega) | (refine RK2c hK ?_; omega) | (refine RK3c hK ?_; omega) | (refine RK4c hK ?_; omega) | (refine RK5c hK ?_; omega) | (refine RK6c hK ?_; omega) | (refine RK7c hK ?_; omega) | omega) only [kX13_founds_90, kX13_founds_91, kX13_founds_93, kX13_founds_94E, kX13_founds_97, kX13_founds_98, kX13_founds_100, kX13_founds_101, kX13_founds_102, kX13_founds_104E, kX13_founds_107, kX13_founds_109, q_cut_i, q_cut_r, q_cut_l, q_cut_n, q_kd_ov, ov_f0, ov_f1, ov_f2, ov_f3, ov_f4, ov_f5, ov_f6, ov_f7, ov_f8, ov_f9, ov_f10, ov_f11, ov_f12, ov_f13, ov_f14, ov_f15, ov_f16, ov_r, ov_w, ov_w1, ov_w2, ov_w4, ov_w5, ov_w6, ov_w7, ov_w9, ov_w11, ov_w13, ov_w16, up_s, up_k, up_j, up_up, q_psh_n, q_psh_s, bI_eq0, ite_not, ↓if_pos, ↓if_neg, ↓ite_bI_t, ↓ite_bI_f, tX13_names hK R2 b1 hN2 b9 hc2 (p := (n : Int)) (y := y) (by omega) h3, tX13_happens hK R3 (p := (n : Int)) (by omega) (by omega) b5']
  have start : ∀ z : QP, q_T (d + 3) iX13_founds [qr m, qi k, qi par, qi y] (ov m S M) z = Rr (q_C (d + 2)) mX13_founds (66, [some (qr m), some (qi k), some (qi par), some (qi y), some (qi n), none], [], ov m (rF1 S k y) M) z := by
    intro z
    rw [eX13_founds]
    unfold rF1
    rw [hn]
    simp (disch := first | assumption | exact RK0 hK | exact RK1a hK | exact RK2a hK | exact RK3a hK | exact RK4a hK | exact RK5a hK | exact RK6a hK | exact RK7a hK | exact RGl hR | exact RGh hR | exact bI_lo | exact bI_hi | exact bI_01 | (show (List.map q_wd _).sum ≤ 8; with_unfolding_all exact Nat.le_of_ble_eq_true rfl) | (refine RK1c hK ?_; omega) | (refine RK2c hK ?_; omega) | (refine RK3c hK ?_; omega) | (refine RK4c hK ?_; omega) | (refine RK5c hK ?_; omega) | (refine RK6c hK ?_; omega) | (refine RK7c hK ?_; omega) | omega) only [kX13_founds_0, kX13_founds_1, kX13_founds_4, kX13_founds_5, kX13_founds_6, kX13_founds_8, kX13_founds_9, kX13_founds_12, kX13_founds_13, kX13_founds_14, kX13_founds_15, kX13_founds_16, kX13_founds_17, kX13_founds_18, kX13_founds_19, kX13_founds_21, kX13_founds_22, kX13_founds_23E, kX13_founds_26, kX13_founds_27, kX13_founds_29, kX13_founds_30, kX13_founds_31E, kX13_founds_34, kX13_founds_35, kX13_founds_37, kX13_founds_38, kX13_founds_39E, kX13_founds_42, kX13_founds_43, kX13_founds_45, kX13_founds_46, kX13_founds_47E, kX13_founds_50, kX13_founds_51, kX13_founds_53, kX13_founds_54, kX13_founds_55E, kX13_founds_58, kX13_founds_59, kX13_founds_61, kX13_founds_62, kX13_founds_63E, q_cut_i, q_cut_r, q_cut_l, q_cut_n, q_kd_ov, ov_f0, ov_f1, ov_f2, ov_f3, ov_f4, ov_f5, ov_f6, ov_f7, ov_f8, ov_f9, ov_f10, ov_f11, ov_f12, ov_f13, ov_f14, ov_f15, ov_f16, ov_r, ov_w, ov_w1, ov_w2, ov_w4, ov_w5, ov_w6, ov_w7, ov_w9, ov_w11, ov_w13, ov_w16, up_s, up_k, up_j, up_up, q_psh_n, q_psh_s, bI_eq0, ite_not, ↓if_pos, ↓if_neg, ↓ite_bI_t, ↓ite_bI_f, tX13_lays hK, hn]
  rw [start]
  unfold rFou
  rw [hn]
  by_cases g : 0 < k
  · rw [if_pos g, if_neg (by omega)]
    have R2 : RG (rTell (rF1 S k y) n y par) := RG_rTell R1 (by omega) h3 (h2 g) (by omega)
    simp (disch := first | assumption | exact RK0 hK | exact RK1a hK | exact RK2a hK | exact RK3a hK | exact RK4a hK | exact RK5a hK | exact RK6a hK | exact RK7a hK | exact RGl hR | exact RGh hR | exact bI_lo | exact bI_hi | exact bI_01 | (show (List.map q_wd _).sum ≤ 8; with_unfolding_all exact Nat.le_of_ble_eq_true rfl) | (refine RK1c hK ?_; omega) | (refine RK2c hK ?_; omega) | (refine RK3c hK ?_; omega) | (refine RK4c hK ?_; omega) | (refine RK5c hK ?_; omega) | (refine RK6c hK ?_; omega) | (refine RK7c hK ?_; omega) | omega) only [kX13_founds_66, kX13_founds_67, kX13_founds_70, kX13_founds_72, kX13_founds_75, kX13_founds_76, kX13_founds_78, kX13_founds_79, kX13_founds_82, kX13_founds_83, kX13_founds_85, kX13_founds_86, kX13_founds_87E, q_cut_i, q_cut_r, q_cut_l, q_cut_n, q_kd_ov, ov_f0, ov_f1, ov_f2, ov_f3, ov_f4, ov_f5, ov_f6, ov_f7, ov_f8, ov_f9, ov_f10, ov_f11, ov_f12, ov_f13, ov_f14, ov_f15, ov_f16, ov_r, ov_w, ov_w1, ov_w2, ov_w4, ov_w5, ov_w6, ov_w7, ov_w9, ov_w11, ov_w13, ov_w16, up_s, up_k, up_j, up_up, q_psh_n, q_psh_s, bI_eq0, ite_not, ↓if_pos, ↓if_neg, ↓ite_bI_t, ↓ite_bI_f, tX13_tellsParent hK R1 a2 hP2]
    exact fin _ par (h2 g) R2 (by rw [rTell_o (by omega) (by omega), a1]) (by rw [rTell_k (by omega), a9]) (by rw [rTell_o (by omega) (by omega), a5])
  · have : k = 0 := by omega
    subst this
    rw [if_neg (by omega), if_pos rfl]
    simp (disch := first | assumption | exact RK0 hK | exact RK1a hK | exact RK2a hK | exact RK3a hK | exact RK4a hK | exact RK5a hK | exact RK6a hK | exact RK7a hK | exact RGl hR | exact RGh hR | exact bI_lo | exact bI_hi | exact bI_01 | (show (List.map q_wd _).sum ≤ 8; with_unfolding_all exact Nat.le_of_ble_eq_true rfl) | (refine RK1c hK ?_; omega) | (refine RK2c hK ?_; omega) | (refine RK3c hK ?_; omega) | (refine RK4c hK ?_; omega) | (refine RK5c hK ?_; omega) | (refine RK6c hK ?_; omega) | (refine RK7c hK ?_; omega) | omega) only [kX13_founds_66, kX13_founds_67, kX13_founds_70, kX13_founds_72, kX13_founds_75, kX13_founds_76, kX13_founds_78, kX13_founds_79, kX13_founds_82, kX13_founds_83, kX13_founds_85, kX13_founds_86, kX13_founds_87E, q_cut_i, q_cut_r, q_cut_l, q_cut_n, q_kd_ov, ov_f0, ov_f1, ov_f2, ov_f3, ov_f4, ov_f5, ov_f6, ov_f7, ov_f8, ov_f9, ov_f10, ov_f11, ov_f12, ov_f13, ov_f14, ov_f15, ov_f16, ov_r, ov_w, ov_w1, ov_w2, ov_w4, ov_w5, ov_w6, ov_w7, ov_w9, ov_w11, ov_w13, ov_w16, up_s, up_k, up_j, up_up, q_psh_n, q_psh_s, bI_eq0, ite_not, ↓if_pos, ↓if_neg, ↓ite_bI_t, ↓ite_bI_f]
    exact fin _ (-5) (by omega) R1 a1 a9 a5
