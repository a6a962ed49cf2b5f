/-! counting the bits of a set -/
theorem y_ush0 : ∀ k : Nat, k < 32 → ((((Int32.ofInt (k : Int)).toUInt32 &&& Int32.toUInt32 31)).toBitVec % 32).toNat = k := by decide +kernel
theorem y_ushr {a k : Nat} (ha : a < 2 ^ 31) (hk : k < 32) : q_ushr a k = ((a / 2 ^ k : Nat) : Int) := by
  refine y_ofN (Nat.lt_of_le_of_lt (Nat.div_le_self _ _) ha) ?_
  have h1 : ((Int32.ofInt (a : Int)).toUInt32 >>> ((Int32.ofInt (k : Int)).toUInt32 &&& Int32.toUInt32 31)).toInt32.toBitVec = (Int32.ofInt (a : Int)).toBitVec >>> (((Int32.ofInt (k : Int)).toUInt32 &&& Int32.toUInt32 31).toBitVec % 32) := rfl
  rw [h1, BitVec.ushiftRight_eq', BitVec.toNat_ushiftRight, y_ush0 k hk, y_nat ha, Nat.shiftRight_eq_div_pow]
theorem and_sp {a b c d k : Nat} (ha : a < 2 ^ k) (hc : c < 2 ^ k) : (2 ^ k * b + a) &&& (2 ^ k * d + c) = 2 ^ k * (b &&& d) + (a &&& c) := by
  apply Nat.eq_of_testBit_eq
  intro i
  rw [Nat.testBit_and, Nat.testBit_two_pow_mul_add _ ha, Nat.testBit_two_pow_mul_add _ hc, Nat.testBit_two_pow_mul_add _ (Nat.lt_of_le_of_lt Nat.and_le_left ha)]
  split
  · rw [Nat.testBit_and]
  · rw [Nat.testBit_and]
theorem and_3 {a b c x y z : Nat} (ha : a < 256) (hb : b < 256) (hx : x < 256) (hy : y < 256) : (65536 * c + 256 * b + a) &&& (65536 * z + 256 * y + x) = 65536 * (c &&& z) + 256 * (b &&& y) + (a &&& x) := by
  have h1 := and_sp (a := a) (b := 256 * c + b) (c := x) (d := 256 * z + y) (k := 8) ha hx
  have h2 := and_sp (a := b) (b := c) (c := y) (d := z) (k := 8) hb hy
  have e1 : 65536 * c + 256 * b + a = 2 ^ 8 * (256 * c + b) + a := by omega
  have e2 : 65536 * z + 256 * y + x = 2 ^ 8 * (256 * z + y) + x := by omega
  rw [e1, e2, h1]
  have e3 : 256 * c + b = 2 ^ 8 * c + b := by omega
  have e4 : 256 * z + y = 2 ^ 8 * z + y := by omega
  rw [e3, e4, h2]
  omega
def bq1 (a : Nat) : Nat := a - (a / 2 &&& 85)
def bq2 (a : Nat) : Nat := (bq1 a &&& 51) + (bq1 a / 4 &&& 51)
def bq3 (a : Nat) : Nat := (bq2 a + bq2 a / 16) &&& 15
def pcN : Nat → Nat → Nat
  | 0, _ => 0
  | k + 1, v => pcN k v + v / 2 ^ k % 2
theorem bq_1 : ∀ a : Nat, a < 256 → ∀ e : Nat, e < 2 → (a / 2 + 128 * e) &&& 85 = a / 2 &&& 85 := by decide +kernel
theorem bq_1b : ∀ a : Nat, a < 256 → (a / 2 &&& 85) ≤ a ∧ bq1 a < 256 := by decide +kernel
theorem bq_2 : ∀ a : Nat, a < 256 → ∀ e : Nat, e < 4 → (bq1 a / 4 + 64 * e) &&& 51 = bq1 a / 4 &&& 51 := by decide +kernel
theorem bq_2b : ∀ a : Nat, a < 256 → bq2 a ≤ 68 ∧ bq2 a % 16 ≤ 4 ∧ (bq1 a / 4 &&& 51) < 256 := by decide +kernel
theorem bq_3 : ∀ a : Nat, a < 256 → ∀ e : Nat, e < 5 → (bq2 a + (bq2 a / 16 + 16 * e)) &&& 15 = bq3 a := by decide +kernel
theorem bq_3b : ∀ a : Nat, a < 256 → bq3 a = pcN 8 a ∧ bq3 a ≤ 8 := by decide +kernel
theorem bq_c : ∀ c : Nat, c < 16 → c / 2 &&& 21845 = c / 2 &&& 85 ∧ (bq1 c &&& 13107 = bq1 c &&& 51) ∧ (bq1 c / 4 &&& 13107 = bq1 c / 4 &&& 51) ∧ ((bq2 c + bq2 c / 16) &&& 3855 = bq3 c) ∧ pcN 8 c = pcN 4 c := by decide +kernel
theorem bq_63 (s : Nat) : s &&& 63 = s % 64 := by rw [show (63 : Nat) = 2 ^ 6 - 1 from rfl, Nat.and_two_pow_sub_one_eq_mod]
theorem pcN_add (v a : Nat) : ∀ k : Nat, pcN (a + k) v = pcN a v + pcN k (v / 2 ^ a)
  | 0 => rfl
  | k + 1 => by rw [← Nat.add_assoc, pcN, pcN, pcN_add v a k, Nat.div_div_eq_div_mul, ← Nat.pow_add, Nat.add_assoc]
theorem bit_mod {v m i : Nat} (h : i < m) : v % 2 ^ m / 2 ^ i % 2 = v / 2 ^ i % 2 := by
  have e := Nat.testBit_mod_two_pow v m i
  rw [Nat.testBit_eq_decide_div_mod_eq, Nat.testBit_eq_decide_div_mod_eq, decide_eq_true h, Bool.true_and] at e
  have := decide_eq_decide.mp e
  omega
theorem pcN_mod (v m : Nat) : ∀ k : Nat, k ≤ m → pcN k (v % 2 ^ m) = pcN k v
  | 0, _ => rfl
  | k + 1, h => by rw [pcN, pcN, pcN_mod v m k (by omega), bit_mod (by omega)]
theorem pcN_3 (v : Nat) : pcN 20 v = pcN 8 (v % 256) + pcN 8 (v / 256 % 256) + pcN 4 (v / 65536) := by
  have e1 := pcN_add v 16 4
  have e2 := pcN_add v 8 8
  have e3 := pcN_mod v 8 8 (by omega)
  have e4 := pcN_mod (v / 2 ^ 8) 8 8 (by omega)
  simp only [Nat.reducePow, Nat.reduceAdd] at e1 e2 e3 e4
  omega
theorem bq_fin {A B C : Nat} (hA : A ≤ 8) (hB : B ≤ 8) (hC : C ≤ 8) : (65536 * C + 256 * B + A + (65536 * C + 256 * B + A) / 256 + (65536 * C + 256 * B + A + (65536 * C + 256 * B + A) / 256) / 65536) % 64 = A + B + C := by
  have h1 : (65536 * C + 256 * B + A) / 256 = 256 * C + B := by omega
  rw [h1]
  have h2 : (65536 * C + 256 * B + A + (256 * C + B)) / 65536 = C := by omega
  rw [h2]
  omega
theorem uJ6_bitCount {d : Nat} {M : QM} {x : QP} {v : Nat} (hv : v < 2 ^ 20) : q_T (d + 1) iJ6_bitCount_0f7a4 [qi v] M x = x (some (qi (pcN 20 v))) M := by
  obtain ⟨a, b, c, ha, hb, hc, hva⟩ : ∃ a b c : Nat, a < 256 ∧ b < 256 ∧ c < 16 ∧ v = 65536 * c + 256 * b + a := ⟨v % 256, v / 256 % 256, v / 65536, by omega, by omega, by omega, by omega⟩
  have hp : pcN 20 v = pcN 8 a + pcN 8 b + pcN 4 c := by
    rw [pcN_3, show v % 256 = a by omega, show v / 256 % 256 = b by omega, show v / 65536 = c by omega]
  obtain ⟨k1, k2, k3, k4, k5⟩ := bq_c c hc
  have A1 := bq_1b a ha
  have B1 := bq_1b b hb
  have C1 := bq_1b c (by omega)
  have A2 := bq_2b a ha
  have B2 := bq_2b b hb
  have C2 := bq_2b c (by omega)
  have A3 := bq_3b a ha
  have B3 := bq_3b b hb
  have C3 := bq_3b c (by omega)
  -- the first step
  have e1 : v / 2 = 65536 * (c / 2) + 256 * (b / 2 + 128 * (c % 2)) + (a / 2 + 128 * (b % 2)) := by omega
  have m1 : v / 2 &&& 1431655765 = 65536 * (c / 2 &&& 85) + 256 * (b / 2 &&& 85) + (a / 2 &&& 85) := by
    have h := and_3 (a := a / 2 + 128 * (b % 2)) (b := b / 2 + 128 * (c % 2)) (c := c / 2) (x := 85) (y := 85) (z := 21845) (by omega) (by omega) (by omega) (by omega)
    rw [e1, show (1431655765 : Nat) = 65536 * 21845 + 256 * 85 + 85 from rfl, h, bq_1 a ha _ (by omega), bq_1 b hb _ (by omega), k1]
  obtain ⟨x1, hx1⟩ : ∃ x1 : Nat, x1 = 65536 * bq1 c + 256 * bq1 b + bq1 a := ⟨_, rfl⟩
  have s1 : (v : Int) - ((v / 2 &&& 1431655765 : Nat) : Int) = (x1 : Int) := by
    rw [m1, hx1]
    unfold bq1
    omega
  -- the second step
  have m2 : x1 &&& 858993459 = 65536 * (bq1 c &&& 51) + 256 * (bq1 b &&& 51) + (bq1 a &&& 51) := by
    have h := and_3 (a := bq1 a) (b := bq1 b) (c := bq1 c) (x := 51) (y := 51) (z := 13107) (by omega) (by omega) (by omega) (by omega)
    rw [hx1, show (858993459 : Nat) = 65536 * 13107 + 256 * 51 + 51 from rfl, h, k2]
  have e3 : x1 / 4 = 65536 * (bq1 c / 4) + 256 * (bq1 b / 4 + 64 * (bq1 c % 4)) + (bq1 a / 4 + 64 * (bq1 b % 4)) := by omega
  have m3 : x1 / 4 &&& 858993459 = 65536 * (bq1 c / 4 &&& 51) + 256 * (bq1 b / 4 &&& 51) + (bq1 a / 4 &&& 51) := by
    have h := and_3 (a := bq1 a / 4 + 64 * (bq1 b % 4)) (b := bq1 b / 4 + 64 * (bq1 c % 4)) (c := bq1 c / 4) (x := 51) (y := 51) (z := 13107) (by omega) (by omega) (by omega) (by omega)
    rw [e3, show (858993459 : Nat) = 65536 * 13107 + 256 * 51 + 51 from rfl, h, bq_2 a ha _ (by omega), bq_2 b hb _ (by omega), k3]
  obtain ⟨x2, hx2⟩ : ∃ x2 : Nat, x2 = 65536 * bq2 c + 256 * bq2 b + bq2 a := ⟨_, rfl⟩
  have s2 : ((x1 &&& 858993459 : Nat) : Int) + ((x1 / 4 &&& 858993459 : Nat) : Int) = (x2 : Int) := by
    rw [m2, m3, hx2]
    unfold bq2
    omega
  -- the third step
  have e4 : x2 / 16 = 65536 * (bq2 c / 16) + 256 * (bq2 b / 16 + 16 * (bq2 c % 16)) + (bq2 a / 16 + 16 * (bq2 b % 16)) := by omega
  have e5 : x2 + x2 / 16 = 65536 * (bq2 c + bq2 c / 16) + 256 * (bq2 b + (bq2 b / 16 + 16 * (bq2 c % 16))) + (bq2 a + (bq2 a / 16 + 16 * (bq2 b % 16))) := by omega
  have m4 : (x2 + x2 / 16) &&& 252645135 = 65536 * bq3 c + 256 * bq3 b + bq3 a := by
    have h := and_3 (a := bq2 a + (bq2 a / 16 + 16 * (bq2 b % 16))) (b := bq2 b + (bq2 b / 16 + 16 * (bq2 c % 16))) (c := bq2 c + bq2 c / 16) (x := 15) (y := 15) (z := 3855) (by omega) (by omega) (by omega) (by omega)
    rw [e5, show (252645135 : Nat) = 65536 * 3855 + 256 * 15 + 15 from rfl, h, bq_3 a ha _ (by omega), bq_3 b hb _ (by omega), k4]
  obtain ⟨x3, hx3⟩ : ∃ x3 : Nat, x3 = 65536 * bq3 c + 256 * bq3 b + bq3 a := ⟨_, rfl⟩
  rw [← hx3] at m4
  obtain ⟨x4, hx4⟩ : ∃ x4 : Nat, x4 = x3 + x3 / 256 := ⟨_, rfl⟩
  obtain ⟨x5, hx5⟩ : ∃ x5 : Nat, x5 = x4 + x4 / 65536 := ⟨_, rfl⟩
  have m5 : x5 &&& 63 = pcN 20 v := by
    rw [bq_63, hp, hx5, hx4, hx3, bq_fin A3.2 B3.2 C3.2, A3.1, B3.1, C3.1, k5]
  have b1 : x1 < 2 ^ 24 := by omega
  have b2 : x2 < 2 ^ 24 := by omega
  have b3 : x3 < 2 ^ 24 := by omega
  rw [eJ6_bitCount_0f7a4]
  have u1 : q_ushr (v : Int) 1 = ((v / 2 : Nat) : Int) := y_ushr (a := v) (k := 1) (by omega) (by omega)
  have w1 : q_and ((v / 2 : Nat) : Int) 1431655765 = ((v / 2 &&& 1431655765 : Nat) : Int) := y_and (a := v / 2) (b := 1431655765) (by omega) (by omega)
  have w2 : q_and (x1 : Int) 858993459 = ((x1 &&& 858993459 : Nat) : Int) := y_and (a := x1) (b := 858993459) (by omega) (by omega)
  have u2 : q_ushr (x1 : Int) 2 = ((x1 / 4 : Nat) : Int) := y_ushr (a := x1) (k := 2) (by omega) (by omega)
  have w3 : q_and ((x1 / 4 : Nat) : Int) 858993459 = ((x1 / 4 &&& 858993459 : Nat) : Int) := y_and (a := x1 / 4) (b := 858993459) (by omega) (by omega)
  have u3 : q_ushr (x2 : Int) 4 = ((x2 / 16 : Nat) : Int) := y_ushr (a := x2) (k := 4) (by omega) (by omega)
  have w4 : q_and ((x2 : Int) + ((x2 / 16 : Nat) : Int)) 252645135 = (x3 : Int) := by
    have := y_and (a := x2 + x2 / 16) (b := 252645135) (by omega) (by omega)
    rw [m4] at this
    exact this
  have u4 : q_ushr (x3 : Int) 8 = ((x3 / 256 : Nat) : Int) := y_ushr (a := x3) (k := 8) (by omega) (by omega)
  have t4 : (x3 : Int) + ((x3 / 256 : Nat) : Int) = (x4 : Int) := by omega
  have u5 : q_ushr (x4 : Int) 16 = ((x4 / 65536 : Nat) : Int) := y_ushr (a := x4) (k := 16) (by omega) (by omega)
  have t5 : (x4 : Int) + ((x4 / 65536 : Nat) : Int) = (x5 : Int) := by omega
  have w5 : q_and (x5 : Int) 63 = ((x5 &&& 63 : Nat) : Int) := y_and (a := x5) (b := 63) (by omega) (by omega)
  simp (disch := first | assumption | exact bI_lo | exact bI_hi | exact bI_01 | (show (List.map q_wd _).sum ≤ 8; with_unfolding_all exact Nat.le_of_ble_eq_true rfl) | omega) only [kJ6_bitCount_0f7a4_0, kJ6_bitCount_0f7a4_1, kJ6_bitCount_0f7a4_2, kJ6_bitCount_0f7a4_3, kJ6_bitCount_0f7a4_4, kJ6_bitCount_0f7a4_7, kJ6_bitCount_0f7a4_8, kJ6_bitCount_0f7a4_9, kJ6_bitCount_0f7a4_10, kJ6_bitCount_0f7a4_11, kJ6_bitCount_0f7a4_14, kJ6_bitCount_0f7a4_15, kJ6_bitCount_0f7a4_16, kJ6_bitCount_0f7a4_17, kJ6_bitCount_0f7a4_18, kJ6_bitCount_0f7a4_21, kJ6_bitCount_0f7a4_22, kJ6_bitCount_0f7a4_23, kJ6_bitCount_0f7a4_24, kJ6_bitCount_0f7a4_25, kJ6_bitCount_0f7a4_26, kJ6_bitCount_0f7a4_27, kJ6_bitCount_0f7a4_28, kJ6_bitCount_0f7a4_29, kJ6_bitCount_0f7a4_32, kJ6_bitCount_0f7a4_33, kJ6_bitCount_0f7a4_34, kJ6_bitCount_0f7a4_35, kJ6_bitCount_0f7a4_36, kJ6_bitCount_0f7a4_38, kJ6_bitCount_0f7a4_39, kJ6_bitCount_0f7a4_40, kJ6_bitCount_0f7a4_41, kJ6_bitCount_0f7a4_42, kJ6_bitCount_0f7a4_43, kJ6_bitCount_0f7a4_45, kJ6_bitCount_0f7a4_46, kJ6_bitCount_0f7a4_47, kJ6_bitCount_0f7a4_48, kJ6_bitCount_0f7a4_49, kJ6_bitCount_0f7a4_51, kJ6_bitCount_0f7a4_52, q_cut_i, q_cut_r, q_cut_l, q_cut_n, u1, w1, s1, w2, u2, w3, s2, u3, w4, u4, t4, u5, t5, w5, m5]
def bCt (f : Nat → Bool) : Nat → Nat
  | 0 => 0
  | n + 1 => bCt f n + if f n = true then 1 else 0
theorem bCt_le (f : Nat → Bool) : ∀ n : Nat, bCt f n ≤ n
  | 0 => Nat.le_refl 0
  | n + 1 => by
    have := bCt_le f n
    rw [bCt]
    split <;> omega
theorem pc_bit (f : Nat → Bool) (n i : Nat) : bSet f n / 2 ^ i % 2 = if i < n ∧ f i = true then 1 else 0 := by
  have h := bSet_tb f i n
  rw [Nat.testBit_eq_decide_div_mod_eq] at h
  by_cases g : i < n ∧ f i = true
  · rw [if_pos g]
    have : (decide (i < n) && f i) = true := by simp [g]
    rw [this] at h
    exact of_decide_eq_true h
  · rw [if_neg g]
    have : (decide (i < n) && f i) = false := by
      cases hf : f i
      · simp
      · simp [hf] at g; simp [g]
    rw [this] at h
    have := of_decide_eq_false h
    omega
theorem pc_bSet {f : Nat → Bool} {n : Nat} (hn : n ≤ 20) : pcN 20 (bSet f n) = bCt f n := by
  have h : ∀ k : Nat, k ≤ n → pcN k (bSet f n) = bCt f k := by
    intro k
    induction k with
    | zero => intro _; rfl
    | succ k ih =>
      intro hk
      rw [pcN, bCt, ih (by omega), pc_bit]
      congr 1
      by_cases g : f k = true
      · rw [if_pos ⟨by omega, g⟩, if_pos g]
      · rw [if_neg (fun z => g z.2), if_neg g]
  have h2 : ∀ k : Nat, pcN (n + k) (bSet f n) = pcN n (bSet f n) := by
    intro k
    induction k with
    | zero => rfl
    | succ k ih =>
      rw [← Nat.add_assoc, pcN, ih, pc_bit, if_neg (by omega)]; rfl
  have := h2 (20 - n)
  rw [show n + (20 - n) = 20 by omega] at this
  rw [this, h n (Nat.le_refl n)]
