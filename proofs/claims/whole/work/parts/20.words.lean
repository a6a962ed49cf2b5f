/-! whole numbers under the long instructions -/
theorem z_toInt {a : Int} (h0 : 0 ≤ a) (h1 : a < 2 ^ 63) : (Int64.ofInt a).toInt = a := Int64.toInt_ofInt_of_le (by omega) h1
theorem z_sh : ∀ k : Nat, k < 64 → (((Int32.ofInt (k : Int)).toInt64 &&& 63).toBitVec.smod 64).toNat = k := by decide +kernel
theorem z_lshr {a : Int} {k : Nat} (h0 : 0 ≤ a) (h1 : a < 2 ^ 63) (hk : k < 64) : q_lshr a k = a / 2 ^ k := by
  have e : (Int64.ofInt a >>> ((Int32.ofInt (k : Int)).toInt64 &&& 63)).toInt = (Int64.ofInt a).toInt >>> k := by
    show ((Int64.ofInt a).toBitVec.sshiftRight (((Int32.ofInt (k : Int)).toInt64 &&& 63).toBitVec.smod 64).toNat).toInt = _
    rw [z_sh k hk]
    exact BitVec.toInt_sshiftRight ..
  rw [q_lshr, e, z_toInt h0 h1, Int.shiftRight_eq_div_pow]
  simp
theorem z_nat {n : Nat} (h : n < 2 ^ 63) : (Int64.ofInt (n : Int)).toBitVec.toNat = n := by
  show (BitVec.ofInt 64 (n : Int)).toNat = n
  rw [BitVec.ofInt_natCast, BitVec.toNat_ofNat]
  omega
theorem z_ofN {x : Int64} {n : Nat} (h : n < 2 ^ 63) (hx : x.toBitVec.toNat = n) : x.toInt = (n : Int) := by
  have : x = Int64.ofInt (n : Int) := Int64.toBitVec_inj.mp (BitVec.eq_of_toNat_eq (by rw [hx, z_nat h]))
  rw [this, z_toInt (by omega) (by omega)]
theorem z_land {a b : Nat} (ha : a < 2 ^ 63) (hb : b < 2 ^ 63) : q_land a b = ((a &&& b : Nat) : Int) := by
  refine z_ofN (Nat.and_lt_two_pow _ hb) ?_
  rw [Int64.toBitVec_and, BitVec.toNat_and, z_nat ha, z_nat hb]
theorem z_land31 {a : Nat} (ha : a < 2 ^ 63) : q_land a 31 = ((a % 32 : Nat) : Int) := by
  have := z_land ha (b := 31) (by omega)
  rw [show ((31 : Nat) : Int) = 31 from rfl] at this
  rw [this, show (31 : Nat) = 2 ^ 5 - 1 from rfl, Nat.and_two_pow_sub_one_eq_mod]
theorem z_lor {a b : Nat} (ha : a < 2 ^ 63) (hb : b < 2 ^ 63) : q_lor a b = ((a ||| b : Nat) : Int) := by
  refine z_ofN (Nat.or_lt_two_pow ha hb) ?_
  rw [Int64.toBitVec_or, BitVec.toNat_or, z_nat ha, z_nat hb]
theorem z_lor' {a b k : Nat} (ha : a < 2 ^ k) (h : a + b * 2 ^ k < 2 ^ 63) : q_lor a (b * 2 ^ k : Nat) = ((a + b * 2 ^ k : Nat) : Int) := by
  rw [z_lor (by omega) (by omega), Nat.or_comm, ← Nat.shiftLeft_eq, ← Nat.shiftLeft_add_eq_or_of_lt ha, Nat.add_comm]
theorem z_lshl {a k : Nat} (h : a * 2 ^ k < 2 ^ 63) (hk : k < 64) : q_lshl a k = ((a * 2 ^ k : Nat) : Int) := by
  have ha : a < 2 ^ 63 := Nat.lt_of_le_of_lt (Nat.le_mul_of_pos_right _ (Nat.two_pow_pos k)) h
  refine z_ofN h ?_
  rw [Int64.toBitVec_shiftLeft, BitVec.shiftLeft_eq', BitVec.toNat_shiftLeft, z_sh k hk, z_nat ha, Nat.shiftLeft_eq, Nat.mod_eq_of_lt (by omega)]
theorem z_i2l {a : Int} (h0 : -2147483648 ≤ a) (h1 : a < 2147483648) : q_i2l a = a := by
  rw [q_i2l, Int32.toInt_toInt64, Int32.toInt_ofInt_of_le (by omega) (by omega)]
theorem z_l2i {a : Int} (h0 : -2147483648 ≤ a) (h1 : a < 2147483648) : q_l2i a = a := by
  rw [q_l2i, Int64.toInt_toInt32, Int64.toInt_ofInt_of_le (by omega) (by omega)]
  exact Int.bmod_eq_of_le (by omega) (by omega)
/-! words -/
def wdAt (w i : Nat) : Nat := if i < 8 then w / 2 ^ (5 * i) % 32 else 0
theorem wdAt_lt (w i : Nat) : wdAt w i < 32 := by
  unfold wdAt
  split
  · omega
  · omega
def wdLen (w : Nat) : Nat → Nat
  | 0 => 0
  | n + 1 => wdLen w n + (if wdAt w n = 0 then 0 else 1)
theorem sX10_letterOf {d : Nat} {M : QM} {w : Nat} {i : Int} (hw : w < 2 ^ 40) (h1 : -2147483648 ≤ i) (h2 : i < 2147483648) {P : QP} (hP : P (some (qi (if i < 0 then 0 else wdAt w i.toNat : Nat))) M) : q_T (d + 1) iX10_letterOf [ql w, qi i] M P := by
  rw [eX10_letterOf]
  by_cases h0 : i < 0
  · rw [if_pos h0] at hP
    simp (disch := first | assumption | omega | (simp only [q_kd_wr, q_fv_wrE, q_top_wr, q_nc_wr, q_ns_wr, q_gs_wr, q_kd_al, q_fv_al, q_top_al, q_nc_al, q_ns_al, q_gs_al, q_kd_cp, q_fv_cpE, q_top_cp, q_nc_cp, q_ns_cp, q_gs_cp]; first | done | assumption | omega)) only [kX10_letterOf_0, kX10_letterOf_1, kX10_letterOf_4, kX10_letterOf_5, kX10_letterOf_7, kX10_letterOf_10, kX10_letterOf_11, kX10_letterOf_14, kX10_letterOf_15, kX10_letterOf_16, kX10_letterOf_17, kX10_letterOf_18, kX10_letterOf_19, kX10_letterOf_22, kX10_letterOf_23, kX10_letterOf_24, q_cut_i, q_cut_r, q_cut_l, q_cut_n, if_pos, if_neg]
    exact hP
  · rw [if_neg h0] at hP
    by_cases h8 : i < 8
    · obtain ⟨k, rfl⟩ : ∃ k : Nat, i = k := ⟨i.toNat, by omega⟩
      have e : ((k : Int) * 5) = ((5 * k : Nat) : Int) := by omega
      have ew : ((w : Int) / 2 ^ (5 * k)) = ((w / 2 ^ (5 * k) : Nat) : Int) := by simp
      have hl : w / 2 ^ (5 * k) < 2 ^ 63 := Nat.lt_of_le_of_lt (Nat.div_le_self _ _) (by omega)
      simp (disch := first | assumption | omega | (simp only [q_kd_wr, q_fv_wrE, q_top_wr, q_nc_wr, q_ns_wr, q_gs_wr, q_kd_al, q_fv_al, q_top_al, q_nc_al, q_ns_al, q_gs_al, q_kd_cp, q_fv_cpE, q_top_cp, q_nc_cp, q_ns_cp, q_gs_cp]; first | done | assumption | omega)) only [kX10_letterOf_0, kX10_letterOf_1, kX10_letterOf_4, kX10_letterOf_5, kX10_letterOf_7, kX10_letterOf_10, kX10_letterOf_11, kX10_letterOf_14, kX10_letterOf_15, kX10_letterOf_16, kX10_letterOf_17, kX10_letterOf_18, kX10_letterOf_19, kX10_letterOf_22, kX10_letterOf_23, kX10_letterOf_24, q_cut_i, q_cut_r, q_cut_l, q_cut_n, if_pos, if_neg]
      rw [show ((5 : Int) * (k : Int)) = ((5 * k : Nat) : Int) by omega, z_lshr (by omega) (by omega) (by omega), ew, z_land31 hl, z_l2i (by omega) (by omega)]
      rw [q_toN, wdAt, if_pos (by omega)] at hP
      exact hP
    · rw [wdAt, if_neg (by omega)] at hP
      simp (disch := first | assumption | omega | (simp only [q_kd_wr, q_fv_wrE, q_top_wr, q_nc_wr, q_ns_wr, q_gs_wr, q_kd_al, q_fv_al, q_top_al, q_nc_al, q_ns_al, q_gs_al, q_kd_cp, q_fv_cpE, q_top_cp, q_nc_cp, q_ns_cp, q_gs_cp]; first | done | assumption | omega)) only [kX10_letterOf_0, kX10_letterOf_1, kX10_letterOf_4, kX10_letterOf_5, kX10_letterOf_7, kX10_letterOf_10, kX10_letterOf_11, kX10_letterOf_14, kX10_letterOf_15, kX10_letterOf_16, kX10_letterOf_17, kX10_letterOf_18, kX10_letterOf_19, kX10_letterOf_22, kX10_letterOf_23, kX10_letterOf_24, q_cut_i, q_cut_r, q_cut_l, q_cut_n, if_pos, if_neg]
      exact hP
theorem sX10_isLetter {d : Nat} {M : QM} {c : Int} (h1 : -2147483648 ≤ c) (h2 : c < 2147483648) {P : QP} (hP : P (some (qi (if 97 ≤ c ∧ c ≤ 122 then 1 else 0))) M) : q_T (d + 1) iX10_isLetter [qi c] M P := by
  rw [eX10_isLetter]
  by_cases ha : c < 97
  · rw [if_neg (by omega)] at hP
    simp (disch := first | assumption | omega | (simp only [q_kd_wr, q_fv_wrE, q_top_wr, q_nc_wr, q_ns_wr, q_gs_wr, q_kd_al, q_fv_al, q_top_al, q_nc_al, q_ns_al, q_gs_al, q_kd_cp, q_fv_cpE, q_top_cp, q_nc_cp, q_ns_cp, q_gs_cp]; first | done | assumption | omega)) only [kX10_isLetter_0, kX10_isLetter_1, kX10_isLetter_3, kX10_isLetter_6, kX10_isLetter_7, kX10_isLetter_9, kX10_isLetter_12, kX10_isLetter_13, kX10_isLetter_16, kX10_isLetter_17, q_cut_i, q_cut_r, q_cut_l, q_cut_n, if_pos, if_neg]
    exact hP
  · by_cases hb : 122 < c
    · rw [if_neg (by omega)] at hP
      simp (disch := first | assumption | omega | (simp only [q_kd_wr, q_fv_wrE, q_top_wr, q_nc_wr, q_ns_wr, q_gs_wr, q_kd_al, q_fv_al, q_top_al, q_nc_al, q_ns_al, q_gs_al, q_kd_cp, q_fv_cpE, q_top_cp, q_nc_cp, q_ns_cp, q_gs_cp]; first | done | assumption | omega)) only [kX10_isLetter_0, kX10_isLetter_1, kX10_isLetter_3, kX10_isLetter_6, kX10_isLetter_7, kX10_isLetter_9, kX10_isLetter_12, kX10_isLetter_13, kX10_isLetter_16, kX10_isLetter_17, q_cut_i, q_cut_r, q_cut_l, q_cut_n, if_pos, if_neg]
      exact hP
    · rw [if_pos (by omega)] at hP
      simp (disch := first | assumption | omega | (simp only [q_kd_wr, q_fv_wrE, q_top_wr, q_nc_wr, q_ns_wr, q_gs_wr, q_kd_al, q_fv_al, q_top_al, q_nc_al, q_ns_al, q_gs_al, q_kd_cp, q_fv_cpE, q_top_cp, q_nc_cp, q_ns_cp, q_gs_cp]; first | done | assumption | omega)) only [kX10_isLetter_0, kX10_isLetter_1, kX10_isLetter_3, kX10_isLetter_6, kX10_isLetter_7, kX10_isLetter_9, kX10_isLetter_12, kX10_isLetter_13, kX10_isLetter_16, kX10_isLetter_17, q_cut_i, q_cut_r, q_cut_l, q_cut_n, if_pos, if_neg]
      exact hP
theorem sX10_with {d : Nat} {M : QM} {w k c : Nat} (hw : w < 2 ^ (5 * k)) (hk : k < 8) (hc : c < 32) {P : QP} (hP : P (some (ql (w + c * 2 ^ (5 * k) : Nat))) M) : q_T (d + 1) iX10_with [ql w, qi k, qi c] M P := by
  have hm : c * 2 ^ (5 * k) ≤ 31 * 2 ^ 35 := Nat.mul_le_mul (by omega) (Nat.pow_le_pow_right (by omega) (by omega))
  have hp : 2 ^ (5 * k) ≤ 2 ^ 35 := Nat.pow_le_pow_right (by omega) (by omega)
  rw [eX10_with]
  simp (disch := first | assumption | omega | (simp only [q_kd_wr, q_fv_wrE, q_top_wr, q_nc_wr, q_ns_wr, q_gs_wr, q_kd_al, q_fv_al, q_top_al, q_nc_al, q_ns_al, q_gs_al, q_kd_cp, q_fv_cpE, q_top_cp, q_nc_cp, q_ns_cp, q_gs_cp]; first | done | assumption | omega)) only [kX10_with_0, kX10_with_1, kX10_with_2, kX10_with_3, kX10_with_4, kX10_with_5, kX10_with_6, kX10_with_7, kX10_with_8, q_cut_i, q_cut_r, q_cut_l, q_cut_n, if_pos, if_neg]
  rw [show ((5 : Int) * (k : Int)) = ((5 * k : Nat) : Int) by omega, z_i2l (by omega) (by omega), z_lshl (by omega) (by omega), z_lor' hw (by omega)]
  exact hP
theorem wdLen_le (w n : Nat) : wdLen w n ≤ n := by
  induction n with
  | zero => exact Nat.le_refl 0
  | succ n ih => unfold wdLen; split <;> omega
theorem sX10_lengthOf {d : Nat} {M : QM} {w : Nat} (hw : w < 2 ^ 40) {P : QP} (hP : P (some (qi (wdLen w 8))) M) : q_T (d + 2) iX10_lengthOf [ql w] M P := by
  have loop : ∀ m i : Nat, i + m = 8 → Rr (q_C (d + 1)) mX10_lengthOf (4, [some (ql w), none, some (qi (wdLen w i)), some (qi i)], [], M) P := by
    intro m
    induction m with
    | zero =>
      intro i hi
      have e : i = 8 := by omega
      subst e
      have := wdLen_le w 8
      simp (disch := first | assumption | omega | (simp only [q_kd_wr, q_fv_wrE, q_top_wr, q_nc_wr, q_ns_wr, q_gs_wr, q_kd_al, q_fv_al, q_top_al, q_nc_al, q_ns_al, q_gs_al, q_kd_cp, q_fv_cpE, q_top_cp, q_nc_cp, q_ns_cp, q_gs_cp]; first | done | assumption | omega)) only [kX10_lengthOf_0, kX10_lengthOf_1, kX10_lengthOf_2, kX10_lengthOf_3, kX10_lengthOf_4, kX10_lengthOf_5, kX10_lengthOf_7, kX10_lengthOf_10, kX10_lengthOf_11, kX10_lengthOf_15, kX10_lengthOf_18, kX10_lengthOf_21, kX10_lengthOf_24, kX10_lengthOf_27, kX10_lengthOf_28, q_cut_i, q_cut_r, q_cut_l, q_cut_n, if_pos, if_neg]
      exact hP
    | succ m ih =>
      intro i hi
      have hn := ih (i + 1) (by omega)
      have hl := wdLen_le w i
      have ha := wdAt_lt w i
      rw [kX10_lengthOf_4]
      simp (disch := first | assumption | omega | (simp only [q_kd_wr, q_fv_wrE, q_top_wr, q_nc_wr, q_ns_wr, q_gs_wr, q_kd_al, q_fv_al, q_top_al, q_nc_al, q_ns_al, q_gs_al, q_kd_cp, q_fv_cpE, q_top_cp, q_nc_cp, q_ns_cp, q_gs_cp]; first | done | assumption | omega)) only [kX10_lengthOf_5, kX10_lengthOf_7, kX10_lengthOf_10, kX10_lengthOf_11, q_cut_i, q_cut_r, q_cut_l, q_cut_n, if_pos, if_neg]
      refine kX10_lengthOf_12 (v := qi (wdAt w i)) (M1 := M) (q_Tx (sX10_letterOf hw (by omega) (by omega) ?_)) (Nat.le_of_ble_eq_true rfl) ?_
      · rw [if_neg (by omega), q_toN]; exact ⟨rfl, rfl⟩
      by_cases h0 : wdAt w i = 0
      · rw [h0, kX10_lengthOf_15 (by omega) (by omega), if_pos (by omega)]
        simp (disch := first | assumption | omega | (simp only [q_kd_wr, q_fv_wrE, q_top_wr, q_nc_wr, q_ns_wr, q_gs_wr, q_kd_al, q_fv_al, q_top_al, q_nc_al, q_ns_al, q_gs_al, q_kd_cp, q_fv_cpE, q_top_cp, q_nc_cp, q_ns_cp, q_gs_cp]; first | done | assumption | omega)) only [kX10_lengthOf_18, kX10_lengthOf_21, kX10_lengthOf_24, q_cut_i, q_cut_r, q_cut_l, q_cut_n, if_pos, if_neg]
        rw [wdLen, if_pos h0] at hn
        exact hn
      · rw [kX10_lengthOf_15 (by omega) (by omega), if_neg (by omega)]
        simp (disch := first | assumption | omega | (simp only [q_kd_wr, q_fv_wrE, q_top_wr, q_nc_wr, q_ns_wr, q_gs_wr, q_kd_al, q_fv_al, q_top_al, q_nc_al, q_ns_al, q_gs_al, q_kd_cp, q_fv_cpE, q_top_cp, q_nc_cp, q_ns_cp, q_gs_cp]; first | done | assumption | omega)) only [kX10_lengthOf_18, kX10_lengthOf_21, kX10_lengthOf_24, q_cut_i, q_cut_r, q_cut_l, q_cut_n, if_pos, if_neg]
        rw [wdLen, if_neg h0] at hn
        exact hn
  rw [eX10_lengthOf]
  simp (disch := first | assumption | omega | (simp only [q_kd_wr, q_fv_wrE, q_top_wr, q_nc_wr, q_ns_wr, q_gs_wr, q_kd_al, q_fv_al, q_top_al, q_nc_al, q_ns_al, q_gs_al, q_kd_cp, q_fv_cpE, q_top_cp, q_nc_cp, q_ns_cp, q_gs_cp]; first | done | assumption | omega)) only [kX10_lengthOf_0, kX10_lengthOf_1, kX10_lengthOf_2, kX10_lengthOf_3, q_cut_i, q_cut_r, q_cut_l, q_cut_n, if_pos, if_neg]
  exact loop 8 0 rfl
/-! the tape -/
def pkW : List Int → Nat
  | [] => 0
  | c :: l => (c - 96).toNat + 32 * pkW l
def isLt (c : Int) : Bool := decide (97 ≤ c ∧ c ≤ 122)
def tkW (l : List Int) : Nat := if l.length ≤ 8 ∧ l.all isLt = true then pkW l else 0
theorem pkW_snoc (l : List Int) (c : Int) : pkW (l ++ [c]) = pkW l + (c - 96).toNat * 2 ^ (5 * l.length) := by
  induction l with
  | nil => simp [pkW]
  | cons a l ih =>
    rw [List.cons_append, pkW, ih, pkW, List.length_cons, Nat.mul_add 5, Nat.pow_add, Nat.mul_add, ← Nat.mul_assoc, ← Nat.mul_assoc, Nat.mul_comm ((c - 96).toNat * 2 ^ (5 * l.length))]
    simp only [Nat.mul_assoc]
    omega
theorem pkW_lt (l : List Int) (h : l.all isLt = true) : pkW l < 2 ^ (5 * l.length) := by
  induction l with
  | nil => simp [pkW]
  | cons a l ih =>
    rw [List.all_cons, Bool.and_eq_true] at h
    have h1 := ih h.2
    have h2 := of_decide_eq_true h.1
    rw [pkW, List.length_cons, Nat.mul_add 5, Nat.pow_add]
    omega
def TP (M : QM) (t s : Nat) (l : List Int) : Prop :=
  q_kd M t = (1, 8) ∧ q_fv M t 0 = qr s ∧ q_fv M t 1 = qi l.length ∧ q_kd M s = (2, 80) ∧ l.length ≤ 80 ∧
  (∀ i (h : i < l.length), q_fv M s i = qi l[i] ∧ -2147483648 ≤ l[i] ∧ l[i] < 2147483648) ∧ (∀ i, i < 80 → ∃ z, q_fv M s i = qi z)
theorem sX8_length {d : Nat} {M : QM} {t s : Nat} {l : List Int} (hT : TP M t s l) {P : QP} (hP : P (some (qi l.length)) M) : q_T (d + 1) iX8_length [qr t] M P := by
  obtain ⟨kt, f0, f1, ks', hl, he, hz⟩ := hT
  have ks : (q_kd _ s).1 = 2 := congrArg Prod.fst ks'
  have ks2 : (q_kd _ s).2 = 80 := congrArg Prod.snd ks'
  have ts := q_neK kt ks' (by simp)
  rw [eX8_length]
  simp (disch := first | assumption | omega | (simp only [q_kd_wr, q_fv_wrE, q_top_wr, q_nc_wr, q_ns_wr, q_gs_wr, q_kd_al, q_fv_al, q_top_al, q_nc_al, q_ns_al, q_gs_al, q_kd_cp, q_fv_cpE, q_top_cp, q_nc_cp, q_ns_cp, q_gs_cp]; first | done | assumption | omega)) only [kX8_length_0, kX8_length_1, kX8_length_4, f1]
  exact hP
theorem sX8_at {d : Nat} {M : QM} {t s : Nat} {l : List Int} (hT : TP M t s l) {i : Int} (h1 : -2147483648 ≤ i) (h2 : i < 2147483648) {P : QP} (hP : P (some (qi (if i < 0 then -1 else l[i.toNat]?.getD (-1)))) M) : q_T (d + 1) iX8_at [qr t, qi i] M P := by
  obtain ⟨kt, f0, f1, ks', hl, he, hz⟩ := hT
  have ks : (q_kd _ s).1 = 2 := congrArg Prod.fst ks'
  have ks2 : (q_kd _ s).2 = 80 := congrArg Prod.snd ks'
  have ts := q_neK kt ks' (by simp)
  rw [eX8_at]
  by_cases h0 : i < 0
  · rw [if_pos h0] at hP
    simp (disch := first | assumption | omega | (simp only [q_kd_wr, q_fv_wrE, q_top_wr, q_nc_wr, q_ns_wr, q_gs_wr, q_kd_al, q_fv_al, q_top_al, q_nc_al, q_ns_al, q_gs_al, q_kd_cp, q_fv_cpE, q_top_cp, q_nc_cp, q_ns_cp, q_gs_cp]; first | done | assumption | omega)) only [kX8_at_0, kX8_at_1, kX8_at_4, kX8_at_5, kX8_at_6, kX8_at_9, kX8_at_12, kX8_at_13, kX8_at_14, kX8_at_17, kX8_at_18, kX8_at_21, kX8_at_22, kX8_at_25, kX8_at_26, kX8_at_27, kX8_at_30, kX8_at_31, q_cut_i, q_cut_r, q_cut_l, q_cut_n, if_pos, if_neg]
    exact hP
  · obtain ⟨k, rfl⟩ : ∃ k : Nat, i = k := ⟨i.toNat, by omega⟩
    rw [if_neg h0, q_toN] at hP
    by_cases hk : k < l.length
    · obtain ⟨e1, e2, e3⟩ := he k hk
      simp (disch := first | assumption | omega | (simp only [q_kd_wr, q_fv_wrE, q_top_wr, q_nc_wr, q_ns_wr, q_gs_wr, q_kd_al, q_fv_al, q_top_al, q_nc_al, q_ns_al, q_gs_al, q_kd_cp, q_fv_cpE, q_top_cp, q_nc_cp, q_ns_cp, q_gs_cp]; first | done | assumption | omega)) only [kX8_at_0, kX8_at_1, kX8_at_4, kX8_at_5, kX8_at_6, kX8_at_9, kX8_at_12, kX8_at_13, kX8_at_14, kX8_at_17, kX8_at_18, kX8_at_21, kX8_at_22, kX8_at_25, kX8_at_26, kX8_at_27, kX8_at_30, kX8_at_31, q_cut_i, q_cut_r, q_cut_l, q_cut_n, if_pos, if_neg, f0, f1, ks2, q_toN, e1]
      rw [List.getElem?_eq_getElem hk] at hP
      exact hP
    · simp (disch := first | assumption | omega | (simp only [q_kd_wr, q_fv_wrE, q_top_wr, q_nc_wr, q_ns_wr, q_gs_wr, q_kd_al, q_fv_al, q_top_al, q_nc_al, q_ns_al, q_gs_al, q_kd_cp, q_fv_cpE, q_top_cp, q_nc_cp, q_ns_cp, q_gs_cp]; first | done | assumption | omega)) only [kX8_at_0, kX8_at_1, kX8_at_4, kX8_at_5, kX8_at_6, kX8_at_9, kX8_at_12, kX8_at_13, kX8_at_14, kX8_at_17, kX8_at_18, kX8_at_21, kX8_at_22, kX8_at_25, kX8_at_26, kX8_at_27, kX8_at_30, kX8_at_31, q_cut_i, q_cut_r, q_cut_l, q_cut_n, if_pos, if_neg, f0, f1]
      rw [List.getElem?_eq_none (by omega)] at hP
      exact hP
theorem sX8_clear {d : Nat} {M : QM} {t s : Nat} {l : List Int} (hT : TP M t s l) {P : QP} (hP : TP (q_wr M t 1 (qi 0)) t s [] → P none (q_wr M t 1 (qi 0))) : q_T (d + 1) iX8_clear [qr t] M P := by
  obtain ⟨kt, f0, f1, ks', hl, he, hz⟩ := hT
  have ks : (q_kd _ s).1 = 2 := congrArg Prod.fst ks'
  have ks2 : (q_kd _ s).2 = 80 := congrArg Prod.snd ks'
  have ts := q_neK kt ks' (by simp)
  rw [eX8_clear]
  simp (disch := first | assumption | omega | (simp only [q_kd_wr, q_fv_wrE, q_top_wr, q_nc_wr, q_ns_wr, q_gs_wr, q_kd_al, q_fv_al, q_top_al, q_nc_al, q_ns_al, q_gs_al, q_kd_cp, q_fv_cpE, q_top_cp, q_nc_cp, q_ns_cp, q_gs_cp]; first | done | assumption | omega)) only [kX8_clear_0, kX8_clear_1, kX8_clear_2, kX8_clear_5]
  refine hP ⟨kt, ?_, ?_, ks', by simp, by simp, ?_⟩
  · simp [q_fv_wrE, f0]
  · simp [q_fv_wrE]
  · intro i hi
    simpa [q_fv_wrE, Ne.symm ts] using hz i hi
def tpApp (l : List Int) (c : Int) : List Int := if l.length < 80 then l ++ [c] else l
theorem sX8_append {d : Nat} {M : QM} {t s : Nat} {l : List Int} {c : Int} (hT : TP M t s l) (h1 : -2147483648 ≤ c) (h2 : c < 2147483648) {P : QP} (hP : ∀ M', TP M' t s (tpApp l c) → q_fr (fun a => a = t ∨ a = s) M M' → q_qt M M' → P none M') : q_T (d + 1) iX8_append [qr t, qi c] M P := by
  have hT' := hT
  obtain ⟨kt, f0, f1, ks', hl, he, hz⟩ := hT
  have ks : (q_kd _ s).1 = 2 := congrArg Prod.fst ks'
  have ks2 : (q_kd _ s).2 = 80 := congrArg Prod.snd ks'
  have ts := q_neK kt ks' (by simp)
  rw [eX8_append]
  by_cases hk : l.length < 80
  · simp (disch := first | assumption | omega | (simp only [q_kd_wr, q_fv_wrE, q_top_wr, q_nc_wr, q_ns_wr, q_gs_wr, q_kd_al, q_fv_al, q_top_al, q_nc_al, q_ns_al, q_gs_al, q_kd_cp, q_fv_cpE, q_top_cp, q_nc_cp, q_ns_cp, q_gs_cp]; first | done | assumption | omega)) only [kX8_append_0, kX8_append_1, kX8_append_4, kX8_append_5, kX8_append_8, kX8_append_9, kX8_append_12, kX8_append_13, kX8_append_16, kX8_append_17, kX8_append_20, kX8_append_21, kX8_append_22, kX8_append_23i, kX8_append_23r, kX8_append_24, kX8_append_27, kX8_append_28, kX8_append_29, kX8_append_32, q_cut_i, q_cut_r, q_cut_l, q_cut_n, if_pos, if_neg, q_kd_wr, q_fv_wrE, q_top_wr, q_nc_wr, q_ns_wr, q_gs_wr, q_kd_al, q_fv_al, q_top_al, q_nc_al, q_ns_al, q_gs_al, q_kd_cp, q_fv_cpE, q_top_cp, q_nc_cp, q_ns_cp, q_gs_cp, f0, f1, ks2, q_toN, and_false, if_false, if_neg ts, if_neg ts.symm, false_and]
    refine hP _ ⟨kt, ?_, ?_, ks', ?_, ?_, ?_⟩ ((q_fr.wr (Or.inr rfl)).tr (q_fr.wr (Or.inl rfl))) (q_qt.wr.tr q_qt.wr)
    · simp [q_fv_wrE, ts, f0]
    · simp [q_fv_wrE, tpApp, hk]
    · simp [tpApp, hk]; omega
    · intro i hi
      have e : tpApp l c = l ++ [c] := if_pos hk
      simp only [e] at hi ⊢
      rw [q_fv_wrE, if_neg (fun q => ts q.1.symm), q_fv_wrE]
      by_cases hi2 : i = l.length
      · subst hi2
        simp [h1, h2]
      · rw [if_neg (fun q => hi2 q.2)]
        rw [List.length_append, List.length_singleton] at hi
        rw [List.getElem_append_left (by omega)]
        exact he i (by omega)
    · intro i hi
      rw [q_fv_wrE, if_neg (fun q => ts q.1.symm), q_fv_wrE]
      split
      · exact ⟨_, rfl⟩
      · exact hz i hi
  · simp (disch := first | assumption | omega | (simp only [q_kd_wr, q_fv_wrE, q_top_wr, q_nc_wr, q_ns_wr, q_gs_wr, q_kd_al, q_fv_al, q_top_al, q_nc_al, q_ns_al, q_gs_al, q_kd_cp, q_fv_cpE, q_top_cp, q_nc_cp, q_ns_cp, q_gs_cp]; first | done | assumption | omega)) only [kX8_append_0, kX8_append_1, kX8_append_4, kX8_append_5, kX8_append_8, kX8_append_9, kX8_append_12, kX8_append_13, kX8_append_16, kX8_append_17, kX8_append_20, kX8_append_21, kX8_append_22, kX8_append_23i, kX8_append_23r, kX8_append_24, kX8_append_27, kX8_append_28, kX8_append_29, kX8_append_32, q_cut_i, q_cut_r, q_cut_l, q_cut_n, if_pos, if_neg, f0, f1, ks2]
    have e : tpApp l c = l := if_neg hk
    exact hP M (by rw [e]; exact hT') q_fr.rf q_qt.rf
theorem sX8_takeWord {d : Nat} {M : QM} {t s : Nat} {l : List Int} (hT : TP M t s l) {P : QP} (hP : TP (q_wr M t 1 (qi 0)) t s [] → P (some (ql (tkW l))) (q_wr M t 1 (qi 0))) : q_T (d + 2) iX8_takeWord [qr t] M P := by
  obtain ⟨kt, f0, f1, ks', hl, he, hz⟩ := hT
  have ks : (q_kd _ s).1 = 2 := congrArg Prod.fst ks'
  have ks2 : (q_kd _ s).2 = 80 := congrArg Prod.snd ks'
  have ts := q_neK kt ks' (by simp)
  have hP' : P (some (ql (tkW l))) (q_wr M t 1 (qi 0)) := by
    refine hP ⟨kt, ?_, ?_, ks', by simp, by simp, ?_⟩
    · simp [q_fv_wrE, f0]
    · simp [q_fv_wrE]
    · intro i hi
      simpa [q_fv_wrE, Ne.symm ts] using hz i hi
  rw [eX8_takeWord]
  by_cases h8 : 8 < l.length
  · simp (disch := first | assumption | omega | (simp only [q_kd_wr, q_fv_wrE, q_top_wr, q_nc_wr, q_ns_wr, q_gs_wr, q_kd_al, q_fv_al, q_top_al, q_nc_al, q_ns_al, q_gs_al, q_kd_cp, q_fv_cpE, q_top_cp, q_nc_cp, q_ns_cp, q_gs_cp]; first | done | assumption | omega)) only [kX8_takeWord_0, kX8_takeWord_1, kX8_takeWord_4, kX8_takeWord_5, kX8_takeWord_6, kX8_takeWord_7, kX8_takeWord_10, kX8_takeWord_11, kX8_takeWord_13, kX8_takeWord_16, kX8_takeWord_17, q_cut_i, q_cut_r, q_cut_l, q_cut_n, if_pos, if_neg, f1]
    rw [tkW, if_neg (by omega)] at hP'
    exact hP'
  · simp (disch := first | assumption | omega | (simp only [q_kd_wr, q_fv_wrE, q_top_wr, q_nc_wr, q_ns_wr, q_gs_wr, q_kd_al, q_fv_al, q_top_al, q_nc_al, q_ns_al, q_gs_al, q_kd_cp, q_fv_cpE, q_top_cp, q_nc_cp, q_ns_cp, q_gs_cp]; first | done | assumption | omega)) only [kX8_takeWord_0, kX8_takeWord_1, kX8_takeWord_4, kX8_takeWord_5, kX8_takeWord_6, kX8_takeWord_7, kX8_takeWord_10, kX8_takeWord_11, kX8_takeWord_13, kX8_takeWord_16, kX8_takeWord_17, kX8_takeWord_18, kX8_takeWord_19, kX8_takeWord_20, kX8_takeWord_21, q_cut_i, q_cut_r, q_cut_l, q_cut_n, if_pos, if_neg, f1]
    have g0 : q_fv (q_wr M t 1 (qi 0)) t 0 = qr s := by simp [q_fv_wrE, f0]
    have gs : ∀ i, q_fv (q_wr M t 1 (qi 0)) s i = q_fv M s i := fun i => by rw [q_fv_wrE, if_neg (fun q => ts q.1.symm)]
    have loop : ∀ m i : Nat, i + m = l.length → (l.take i).all isLt = true → Rr (q_C (d + 1)) mX8_takeWord (23, [some (qr t), some (qi l.length), some (ql (pkW (l.take i) : Nat)), none, some (qi i)], [], q_wr M t 1 (qi 0)) P := by
      intro m
      induction m with
      | zero =>
        intro i hi ha
        have e : i = l.length := by omega
        subst e
        rw [List.take_length] at ha ⊢
        rw [tkW, if_pos ⟨by omega, ha⟩] at hP'
        simp (disch := first | assumption | omega | (simp only [q_kd_wr, q_fv_wrE, q_top_wr, q_nc_wr, q_ns_wr, q_gs_wr, q_kd_al, q_fv_al, q_top_al, q_nc_al, q_ns_al, q_gs_al, q_kd_cp, q_fv_cpE, q_top_cp, q_nc_cp, q_ns_cp, q_gs_cp]; first | done | assumption | omega)) only [kX8_takeWord_23, kX8_takeWord_25, kX8_takeWord_26, kX8_takeWord_29, kX8_takeWord_30, kX8_takeWord_33, kX8_takeWord_35, kX8_takeWord_39, kX8_takeWord_42, kX8_takeWord_43, kX8_takeWord_44, kX8_takeWord_45, kX8_takeWord_47, kX8_takeWord_48, kX8_takeWord_51, kX8_takeWord_53, kX8_takeWord_54, kX8_takeWord_56, kX8_takeWord_57, kX8_takeWord_58, kX8_takeWord_62, kX8_takeWord_63, kX8_takeWord_66, kX8_takeWord_69, kX8_takeWord_70, q_cut_i, q_cut_r, q_cut_l, q_cut_n, if_pos, if_neg]
        exact hP'
      | succ m ih =>
        intro i hi ha
        obtain ⟨e1, e2, e3⟩ := he i (by omega)
        have hsn : l.take (i + 1) = l.take i ++ [l[i]] := by rw [List.take_add_one]; simp [List.getElem?_eq_getElem (by omega : i < l.length)]
        rw [kX8_takeWord_23]
        simp (disch := first | assumption | omega | (simp only [q_kd_wr, q_fv_wrE, q_top_wr, q_nc_wr, q_ns_wr, q_gs_wr, q_kd_al, q_fv_al, q_top_al, q_nc_al, q_ns_al, q_gs_al, q_kd_cp, q_fv_cpE, q_top_cp, q_nc_cp, q_ns_cp, q_gs_cp]; first | done | assumption | omega)) only [kX8_takeWord_25, kX8_takeWord_26, kX8_takeWord_29, kX8_takeWord_30, kX8_takeWord_33, kX8_takeWord_35, q_cut_i, q_cut_r, q_cut_l, q_cut_n, if_pos, if_neg, q_kd_wr, q_fv_wrE, q_top_wr, q_nc_wr, q_ns_wr, q_gs_wr, q_kd_al, q_fv_al, q_top_al, q_nc_al, q_ns_al, q_gs_al, q_kd_cp, q_fv_cpE, q_top_cp, q_nc_cp, q_ns_cp, q_gs_cp, g0, gs, ks2, q_toN, e1]
        refine kX8_takeWord_36 (v := qi (if 97 ≤ l[i] ∧ l[i] ≤ 122 then 1 else 0)) (M1 := q_wr M t 1 (qi 0)) (q_Tx (sX10_isLetter e2 e3 ⟨rfl, rfl⟩)) (Nat.le_of_ble_eq_true rfl) ?_
        by_cases hc : 97 ≤ l[i] ∧ l[i] ≤ 122
        · rw [if_pos hc, kX8_takeWord_39 (by omega) (by omega), if_neg (by omega)]
          simp (disch := first | assumption | omega | (simp only [q_kd_wr, q_fv_wrE, q_top_wr, q_nc_wr, q_ns_wr, q_gs_wr, q_kd_al, q_fv_al, q_top_al, q_nc_al, q_ns_al, q_gs_al, q_kd_cp, q_fv_cpE, q_top_cp, q_nc_cp, q_ns_cp, q_gs_cp]; first | done | assumption | omega)) only [kX8_takeWord_44, kX8_takeWord_45, kX8_takeWord_47, kX8_takeWord_48, kX8_takeWord_51, kX8_takeWord_53, kX8_takeWord_54, kX8_takeWord_56, kX8_takeWord_57, kX8_takeWord_58, q_cut_i, q_cut_r, q_cut_l, q_cut_n, if_pos, if_neg, q_kd_wr, q_fv_wrE, q_top_wr, q_nc_wr, q_ns_wr, q_gs_wr, q_kd_al, q_fv_al, q_top_al, q_nc_al, q_ns_al, q_gs_al, q_kd_cp, q_fv_cpE, q_top_cp, q_nc_cp, q_ns_cp, q_gs_cp, g0, gs, ks2, q_toN, e1]
          have e5 : l[i] - 97 + 1 = (((l[i] - 96).toNat : Nat) : Int) := by omega
          have hlt : pkW (l.take i) < 2 ^ (5 * i) := by
            have := pkW_lt _ ha
            rwa [List.length_take, Nat.min_eq_left (by omega)] at this
          have hsn2 : pkW (l.take (i + 1)) = pkW (l.take i) + (l[i] - 96).toNat * 2 ^ (5 * i) := by
            rw [hsn, pkW_snoc, List.length_take, Nat.min_eq_left (by omega)]
          rw [e5]
          refine kX8_takeWord_59 (v := ql (pkW (l.take (i + 1)) : Nat)) (M1 := q_wr M t 1 (qi 0)) (q_Tx (sX10_with hlt (by omega) (by omega) ⟨by rw [hsn2], rfl⟩)) (Nat.le_of_ble_eq_true rfl) ?_
          simp (disch := first | assumption | omega | (simp only [q_kd_wr, q_fv_wrE, q_top_wr, q_nc_wr, q_ns_wr, q_gs_wr, q_kd_al, q_fv_al, q_top_al, q_nc_al, q_ns_al, q_gs_al, q_kd_cp, q_fv_cpE, q_top_cp, q_nc_cp, q_ns_cp, q_gs_cp]; first | done | assumption | omega)) only [kX8_takeWord_62, kX8_takeWord_63, kX8_takeWord_66, q_cut_i, q_cut_r, q_cut_l, q_cut_n, if_pos, if_neg]
          refine ih (i + 1) (by omega) ?_
          rw [hsn, List.all_append, ha]
          simp [isLt, hc]
        · rw [if_neg hc, kX8_takeWord_39 (by omega) (by omega), if_pos rfl]
          simp (disch := first | assumption | omega | (simp only [q_kd_wr, q_fv_wrE, q_top_wr, q_nc_wr, q_ns_wr, q_gs_wr, q_kd_al, q_fv_al, q_top_al, q_nc_al, q_ns_al, q_gs_al, q_kd_cp, q_fv_cpE, q_top_cp, q_nc_cp, q_ns_cp, q_gs_cp]; first | done | assumption | omega)) only [kX8_takeWord_42, kX8_takeWord_43, q_cut_i, q_cut_r, q_cut_l, q_cut_n, if_pos, if_neg]
          rw [tkW, if_neg ?_] at hP'
          · exact hP'
          · intro q
            have := List.all_eq_true.mp q.2 l[i] (List.getElem_mem _)
            exact hc (of_decide_eq_true this)
    exact loop l.length 0 (by omega) rfl
