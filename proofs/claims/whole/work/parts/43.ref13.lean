/-! the reference's methods: the paper -/
theorem y_div10 {v : Int} (h0 : 0 ≤ v) (h1 : v < 2147483648) : q_div v 10 = v / 10 := by
  rw [q_div, Int32.toInt_div_of_ne_right _ _ (by decide), Int32.toInt_ofInt_of_le (by omega) (by omega), Int32.toInt_ofInt_of_le (by omega) (by omega), Int.tdiv_eq_ediv_of_nonneg h0]
theorem y_rem10 {v : Int} (h0 : 0 ≤ v) (h1 : v < 2147483648) : q_rem v 10 = v % 10 := by
  have e : Int32.ofInt v / Int32.ofInt 10 = Int32.ofInt (v / 10) := by
    apply Int32.toInt_inj.mp
    have := y_div10 h0 h1
    rw [q_div] at this
    rw [this, Int32.toInt_ofInt_of_le (by omega) (by omega)]
  rw [q_rem, e, ← Int32.ofInt_mul, ← Int32.ofInt_sub, Int32.toInt_ofInt_of_le (by omega) (by omega)]
  omega
theorem y_ten : ¬ Int32.ofInt 10 = 0 := by decide
/-- the paper with so many bytes on it -/
def rPp (S : RS) (L : List Int) : RS := fun k j => if k = 7 ∧ 0 ≤ j ∧ j < L.length then L.getD j.toNat 0 else if k = 0 ∧ j = 16 then L.length else S k j
theorem rPp_16 {S : RS} {L : List Int} : rPp S L 0 16 = L.length := by
  unfold rPp
  rw [if_neg (by omega), if_pos ⟨rfl, rfl⟩]
theorem rPp_1 {S : RS} {L : List Int} {k : Nat} (h : k ≠ 7) (h2 : k ≠ 0) : rPp S L k = S k := by
  funext j
  unfold rPp
  rw [if_neg (by omega), if_neg (by omega)]
theorem rPp_0 {S : RS} {L : List Int} {j : Int} (h : j ≠ 16) : rPp S L 0 j = S 0 j := by
  unfold rPp
  rw [if_neg (by omega), if_neg (by omega)]
theorem rPp_7 {S : RS} {L : List Int} {i : Nat} (h : i < L.length) : rPp S L 7 i = L[i] := by
  unfold rPp
  rw [if_pos (by omega), Int.toNat_natCast, List.getD_eq_getElem?_getD, List.getElem?_eq_getElem h]; rfl
theorem rPp_s {S : RS} {L : List Int} {c : Int} : up (up (rPp S L) 7 L.length c) 0 16 ((L.length : Int) + 1) = rPp S (L ++ [c]) := by
  funext k j
  unfold up rPp
  rw [List.length_append, List.length_singleton]
  by_cases h1 : k = 0 ∧ j = 16
  · rw [if_pos h1, if_neg (by omega), if_pos h1]; omega
  · rw [if_neg h1]
    by_cases h2 : k = 7 ∧ j = L.length
    · rw [if_pos h2, if_pos (by omega), List.getD_eq_getElem?_getD, List.getElem?_append_right (by omega), show j.toNat - L.length = 0 by omega]; rfl
    · rw [if_neg h2]
      by_cases h3 : k = 7 ∧ 0 ≤ j ∧ j < L.length
      · rw [if_pos h3, if_pos (by omega), List.getD_eq_getElem?_getD, List.getD_eq_getElem?_getD, List.getElem?_append_left (by omega)]
      · rw [if_neg h3, if_neg h1, if_neg (by omega), if_neg h1]
theorem rPp_z {S : RS} : rPp S [] = up S 0 16 0 := by
  funext k j
  unfold up rPp
  rw [if_neg (by rintro ⟨-, h1, h2⟩; simp at h2; omega)]; rfl
theorem RG_rPp {S : RS} (hR : RG S) {L : List Int} (h : ∀ c ∈ L, 0 ≤ c ∧ c ≤ 1000) (hl : L.length ≤ 1000) : RG (rPp S L) := by
  intro k j
  unfold rPp
  split
  · rename_i g
    rw [List.getD_eq_getElem?_getD, List.getElem?_eq_getElem (by omega)]
    have := h _ (List.getElem_mem (by omega : j.toNat < L.length))
    simp only [Option.getD_some]
    omega
  · split
    · omega
    · exact hR k j
def dgs : Nat → Int → List Int
  | 0, _ => []
  | k + 1, v => if 9 < v then dgs k (v / 10) ++ [48 + v % 10] else [48 + v % 10]
theorem dgs_len : ∀ (k : Nat) (v : Int), (dgs k v).length ≤ k
  | 0, v => Nat.le_refl 0
  | k + 1, v => by
    have := dgs_len k (v / 10)
    rw [dgs]
    split
    · rw [List.length_append]; simp; omega
    · simp
theorem dgs_R : ∀ (k : Nat) (v : Int), 0 ≤ v → ∀ c ∈ dgs k v, 0 ≤ c ∧ c ≤ 1000
  | 0, v, _ => by simp [dgs]
  | k + 1, v, h => by
    have := dgs_R k (v / 10) (by omega)
    intro c hc
    rw [dgs] at hc
    split at hc
    · rw [List.mem_append] at hc
      rcases hc with hc | hc
      · exact this c hc
      · simp at hc; omega
    · simp at hc; omega
theorem tX13_writes {m : Nat} {S : RS} {M : QM} (hK : RK m M) (hR : RG S) {d : Nat} : ∀ (k : Nat) (v : Int) (L : List Int) (x : QP), 0 ≤ v → v < 10 ^ (k + 1) → k < 9 → L.length + k < 384 → (∀ c ∈ L, 0 ≤ c ∧ c ≤ 1000) → q_T (d + k + 1) iX13_writes [qr m, qi v] (ov m (rPp S L) M) x = x none (ov m (rPp S (L ++ dgs (k + 1) v)) M) := by
  intro k
  induction k with
  | zero =>
    intro v L x h0 h1 _ hL hc
    have R1 := RG_rPp hR hc (by omega)
    have e16 := rPp_16 (S := S) (L := L)
    have hv : ¬ 9 < v := by omega
    rw [eX13_writes, dgs, if_neg hv]
    rw [← rPp_s]
    simp (disch := first | assumption | exact RK0 hK | exact RK7a hK | (refine RK7c hK ?_; omega) | exact y_ten | (show (List.map q_wd _).sum ≤ 8; with_unfolding_all exact Nat.le_of_ble_eq_true rfl) | omega) only [kX13_writes_0, kX13_writes_1, kX13_writes_3, kX13_writes_6, kX13_writes_7, kX13_writes_8, kX13_writes_10, kX13_writes_11E, kX13_writes_14, kX13_writes_15, kX13_writes_18, kX13_writes_19, kX13_writes_22, kX13_writes_24, kX13_writes_25, kX13_writes_27, kX13_writes_28, kX13_writes_29, kX13_writes_30, kX13_writes_31i, kX13_writes_31r, kX13_writes_32, kX13_writes_35, kX13_writes_36, kX13_writes_37, kX13_writes_40, q_cut_i, q_cut_r, q_cut_l, q_cut_n, q_kd_ov, ov_f0, ov_f1, ov_f2, ov_f3, ov_f4, ov_f5, ov_f6, ov_f7, ov_f8, ov_f9, ov_f10, ov_f11, ov_f12, ov_f13, ov_f14, ov_f15, ov_f16, ov_r, ov_w, ov_w1, ov_w2, ov_w4, ov_w5, ov_w6, ov_w7, ov_w9, ov_w11, ov_w13, ov_w16, up_s, up_k, up_j, up_up, q_psh_n, q_psh_s, bI_eq0, ite_not, ↓if_pos, ↓if_neg, ↓ite_bI_t, ↓ite_bI_f, e16, y_div10, y_rem10]
  | succ k ih =>
    intro v L x h0 h1 hk hL hc
    have R1 := RG_rPp hR hc (by omega)
    have e16 := rPp_16 (S := S) (L := L)
    have ed : d + (k + 1) + 1 = (d + k + 1) + 1 := rfl
    have hp : (10 : Int) ^ (k + 1 + 1) = 10 * 10 ^ (k + 1) := by rw [Int.pow_succ, Int.mul_comm]
    have hp10 : (10 : Int) ^ (k + 1 + 1) ≤ 10 ^ 9 := by
      have e : (10 : Int) ^ (k + 1 + 1) = ((10 ^ (k + 1 + 1) : Nat) : Int) := by rw [Int.natCast_pow]; rfl
      have := Nat.pow_le_pow_right (show 10 > 0 by omega) (show k + 1 + 1 ≤ 9 by omega)
      rw [e]; omega
    rw [ed, eX13_writes, dgs]
    by_cases g : 9 < v
    · rw [if_pos g]
      have hl := dgs_len (k + 1) (v / 10)
      have hc2 : ∀ c ∈ L ++ dgs (k + 1) (v / 10), 0 ≤ c ∧ c ≤ 1000 := by
        intro c hc'
        rcases List.mem_append.mp hc' with h | h
        · exact hc c h
        · exact dgs_R _ _ (by omega) c h
      have R2 := RG_rPp hR hc2 (by rw [List.length_append]; omega)
      have e17 := rPp_16 (S := S) (L := L ++ dgs (k + 1) (v / 10))
      have i2 := fun z : QP => ih (v / 10) L z (by omega) (by omega) (by omega) (by omega) hc
      have hlen : ((L ++ dgs (k + 1) (v / 10)).length : Int) < 384 := by rw [List.length_append]; omega
      rw [← List.append_assoc, ← rPp_s]
      simp (disch := first | assumption | exact RK0 hK | exact RK7a hK | (refine RK7c hK ?_; omega) | exact y_ten | (show (List.map q_wd _).sum ≤ 8; with_unfolding_all exact Nat.le_of_ble_eq_true rfl) | omega) only [kX13_writes_0, kX13_writes_1, kX13_writes_3, kX13_writes_6, kX13_writes_7, kX13_writes_8, kX13_writes_10, kX13_writes_11E, kX13_writes_14, kX13_writes_15, kX13_writes_18, kX13_writes_19, kX13_writes_22, kX13_writes_24, kX13_writes_25, kX13_writes_27, kX13_writes_28, kX13_writes_29, kX13_writes_30, kX13_writes_31i, kX13_writes_31r, kX13_writes_32, kX13_writes_35, kX13_writes_36, kX13_writes_37, kX13_writes_40, q_cut_i, q_cut_r, q_cut_l, q_cut_n, q_kd_ov, ov_f0, ov_f1, ov_f2, ov_f3, ov_f4, ov_f5, ov_f6, ov_f7, ov_f8, ov_f9, ov_f10, ov_f11, ov_f12, ov_f13, ov_f14, ov_f15, ov_f16, ov_r, ov_w, ov_w1, ov_w2, ov_w4, ov_w5, ov_w6, ov_w7, ov_w9, ov_w11, ov_w13, ov_w16, up_s, up_k, up_j, up_up, q_psh_n, q_psh_s, bI_eq0, ite_not, ↓if_pos, ↓if_neg, ↓ite_bI_t, ↓ite_bI_f, e16, e17, y_div10, y_rem10, i2]
    · rw [if_neg g]
      rw [← rPp_s]
      simp (disch := first | assumption | exact RK0 hK | exact RK7a hK | (refine RK7c hK ?_; omega) | exact y_ten | (show (List.map q_wd _).sum ≤ 8; with_unfolding_all exact Nat.le_of_ble_eq_true rfl) | omega) only [kX13_writes_0, kX13_writes_1, kX13_writes_3, kX13_writes_6, kX13_writes_7, kX13_writes_8, kX13_writes_10, kX13_writes_11E, kX13_writes_14, kX13_writes_15, kX13_writes_18, kX13_writes_19, kX13_writes_22, kX13_writes_24, kX13_writes_25, kX13_writes_27, kX13_writes_28, kX13_writes_29, kX13_writes_30, kX13_writes_31i, kX13_writes_31r, kX13_writes_32, kX13_writes_35, kX13_writes_36, kX13_writes_37, kX13_writes_40, q_cut_i, q_cut_r, q_cut_l, q_cut_n, q_kd_ov, ov_f0, ov_f1, ov_f2, ov_f3, ov_f4, ov_f5, ov_f6, ov_f7, ov_f8, ov_f9, ov_f10, ov_f11, ov_f12, ov_f13, ov_f14, ov_f15, ov_f16, ov_r, ov_w, ov_w1, ov_w2, ov_w4, ov_w5, ov_w6, ov_w7, ov_w9, ov_w11, ov_w13, ov_w16, up_s, up_k, up_j, up_up, q_psh_n, q_psh_s, bI_eq0, ite_not, ↓if_pos, ↓if_neg, ↓ite_bI_t, ↓ite_bI_f, e16, y_div10, y_rem10]
def rLt (w : Int) : Int := if w = 0 then 70 else if w = 1 then 78 else if w = 2 then 77 else if w = 3 then 71 else if w = 4 then 67 else if w = 5 then 79 else if w = 6 then 84 else if w = 7 then 83 else 80
theorem rLt_b (w : Int) : 0 ≤ rLt w ∧ rLt w ≤ 1000 := by
  unfold rLt
  repeat' split
  all_goals omega
theorem tX13_letterOf {d : Nat} {M : QM} {x : QP} {w : Int} (h1 : -2147483648 ≤ w) (h2 : w < 2147483648) : q_T (d + 1) iX13_letterOf [qi w] M x = x (some (qi (rLt w))) M := by
  rw [eX13_letterOf]
  unfold rLt
  repeat' split
  all_goals simp (disch := first | assumption | omega | (simp only [q_kd_wr, q_fv_wrE, q_top_wr, q_nc_wr, q_ns_wr, q_gs_wr, q_kd_al, q_fv_al, q_top_al, q_nc_al, q_ns_al, q_gs_al, q_kd_cp, q_fv_cpE, q_top_cp, q_nc_cp, q_ns_cp, q_gs_cp]; first | done | assumption | omega)) only [kX13_letterOf_0, kX13_letterOf_1, kX13_letterOf_48, kX13_letterOf_50, kX13_letterOf_51, kX13_letterOf_53, kX13_letterOf_54, kX13_letterOf_56, kX13_letterOf_57, kX13_letterOf_59, kX13_letterOf_60, kX13_letterOf_62, kX13_letterOf_63, kX13_letterOf_65, kX13_letterOf_66, kX13_letterOf_68, kX13_letterOf_69, kX13_letterOf_71, kX13_letterOf_72, kX13_letterOf_74, q_cut_i, q_cut_r, q_cut_l, q_cut_n, ↓if_pos, ↓if_neg, ↓ite_bI_t, ↓ite_bI_f]
/-- an event on the paper -/
def wEv (first : Bool) (y so nu : Int) : List Int := (if first = true then [] else [32]) ++ ([rLt so] ++ (dgs 4 y ++ (if nu = -5 then [] else [58] ++ dgs 4 nu)))
def wAll (ev : Nat → Int × Int × Int) : Nat → List Int
  | 0 => []
  | i + 1 => wAll ev i ++ wEv (i == 0) (ev i).1 (ev i).2.1 (ev i).2.2
theorem wEv_len (f : Bool) (y so nu : Int) : (wEv f y so nu).length ≤ 11 := by
  have h1 := dgs_len 4 y
  have h2 := dgs_len 4 nu
  unfold wEv
  split <;> split <;> simp <;> omega
theorem wAll_len (ev : Nat → Int × Int × Int) : ∀ i : Nat, (wAll ev i).length ≤ 11 * i
  | 0 => by simp [wAll]
  | i + 1 => by
    have := wAll_len ev i
    have := wEv_len (i == 0) (ev i).1 (ev i).2.1 (ev i).2.2
    rw [wAll, List.length_append]; omega
theorem wEv_R {f : Bool} {y so nu : Int} (h1 : 0 ≤ y) (h2 : nu = -5 ∨ 0 ≤ nu) : ∀ c ∈ wEv f y so nu, 0 ≤ c ∧ c ≤ 1000 := by
  have := rLt_b so
  have hd := dgs_R 4 y h1
  intro c hc
  unfold wEv at hc
  simp only [List.mem_append, List.mem_singleton] at hc
  rcases hc with hc | rfl | hc | hc
  · split at hc
    · simp at hc
    · simp at hc; omega
  · exact this
  · exact hd c hc
  · split at hc
    · simp at hc
    · simp only [List.mem_append, List.mem_singleton] at hc
      rcases hc with rfl | hc
      · omega
      · exact dgs_R 4 nu (by omega) c hc
theorem wAll_R {ev : Nat → Int × Int × Int} : ∀ i : Nat, (∀ j : Nat, j < i → 0 ≤ (ev j).1 ∧ ((ev j).2.2 = -5 ∨ 0 ≤ (ev j).2.2)) → ∀ c ∈ wAll ev i, 0 ≤ c ∧ c ≤ 1000
  | 0, _ => by simp [wAll]
  | i + 1, h => by
    intro c hc
    rw [wAll] at hc
    rcases List.mem_append.mp hc with hc | hc
    · exact wAll_R i (fun j hj => h j (by omega)) c hc
    · exact wEv_R (h i (by omega)).1 (h i (by omega)).2 c hc
def rEvs (S : RS) (p : Int) (i : Nat) : Int × Int × Int := (S 1 (15 + 78 * p + (6 + 3 * (i : Int))), S 1 (15 + 78 * p + (6 + 3 * (i : Int) + 1)), S 1 (15 + 78 * p + (6 + 3 * (i : Int) + 2)))
theorem tX13_writeN {d m : Nat} {S : RS} {M : QM} {x : QP} (hK : RK m M) (hR : RG S) {p : Int} (v0 : 0 ≤ S 1 0) (v1 : S 1 0 ≤ 20) (h1 : -2147483648 ≤ p) (h2 : p < 2147483648) (g : ¬ (0 ≤ p ∧ p ≤ S 1 0 - 1)) : q_T (d + 6) iX13_write [qr m, qi p] (ov m S M) x = x (some (qi (-1))) (ov m S M) := by
  rw [eX13_write]
  simp (disch := first | assumption | exact RK0 hK | exact RK1a hK | exact RK2a hK | exact RK3a hK | exact RK4a hK | exact RK5a hK | exact RK6a hK | exact RK7a hK | exact RGl hR | exact RGh hR | exact bI_lo | exact bI_hi | exact bI_01 | (show (List.map q_wd _).sum ≤ 8; with_unfolding_all exact Nat.le_of_ble_eq_true rfl) | (refine RK1c hK ?_; omega) | (refine RK2c hK ?_; omega) | (refine RK3c hK ?_; omega) | (refine RK4c hK ?_; omega) | (refine RK5c hK ?_; omega) | (refine RK6c hK ?_; omega) | (refine RK7c hK ?_; omega) | omega) only [kX13_write_0, kX13_write_1, kX13_write_2E, kX13_write_5, kX13_write_8, kX13_write_9, q_cut_i, q_cut_r, q_cut_l, q_cut_n, q_kd_ov, ov_f0, ov_f1, ov_f2, ov_f3, ov_f4, ov_f5, ov_f6, ov_f7, ov_f8, ov_f9, ov_f10, ov_f11, ov_f12, ov_f13, ov_f14, ov_f15, ov_f16, ov_r, ov_w, ov_w1, ov_w2, ov_w4, ov_w5, ov_w6, ov_w7, ov_w9, ov_w11, ov_w13, ov_w16, up_s, up_k, up_j, up_up, q_psh_n, q_psh_s, bI_eq0, ite_not, ↓if_pos, ↓if_neg, ↓ite_bI_t, ↓ite_bI_f, tX13_isPlace hK hR]
set_option maxHeartbeats 8000000 in
theorem tX13_writeY {d m : Nat} {S : RS} {M : QM} {x : QP} (hK : RK m M) (hR : RG S) {p : Int} {N : Nat} (v0 : 0 ≤ S 1 0) (v1 : S 1 0 ≤ 20) (g : 0 ≤ p ∧ p ≤ S 1 0 - 1) (hN : N = min 24 (S 1 (15 + 78 * p + 5)).toNat) (h5 : 0 ≤ S 1 (15 + 78 * p + 5)) (he : ∀ j : Nat, j < N → (0 ≤ (rEvs S p j).1 ∧ (rEvs S p j).1 ≤ 9999) ∧ ((rEvs S p j).2.2 = -5 ∨ (0 ≤ (rEvs S p j).2.2 ∧ (rEvs S p j).2.2 ≤ 9999))) : q_T (d + 6) iX13_write [qr m, qi p] (ov m S M) x = x (some (qi (wAll (rEvs S p) N).length)) (ov m (rPp S (wAll (rEvs S p) N)) M) := by
  have hW : ∀ i : Nat, i ≤ N → ∀ c ∈ wAll (rEvs S p) i, 0 ≤ c ∧ c ≤ 1000 := fun i hi => wAll_R i (fun j hj => ⟨(he j (by omega)).1.1, by rcases (he j (by omega)).2 with h | h; exact Or.inl h; exact Or.inr h.1⟩)
  have loop : ∀ n1 k : Nat, k + n1 = N → ∀ l3, Rr (q_C (d + 5)) mX13_write (17, [some (qr m), some (qi p), some (qi k), l3], [], ov m (rPp S (wAll (rEvs S p) k)) M) x = x (some (qi (wAll (rEvs S p) N).length)) (ov m (rPp S (wAll (rEvs S p) N)) M) := by
    intro n1
    induction n1 with
    | zero =>
      intro k hk l3
      have e : k = N := by omega
      subst e
      have e16 := rPp_16 (S := S) (L := wAll (rEvs S p) k)
      have R1 := RG_rPp hR (hW k (Nat.le_refl k)) (by have := wAll_len (rEvs S p) k; omega)
      have k1 : rPp S (wAll (rEvs S p) k) 1 = S 1 := rPp_1 (by omega) (by omega)
      rw [kX13_write_17]
      by_cases c : k < 24
      · simp (disch := first | assumption | exact RK0 hK | exact RK1a hK | exact RK2a hK | exact RK3a hK | exact RK4a hK | exact RK5a hK | exact RK6a hK | exact RK7a hK | exact RGl hR | exact RGh hR | exact bI_lo | exact bI_hi | exact bI_01 | (show (List.map q_wd _).sum ≤ 8; with_unfolding_all exact Nat.le_of_ble_eq_true rfl) | (refine RK1c hK ?_; omega) | (refine RK2c hK ?_; omega) | (refine RK3c hK ?_; omega) | (refine RK4c hK ?_; omega) | (refine RK5c hK ?_; omega) | (refine RK6c hK ?_; omega) | (refine RK7c hK ?_; omega) | omega) only [kX13_write_0, kX13_write_1, kX13_write_2E, kX13_write_5, kX13_write_8, kX13_write_9, kX13_write_10, kX13_write_11, kX13_write_12, kX13_write_15, kX13_write_16, kX13_write_18, kX13_write_20, kX13_write_23, kX13_write_24, kX13_write_25, kX13_write_26, kX13_write_27E, kX13_write_30, kX13_write_33, kX13_write_34, kX13_write_37, kX13_write_38, kX13_write_41, kX13_write_42, kX13_write_45, kX13_write_47, kX13_write_48, kX13_write_49i, kX13_write_49r, kX13_write_50, kX13_write_53, kX13_write_54, kX13_write_55, kX13_write_58, kX13_write_59, kX13_write_62, kX13_write_63, kX13_write_66, kX13_write_67, kX13_write_68, kX13_write_70, kX13_write_71, kX13_write_72, kX13_write_73, kX13_write_74, kX13_write_75, kX13_write_76E, kX13_write_79E, kX13_write_82, kX13_write_83, kX13_write_84i, kX13_write_84r, kX13_write_85, kX13_write_88, kX13_write_89, kX13_write_90, kX13_write_93, kX13_write_94, kX13_write_95, kX13_write_96, kX13_write_98, kX13_write_99, kX13_write_100, kX13_write_101, kX13_write_102E, kX13_write_105E, kX13_write_108, kX13_write_109, kX13_write_110, kX13_write_112, kX13_write_113, kX13_write_114, kX13_write_115, kX13_write_116, kX13_write_117, kX13_write_118E, kX13_write_121, kX13_write_122, kX13_write_123, kX13_write_125, kX13_write_128, kX13_write_131, kX13_write_132, kX13_write_135, kX13_write_136, kX13_write_139, kX13_write_141, kX13_write_142, kX13_write_143i, kX13_write_143r, kX13_write_144, kX13_write_147, kX13_write_148, kX13_write_149, kX13_write_152, kX13_write_153, kX13_write_154E, kX13_write_157, kX13_write_160, kX13_write_163, kX13_write_164, kX13_write_167, q_cut_i, q_cut_r, q_cut_l, q_cut_n, q_kd_ov, ov_f0, ov_f1, ov_f2, ov_f3, ov_f4, ov_f5, ov_f6, ov_f7, ov_f8, ov_f9, ov_f10, ov_f11, ov_f12, ov_f13, ov_f14, ov_f15, ov_f16, ov_r, ov_w, ov_w1, ov_w2, ov_w4, ov_w5, ov_w6, ov_w7, ov_w9, ov_w11, ov_w13, ov_w16, up_s, up_k, up_j, up_up, q_psh_n, q_psh_s, bI_eq0, ite_not, ↓if_pos, ↓if_neg, ↓ite_bI_t, ↓ite_bI_f, tX13_has hK R1, k1, e16]
      · simp (disch := first | assumption | exact RK0 hK | exact RK1a hK | exact RK2a hK | exact RK3a hK | exact RK4a hK | exact RK5a hK | exact RK6a hK | exact RK7a hK | exact RGl hR | exact RGh hR | exact bI_lo | exact bI_hi | exact bI_01 | (show (List.map q_wd _).sum ≤ 8; with_unfolding_all exact Nat.le_of_ble_eq_true rfl) | (refine RK1c hK ?_; omega) | (refine RK2c hK ?_; omega) | (refine RK3c hK ?_; omega) | (refine RK4c hK ?_; omega) | (refine RK5c hK ?_; omega) | (refine RK6c hK ?_; omega) | (refine RK7c hK ?_; omega) | omega) only [kX13_write_0, kX13_write_1, kX13_write_2E, kX13_write_5, kX13_write_8, kX13_write_9, kX13_write_10, kX13_write_11, kX13_write_12, kX13_write_15, kX13_write_16, kX13_write_18, kX13_write_20, kX13_write_23, kX13_write_24, kX13_write_25, kX13_write_26, kX13_write_27E, kX13_write_30, kX13_write_33, kX13_write_34, kX13_write_37, kX13_write_38, kX13_write_41, kX13_write_42, kX13_write_45, kX13_write_47, kX13_write_48, kX13_write_49i, kX13_write_49r, kX13_write_50, kX13_write_53, kX13_write_54, kX13_write_55, kX13_write_58, kX13_write_59, kX13_write_62, kX13_write_63, kX13_write_66, kX13_write_67, kX13_write_68, kX13_write_70, kX13_write_71, kX13_write_72, kX13_write_73, kX13_write_74, kX13_write_75, kX13_write_76E, kX13_write_79E, kX13_write_82, kX13_write_83, kX13_write_84i, kX13_write_84r, kX13_write_85, kX13_write_88, kX13_write_89, kX13_write_90, kX13_write_93, kX13_write_94, kX13_write_95, kX13_write_96, kX13_write_98, kX13_write_99, kX13_write_100, kX13_write_101, kX13_write_102E, kX13_write_105E, kX13_write_108, kX13_write_109, kX13_write_110, kX13_write_112, kX13_write_113, kX13_write_114, kX13_write_115, kX13_write_116, kX13_write_117, kX13_write_118E, kX13_write_121, kX13_write_122, kX13_write_123, kX13_write_125, kX13_write_128, kX13_write_131, kX13_write_132, kX13_write_135, kX13_write_136, kX13_write_139, kX13_write_141, kX13_write_142, kX13_write_143i, kX13_write_143r, kX13_write_144, kX13_write_147, kX13_write_148, kX13_write_149, kX13_write_152, kX13_write_153, kX13_write_154E, kX13_write_157, kX13_write_160, kX13_write_163, kX13_write_164, kX13_write_167, q_cut_i, q_cut_r, q_cut_l, q_cut_n, q_kd_ov, ov_f0, ov_f1, ov_f2, ov_f3, ov_f4, ov_f5, ov_f6, ov_f7, ov_f8, ov_f9, ov_f10, ov_f11, ov_f12, ov_f13, ov_f14, ov_f15, ov_f16, ov_r, ov_w, ov_w1, ov_w2, ov_w4, ov_w5, ov_w6, ov_w7, ov_w9, ov_w11, ov_w13, ov_w16, up_s, up_k, up_j, up_up, q_psh_n, q_psh_s, bI_eq0, ite_not, ↓if_pos, ↓if_neg, ↓ite_bI_t, ↓ite_bI_f, tX13_has hK R1, k1, e16]
    | succ n1 ih =>
      intro k hk l3
      have hlk := wAll_len (rEvs S p) k
      obtain ⟨⟨y0, y1⟩, hnu⟩ := he k (by omega)
      have hWk := hW k (by omega)
      have ih' := ih (k + 1) (by omega) (some (qi (rEvs S p k).2.2))
      rw [wAll] at ih'
      obtain ⟨W, hWW⟩ : ∃ W, W = wAll (rEvs S p) k := ⟨_, rfl⟩
      rw [← hWW] at hlk hWk ih' ⊢
      obtain ⟨y, so, nu⟩ : Int × Int × Int := (0, 0, 0)
      -- behind the space
      have core : ∀ (L : List Int), (∀ c ∈ L, 0 ≤ c ∧ c ≤ 1000) → L.length ≤ 300 → L ++ ([rLt (rEvs S p k).2.1] ++ (dgs 4 (rEvs S p k).1 ++ (if (rEvs S p k).2.2 = -5 then [] else [58] ++ dgs 4 (rEvs S p k).2.2))) = W ++ wEv (k == 0) (rEvs S p k).1 (rEvs S p k).2.1 (rEvs S p k).2.2 → Rr (q_C (d + 5)) mX13_write (58, [some (qr m), some (qi p), some (qi k), l3], [], ov m (rPp S L) M) x = x (some (qi (wAll (rEvs S p) N).length)) (ov m (rPp S (wAll (rEvs S p) N)) M) := by
        intro L hL hLl hLe
        have R1 := RG_rPp hR hL (by omega)
        have k1 : rPp S L 1 = S 1 := rPp_1 (by omega) (by omega)
        have e16 := rPp_16 (S := S) (L := L)
        have eso : S 1 (15 + 78 * p + (6 + 3 * (k : Int) + 1)) = (rEvs S p k).2.1 := rfl
        have ey : S 1 (15 + 78 * p + (6 + 3 * (k : Int))) = (rEvs S p k).1 := rfl
        have enu : S 1 (15 + 78 * p + (6 + 3 * (k : Int) + 2)) = (rEvs S p k).2.2 := rfl
        have hso := hR 1 (15 + 78 * p + (6 + 3 * (k : Int) + 1))
        rw [eso] at hso
        have hL2 : ∀ c ∈ L ++ [rLt (rEvs S p k).2.1], 0 ≤ c ∧ c ≤ 1000 := by
          intro c hc
          rcases List.mem_append.mp hc with h | h
          · exact hL c h
          · rw [List.mem_singleton.mp h]; exact rLt_b _
        have len2 : (L ++ [rLt (rEvs S p k).2.1]).length = L.length + 1 := by simp
        have R2 := RG_rPp hR hL2 (by omega)
        have k2 : rPp S (L ++ [rLt (rEvs S p k).2.1]) 1 = S 1 := rPp_1 (by omega) (by omega)
        have hw := fun z : QP => tX13_writes hK hR (d := d + 1) 3 (rEvs S p k).1 (L ++ [rLt (rEvs S p k).2.1]) z y0 (by omega) (by omega) (by omega) hL2
        have hd4 := dgs_len 4 (rEvs S p k).1
        have hL3 : ∀ c ∈ L ++ [rLt (rEvs S p k).2.1] ++ dgs 4 (rEvs S p k).1, 0 ≤ c ∧ c ≤ 1000 := by
          intro c hc
          rcases List.mem_append.mp hc with h | h
          · exact hL2 c h
          · exact dgs_R 4 _ y0 c h
        have len3 : (L ++ [rLt (rEvs S p k).2.1] ++ dgs 4 (rEvs S p k).1).length ≤ L.length + 5 := by rw [List.length_append]; omega
        have R3 := RG_rPp hR hL3 (by omega)
        have k3 : rPp S (L ++ [rLt (rEvs S p k).2.1] ++ dgs 4 (rEvs S p k).1) 1 = S 1 := rPp_1 (by omega) (by omega)
        have e163 := rPp_16 (S := S) (L := L ++ [rLt (rEvs S p k).2.1] ++ dgs 4 (rEvs S p k).1)
        simp (disch := first | assumption | exact RK0 hK | exact RK1a hK | exact RK2a hK | exact RK3a hK | exact RK4a hK | exact RK5a hK | exact RK6a hK | exact RK7a hK | exact RGl hR | exact RGh hR | exact bI_lo | exact bI_hi | exact bI_01 | (show (List.map q_wd _).sum ≤ 8; with_unfolding_all exact Nat.le_of_ble_eq_true rfl) | (refine RK1c hK ?_; omega) | (refine RK2c hK ?_; omega) | (refine RK3c hK ?_; omega) | (refine RK4c hK ?_; omega) | (refine RK5c hK ?_; omega) | (refine RK6c hK ?_; omega) | (refine RK7c hK ?_; omega) | omega) only [kX13_write_58, kX13_write_59, kX13_write_62, kX13_write_63, kX13_write_66, kX13_write_67, kX13_write_68, kX13_write_70, kX13_write_71, kX13_write_72, kX13_write_73, kX13_write_74, kX13_write_75, kX13_write_76E, kX13_write_79E, kX13_write_82, kX13_write_83, kX13_write_84i, kX13_write_84r, kX13_write_85, kX13_write_88, kX13_write_89, kX13_write_90, q_cut_i, q_cut_r, q_cut_l, q_cut_n, q_kd_ov, ov_f0, ov_f1, ov_f2, ov_f3, ov_f4, ov_f5, ov_f6, ov_f7, ov_f8, ov_f9, ov_f10, ov_f11, ov_f12, ov_f13, ov_f14, ov_f15, ov_f16, ov_r, ov_w, ov_w1, ov_w2, ov_w4, ov_w5, ov_w6, ov_w7, ov_w9, ov_w11, ov_w13, ov_w16, up_s, up_k, up_j, up_up, q_psh_n, q_psh_s, bI_eq0, ite_not, ↓if_pos, ↓if_neg, ↓ite_bI_t, ↓ite_bI_f, tX13_has hK R1, k1, e16, eso, tX13_letterOf]
        rw [rPp_s]
        simp (disch := first | assumption | exact RK0 hK | exact RK1a hK | exact RK2a hK | exact RK3a hK | exact RK4a hK | exact RK5a hK | exact RK6a hK | exact RK7a hK | exact RGl hR | exact RGh hR | exact bI_lo | exact bI_hi | exact bI_01 | (show (List.map q_wd _).sum ≤ 8; with_unfolding_all exact Nat.le_of_ble_eq_true rfl) | (refine RK1c hK ?_; omega) | (refine RK2c hK ?_; omega) | (refine RK3c hK ?_; omega) | (refine RK4c hK ?_; omega) | (refine RK5c hK ?_; omega) | (refine RK6c hK ?_; omega) | (refine RK7c hK ?_; omega) | omega) only [kX13_write_93, kX13_write_94, kX13_write_95, kX13_write_96, kX13_write_98, kX13_write_99, kX13_write_100, kX13_write_101, kX13_write_102E, kX13_write_105E, kX13_write_108, kX13_write_109, kX13_write_110, kX13_write_112, kX13_write_113, kX13_write_114, kX13_write_115, kX13_write_116, kX13_write_117, kX13_write_118E, kX13_write_121, kX13_write_122, q_cut_i, q_cut_r, q_cut_l, q_cut_n, q_kd_ov, ov_f0, ov_f1, ov_f2, ov_f3, ov_f4, ov_f5, ov_f6, ov_f7, ov_f8, ov_f9, ov_f10, ov_f11, ov_f12, ov_f13, ov_f14, ov_f15, ov_f16, ov_r, ov_w, ov_w1, ov_w2, ov_w4, ov_w5, ov_w6, ov_w7, ov_w9, ov_w11, ov_w13, ov_w16, up_s, up_k, up_j, up_up, q_psh_n, q_psh_s, bI_eq0, ite_not, ↓if_pos, ↓if_neg, ↓ite_bI_t, ↓ite_bI_f, tX13_has hK R2, k2, ey, hw, tX13_has hK R3, k3, enu]
        by_cases c5 : (rEvs S p k).2.2 = -5
        · rw [if_pos c5, List.append_nil, ← List.append_assoc] at hLe
          rw [← hLe] at ih'
          simp (disch := first | assumption | exact RK0 hK | exact RK1a hK | exact RK2a hK | exact RK3a hK | exact RK4a hK | exact RK5a hK | exact RK6a hK | exact RK7a hK | exact RGl hR | exact RGh hR | exact bI_lo | exact bI_hi | exact bI_01 | (show (List.map q_wd _).sum ≤ 8; with_unfolding_all exact Nat.le_of_ble_eq_true rfl) | (refine RK1c hK ?_; omega) | (refine RK2c hK ?_; omega) | (refine RK3c hK ?_; omega) | (refine RK4c hK ?_; omega) | (refine RK5c hK ?_; omega) | (refine RK6c hK ?_; omega) | (refine RK7c hK ?_; omega) | omega) only [kX13_write_122, kX13_write_123, kX13_write_125, kX13_write_128, kX13_write_131, kX13_write_132, kX13_write_135, kX13_write_136, kX13_write_139, kX13_write_141, kX13_write_142, kX13_write_143i, kX13_write_143r, kX13_write_144, kX13_write_147, kX13_write_148, kX13_write_149, kX13_write_152, kX13_write_153, kX13_write_154E, kX13_write_157, kX13_write_160, q_cut_i, q_cut_r, q_cut_l, q_cut_n, q_kd_ov, ov_f0, ov_f1, ov_f2, ov_f3, ov_f4, ov_f5, ov_f6, ov_f7, ov_f8, ov_f9, ov_f10, ov_f11, ov_f12, ov_f13, ov_f14, ov_f15, ov_f16, ov_r, ov_w, ov_w1, ov_w2, ov_w4, ov_w5, ov_w6, ov_w7, ov_w9, ov_w11, ov_w13, ov_w16, up_s, up_k, up_j, up_up, q_psh_n, q_psh_s, bI_eq0, ite_not, ↓if_pos, ↓if_neg, ↓ite_bI_t, ↓ite_bI_f]
          exact ih'
        · have hnu2 : 0 ≤ (rEvs S p k).2.2 ∧ (rEvs S p k).2.2 ≤ 9999 := by omega
          rw [if_neg c5, ← List.append_assoc, ← List.append_assoc, ← List.append_assoc] at hLe
          rw [← hLe] at ih'
          have hL4 : ∀ c ∈ L ++ [rLt (rEvs S p k).2.1] ++ dgs 4 (rEvs S p k).1 ++ [58], 0 ≤ c ∧ c ≤ 1000 := by
            intro c hc
            rcases List.mem_append.mp hc with h | h
            · exact hL3 c h
            · rw [List.mem_singleton.mp h]; omega
          have len4 : (L ++ [rLt (rEvs S p k).2.1] ++ dgs 4 (rEvs S p k).1 ++ [58]).length ≤ L.length + 6 := by rw [List.length_append]; simp; simp at len3; omega
          have hw2 := fun z : QP => tX13_writes hK hR (d := d + 1) 3 (rEvs S p k).2.2 (L ++ [rLt (rEvs S p k).2.1] ++ dgs 4 (rEvs S p k).1 ++ [58]) z hnu2.1 (by omega) (by omega) (by omega) hL4
          simp (disch := first | assumption | exact RK0 hK | exact RK1a hK | exact RK2a hK | exact RK3a hK | exact RK4a hK | exact RK5a hK | exact RK6a hK | exact RK7a hK | exact RGl hR | exact RGh hR | exact bI_lo | exact bI_hi | exact bI_01 | (show (List.map q_wd _).sum ≤ 8; with_unfolding_all exact Nat.le_of_ble_eq_true rfl) | (refine RK1c hK ?_; omega) | (refine RK2c hK ?_; omega) | (refine RK3c hK ?_; omega) | (refine RK4c hK ?_; omega) | (refine RK5c hK ?_; omega) | (refine RK6c hK ?_; omega) | (refine RK7c hK ?_; omega) | omega) only [kX13_write_122, kX13_write_123, kX13_write_125, kX13_write_128, kX13_write_131, kX13_write_132, kX13_write_135, kX13_write_136, kX13_write_139, kX13_write_141, kX13_write_142, kX13_write_143i, kX13_write_143r, kX13_write_144, kX13_write_147, kX13_write_148, kX13_write_149, q_cut_i, q_cut_r, q_cut_l, q_cut_n, q_kd_ov, ov_f0, ov_f1, ov_f2, ov_f3, ov_f4, ov_f5, ov_f6, ov_f7, ov_f8, ov_f9, ov_f10, ov_f11, ov_f12, ov_f13, ov_f14, ov_f15, ov_f16, ov_r, ov_w, ov_w1, ov_w2, ov_w4, ov_w5, ov_w6, ov_w7, ov_w9, ov_w11, ov_w13, ov_w16, up_s, up_k, up_j, up_up, q_psh_n, q_psh_s, bI_eq0, ite_not, ↓if_pos, ↓if_neg, ↓ite_bI_t, ↓ite_bI_f, e163]
          rw [rPp_s]
          simp (disch := first | assumption | exact RK0 hK | exact RK1a hK | exact RK2a hK | exact RK3a hK | exact RK4a hK | exact RK5a hK | exact RK6a hK | exact RK7a hK | exact RGl hR | exact RGh hR | exact bI_lo | exact bI_hi | exact bI_01 | (show (List.map q_wd _).sum ≤ 8; with_unfolding_all exact Nat.le_of_ble_eq_true rfl) | (refine RK1c hK ?_; omega) | (refine RK2c hK ?_; omega) | (refine RK3c hK ?_; omega) | (refine RK4c hK ?_; omega) | (refine RK5c hK ?_; omega) | (refine RK6c hK ?_; omega) | (refine RK7c hK ?_; omega) | omega) only [kX13_write_152, kX13_write_153, kX13_write_154E, kX13_write_157, kX13_write_160, q_cut_i, q_cut_r, q_cut_l, q_cut_n, q_kd_ov, ov_f0, ov_f1, ov_f2, ov_f3, ov_f4, ov_f5, ov_f6, ov_f7, ov_f8, ov_f9, ov_f10, ov_f11, ov_f12, ov_f13, ov_f14, ov_f15, ov_f16, ov_r, ov_w, ov_w1, ov_w2, ov_w4, ov_w5, ov_w6, ov_w7, ov_w9, ov_w11, ov_w13, ov_w16, up_s, up_k, up_j, up_up, q_psh_n, q_psh_s, bI_eq0, ite_not, ↓if_pos, ↓if_neg, ↓ite_bI_t, ↓ite_bI_f, hw2]
          exact ih'
      have R1 := RG_rPp hR hWk (by omega)
      have k1 : rPp S W 1 = S 1 := rPp_1 (by omega) (by omega)
      have e16 := rPp_16 (S := S) (L := W)
      rw [kX13_write_17]
      by_cases c0 : k = 0
      · subst c0
        have hc := core W hWk (by omega) (by unfold wEv; simp)
        simp (disch := first | assumption | exact RK0 hK | exact RK1a hK | exact RK2a hK | exact RK3a hK | exact RK4a hK | exact RK5a hK | exact RK6a hK | exact RK7a hK | exact RGl hR | exact RGh hR | exact bI_lo | exact bI_hi | exact bI_01 | (show (List.map q_wd _).sum ≤ 8; with_unfolding_all exact Nat.le_of_ble_eq_true rfl) | (refine RK1c hK ?_; omega) | (refine RK2c hK ?_; omega) | (refine RK3c hK ?_; omega) | (refine RK4c hK ?_; omega) | (refine RK5c hK ?_; omega) | (refine RK6c hK ?_; omega) | (refine RK7c hK ?_; omega) | omega) only [kX13_write_18, kX13_write_20, kX13_write_23, kX13_write_24, kX13_write_25, kX13_write_26, kX13_write_27E, kX13_write_30, kX13_write_33, kX13_write_34, q_cut_i, q_cut_r, q_cut_l, q_cut_n, q_kd_ov, ov_f0, ov_f1, ov_f2, ov_f3, ov_f4, ov_f5, ov_f6, ov_f7, ov_f8, ov_f9, ov_f10, ov_f11, ov_f12, ov_f13, ov_f14, ov_f15, ov_f16, ov_r, ov_w, ov_w1, ov_w2, ov_w4, ov_w5, ov_w6, ov_w7, ov_w9, ov_w11, ov_w13, ov_w16, up_s, up_k, up_j, up_up, q_psh_n, q_psh_s, bI_eq0, ite_not, ↓if_pos, ↓if_neg, ↓ite_bI_t, ↓ite_bI_f, tX13_has hK R1, k1, e16]
        exact hc
      · have hW32 : ∀ c ∈ W ++ [32], 0 ≤ c ∧ c ≤ 1000 := by
          intro c hc
          rcases List.mem_append.mp hc with h | h
          · exact hWk c h
          · rw [List.mem_singleton.mp h]; omega
        have hc := core (W ++ [32]) hW32 (by simp; omega) (by unfold wEv; simp [c0])
        simp (disch := first | assumption | exact RK0 hK | exact RK1a hK | exact RK2a hK | exact RK3a hK | exact RK4a hK | exact RK5a hK | exact RK6a hK | exact RK7a hK | exact RGl hR | exact RGh hR | exact bI_lo | exact bI_hi | exact bI_01 | (show (List.map q_wd _).sum ≤ 8; with_unfolding_all exact Nat.le_of_ble_eq_true rfl) | (refine RK1c hK ?_; omega) | (refine RK2c hK ?_; omega) | (refine RK3c hK ?_; omega) | (refine RK4c hK ?_; omega) | (refine RK5c hK ?_; omega) | (refine RK6c hK ?_; omega) | (refine RK7c hK ?_; omega) | omega) only [kX13_write_18, kX13_write_20, kX13_write_23, kX13_write_24, kX13_write_25, kX13_write_26, kX13_write_27E, kX13_write_30, kX13_write_33, kX13_write_34, kX13_write_37, kX13_write_38, kX13_write_41, kX13_write_42, kX13_write_45, kX13_write_47, kX13_write_48, kX13_write_49i, kX13_write_49r, kX13_write_50, kX13_write_53, kX13_write_54, kX13_write_55, q_cut_i, q_cut_r, q_cut_l, q_cut_n, q_kd_ov, ov_f0, ov_f1, ov_f2, ov_f3, ov_f4, ov_f5, ov_f6, ov_f7, ov_f8, ov_f9, ov_f10, ov_f11, ov_f12, ov_f13, ov_f14, ov_f15, ov_f16, ov_r, ov_w, ov_w1, ov_w2, ov_w4, ov_w5, ov_w6, ov_w7, ov_w9, ov_w11, ov_w13, ov_w16, up_s, up_k, up_j, up_up, q_psh_n, q_psh_s, bI_eq0, ite_not, ↓if_pos, ↓if_neg, ↓ite_bI_t, ↓ite_bI_f, tX13_has hK R1, k1, e16]
        rw [rPp_s]
        exact hc
  have l0 := loop N 0 (by omega) none
  rw [wAll, rPp_z] at l0
  rw [eX13_write]
  simp (disch := first | assumption | exact RK0 hK | exact RK1a hK | exact RK2a hK | exact RK3a hK | exact RK4a hK | exact RK5a hK | exact RK6a hK | exact RK7a hK | exact RGl hR | exact RGh hR | exact bI_lo | exact bI_hi | exact bI_01 | (show (List.map q_wd _).sum ≤ 8; with_unfolding_all exact Nat.le_of_ble_eq_true rfl) | (refine RK1c hK ?_; omega) | (refine RK2c hK ?_; omega) | (refine RK3c hK ?_; omega) | (refine RK4c hK ?_; omega) | (refine RK5c hK ?_; omega) | (refine RK6c hK ?_; omega) | (refine RK7c hK ?_; omega) | omega) only [kX13_write_0, kX13_write_1, kX13_write_2E, kX13_write_5, kX13_write_8, kX13_write_9, kX13_write_10, kX13_write_11, kX13_write_12, kX13_write_15, kX13_write_16, q_cut_i, q_cut_r, q_cut_l, q_cut_n, q_kd_ov, ov_f0, ov_f1, ov_f2, ov_f3, ov_f4, ov_f5, ov_f6, ov_f7, ov_f8, ov_f9, ov_f10, ov_f11, ov_f12, ov_f13, ov_f14, ov_f15, ov_f16, ov_r, ov_w, ov_w1, ov_w2, ov_w4, ov_w5, ov_w6, ov_w7, ov_w9, ov_w11, ov_w13, ov_w16, up_s, up_k, up_j, up_up, q_psh_n, q_psh_s, bI_eq0, ite_not, ↓if_pos, ↓if_neg, ↓ite_bI_t, ↓ite_bI_f, tX13_isPlace hK hR]
  exact l0
