
/-! the world: sets and accounts -/
def cEx (W : Nat → Pl) (y : Int) (p : Nat) : Bool := plEx (W p) y
def cLf (W : Nat → Pl) (n : Nat) (s v y : Int) (p : Nat) : Bool := plEx (W p) y && cFi W n y p s v
theorem uX11_existingOn {d : Nat} {M : QM} {x : QP} {w pa n : Nat} {A : Nat → Nat → Nat} {cN cT : Nat → Nat} {W : Nat → Pl} (hW : WRd M w pa A cN cT W n) {y : Int} (h3 : -2147483648 ≤ y) (h4 : y < 2147483648) : q_T (d + 4) iX11_existingOn [qr w, qi y] M x = x (some (qi (bSet (cEx W y) n : Nat))) M := by
  obtain ⟨kw, fpa, fn, hn20, kpa, hpl⟩ := id hW
  have kpa1 : (q_kd M pa).1 = 5 ∨ (q_kd M pa).1 = 6 := Or.inr (by rw [kpa])
  have kpa2 : ((q_kd M pa).2 : Int) = 20 := by rw [kpa]; rfl
  have kpa3 : 2 ≤ (q_kd M pa).1 := by rw [kpa]; decide
  have kpa4 : (q_kd M pa).1 ≤ 9 := by rw [kpa]; decide
  have loop : ∀ n1 k : Nat, k + n1 = n → ∀ l4, Rr (q_C (d + 3)) mX11_existingOn (4, [some (qr w), some (qi y), some (qi (bSet (cEx W y) k : Nat)), some (qi k), l4], [], M) x = x (some (qi (bSet (cEx W y) n : Nat))) M := by
    intro n1
    induction n1 with
    | zero =>
      intro k hk l4
      have e : k = n := by omega
      subst e
      rw [kX11_existingOn_4]
      simp (disch := first | assumption | exact bI_lo | exact bI_hi | exact bI_01 | (show (List.map q_wd _).sum ≤ 8; with_unfolding_all exact Nat.le_of_ble_eq_true rfl) | omega) only [kX11_existingOn_0, kX11_existingOn_1, kX11_existingOn_2, kX11_existingOn_3, kX11_existingOn_5, kX11_existingOn_6, kX11_existingOn_9, kX11_existingOn_12, kX11_existingOn_13, kX11_existingOn_16, kX11_existingOn_17, kX11_existingOn_18, kX11_existingOn_20, kX11_existingOn_22r, kX11_existingOn_22n, kX11_existingOn_25, kX11_existingOn_27, kX11_existingOn_28E, kX11_existingOn_31, kX11_existingOn_34, kX11_existingOn_35, kX11_existingOn_36, kX11_existingOn_37, kX11_existingOn_38, kX11_existingOn_39, kX11_existingOn_40, kX11_existingOn_43, kX11_existingOn_46, kX11_existingOn_47, q_cut_i, q_cut_r, q_cut_l, q_cut_n, q_psh_n, q_psh_s, bI_eq0, ite_not, ↓if_pos, ↓if_neg, ↓ite_bI_t, ↓ite_bI_f, fn]
    | succ n1 ih =>
      intro k hk l4
      have hA := (hpl k (by omega)).1
      have hp := (hpl k (by omega)).2
      have ih' := ih (k + 1) (by omega) (some (qr (A k 0)))
      rw [kX11_existingOn_4]
      by_cases g : plEx (W k) y = true
      · have e : cEx W y k = true := g
        rw [← y_set1 (by omega) e] at ih'
        simp (disch := first | assumption | exact PLr_0 hp | exact PLr_k1 hp | exact PLr_k4 hp | exact PLr_k7 hp | exact bI_lo | exact bI_hi | exact bI_01 | (show (List.map q_wd _).sum ≤ 8; with_unfolding_all exact Nat.le_of_ble_eq_true rfl) | omega) only [kX11_existingOn_0, kX11_existingOn_1, kX11_existingOn_2, kX11_existingOn_3, kX11_existingOn_5, kX11_existingOn_6, kX11_existingOn_9, kX11_existingOn_12, kX11_existingOn_13, kX11_existingOn_16, kX11_existingOn_17, kX11_existingOn_18, kX11_existingOn_20, kX11_existingOn_22r, kX11_existingOn_22n, kX11_existingOn_25, kX11_existingOn_27, kX11_existingOn_28E, kX11_existingOn_31, kX11_existingOn_34, kX11_existingOn_35, kX11_existingOn_36, kX11_existingOn_37, kX11_existingOn_38, kX11_existingOn_39, kX11_existingOn_40, kX11_existingOn_43, kX11_existingOn_46, kX11_existingOn_47, q_cut_i, q_cut_r, q_cut_l, q_cut_n, q_psh_n, q_psh_s, bI_eq0, ite_not, ↓if_pos, ↓if_neg, ↓ite_bI_t, ↓ite_bI_f, fn, fpa, q_toN, hA, uX4_existsOn hp]
        exact ih'
      · have e : ¬ cEx W y k = true := g
        rw [y_setN e] at ih'
        simp (disch := first | assumption | exact PLr_0 hp | exact PLr_k1 hp | exact PLr_k4 hp | exact PLr_k7 hp | exact bI_lo | exact bI_hi | exact bI_01 | (show (List.map q_wd _).sum ≤ 8; with_unfolding_all exact Nat.le_of_ble_eq_true rfl) | omega) only [kX11_existingOn_0, kX11_existingOn_1, kX11_existingOn_2, kX11_existingOn_3, kX11_existingOn_5, kX11_existingOn_6, kX11_existingOn_9, kX11_existingOn_12, kX11_existingOn_13, kX11_existingOn_16, kX11_existingOn_17, kX11_existingOn_18, kX11_existingOn_20, kX11_existingOn_22r, kX11_existingOn_22n, kX11_existingOn_25, kX11_existingOn_27, kX11_existingOn_28E, kX11_existingOn_31, kX11_existingOn_34, kX11_existingOn_35, kX11_existingOn_36, kX11_existingOn_37, kX11_existingOn_38, kX11_existingOn_39, kX11_existingOn_40, kX11_existingOn_43, kX11_existingOn_46, kX11_existingOn_47, q_cut_i, q_cut_r, q_cut_l, q_cut_n, q_psh_n, q_psh_s, bI_eq0, ite_not, ↓if_pos, ↓if_neg, ↓ite_bI_t, ↓ite_bI_f, fn, fpa, q_toN, hA, uX4_existsOn hp]
        exact ih'
  rw [eX11_existingOn]
  simp (disch := first | assumption | exact bI_lo | exact bI_hi | exact bI_01 | (show (List.map q_wd _).sum ≤ 8; with_unfolding_all exact Nat.le_of_ble_eq_true rfl) | omega) only [kX11_existingOn_0, kX11_existingOn_1, kX11_existingOn_2, kX11_existingOn_3, q_cut_i, q_cut_r, q_cut_l, q_cut_n, q_psh_n, q_psh_s, bI_eq0, ite_not]
  exact loop n 0 (by omega) none
theorem uX11_leafSet {d : Nat} {M : QM} {x : QP} {w pa n : Nat} {A : Nat → Nat → Nat} {cN cT : Nat → Nat} {W : Nat → Pl} (hW : WRd M w pa A cN cT W n) {s v y : Int} (h5 : -2147483648 ≤ s) (h6 : s < 2147483648) (h1 : -2147483648 ≤ v) (h2 : v < 2147483648) (h3 : -2147483648 ≤ y) (h4 : y < 2147483648) : q_T (d + 4) iX11_leafSet [qr w, qi s, qi v, qi y] M x = x (some (qi (bSet (cLf W n s v y) n : Nat))) M := by
  obtain ⟨kw, fpa, fn, hn20, kpa, hpl⟩ := id hW
  have kpa1 : (q_kd M pa).1 = 5 ∨ (q_kd M pa).1 = 6 := Or.inr (by rw [kpa])
  have kpa2 : ((q_kd M pa).2 : Int) = 20 := by rw [kpa]; rfl
  have kpa3 : 2 ≤ (q_kd M pa).1 := by rw [kpa]; decide
  have kpa4 : (q_kd M pa).1 ≤ 9 := by rw [kpa]; decide
  have loop : ∀ n1 k : Nat, k + n1 = n → ∀ l6, Rr (q_C (d + 3)) mX11_leafSet (6, [some (qr w), some (qi s), some (qi v), some (qi y), some (qi (bSet (cLf W n s v y) k : Nat)), some (qi k), l6], [], M) x = x (some (qi (bSet (cLf W n s v y) n : Nat))) M := by
    intro n1
    induction n1 with
    | zero =>
      intro k hk l6
      have e : k = n := by omega
      subst e
      rw [kX11_leafSet_6]
      simp (disch := first | assumption | exact bI_lo | exact bI_hi | exact bI_01 | (show (List.map q_wd _).sum ≤ 8; with_unfolding_all exact Nat.le_of_ble_eq_true rfl) | omega) only [kX11_leafSet_0, kX11_leafSet_1, kX11_leafSet_3, kX11_leafSet_4, kX11_leafSet_8, kX11_leafSet_9, kX11_leafSet_12, kX11_leafSet_15, kX11_leafSet_16, kX11_leafSet_19, kX11_leafSet_21, kX11_leafSet_22, kX11_leafSet_24, kX11_leafSet_26r, kX11_leafSet_26n, kX11_leafSet_29, kX11_leafSet_31, kX11_leafSet_32E, kX11_leafSet_35, kX11_leafSet_38, kX11_leafSet_39, kX11_leafSet_41, kX11_leafSet_42, kX11_leafSet_43, kX11_leafSet_44E, kX11_leafSet_47, kX11_leafSet_50, kX11_leafSet_52, kX11_leafSet_53, kX11_leafSet_55, kX11_leafSet_56, kX11_leafSet_57, kX11_leafSet_59, kX11_leafSet_62, kX11_leafSet_65, kX11_leafSet_67, q_cut_i, q_cut_r, q_cut_l, q_cut_n, q_psh_n, q_psh_s, bI_eq0, ite_not, ↓if_pos, ↓if_neg, ↓ite_bI_t, ↓ite_bI_f, fn]
    | succ n1 ih =>
      intro k hk l6
      have hA := (hpl k (by omega)).1
      have hp := (hpl k (by omega)).2
      have ih' := ih (k + 1) (by omega) (some (qr (A k 0)))
      have hF := fun z : QP => uX11_isFitting (d := d) (x := z) hW (i := k) (s := s) (v := v) (y := y) (by omega) h5 h6 h1 h2 h3 h4
      rw [kX11_leafSet_6]
      by_cases g : plEx (W k) y = true
      · by_cases g2 : cFi W n y k s v = true
        · have e : cLf W n s v y k = true := by unfold cLf; rw [g, g2]; rfl
          rw [← y_set1 (by omega) e] at ih'
          simp (disch := first | assumption | exact PLr_0 hp | exact PLr_k1 hp | exact PLr_k4 hp | exact PLr_k7 hp | exact bI_lo | exact bI_hi | exact bI_01 | (show (List.map q_wd _).sum ≤ 8; with_unfolding_all exact Nat.le_of_ble_eq_true rfl) | omega) only [kX11_leafSet_0, kX11_leafSet_1, kX11_leafSet_3, kX11_leafSet_4, kX11_leafSet_8, kX11_leafSet_9, kX11_leafSet_12, kX11_leafSet_15, kX11_leafSet_16, kX11_leafSet_19, kX11_leafSet_21, kX11_leafSet_22, kX11_leafSet_24, kX11_leafSet_26r, kX11_leafSet_26n, kX11_leafSet_29, kX11_leafSet_31, kX11_leafSet_32E, kX11_leafSet_35, kX11_leafSet_38, kX11_leafSet_39, kX11_leafSet_41, kX11_leafSet_42, kX11_leafSet_43, kX11_leafSet_44E, kX11_leafSet_47, kX11_leafSet_50, kX11_leafSet_52, kX11_leafSet_53, kX11_leafSet_55, kX11_leafSet_56, kX11_leafSet_57, kX11_leafSet_59, kX11_leafSet_62, kX11_leafSet_65, kX11_leafSet_67, q_cut_i, q_cut_r, q_cut_l, q_cut_n, q_psh_n, q_psh_s, bI_eq0, ite_not, ↓if_pos, ↓if_neg, ↓ite_bI_t, ↓ite_bI_f, fn, fpa, q_toN, hA, uX4_existsOn hp, hF]
          exact ih'
        · have e : ¬ cLf W n s v y k = true := by unfold cLf; rw [g]; simpa using g2
          rw [y_setN e] at ih'
          simp (disch := first | assumption | exact PLr_0 hp | exact PLr_k1 hp | exact PLr_k4 hp | exact PLr_k7 hp | exact bI_lo | exact bI_hi | exact bI_01 | (show (List.map q_wd _).sum ≤ 8; with_unfolding_all exact Nat.le_of_ble_eq_true rfl) | omega) only [kX11_leafSet_0, kX11_leafSet_1, kX11_leafSet_3, kX11_leafSet_4, kX11_leafSet_8, kX11_leafSet_9, kX11_leafSet_12, kX11_leafSet_15, kX11_leafSet_16, kX11_leafSet_19, kX11_leafSet_21, kX11_leafSet_22, kX11_leafSet_24, kX11_leafSet_26r, kX11_leafSet_26n, kX11_leafSet_29, kX11_leafSet_31, kX11_leafSet_32E, kX11_leafSet_35, kX11_leafSet_38, kX11_leafSet_39, kX11_leafSet_41, kX11_leafSet_42, kX11_leafSet_43, kX11_leafSet_44E, kX11_leafSet_47, kX11_leafSet_50, kX11_leafSet_52, kX11_leafSet_53, kX11_leafSet_55, kX11_leafSet_56, kX11_leafSet_57, kX11_leafSet_59, kX11_leafSet_62, kX11_leafSet_65, kX11_leafSet_67, q_cut_i, q_cut_r, q_cut_l, q_cut_n, q_psh_n, q_psh_s, bI_eq0, ite_not, ↓if_pos, ↓if_neg, ↓ite_bI_t, ↓ite_bI_f, fn, fpa, q_toN, hA, uX4_existsOn hp, hF]
          exact ih'
      · have e : ¬ cLf W n s v y k = true := by unfold cLf; simp [g]
        rw [y_setN e] at ih'
        simp (disch := first | assumption | exact PLr_0 hp | exact PLr_k1 hp | exact PLr_k4 hp | exact PLr_k7 hp | exact bI_lo | exact bI_hi | exact bI_01 | (show (List.map q_wd _).sum ≤ 8; with_unfolding_all exact Nat.le_of_ble_eq_true rfl) | omega) only [kX11_leafSet_0, kX11_leafSet_1, kX11_leafSet_3, kX11_leafSet_4, kX11_leafSet_8, kX11_leafSet_9, kX11_leafSet_12, kX11_leafSet_15, kX11_leafSet_16, kX11_leafSet_19, kX11_leafSet_21, kX11_leafSet_22, kX11_leafSet_24, kX11_leafSet_26r, kX11_leafSet_26n, kX11_leafSet_29, kX11_leafSet_31, kX11_leafSet_32E, kX11_leafSet_35, kX11_leafSet_38, kX11_leafSet_39, kX11_leafSet_41, kX11_leafSet_42, kX11_leafSet_43, kX11_leafSet_44E, kX11_leafSet_47, kX11_leafSet_50, kX11_leafSet_52, kX11_leafSet_53, kX11_leafSet_55, kX11_leafSet_56, kX11_leafSet_57, kX11_leafSet_59, kX11_leafSet_62, kX11_leafSet_65, kX11_leafSet_67, q_cut_i, q_cut_r, q_cut_l, q_cut_n, q_psh_n, q_psh_s, bI_eq0, ite_not, ↓if_pos, ↓if_neg, ↓ite_bI_t, ↓ite_bI_f, fn, fpa, q_toN, hA, uX4_existsOn hp]
        exact ih'
  rw [eX11_leafSet]
  simp (disch := first | assumption | exact bI_lo | exact bI_hi | exact bI_01 | (show (List.map q_wd _).sum ≤ 8; with_unfolding_all exact Nat.le_of_ble_eq_true rfl) | omega) only [kX11_leafSet_0, kX11_leafSet_1, kX11_leafSet_3, kX11_leafSet_4, q_cut_i, q_cut_r, q_cut_l, q_cut_n, q_psh_n, q_psh_s, bI_eq0, ite_not]
  exact loop n 0 (by omega) none
theorem WRd_n {M : QM} {w pa n : Nat} {A : Nat → Nat → Nat} {cN cT : Nat → Nat} {W : Nat → Pl} (hW : WRd M w pa A cN cT W n) : n ≤ 20 := hW.2.2.2.1
theorem uX11_childrenOf {d : Nat} {M : QM} {x : QP} {w pa n : Nat} {A : Nat → Nat → Nat} {cN cT : Nat → Nat} {W : Nat → Pl} (hW : WRd M w pa A cN cT W n) {p y : Int} (h1 : -2147483648 ≤ p) (h2 : p < 2147483648) (h3 : -2147483648 ≤ y) (h4 : y < 2147483648) : q_T (d + 5) iX11_childrenOf [qr w, qi p, qi y] M x = x (some (qi (bCt (cLf W n 1 p y) n))) M := by
  obtain ⟨kw, fpa, fn, hn20, kpa, hpl⟩ := id hW
  have kpa1 : (q_kd M pa).1 = 5 ∨ (q_kd M pa).1 = 6 := Or.inr (by rw [kpa])
  have kpa2 : ((q_kd M pa).2 : Int) = 20 := by rw [kpa]; rfl
  have kpa3 : 2 ≤ (q_kd M pa).1 := by rw [kpa]; decide
  have kpa4 : (q_kd M pa).1 ≤ 9 := by rw [kpa]; decide
  have hb := y_big (f := cLf W n 1 p y) hn20
  have hc := fun z : QP => uJ6_bitCount (d := d + 3) (M := M) (x := z) (v := bSet (cLf W n 1 p y) n) (by omega)
  rw [pc_bSet hn20] at hc
  rw [eX11_childrenOf]
  simp (disch := first | assumption | exact bI_lo | exact bI_hi | exact bI_01 | (show (List.map q_wd _).sum ≤ 8; with_unfolding_all exact Nat.le_of_ble_eq_true rfl) | omega) only [kX11_childrenOf_0, kX11_childrenOf_1, kX11_childrenOf_2, kX11_childrenOf_3, kX11_childrenOf_4E, kX11_childrenOf_7E, kX11_childrenOf_10, q_cut_i, q_cut_r, q_cut_l, q_cut_n, q_psh_n, q_psh_s, bI_eq0, ite_not, uX11_leafSet hW, hc]
def cNf (W : Nat → Pl) (y : Int) (p : Nat) : Bool := decide (y < plF (W p))
def cEd (W : Nat → Pl) (y : Int) (p : Nat) : Bool := decide (plEnd (W p) ≤ y)
theorem bCt_1 {f : Nat → Bool} {k : Nat} (h : f k = true) : ((bCt f (k + 1) : Nat) : Int) = (bCt f k : Int) + 1 := by rw [bCt, if_pos h]; rfl
theorem bCt_0 {f : Nat → Bool} {k : Nat} (h : ¬ f k = true) : bCt f (k + 1) = bCt f k := by rw [bCt, if_neg h]; rfl
theorem uX11_notFoundedOn {d : Nat} {M : QM} {x : QP} {w pa n : Nat} {A : Nat → Nat → Nat} {cN cT : Nat → Nat} {W : Nat → Pl} (hW : WRd M w pa A cN cT W n) {y : Int} (h3 : -2147483648 ≤ y) (h4 : y < 2147483648) : q_T (d + 1) iX11_notFoundedOn [qr w, qi y] M x = x (some (qi (bCt (cNf W y) n))) M := by
  obtain ⟨kw, fpa, fn, hn20, kpa, hpl⟩ := id hW
  have kpa1 : (q_kd M pa).1 = 5 ∨ (q_kd M pa).1 = 6 := Or.inr (by rw [kpa])
  have kpa2 : ((q_kd M pa).2 : Int) = 20 := by rw [kpa]; rfl
  have kpa3 : 2 ≤ (q_kd M pa).1 := by rw [kpa]; decide
  have kpa4 : (q_kd M pa).1 ≤ 9 := by rw [kpa]; decide
  have loop : ∀ n1 k : Nat, k + n1 = n → ∀ l4, Rr (q_C d) mX11_notFoundedOn (4, [some (qr w), some (qi y), some (qi (bCt (cNf W y) k)), some (qi k), l4], [], M) x = x (some (qi (bCt (cNf W y) n))) M := by
    intro n1
    induction n1 with
    | zero =>
      intro k hk l4
      have e : k = n := by omega
      subst e
      rw [kX11_notFoundedOn_4]
      simp (disch := first | assumption | exact bI_lo | exact bI_hi | exact bI_01 | (show (List.map q_wd _).sum ≤ 8; with_unfolding_all exact Nat.le_of_ble_eq_true rfl) | omega) only [kX11_notFoundedOn_0, kX11_notFoundedOn_1, kX11_notFoundedOn_2, kX11_notFoundedOn_3, kX11_notFoundedOn_5, kX11_notFoundedOn_6, kX11_notFoundedOn_9, kX11_notFoundedOn_12, kX11_notFoundedOn_13, kX11_notFoundedOn_16, kX11_notFoundedOn_17, kX11_notFoundedOn_18, kX11_notFoundedOn_20, kX11_notFoundedOn_22r, kX11_notFoundedOn_22n, kX11_notFoundedOn_25, kX11_notFoundedOn_27, kX11_notFoundedOn_30, kX11_notFoundedOn_31, kX11_notFoundedOn_34, kX11_notFoundedOn_37, kX11_notFoundedOn_40, kX11_notFoundedOn_43, kX11_notFoundedOn_44, q_cut_i, q_cut_r, q_cut_l, q_cut_n, q_psh_n, q_psh_s, bI_eq0, ite_not, ↓if_pos, ↓if_neg, ↓ite_bI_t, ↓ite_bI_f, fn]
    | succ n1 ih =>
      intro k hk l4
      have hA := (hpl k (by omega)).1
      have hp := (hpl k (by omega)).2
      have hf := plF_b (PLr_ok hp)
      have ih' := ih (k + 1) (by omega) (some (qr (A k 0)))
      rw [kX11_notFoundedOn_4]
      by_cases g : y < plF (W k)
      · rw [bCt_1 (decide_eq_true g)] at ih'
        simp (disch := first | assumption | exact PLr_0 hp | exact PLr_k1 hp | exact PLr_k4 hp | exact PLr_k7 hp | exact bI_lo | exact bI_hi | exact bI_01 | (show (List.map q_wd _).sum ≤ 8; with_unfolding_all exact Nat.le_of_ble_eq_true rfl) | omega) only [kX11_notFoundedOn_0, kX11_notFoundedOn_1, kX11_notFoundedOn_2, kX11_notFoundedOn_3, kX11_notFoundedOn_5, kX11_notFoundedOn_6, kX11_notFoundedOn_9, kX11_notFoundedOn_12, kX11_notFoundedOn_13, kX11_notFoundedOn_16, kX11_notFoundedOn_17, kX11_notFoundedOn_18, kX11_notFoundedOn_20, kX11_notFoundedOn_22r, kX11_notFoundedOn_22n, kX11_notFoundedOn_25, kX11_notFoundedOn_27, kX11_notFoundedOn_30, kX11_notFoundedOn_31, kX11_notFoundedOn_34, kX11_notFoundedOn_37, kX11_notFoundedOn_40, kX11_notFoundedOn_43, kX11_notFoundedOn_44, q_cut_i, q_cut_r, q_cut_l, q_cut_n, q_psh_n, q_psh_s, bI_eq0, ite_not, ↓if_pos, ↓if_neg, ↓ite_bI_t, ↓ite_bI_f, fn, fpa, q_toN, hA, PLr_f1 hp]
        exact ih'
      · rw [bCt_0 (by simpa [cNf] using g)] at ih'
        simp (disch := first | assumption | exact PLr_0 hp | exact PLr_k1 hp | exact PLr_k4 hp | exact PLr_k7 hp | exact bI_lo | exact bI_hi | exact bI_01 | (show (List.map q_wd _).sum ≤ 8; with_unfolding_all exact Nat.le_of_ble_eq_true rfl) | omega) only [kX11_notFoundedOn_0, kX11_notFoundedOn_1, kX11_notFoundedOn_2, kX11_notFoundedOn_3, kX11_notFoundedOn_5, kX11_notFoundedOn_6, kX11_notFoundedOn_9, kX11_notFoundedOn_12, kX11_notFoundedOn_13, kX11_notFoundedOn_16, kX11_notFoundedOn_17, kX11_notFoundedOn_18, kX11_notFoundedOn_20, kX11_notFoundedOn_22r, kX11_notFoundedOn_22n, kX11_notFoundedOn_25, kX11_notFoundedOn_27, kX11_notFoundedOn_30, kX11_notFoundedOn_31, kX11_notFoundedOn_34, kX11_notFoundedOn_37, kX11_notFoundedOn_40, kX11_notFoundedOn_43, kX11_notFoundedOn_44, q_cut_i, q_cut_r, q_cut_l, q_cut_n, q_psh_n, q_psh_s, bI_eq0, ite_not, ↓if_pos, ↓if_neg, ↓ite_bI_t, ↓ite_bI_f, fn, fpa, q_toN, hA, PLr_f1 hp]
        exact ih'
  rw [eX11_notFoundedOn]
  simp (disch := first | assumption | exact bI_lo | exact bI_hi | exact bI_01 | (show (List.map q_wd _).sum ≤ 8; with_unfolding_all exact Nat.le_of_ble_eq_true rfl) | omega) only [kX11_notFoundedOn_0, kX11_notFoundedOn_1, kX11_notFoundedOn_2, kX11_notFoundedOn_3, q_cut_i, q_cut_r, q_cut_l, q_cut_n, q_psh_n, q_psh_s, bI_eq0, ite_not]
  exact loop n 0 (by omega) none
theorem uX11_endedOn {d : Nat} {M : QM} {x : QP} {w pa n : Nat} {A : Nat → Nat → Nat} {cN cT : Nat → Nat} {W : Nat → Pl} (hW : WRd M w pa A cN cT W n) {y : Int} (h3 : -2147483648 ≤ y) (h4 : y < 2147483648) : q_T (d + 3) iX11_endedOn [qr w, qi y] M x = x (some (qi (bCt (cEd W y) n))) M := by
  obtain ⟨kw, fpa, fn, hn20, kpa, hpl⟩ := id hW
  have kpa1 : (q_kd M pa).1 = 5 ∨ (q_kd M pa).1 = 6 := Or.inr (by rw [kpa])
  have kpa2 : ((q_kd M pa).2 : Int) = 20 := by rw [kpa]; rfl
  have kpa3 : 2 ≤ (q_kd M pa).1 := by rw [kpa]; decide
  have kpa4 : (q_kd M pa).1 ≤ 9 := by rw [kpa]; decide
  have loop : ∀ n1 k : Nat, k + n1 = n → ∀ l4, Rr (q_C (d + 2)) mX11_endedOn (4, [some (qr w), some (qi y), some (qi (bCt (cEd W y) k)), some (qi k), l4], [], M) x = x (some (qi (bCt (cEd W y) n))) M := by
    intro n1
    induction n1 with
    | zero =>
      intro k hk l4
      have e : k = n := by omega
      subst e
      rw [kX11_endedOn_4]
      simp (disch := first | assumption | exact bI_lo | exact bI_hi | exact bI_01 | (show (List.map q_wd _).sum ≤ 8; with_unfolding_all exact Nat.le_of_ble_eq_true rfl) | omega) only [kX11_endedOn_0, kX11_endedOn_1, kX11_endedOn_2, kX11_endedOn_3, kX11_endedOn_5, kX11_endedOn_6, kX11_endedOn_9, kX11_endedOn_12, kX11_endedOn_13, kX11_endedOn_16, kX11_endedOn_17, kX11_endedOn_18, kX11_endedOn_20, kX11_endedOn_22r, kX11_endedOn_22n, kX11_endedOn_25, kX11_endedOn_27E, kX11_endedOn_30, kX11_endedOn_31, kX11_endedOn_34, kX11_endedOn_37, kX11_endedOn_40, kX11_endedOn_43, kX11_endedOn_44, q_cut_i, q_cut_r, q_cut_l, q_cut_n, q_psh_n, q_psh_s, bI_eq0, ite_not, ↓if_pos, ↓if_neg, ↓ite_bI_t, ↓ite_bI_f, fn]
    | succ n1 ih =>
      intro k hk l4
      have hA := (hpl k (by omega)).1
      have hp := (hpl k (by omega)).2
      have hf := plEnd_b (PLr_ok hp)
      have ih' := ih (k + 1) (by omega) (some (qr (A k 0)))
      rw [kX11_endedOn_4]
      by_cases g : plEnd (W k) ≤ y
      · rw [bCt_1 (decide_eq_true g)] at ih'
        simp (disch := first | assumption | exact PLr_0 hp | exact PLr_k1 hp | exact PLr_k4 hp | exact PLr_k7 hp | exact bI_lo | exact bI_hi | exact bI_01 | (show (List.map q_wd _).sum ≤ 8; with_unfolding_all exact Nat.le_of_ble_eq_true rfl) | omega) only [kX11_endedOn_0, kX11_endedOn_1, kX11_endedOn_2, kX11_endedOn_3, kX11_endedOn_5, kX11_endedOn_6, kX11_endedOn_9, kX11_endedOn_12, kX11_endedOn_13, kX11_endedOn_16, kX11_endedOn_17, kX11_endedOn_18, kX11_endedOn_20, kX11_endedOn_22r, kX11_endedOn_22n, kX11_endedOn_25, kX11_endedOn_27E, kX11_endedOn_30, kX11_endedOn_31, kX11_endedOn_34, kX11_endedOn_37, kX11_endedOn_40, kX11_endedOn_43, kX11_endedOn_44, q_cut_i, q_cut_r, q_cut_l, q_cut_n, q_psh_n, q_psh_s, bI_eq0, ite_not, ↓if_pos, ↓if_neg, ↓ite_bI_t, ↓ite_bI_f, fn, fpa, q_toN, hA, uX4_end hp]
        exact ih'
      · rw [bCt_0 (by simpa [cEd] using g)] at ih'
        simp (disch := first | assumption | exact PLr_0 hp | exact PLr_k1 hp | exact PLr_k4 hp | exact PLr_k7 hp | exact bI_lo | exact bI_hi | exact bI_01 | (show (List.map q_wd _).sum ≤ 8; with_unfolding_all exact Nat.le_of_ble_eq_true rfl) | omega) only [kX11_endedOn_0, kX11_endedOn_1, kX11_endedOn_2, kX11_endedOn_3, kX11_endedOn_5, kX11_endedOn_6, kX11_endedOn_9, kX11_endedOn_12, kX11_endedOn_13, kX11_endedOn_16, kX11_endedOn_17, kX11_endedOn_18, kX11_endedOn_20, kX11_endedOn_22r, kX11_endedOn_22n, kX11_endedOn_25, kX11_endedOn_27E, kX11_endedOn_30, kX11_endedOn_31, kX11_endedOn_34, kX11_endedOn_37, kX11_endedOn_40, kX11_endedOn_43, kX11_endedOn_44, q_cut_i, q_cut_r, q_cut_l, q_cut_n, q_psh_n, q_psh_s, bI_eq0, ite_not, ↓if_pos, ↓if_neg, ↓ite_bI_t, ↓ite_bI_f, fn, fpa, q_toN, hA, uX4_end hp]
        exact ih'
  rw [eX11_endedOn]
  simp (disch := first | assumption | exact bI_lo | exact bI_hi | exact bI_01 | (show (List.map q_wd _).sum ≤ 8; with_unfolding_all exact Nat.le_of_ble_eq_true rfl) | omega) only [kX11_endedOn_0, kX11_endedOn_1, kX11_endedOn_2, kX11_endedOn_3, q_cut_i, q_cut_r, q_cut_l, q_cut_n, q_psh_n, q_psh_s, bI_eq0, ite_not]
  exact loop n 0 (by omega) none
def cFn (W : Nat → Pl) (y : Int) (p : Nat) : Bool := plEx (W p) y && (List.range p).all (fun q => !(plEx (W q) y && decide (nmAt (plN (W q)) y = nmAt (plN (W p)) y)))
theorem uX11_isFirstOfItsName {d : Nat} {M : QM} {x : QP} {w pa n : Nat} {A : Nat → Nat → Nat} {cN cT : Nat → Nat} {W : Nat → Pl} (hW : WRd M w pa A cN cT W n) {p : Nat} {y : Int} (h1 : p < n) (h3 : -2147483648 ≤ y) (h4 : y < 2147483648) : q_T (d + 4) iX11_isFirstOfItsName [qr w, qi p, qi y] M x = x (some (qi (bI (cFn W y p = true)))) M := by
  obtain ⟨kw, fpa, fn, hn20, kpa, hpl⟩ := id hW
  have kpa1 : (q_kd M pa).1 = 5 ∨ (q_kd M pa).1 = 6 := Or.inr (by rw [kpa])
  have kpa2 : ((q_kd M pa).2 : Int) = 20 := by rw [kpa]; rfl
  have kpa3 : 2 ≤ (q_kd M pa).1 := by rw [kpa]; decide
  have kpa4 : (q_kd M pa).1 ≤ 9 := by rw [kpa]; decide
  have hp := (hpl p (by omega)).2
  have hp0 := hp
  have hn1 := nm40 hp y
  have hpp := fun z : QP => uX11_placeY (d := d + 2) (x := z) hW (p := p) (by omega) (by omega)
  rw [q_toN] at hpp
  rw [eX11_isFirstOfItsName]
  unfold cFn
  by_cases g0 : plEx (W p) y = true
  · rw [g0, Bool.true_and]
    have loop : ∀ n1 k : Nat, k + n1 = p → (∀ q : Nat, q < k → ¬ (plEx (W q) y = true ∧ nmAt (plN (W q)) y = nmAt (plN (W p)) y)) → ∀ l5, Rr (q_C (d + 3)) mX11_isFirstOfItsName (23, [some (qr w), some (qi p), some (qi y), some (qr (A p 0)), some (qi k), l5], [], M) x = x (some (qi (bI ((List.range p).all (fun q => !(plEx (W q) y && decide (nmAt (plN (W q)) y = nmAt (plN (W p)) y))) = true)))) M := by
      intro n1
      induction n1 with
      | zero =>
        intro k hk hq l5
        have e : k = p := by omega
        subst e
        rw [bI_pos (by
          rw [List.all_eq_true]
          intro q hq2
          have := hq q (by have := List.mem_range.mp hq2; omega)
          by_cases g : plEx (W q) y = true
          · simp [g] at this; simp [g, this]
          · simp [g]), kX11_isFirstOfItsName_23]
        simp (disch := first | assumption | exact bI_lo | exact bI_hi | exact bI_01 | (show (List.map q_wd _).sum ≤ 8; with_unfolding_all exact Nat.le_of_ble_eq_true rfl) | omega) only [kX11_isFirstOfItsName_0, kX11_isFirstOfItsName_1, kX11_isFirstOfItsName_2E, kX11_isFirstOfItsName_5, kX11_isFirstOfItsName_6, kX11_isFirstOfItsName_7r, kX11_isFirstOfItsName_7n, kX11_isFirstOfItsName_10, kX11_isFirstOfItsName_11, kX11_isFirstOfItsName_12E, kX11_isFirstOfItsName_15, kX11_isFirstOfItsName_18, kX11_isFirstOfItsName_19, kX11_isFirstOfItsName_20, kX11_isFirstOfItsName_21, kX11_isFirstOfItsName_25, kX11_isFirstOfItsName_26, kX11_isFirstOfItsName_29, kX11_isFirstOfItsName_30, kX11_isFirstOfItsName_32E, kX11_isFirstOfItsName_35, kX11_isFirstOfItsName_37, kX11_isFirstOfItsName_39r, kX11_isFirstOfItsName_39n, kX11_isFirstOfItsName_42, kX11_isFirstOfItsName_44, kX11_isFirstOfItsName_45E, kX11_isFirstOfItsName_48, kX11_isFirstOfItsName_51, kX11_isFirstOfItsName_53, kX11_isFirstOfItsName_56, kX11_isFirstOfItsName_57E, kX11_isFirstOfItsName_60, kX11_isFirstOfItsName_61, kX11_isFirstOfItsName_64, kX11_isFirstOfItsName_65E, kX11_isFirstOfItsName_68, kX11_isFirstOfItsName_69, kX11_isFirstOfItsName_72, kX11_isFirstOfItsName_73, kX11_isFirstOfItsName_74, kX11_isFirstOfItsName_77, kX11_isFirstOfItsName_80, kX11_isFirstOfItsName_81, q_cut_i, q_cut_r, q_cut_l, q_cut_n, q_psh_n, q_psh_s, bI_eq0, ite_not, ↓if_pos, ↓if_neg, ↓ite_bI_t, ↓ite_bI_f]
      | succ n1 ih =>
        intro k hk hq l5
        have hp := (hpl k (by omega)).2
        have hpk := fun z : QP => uX11_placeY (d := d + 2) (x := z) hW (p := k) (by omega) (by omega)
        rw [q_toN] at hpk
        have hn2 := nm40 hp y
        rw [kX11_isFirstOfItsName_23]
        by_cases g1 : plEx (W k) y = true
        · have r5 := z_lcmpR (nmAt (plN (W k)) y) (nmAt (plN (W p)) y)
          have r6 := z_lcmp0 (a := nmAt (plN (W k)) y) (b := nmAt (plN (W p)) y) (by omega) (by omega)
          by_cases g2 : nmAt (plN (W k)) y = nmAt (plN (W p)) y
          · rw [bI_neg (by
              rw [List.all_eq_true]
              intro h
              have := h k (List.mem_range.mpr (by omega))
              simp [g1, g2] at this)]
            have r7 := r6.mpr g2
            simp (disch := first | assumption | exact PLr_0 hp | exact PLr_k1 hp | exact PLr_k4 hp | exact PLr_k7 hp | exact PLr_0 hp0 | exact PLr_k1 hp0 | exact PLr_k4 hp0 | exact PLr_k7 hp0 | exact bI_lo | exact bI_hi | exact bI_01 | (show (List.map q_wd _).sum ≤ 8; with_unfolding_all exact Nat.le_of_ble_eq_true rfl) | omega) only [kX11_isFirstOfItsName_0, kX11_isFirstOfItsName_1, kX11_isFirstOfItsName_2E, kX11_isFirstOfItsName_5, kX11_isFirstOfItsName_6, kX11_isFirstOfItsName_7r, kX11_isFirstOfItsName_7n, kX11_isFirstOfItsName_10, kX11_isFirstOfItsName_11, kX11_isFirstOfItsName_12E, kX11_isFirstOfItsName_15, kX11_isFirstOfItsName_18, kX11_isFirstOfItsName_19, kX11_isFirstOfItsName_20, kX11_isFirstOfItsName_21, kX11_isFirstOfItsName_25, kX11_isFirstOfItsName_26, kX11_isFirstOfItsName_29, kX11_isFirstOfItsName_30, kX11_isFirstOfItsName_32E, kX11_isFirstOfItsName_35, kX11_isFirstOfItsName_37, kX11_isFirstOfItsName_39r, kX11_isFirstOfItsName_39n, kX11_isFirstOfItsName_42, kX11_isFirstOfItsName_44, kX11_isFirstOfItsName_45E, kX11_isFirstOfItsName_48, kX11_isFirstOfItsName_51, kX11_isFirstOfItsName_53, kX11_isFirstOfItsName_56, kX11_isFirstOfItsName_57E, kX11_isFirstOfItsName_60, kX11_isFirstOfItsName_61, kX11_isFirstOfItsName_64, kX11_isFirstOfItsName_65E, kX11_isFirstOfItsName_68, kX11_isFirstOfItsName_69, kX11_isFirstOfItsName_72, kX11_isFirstOfItsName_73, kX11_isFirstOfItsName_74, kX11_isFirstOfItsName_77, kX11_isFirstOfItsName_80, kX11_isFirstOfItsName_81, q_cut_i, q_cut_r, q_cut_l, q_cut_n, q_psh_n, q_psh_s, bI_eq0, ite_not, ↓if_pos, ↓if_neg, ↓ite_bI_t, ↓ite_bI_f, hpk, uX4_existsOn hp, PLr_f6 hp, PLr_f6 hp0, uX2_at hp, uX2_at hp0, r7]
          · have r7 : ¬ q_lcmp (nmAt (plN (W k)) y) (nmAt (plN (W p)) y) = 0 := fun z => g2 (r6.mp z)
            have ih' := ih (k + 1) (by omega) (fun q hq2 => by
              by_cases e : q = k
              · rw [e]; exact fun g => g2 g.2
              · exact hq q (by omega)) (some (qr (A k 0)))
            simp (disch := first | assumption | exact PLr_0 hp | exact PLr_k1 hp | exact PLr_k4 hp | exact PLr_k7 hp | exact PLr_0 hp0 | exact PLr_k1 hp0 | exact PLr_k4 hp0 | exact PLr_k7 hp0 | exact bI_lo | exact bI_hi | exact bI_01 | (show (List.map q_wd _).sum ≤ 8; with_unfolding_all exact Nat.le_of_ble_eq_true rfl) | omega) only [kX11_isFirstOfItsName_0, kX11_isFirstOfItsName_1, kX11_isFirstOfItsName_2E, kX11_isFirstOfItsName_5, kX11_isFirstOfItsName_6, kX11_isFirstOfItsName_7r, kX11_isFirstOfItsName_7n, kX11_isFirstOfItsName_10, kX11_isFirstOfItsName_11, kX11_isFirstOfItsName_12E, kX11_isFirstOfItsName_15, kX11_isFirstOfItsName_18, kX11_isFirstOfItsName_19, kX11_isFirstOfItsName_20, kX11_isFirstOfItsName_21, kX11_isFirstOfItsName_25, kX11_isFirstOfItsName_26, kX11_isFirstOfItsName_29, kX11_isFirstOfItsName_30, kX11_isFirstOfItsName_32E, kX11_isFirstOfItsName_35, kX11_isFirstOfItsName_37, kX11_isFirstOfItsName_39r, kX11_isFirstOfItsName_39n, kX11_isFirstOfItsName_42, kX11_isFirstOfItsName_44, kX11_isFirstOfItsName_45E, kX11_isFirstOfItsName_48, kX11_isFirstOfItsName_51, kX11_isFirstOfItsName_53, kX11_isFirstOfItsName_56, kX11_isFirstOfItsName_57E, kX11_isFirstOfItsName_60, kX11_isFirstOfItsName_61, kX11_isFirstOfItsName_64, kX11_isFirstOfItsName_65E, kX11_isFirstOfItsName_68, kX11_isFirstOfItsName_69, kX11_isFirstOfItsName_72, kX11_isFirstOfItsName_73, kX11_isFirstOfItsName_74, kX11_isFirstOfItsName_77, kX11_isFirstOfItsName_80, kX11_isFirstOfItsName_81, q_cut_i, q_cut_r, q_cut_l, q_cut_n, q_psh_n, q_psh_s, bI_eq0, ite_not, ↓if_pos, ↓if_neg, ↓ite_bI_t, ↓ite_bI_f, hpk, uX4_existsOn hp, PLr_f6 hp, PLr_f6 hp0, uX2_at hp, uX2_at hp0]
            exact ih'
        · have ih' := ih (k + 1) (by omega) (fun q hq2 => by
            by_cases e : q = k
            · rw [e]; exact fun g => g1 g.1
            · exact hq q (by omega)) (some (qr (A k 0)))
          simp (disch := first | assumption | exact PLr_0 hp | exact PLr_k1 hp | exact PLr_k4 hp | exact PLr_k7 hp | exact bI_lo | exact bI_hi | exact bI_01 | (show (List.map q_wd _).sum ≤ 8; with_unfolding_all exact Nat.le_of_ble_eq_true rfl) | omega) only [kX11_isFirstOfItsName_0, kX11_isFirstOfItsName_1, kX11_isFirstOfItsName_2E, kX11_isFirstOfItsName_5, kX11_isFirstOfItsName_6, kX11_isFirstOfItsName_7r, kX11_isFirstOfItsName_7n, kX11_isFirstOfItsName_10, kX11_isFirstOfItsName_11, kX11_isFirstOfItsName_12E, kX11_isFirstOfItsName_15, kX11_isFirstOfItsName_18, kX11_isFirstOfItsName_19, kX11_isFirstOfItsName_20, kX11_isFirstOfItsName_21, kX11_isFirstOfItsName_25, kX11_isFirstOfItsName_26, kX11_isFirstOfItsName_29, kX11_isFirstOfItsName_30, kX11_isFirstOfItsName_32E, kX11_isFirstOfItsName_35, kX11_isFirstOfItsName_37, kX11_isFirstOfItsName_39r, kX11_isFirstOfItsName_39n, kX11_isFirstOfItsName_42, kX11_isFirstOfItsName_44, kX11_isFirstOfItsName_45E, kX11_isFirstOfItsName_48, kX11_isFirstOfItsName_51, kX11_isFirstOfItsName_53, kX11_isFirstOfItsName_56, kX11_isFirstOfItsName_57E, kX11_isFirstOfItsName_60, kX11_isFirstOfItsName_61, kX11_isFirstOfItsName_64, kX11_isFirstOfItsName_65E, kX11_isFirstOfItsName_68, kX11_isFirstOfItsName_69, kX11_isFirstOfItsName_72, kX11_isFirstOfItsName_73, kX11_isFirstOfItsName_74, kX11_isFirstOfItsName_77, kX11_isFirstOfItsName_80, kX11_isFirstOfItsName_81, q_cut_i, q_cut_r, q_cut_l, q_cut_n, q_psh_n, q_psh_s, bI_eq0, ite_not, ↓if_pos, ↓if_neg, ↓ite_bI_t, ↓ite_bI_f, hpk, uX4_existsOn hp]
          exact ih'
    simp (disch := first | assumption | exact PLr_0 hp | exact PLr_k1 hp | exact PLr_k4 hp | exact PLr_k7 hp | exact bI_lo | exact bI_hi | exact bI_01 | (show (List.map q_wd _).sum ≤ 8; with_unfolding_all exact Nat.le_of_ble_eq_true rfl) | omega) only [kX11_isFirstOfItsName_0, kX11_isFirstOfItsName_1, kX11_isFirstOfItsName_2E, kX11_isFirstOfItsName_5, kX11_isFirstOfItsName_6, kX11_isFirstOfItsName_7r, kX11_isFirstOfItsName_7n, kX11_isFirstOfItsName_10, kX11_isFirstOfItsName_11, kX11_isFirstOfItsName_12E, kX11_isFirstOfItsName_15, kX11_isFirstOfItsName_18, kX11_isFirstOfItsName_19, kX11_isFirstOfItsName_20, kX11_isFirstOfItsName_21, q_cut_i, q_cut_r, q_cut_l, q_cut_n, q_psh_n, q_psh_s, bI_eq0, ite_not, ↓if_pos, ↓if_neg, ↓ite_bI_t, ↓ite_bI_f, hpp, uX4_existsOn hp]
    exact loop p 0 (by omega) (fun q hq => by omega) none
  · rw [bI_neg (by simp [g0])]
    simp (disch := first | assumption | exact PLr_0 hp | exact PLr_k1 hp | exact PLr_k4 hp | exact PLr_k7 hp | exact bI_lo | exact bI_hi | exact bI_01 | (show (List.map q_wd _).sum ≤ 8; with_unfolding_all exact Nat.le_of_ble_eq_true rfl) | omega) only [kX11_isFirstOfItsName_0, kX11_isFirstOfItsName_1, kX11_isFirstOfItsName_2E, kX11_isFirstOfItsName_5, kX11_isFirstOfItsName_6, kX11_isFirstOfItsName_7r, kX11_isFirstOfItsName_7n, kX11_isFirstOfItsName_10, kX11_isFirstOfItsName_11, kX11_isFirstOfItsName_12E, kX11_isFirstOfItsName_15, kX11_isFirstOfItsName_18, kX11_isFirstOfItsName_19, kX11_isFirstOfItsName_20, kX11_isFirstOfItsName_21, q_cut_i, q_cut_r, q_cut_l, q_cut_n, q_psh_n, q_psh_s, bI_eq0, ite_not, ↓if_pos, ↓if_neg, ↓ite_bI_t, ↓ite_bI_f, hpp, uX4_existsOn hp]
theorem uX11_differentNamesOn {d : Nat} {M : QM} {x : QP} {w pa n : Nat} {A : Nat → Nat → Nat} {cN cT : Nat → Nat} {W : Nat → Pl} (hW : WRd M w pa A cN cT W n) {y : Int} (h3 : -2147483648 ≤ y) (h4 : y < 2147483648) : q_T (d + 5) iX11_differentNamesOn [qr w, qi y] M x = x (some (qi (bCt (cFn W y) n))) M := by
  obtain ⟨kw, fpa, fn, hn20, kpa, hpl⟩ := id hW
  have kpa1 : (q_kd M pa).1 = 5 ∨ (q_kd M pa).1 = 6 := Or.inr (by rw [kpa])
  have kpa2 : ((q_kd M pa).2 : Int) = 20 := by rw [kpa]; rfl
  have kpa3 : 2 ≤ (q_kd M pa).1 := by rw [kpa]; decide
  have kpa4 : (q_kd M pa).1 ≤ 9 := by rw [kpa]; decide
  have loop : ∀ n1 k : Nat, k + n1 = n → Rr (q_C (d + 4)) mX11_differentNamesOn (4, [some (qr w), some (qi y), some (qi (bCt (cFn W y) k)), some (qi k)], [], M) x = x (some (qi (bCt (cFn W y) n))) M := by
    intro n1
    induction n1 with
    | zero =>
      intro k hk
      have e : k = n := by omega
      subst e
      rw [kX11_differentNamesOn_4]
      simp (disch := first | assumption | exact bI_lo | exact bI_hi | exact bI_01 | (show (List.map q_wd _).sum ≤ 8; with_unfolding_all exact Nat.le_of_ble_eq_true rfl) | omega) only [kX11_differentNamesOn_0, kX11_differentNamesOn_1, kX11_differentNamesOn_2, kX11_differentNamesOn_3, kX11_differentNamesOn_5, kX11_differentNamesOn_6, kX11_differentNamesOn_9, kX11_differentNamesOn_12, kX11_differentNamesOn_13, kX11_differentNamesOn_14, kX11_differentNamesOn_15E, kX11_differentNamesOn_18, kX11_differentNamesOn_21, kX11_differentNamesOn_24, kX11_differentNamesOn_27, kX11_differentNamesOn_30, kX11_differentNamesOn_31, q_cut_i, q_cut_r, q_cut_l, q_cut_n, q_psh_n, q_psh_s, bI_eq0, ite_not, ↓if_pos, ↓if_neg, ↓ite_bI_t, ↓ite_bI_f, fn]
    | succ n1 ih =>
      intro k hk
      have hF := fun z : QP => uX11_isFirstOfItsName (d := d) (x := z) hW (p := k) (y := y) (by omega) h3 h4
      have ih' := ih (k + 1) (by omega)
      rw [kX11_differentNamesOn_4]
      by_cases g : cFn W y k = true
      · rw [bCt_1 g] at ih'
        simp (disch := first | assumption | exact bI_lo | exact bI_hi | exact bI_01 | (show (List.map q_wd _).sum ≤ 8; with_unfolding_all exact Nat.le_of_ble_eq_true rfl) | omega) only [kX11_differentNamesOn_0, kX11_differentNamesOn_1, kX11_differentNamesOn_2, kX11_differentNamesOn_3, kX11_differentNamesOn_5, kX11_differentNamesOn_6, kX11_differentNamesOn_9, kX11_differentNamesOn_12, kX11_differentNamesOn_13, kX11_differentNamesOn_14, kX11_differentNamesOn_15E, kX11_differentNamesOn_18, kX11_differentNamesOn_21, kX11_differentNamesOn_24, kX11_differentNamesOn_27, kX11_differentNamesOn_30, kX11_differentNamesOn_31, q_cut_i, q_cut_r, q_cut_l, q_cut_n, q_psh_n, q_psh_s, bI_eq0, ite_not, ↓if_pos, ↓if_neg, ↓ite_bI_t, ↓ite_bI_f, fn, hF]
        exact ih'
      · rw [bCt_0 g] at ih'
        simp (disch := first | assumption | exact bI_lo | exact bI_hi | exact bI_01 | (show (List.map q_wd _).sum ≤ 8; with_unfolding_all exact Nat.le_of_ble_eq_true rfl) | omega) only [kX11_differentNamesOn_0, kX11_differentNamesOn_1, kX11_differentNamesOn_2, kX11_differentNamesOn_3, kX11_differentNamesOn_5, kX11_differentNamesOn_6, kX11_differentNamesOn_9, kX11_differentNamesOn_12, kX11_differentNamesOn_13, kX11_differentNamesOn_14, kX11_differentNamesOn_15E, kX11_differentNamesOn_18, kX11_differentNamesOn_21, kX11_differentNamesOn_24, kX11_differentNamesOn_27, kX11_differentNamesOn_30, kX11_differentNamesOn_31, q_cut_i, q_cut_r, q_cut_l, q_cut_n, q_psh_n, q_psh_s, bI_eq0, ite_not, ↓if_pos, ↓if_neg, ↓ite_bI_t, ↓ite_bI_f, fn, hF]
        exact ih'
  rw [eX11_differentNamesOn]
  simp (disch := first | assumption | exact bI_lo | exact bI_hi | exact bI_01 | (show (List.map q_wd _).sum ≤ 8; with_unfolding_all exact Nat.le_of_ble_eq_true rfl) | omega) only [kX11_differentNamesOn_0, kX11_differentNamesOn_1, kX11_differentNamesOn_2, kX11_differentNamesOn_3, q_cut_i, q_cut_r, q_cut_l, q_cut_n, q_psh_n, q_psh_s, bI_eq0, ite_not]
  exact loop n 0 (by omega)
def cMx (W : Nat → Pl) (n : Nat) (y : Int) : Nat → Nat
  | 0 => 0
  | p + 1 => max (cMx W n y p) (bCt (cLf W n 1 p y) n)
theorem cMx_le (W : Nat → Pl) (n : Nat) (y : Int) : ∀ p : Nat, cMx W n y p ≤ n
  | 0 => Nat.zero_le n
  | p + 1 => by
    have := cMx_le W n y p
    have := bCt_le (cLf W n 1 p y) n
    rw [cMx]; omega
theorem uX11_mostChildrenOn {d : Nat} {M : QM} {x : QP} {w pa n : Nat} {A : Nat → Nat → Nat} {cN cT : Nat → Nat} {W : Nat → Pl} (hW : WRd M w pa A cN cT W n) {y : Int} (h3 : -2147483648 ≤ y) (h4 : y < 2147483648) : q_T (d + 6) iX11_mostChildrenOn [qr w, qi y] M x = x (some (qi (cMx W n y n))) M := by
  obtain ⟨kw, fpa, fn, hn20, kpa, hpl⟩ := id hW
  have kpa1 : (q_kd M pa).1 = 5 ∨ (q_kd M pa).1 = 6 := Or.inr (by rw [kpa])
  have kpa2 : ((q_kd M pa).2 : Int) = 20 := by rw [kpa]; rfl
  have kpa3 : 2 ≤ (q_kd M pa).1 := by rw [kpa]; decide
  have kpa4 : (q_kd M pa).1 ≤ 9 := by rw [kpa]; decide
  have loop : ∀ n1 k : Nat, k + n1 = n → Rr (q_C (d + 5)) mX11_mostChildrenOn (4, [some (qr w), some (qi y), some (qi (cMx W n y k)), some (qi k)], [], M) x = x (some (qi (cMx W n y n))) M := by
    intro n1
    induction n1 with
    | zero =>
      intro k hk
      have e : k = n := by omega
      subst e
      rw [kX11_mostChildrenOn_4]
      simp (disch := first | assumption | exact bI_lo | exact bI_hi | exact bI_01 | (show (List.map q_wd _).sum ≤ 8; with_unfolding_all exact Nat.le_of_ble_eq_true rfl) | omega) only [kX11_mostChildrenOn_0, kX11_mostChildrenOn_1, kX11_mostChildrenOn_2, kX11_mostChildrenOn_3, kX11_mostChildrenOn_5, kX11_mostChildrenOn_6, kX11_mostChildrenOn_9, kX11_mostChildrenOn_12, kX11_mostChildrenOn_13, kX11_mostChildrenOn_14, kX11_mostChildrenOn_15, kX11_mostChildrenOn_16E, kX11_mostChildrenOn_19, kX11_mostChildrenOn_22, kX11_mostChildrenOn_23, kX11_mostChildrenOn_26, kX11_mostChildrenOn_29, kX11_mostChildrenOn_30, q_cut_i, q_cut_r, q_cut_l, q_cut_n, q_psh_n, q_psh_s, bI_eq0, ite_not, ↓if_pos, ↓if_neg, ↓ite_bI_t, ↓ite_bI_f, fn]
    | succ n1 ih =>
      intro k hk
      have hm := cMx_le W n y k
      have hb := bCt_le (cLf W n 1 k y) n
      have ih' := ih (k + 1) (by omega)
      rw [cMx] at ih'
      have e : ((max (cMx W n y k) (bCt (cLf W n 1 k y) n) : Nat) : Int) = max (cMx W n y k : Int) (bCt (cLf W n 1 k y) n : Int) := by omega
      rw [e] at ih'
      rw [kX11_mostChildrenOn_4]
      simp (disch := first | assumption | exact bI_lo | exact bI_hi | exact bI_01 | (show (List.map q_wd _).sum ≤ 8; with_unfolding_all exact Nat.le_of_ble_eq_true rfl) | omega) only [kX11_mostChildrenOn_0, kX11_mostChildrenOn_1, kX11_mostChildrenOn_2, kX11_mostChildrenOn_3, kX11_mostChildrenOn_5, kX11_mostChildrenOn_6, kX11_mostChildrenOn_9, kX11_mostChildrenOn_12, kX11_mostChildrenOn_13, kX11_mostChildrenOn_14, kX11_mostChildrenOn_15, kX11_mostChildrenOn_16E, kX11_mostChildrenOn_19, kX11_mostChildrenOn_22, kX11_mostChildrenOn_23, kX11_mostChildrenOn_26, kX11_mostChildrenOn_29, kX11_mostChildrenOn_30, q_cut_i, q_cut_r, q_cut_l, q_cut_n, q_psh_n, q_psh_s, bI_eq0, ite_not, ↓if_pos, ↓if_neg, ↓ite_bI_t, ↓ite_bI_f, fn, uX11_childrenOf hW]
      exact ih'
  rw [eX11_mostChildrenOn]
  simp (disch := first | assumption | exact bI_lo | exact bI_hi | exact bI_01 | (show (List.map q_wd _).sum ≤ 8; with_unfolding_all exact Nat.le_of_ble_eq_true rfl) | omega) only [kX11_mostChildrenOn_0, kX11_mostChildrenOn_1, kX11_mostChildrenOn_2, kX11_mostChildrenOn_3, q_cut_i, q_cut_r, q_cut_l, q_cut_n, q_psh_n, q_psh_s, bI_eq0, ite_not]
  exact loop n 0 (by omega)
def cPf (W : Nat → Pl) (v y : Int) (p : Nat) : Bool := decide (0 ≤ tlFst v y (plEnd (W p)) (plT (W p)))
theorem tlFst_R {par y e : Int} (hy : q_b y) (he : q_b e) : ∀ l : List (Int × Int), (∀ q ∈ l, q_b q.1) → -100000 ≤ tlFst par y e l ∧ tlFst par y e l ≤ 100000 := by
  intro l
  induction l with
  | nil => intro _; simp [tlFst]
  | cons q l ih =>
    intro h
    have h1 := ih (fun r hr => h r (by simp [hr]))
    have h2 := h q (by simp)
    obtain ⟨y1, y2⟩ := hy
    obtain ⟨q1, q2⟩ := h2
    rw [tlFst]
    split
    · omega
    · exact h1
theorem TL_bd {M : QM} {t s p cap : Nat} {l : List (Int × Int)} (hT : TL M t s p cap l) : ∀ q ∈ l, q_b q.1 ∧ q_b q.2 := by
  intro q hq
  obtain ⟨i, hi, rfl⟩ := List.getElem_of_mem hq
  have := hT.2.2.2.2.2.2.2.2.2.2.1 i hi
  exact ⟨⟨this.2.2.1, this.2.2.2.1⟩, this.2.2.2.2⟩
theorem uX11_isParentFrom {d : Nat} {M : QM} {x : QP} {w pa n : Nat} {A : Nat → Nat → Nat} {cN cT : Nat → Nat} {W : Nat → Pl} (hW : WRd M w pa A cN cT W n) {v y : Int} (h1 : -2147483648 ≤ v) (h2 : v < 2147483648) (hy : q_b y) : q_T (d + 4) iX11_isParentFrom [qr w, qi v, qi y] M x = x (some (qi (bI ((List.range n).any (cPf W v y) = true)))) M := by
  obtain ⟨kw, fpa, fn, hn20, kpa, hpl⟩ := id hW
  have kpa1 : (q_kd M pa).1 = 5 ∨ (q_kd M pa).1 = 6 := Or.inr (by rw [kpa])
  have kpa2 : ((q_kd M pa).2 : Int) = 20 := by rw [kpa]; rfl
  have kpa3 : 2 ≤ (q_kd M pa).1 := by rw [kpa]; decide
  have kpa4 : (q_kd M pa).1 ≤ 9 := by rw [kpa]; decide
  obtain ⟨y1, y2⟩ := id hy
  have loop : ∀ n1 k : Nat, k + n1 = n → (∀ q : Nat, q < k → ¬ cPf W v y q = true) → ∀ l4, Rr (q_C (d + 3)) mX11_isParentFrom (2, [some (qr w), some (qi v), some (qi y), some (qi k), l4], [], M) x = x (some (qi (bI ((List.range n).any (cPf W v y) = true)))) M := by
    intro n1
    induction n1 with
    | zero =>
      intro k hk hq l4
      have e : k = n := by omega
      subst e
      rw [bI_neg (by
        rw [List.any_eq_true]
        rintro ⟨q, hq2, hq3⟩
        exact hq q (List.mem_range.mp hq2) hq3), kX11_isParentFrom_2]
      simp (disch := first | assumption | exact bI_lo | exact bI_hi | exact bI_01 | (show (List.map q_wd _).sum ≤ 8; with_unfolding_all exact Nat.le_of_ble_eq_true rfl) | omega) only [kX11_isParentFrom_0, kX11_isParentFrom_1, kX11_isParentFrom_3, kX11_isParentFrom_4, kX11_isParentFrom_7, kX11_isParentFrom_10, kX11_isParentFrom_11, kX11_isParentFrom_14, kX11_isParentFrom_15, kX11_isParentFrom_16, kX11_isParentFrom_18, kX11_isParentFrom_20r, kX11_isParentFrom_20n, kX11_isParentFrom_23, kX11_isParentFrom_25, kX11_isParentFrom_26, kX11_isParentFrom_27E, kX11_isParentFrom_30, kX11_isParentFrom_33, kX11_isParentFrom_34, kX11_isParentFrom_35, kX11_isParentFrom_38, kX11_isParentFrom_41, kX11_isParentFrom_42, q_cut_i, q_cut_r, q_cut_l, q_cut_n, q_psh_n, q_psh_s, bI_eq0, ite_not, ↓if_pos, ↓if_neg, ↓ite_bI_t, ↓ite_bI_f, fn]
    | succ n1 ih =>
      intro k hk hq l4
      have hA := (hpl k (by omega)).1
      have hp := (hpl k (by omega)).2
      have hb := tlFst_R (par := v) hy (plEnd_b (PLr_ok hp)) (plT (W k)) (fun q hq => (TL_bd hp.2.2.2.2.2.1 q hq).1)
      rw [kX11_isParentFrom_2]
      by_cases g : 0 ≤ tlFst v y (plEnd (W k)) (plT (W k))
      · rw [bI_pos (by
          rw [List.any_eq_true]
          exact ⟨k, List.mem_range.mpr (by omega), decide_eq_true g⟩)]
        simp (disch := first | assumption | exact PLr_0 hp | exact PLr_k1 hp | exact PLr_k4 hp | exact PLr_k7 hp | exact bI_lo | exact bI_hi | exact bI_01 | (show (List.map q_wd _).sum ≤ 8; with_unfolding_all exact Nat.le_of_ble_eq_true rfl) | omega) only [kX11_isParentFrom_0, kX11_isParentFrom_1, kX11_isParentFrom_3, kX11_isParentFrom_4, kX11_isParentFrom_7, kX11_isParentFrom_10, kX11_isParentFrom_11, kX11_isParentFrom_14, kX11_isParentFrom_15, kX11_isParentFrom_16, kX11_isParentFrom_18, kX11_isParentFrom_20r, kX11_isParentFrom_20n, kX11_isParentFrom_23, kX11_isParentFrom_25, kX11_isParentFrom_26, kX11_isParentFrom_27E, kX11_isParentFrom_30, kX11_isParentFrom_33, kX11_isParentFrom_34, kX11_isParentFrom_35, kX11_isParentFrom_38, kX11_isParentFrom_41, kX11_isParentFrom_42, q_cut_i, q_cut_r, q_cut_l, q_cut_n, q_psh_n, q_psh_s, bI_eq0, ite_not, ↓if_pos, ↓if_neg, ↓ite_bI_t, ↓ite_bI_f, fn, fpa, q_toN, hA, uX4_firstDayUnder hp]
      · have ih' := ih (k + 1) (by omega) (fun q hq2 => by
          by_cases e : q = k
          · rw [e]; simpa [cPf] using g
          · exact hq q (by omega)) (some (qr (A k 0)))
        simp (disch := first | assumption | exact PLr_0 hp | exact PLr_k1 hp | exact PLr_k4 hp | exact PLr_k7 hp | exact bI_lo | exact bI_hi | exact bI_01 | (show (List.map q_wd _).sum ≤ 8; with_unfolding_all exact Nat.le_of_ble_eq_true rfl) | omega) only [kX11_isParentFrom_0, kX11_isParentFrom_1, kX11_isParentFrom_3, kX11_isParentFrom_4, kX11_isParentFrom_7, kX11_isParentFrom_10, kX11_isParentFrom_11, kX11_isParentFrom_14, kX11_isParentFrom_15, kX11_isParentFrom_16, kX11_isParentFrom_18, kX11_isParentFrom_20r, kX11_isParentFrom_20n, kX11_isParentFrom_23, kX11_isParentFrom_25, kX11_isParentFrom_26, kX11_isParentFrom_27E, kX11_isParentFrom_30, kX11_isParentFrom_33, kX11_isParentFrom_34, kX11_isParentFrom_35, kX11_isParentFrom_38, kX11_isParentFrom_41, kX11_isParentFrom_42, q_cut_i, q_cut_r, q_cut_l, q_cut_n, q_psh_n, q_psh_s, bI_eq0, ite_not, ↓if_pos, ↓if_neg, ↓ite_bI_t, ↓ite_bI_f, fn, fpa, q_toN, hA, uX4_firstDayUnder hp]
        exact ih'
  rw [eX11_isParentFrom]
  simp (disch := first | assumption | exact bI_lo | exact bI_hi | exact bI_01 | (show (List.map q_wd _).sum ≤ 8; with_unfolding_all exact Nat.le_of_ble_eq_true rfl) | omega) only [kX11_isParentFrom_0, kX11_isParentFrom_1, q_cut_i, q_cut_r, q_cut_l, q_cut_n, q_psh_n, q_psh_s, bI_eq0, ite_not]
  exact loop n 0 (by omega) (fun q hq => by omega) none
