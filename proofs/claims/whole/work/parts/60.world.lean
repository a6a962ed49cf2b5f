/-! the world: places as they stand in memory -/
def PLr (M : QM) (a : Nat → Nat) (cN cT : Nat) (p : Pl) : Prop := PF M (a 0) p ∧ q_fv M (a 0) 6 = qr (a 1) ∧ q_fv M (a 0) 7 = qr (a 4) ∧ q_fv M (a 0) 8 = qr (a 7) ∧ NM M (a 1) (a 2) (a 3) cN (plN p) ∧ TL M (a 4) (a 5) (a 6) cT (plT p) ∧ HI M (a 7) (a 8) (a 9) (a 10) (plH p) ∧ plOk p
section PLS
variable {M : QM} {a : Nat → Nat} {cN cT d : Nat} {p : Pl} {P : QP}
theorem PLr_0 (h : PLr M a cN cT p) : q_kd M (a 0) = (1, 4) := h.1.1
theorem PLr_f0 (h : PLr M a cN cT p) : q_fv M (a 0) 0 = qi (plK p) := h.1.2.1
theorem PLr_f1 (h : PLr M a cN cT p) : q_fv M (a 0) 1 = qi (plF p) := h.1.2.2.1
theorem PLr_f2 (h : PLr M a cN cT p) : q_fv M (a 0) 2 = qi (plE p) := h.1.2.2.2.1
theorem PLr_f3 (h : PLr M a cN cT p) : q_fv M (a 0) 3 = qi (plI p) := h.1.2.2.2.2.1
theorem PLr_f4 (h : PLr M a cN cT p) : q_fv M (a 0) 4 = qi (plL p) := h.1.2.2.2.2.2.1
theorem PLr_f5 (h : PLr M a cN cT p) : q_fv M (a 0) 5 = qi (plG p) := h.1.2.2.2.2.2.2
theorem PLr_f6 (h : PLr M a cN cT p) : q_fv M (a 0) 6 = qr (a 1) := h.2.1
theorem PLr_f7 (h : PLr M a cN cT p) : q_fv M (a 0) 7 = qr (a 4) := h.2.2.1
theorem PLr_f8 (h : PLr M a cN cT p) : q_fv M (a 0) 8 = qr (a 7) := h.2.2.2.1
theorem PLr_k1 (h : PLr M a cN cT p) : q_kd M (a 1) = (1, 2) := h.2.2.2.2.1.1
theorem PLr_k4 (h : PLr M a cN cT p) : q_kd M (a 4) = (1, 9) := h.2.2.2.2.2.1.1
theorem PLr_k7 (h : PLr M a cN cT p) : q_kd M (a 7) = (1, 1) := h.2.2.2.2.2.2.1.1
theorem PLr_ok (h : PLr M a cN cT p) : plOk p := h.2.2.2.2.2.2.2
theorem uX4_hasEnded (h : PLr M a cN cT p) : q_T (d + 1) iX4_hasEnded [qr (a 0)] M P = P (some (qi (bI (plE p ≠ -5)))) M := by
  have := T_eq (d := d + 1) (fun P hP => sX4_hasEnded h.1 (PLr_ok h) hP) P
  rw [this]
  by_cases g : plE p = -5
  · rw [if_pos g, bI_neg (fun z => z g)]
  · rw [if_neg g, bI_pos g]
theorem uX4_end (h : PLr M a cN cT p) : q_T (d + 2) iX4_end [qr (a 0)] M P = P (some (qi (plEnd p))) M := T_eq (fun P hP => sX4_end h.1 (PLr_ok h) hP) P
theorem uX4_existsOn (h : PLr M a cN cT p) {x : Int} (h1 : -2147483648 ≤ x) (h2 : x < 2147483648) : q_T (d + 3) iX4_existsOn [qr (a 0), qi x] M P = P (some (qi (bI (plEx p x = true)))) M := T_eq (fun P hP => sX4_existsOn h.1 (PLr_ok h) h1 h2 hP) P
theorem uX4_standsFrom (h : PLr M a cN cT p) {x : Int} (h1 : -2147483648 ≤ x) (h2 : x < 2147483648) : q_T (d + 3) iX4_standsFrom [qr (a 0), qi x] M P = P (some (qi (bI (plSt p x = true)))) M := T_eq (fun P hP => sX4_standsFrom h.1 (PLr_ok h) h1 h2 hP) P
theorem uX4_firstDayUnder (h : PLr M a cN cT p) {par x : Int} (h0 : -2147483648 ≤ par) (h00 : par < 2147483648) (h1 : -2147483648 ≤ x) (h2 : x < 2147483648) : q_T (d + 3) iX4_firstDayUnder [qr (a 0), qi par, qi x] M P = P (some (qi (tlFst par x (plEnd p) (plT p)))) M := T_eq (fun P hP => sX4_firstDayUnder h.1 (PLr_ok h) h.2.2.1 h.2.2.2.2.2.1 ⟨h0, h00⟩ ⟨h1, h2⟩ hP) P
theorem uX4_differsOn (h : PLr M a cN cT p) {x y : Int} (h1 : -2147483648 ≤ x) (h2 : x < 2147483648) (h3 : -2147483648 ≤ y) (h4 : y < 2147483648) : q_T (d + 4) iX4_differsOn [qr (a 0), qi x, qi y] M P = P (some (qi (bI (plDf p x y = true)))) M := T_eq (fun P hP => sX4_differsOn h.1 (PLr_ok h) h.2.2.1 h.2.2.2.2.2.1 h.2.1 h.2.2.2.2.1 ⟨h1, h2⟩ ⟨h3, h4⟩ hP) P
theorem uX9_at (h : PLr M a cN cT p) {x : Int} (h1 : -2147483648 ≤ x) (h2 : x < 2147483648) : q_T (d + 1) iX9_at [qr (a 4), qi x] M P = P (some (qi (tlAt (plT p) x))) M := T_eq (fun P hP => sX9_at h.2.2.2.2.2.1 h1 h2 hP) P
theorem uX2_at (h : PLr M a cN cT p) {x : Int} (h1 : -2147483648 ≤ x) (h2 : x < 2147483648) : q_T (d + 1) iX2_at [qr (a 1), qi x] M P = P (some (ql (nmAt (plN p) x))) M := T_eq (fun P hP => sX2_at h.2.2.2.2.1 h1 h2 hP) P
theorem uX2_size (h : PLr M a cN cT p) : q_T (d + 1) iX2_size [qr (a 1)] M P = P (some (qi (plN p).length)) M := T_eq (fun P hP => sX2_size h.2.2.2.2.1 hP) P
theorem uX1_told (h : PLr M a cN cT p) : q_T (d + 1) iX1_told [qr (a 7)] M P = P (some (qi (plH p).length)) M := T_eq (fun P hP => sX1_told h.2.2.2.2.2.2.1 hP) P
theorem uX1_kept (h : PLr M a cN cT p) : q_T (d + 1) iX1_kept [qr (a 7)] M P = P (some (qi (min (plH p).length 24 : Nat))) M := T_eq (fun P hP => sX1_kept h.2.2.2.2.2.2.1 hP) P
theorem uX1_dayOf (h : PLr M a cN cT p) {i : Int} (h1 : -2147483648 ≤ i) (h2 : i < 2147483648) : q_T (d + 2) iX1_dayOf [qr (a 7), qi i] M P = P (some (qi (hiAt (plH p) i (fun e => e.1)))) M := T_eq (fun P hP => sX1_dayOf h.2.2.2.2.2.2.1 h1 h2 hP) P
theorem uX1_sortOf (h : PLr M a cN cT p) {i : Int} (h1 : -2147483648 ≤ i) (h2 : i < 2147483648) : q_T (d + 2) iX1_sortOf [qr (a 7), qi i] M P = P (some (qi (hiAt (plH p) i (fun e => e.2.1)))) M := T_eq (fun P hP => sX1_sortOf h.2.2.2.2.2.2.1 h1 h2 hP) P
theorem uX1_numberOf (h : PLr M a cN cT p) {i : Int} (h1 : -2147483648 ≤ i) (h2 : i < 2147483648) : q_T (d + 2) iX1_numberOf [qr (a 7), qi i] M P = P (some (qi (hiAt (plH p) i (fun e => e.2.2)))) M := T_eq (fun P hP => sX1_numberOf h.2.2.2.2.2.2.1 h1 h2 hP) P
theorem nm40 (h : PLr M a cN cT p) (x : Int) : 0 ≤ nmAt (plN p) x ∧ nmAt (plN p) x < 2 ^ 40 := nmAt_R (PLr_ok h).2.2.2.2.2.2.2 x
theorem tl32 (h : PLr M a cN cT p) (x : Int) : -2147483648 ≤ tlAt (plT p) x ∧ tlAt (plT p) x < 2147483648 := tlAt_R h.2.2.2.2.2.1 x
end PLS
theorem uX10_lengthOf {d : Nat} {M : QM} {P : QP} {w : Int} (h0 : 0 ≤ w) (h1 : w < 2 ^ 40) : q_T (d + 2) iX10_lengthOf [ql w] M P = P (some (qi (wdLen w.toNat 8))) M := by
  obtain ⟨k, rfl⟩ : ∃ k : Nat, w = k := ⟨w.toNat, by omega⟩
  exact T_eq (fun P hP => sX10_lengthOf (by omega) hP) P
theorem uX10_letterOf {d : Nat} {M : QM} {P : QP} {w i : Int} (h0 : 0 ≤ w) (h1 : w < 2 ^ 40) (h2 : -2147483648 ≤ i) (h3 : i < 2147483648) : q_T (d + 1) iX10_letterOf [ql w, qi i] M P = P (some (qi (if i < 0 then 0 else wdAt w.toNat i.toNat : Nat))) M := by
  obtain ⟨k, rfl⟩ : ∃ k : Nat, w = k := ⟨w.toNat, by omega⟩
  exact T_eq (fun P hP => sX10_letterOf (by omega) h2 h3 hP) P
/-- the world as it is read: its object w, the row of places pa, n places -/
def WRd (M : QM) (w pa : Nat) (A : Nat → Nat → Nat) (cN cT : Nat → Nat) (W : Nat → Pl) (n : Nat) : Prop :=
  q_kd M w = (1, 11) ∧ q_fv M w 3 = qr pa ∧ q_fv M w 4 = qi n ∧ n ≤ 20 ∧ q_kd M pa = (6, 20) ∧ ∀ i, i < 20 → q_fv M pa i = qr (A i 0) ∧ PLr M (A i) (cN i) (cT i) (W i)
theorem uX11_size {d : Nat} {M : QM} {x : QP} {w pa n : Nat} {A : Nat → Nat → Nat} {cN cT : Nat → Nat} {W : Nat → Pl} (hW : WRd M w pa A cN cT W n) : q_T (d + 1) iX11_size [qr w] M x = x (some (qi n)) M := by
  obtain ⟨kw, fpa, fn, hn20, kpa, hpl⟩ := id hW
  have kpa1 : (q_kd M pa).1 = 5 ∨ (q_kd M pa).1 = 6 := Or.inr (by rw [kpa])
  have kpa2 : ((q_kd M pa).2 : Int) = 20 := by rw [kpa]; rfl
  have kpa3 : 2 ≤ (q_kd M pa).1 := by rw [kpa]; decide
  have kpa4 : (q_kd M pa).1 ≤ 9 := by rw [kpa]; decide
  rw [eX11_size]
  simp (disch := first | assumption | exact bI_lo | exact bI_hi | exact bI_01 | (show (List.map q_wd _).sum ≤ 8; with_unfolding_all exact Nat.le_of_ble_eq_true rfl) | omega) only [kX11_size_0, kX11_size_1, kX11_size_4, q_cut_i, q_cut_r, q_cut_l, q_cut_n, q_psh_n, q_psh_s, bI_eq0, ite_not, fn]
theorem uX11_isFull {d : Nat} {M : QM} {x : QP} {w pa n : Nat} {A : Nat → Nat → Nat} {cN cT : Nat → Nat} {W : Nat → Pl} (hW : WRd M w pa A cN cT W n) : q_T (d + 1) iX11_isFull [qr w] M x = x (some (qi (bI (n = 20)))) M := by
  obtain ⟨kw, fpa, fn, hn20, kpa, hpl⟩ := id hW
  have kpa1 : (q_kd M pa).1 = 5 ∨ (q_kd M pa).1 = 6 := Or.inr (by rw [kpa])
  have kpa2 : ((q_kd M pa).2 : Int) = 20 := by rw [kpa]; rfl
  have kpa3 : 2 ≤ (q_kd M pa).1 := by rw [kpa]; decide
  have kpa4 : (q_kd M pa).1 ≤ 9 := by rw [kpa]; decide
  rw [eX11_isFull]
  by_cases g : n = 20
  · rw [bI_pos g]
    simp (disch := first | assumption | exact bI_lo | exact bI_hi | exact bI_01 | (show (List.map q_wd _).sum ≤ 8; with_unfolding_all exact Nat.le_of_ble_eq_true rfl) | omega) only [kX11_isFull_0, kX11_isFull_1, kX11_isFull_4, kX11_isFull_5, kX11_isFull_8, kX11_isFull_9, kX11_isFull_12, kX11_isFull_13, kX11_isFull_16, kX11_isFull_17, q_cut_i, q_cut_r, q_cut_l, q_cut_n, q_psh_n, q_psh_s, bI_eq0, ite_not, ↓if_pos, ↓if_neg, ↓ite_bI_t, ↓ite_bI_f, fn, fpa, kpa2]
  · rw [bI_neg g]
    simp (disch := first | assumption | exact bI_lo | exact bI_hi | exact bI_01 | (show (List.map q_wd _).sum ≤ 8; with_unfolding_all exact Nat.le_of_ble_eq_true rfl) | omega) only [kX11_isFull_0, kX11_isFull_1, kX11_isFull_4, kX11_isFull_5, kX11_isFull_8, kX11_isFull_9, kX11_isFull_12, kX11_isFull_13, kX11_isFull_16, kX11_isFull_17, q_cut_i, q_cut_r, q_cut_l, q_cut_n, q_psh_n, q_psh_s, bI_eq0, ite_not, ↓if_pos, ↓if_neg, ↓ite_bI_t, ↓ite_bI_f, fn, fpa, kpa2]
theorem uX11_placeY {d : Nat} {M : QM} {x : QP} {w pa n : Nat} {A : Nat → Nat → Nat} {cN cT : Nat → Nat} {W : Nat → Pl} (hW : WRd M w pa A cN cT W n) {p : Int} (h0 : 0 ≤ p) (h1 : p < n) : q_T (d + 1) iX11_place [qr w, qi p] M x = x (some (qr (A p.toNat 0))) M := by
  obtain ⟨kw, fpa, fn, hn20, kpa, hpl⟩ := id hW
  have kpa1 : (q_kd M pa).1 = 5 ∨ (q_kd M pa).1 = 6 := Or.inr (by rw [kpa])
  have kpa2 : ((q_kd M pa).2 : Int) = 20 := by rw [kpa]; rfl
  have kpa3 : 2 ≤ (q_kd M pa).1 := by rw [kpa]; decide
  have kpa4 : (q_kd M pa).1 ≤ 9 := by rw [kpa]; decide
  have hp := (hpl p.toNat (by omega)).1
  rw [eX11_place]
  simp (disch := first | assumption | exact bI_lo | exact bI_hi | exact bI_01 | (show (List.map q_wd _).sum ≤ 8; with_unfolding_all exact Nat.le_of_ble_eq_true rfl) | omega) only [kX11_place_0, kX11_place_1, kX11_place_4, kX11_place_5, kX11_place_6, kX11_place_9, kX11_place_12, kX11_place_13, kX11_place_14, kX11_place_17, kX11_place_18, kX11_place_21, kX11_place_22, kX11_place_25, kX11_place_26, kX11_place_27, kX11_place_30, kX11_place_31, q_cut_i, q_cut_r, q_cut_l, q_cut_n, q_psh_n, q_psh_s, bI_eq0, ite_not, ↓if_pos, ↓if_neg, ↓ite_bI_t, ↓ite_bI_f, fn, fpa, kpa2, hp]
theorem uX11_placeN {d : Nat} {M : QM} {x : QP} {w pa n : Nat} {A : Nat → Nat → Nat} {cN cT : Nat → Nat} {W : Nat → Pl} (hW : WRd M w pa A cN cT W n) {p : Int} (h : ¬ (0 ≤ p ∧ p < n)) (h0 : -2147483648 ≤ p) (h1 : p < 2147483648) : q_T (d + 1) iX11_place [qr w, qi p] M x = x (some qn) M := by
  obtain ⟨kw, fpa, fn, hn20, kpa, hpl⟩ := id hW
  have kpa1 : (q_kd M pa).1 = 5 ∨ (q_kd M pa).1 = 6 := Or.inr (by rw [kpa])
  have kpa2 : ((q_kd M pa).2 : Int) = 20 := by rw [kpa]; rfl
  have kpa3 : 2 ≤ (q_kd M pa).1 := by rw [kpa]; decide
  have kpa4 : (q_kd M pa).1 ≤ 9 := by rw [kpa]; decide
  rw [eX11_place]
  by_cases g : p < 0
  · simp (disch := first | assumption | exact bI_lo | exact bI_hi | exact bI_01 | (show (List.map q_wd _).sum ≤ 8; with_unfolding_all exact Nat.le_of_ble_eq_true rfl) | omega) only [kX11_place_0, kX11_place_1, kX11_place_4, kX11_place_5, kX11_place_6, kX11_place_9, kX11_place_12, kX11_place_13, kX11_place_14, kX11_place_17, kX11_place_18, kX11_place_21, kX11_place_22, kX11_place_25, kX11_place_26, kX11_place_27, kX11_place_30, kX11_place_31, q_cut_i, q_cut_r, q_cut_l, q_cut_n, q_psh_n, q_psh_s, bI_eq0, ite_not, ↓if_pos, ↓if_neg, ↓ite_bI_t, ↓ite_bI_f, fn, fpa, kpa2]
  · simp (disch := first | assumption | exact bI_lo | exact bI_hi | exact bI_01 | (show (List.map q_wd _).sum ≤ 8; with_unfolding_all exact Nat.le_of_ble_eq_true rfl) | omega) only [kX11_place_0, kX11_place_1, kX11_place_4, kX11_place_5, kX11_place_6, kX11_place_9, kX11_place_12, kX11_place_13, kX11_place_14, kX11_place_17, kX11_place_18, kX11_place_21, kX11_place_22, kX11_place_25, kX11_place_26, kX11_place_27, kX11_place_30, kX11_place_31, q_cut_i, q_cut_r, q_cut_l, q_cut_n, q_psh_n, q_psh_s, bI_eq0, ite_not, ↓if_pos, ↓if_neg, ↓ite_bI_t, ↓ite_bI_f, fn, fpa, kpa2]
def cHe (W : Nat → Pl) (n : Nat) (y : Int) : Nat → Int → Int
  | 0, _ => -5
  | k + 1, q => if ¬ (0 ≤ q ∧ q < n) then -5 else if y < plEnd (W q.toNat) then q else cHe W n y k (plI (W q.toNat))
theorem plI_b {p : Pl} (h : plOk p) : -100000 ≤ plI p ∧ plI p ≤ 100000 := h.2.2.2.1
theorem plE_b {p : Pl} (h : plOk p) : -100000 ≤ plE p ∧ plE p ≤ 100000 := h.2.2.1
theorem plK_b {p : Pl} (h : plOk p) : -100000 ≤ plK p ∧ plK p ≤ 100000 := h.1
theorem plF_b {p : Pl} (h : plOk p) : -100000 ≤ plF p ∧ plF p ≤ 100000 := h.2.1
theorem plL_b {p : Pl} (h : plOk p) : -100000 ≤ plL p ∧ plL p ≤ 100000 := h.2.2.2.2.1
theorem plG_b {p : Pl} (h : plOk p) : -100000 ≤ plG p ∧ plG p ≤ 100000 := h.2.2.2.2.2.1
theorem uX11_heirOf {d : Nat} {M : QM} {x : QP} {w pa n : Nat} {A : Nat → Nat → Nat} {cN cT : Nat → Nat} {W : Nat → Pl} (hW : WRd M w pa A cN cT W n) {p y : Int} (h1 : -2147483648 ≤ p) (h2 : p < 2147483648) (h3 : -2147483648 ≤ y) (h4 : y < 2147483648) : q_T (d + 3) iX11_heirOf [qr w, qi p, qi y] M x = x (some (qi (cHe W n y 21 p))) M := by
  obtain ⟨kw, fpa, fn, hn20, kpa, hpl⟩ := id hW
  have kpa1 : (q_kd M pa).1 = 5 ∨ (q_kd M pa).1 = 6 := Or.inr (by rw [kpa])
  have kpa2 : ((q_kd M pa).2 : Int) = 20 := by rw [kpa]; rfl
  have kpa3 : 2 ≤ (q_kd M pa).1 := by rw [kpa]; decide
  have kpa4 : (q_kd M pa).1 ≤ 9 := by rw [kpa]; decide
  have loop : ∀ (k : Nat) (q : Int) (l5 : Option CV), k ≤ 21 → -2147483648 ≤ q → q < 2147483648 → Rr (q_C (d + 2)) mX11_heirOf (5, [some (qr w), some (qi p), some (qi y), some (qi q), some (qi (21 - (k : Int))), l5], [], M) x = x (some (qi (cHe W n y k q))) M := by
    intro k
    induction k with
    | zero =>
      intro q l5 hk q1 q2
      rw [kX11_heirOf_5]
      simp (disch := first | assumption | exact bI_lo | exact bI_hi | exact bI_01 | (show (List.map q_wd _).sum ≤ 8; with_unfolding_all exact Nat.le_of_ble_eq_true rfl) | omega) only [kX11_heirOf_0, kX11_heirOf_1, kX11_heirOf_2, kX11_heirOf_3, kX11_heirOf_7, kX11_heirOf_9, kX11_heirOf_12, kX11_heirOf_13, kX11_heirOf_14E, kX11_heirOf_17, kX11_heirOf_19, kX11_heirOf_21r, kX11_heirOf_21n, kX11_heirOf_24, kX11_heirOf_26, kX11_heirOf_27, kX11_heirOf_28, kX11_heirOf_30E, kX11_heirOf_33, kX11_heirOf_36, kX11_heirOf_37, kX11_heirOf_38, kX11_heirOf_40, kX11_heirOf_43, kX11_heirOf_44, kX11_heirOf_47, kX11_heirOf_50, kX11_heirOf_52, q_cut_i, q_cut_r, q_cut_l, q_cut_n, q_psh_n, q_psh_s, bI_eq0, ite_not, ↓if_pos, ↓if_neg, ↓ite_bI_t, ↓ite_bI_f, cHe]
    | succ k ih =>
      intro q l5 hk q1 q2
      rw [cHe, kX11_heirOf_5]
      by_cases g1 : 0 ≤ q ∧ q < n
      · rw [if_neg (fun z => z g1)]
        have hp := (hpl q.toNat (by omega)).2
        have he := plEnd_b (PLr_ok hp)
        have hi := plI_b (PLr_ok hp)
        have hpy := fun z : QP => uX11_placeY (d := d + 1) (x := z) hW g1.1 g1.2
        by_cases g2 : y < plEnd (W q.toNat)
        · rw [if_pos g2]
          simp (disch := first | assumption | exact PLr_0 hp | exact PLr_k1 hp | exact PLr_k4 hp | exact PLr_k7 hp | exact bI_lo | exact bI_hi | exact bI_01 | (show (List.map q_wd _).sum ≤ 8; with_unfolding_all exact Nat.le_of_ble_eq_true rfl) | omega) only [kX11_heirOf_0, kX11_heirOf_1, kX11_heirOf_2, kX11_heirOf_3, kX11_heirOf_7, kX11_heirOf_9, kX11_heirOf_12, kX11_heirOf_13, kX11_heirOf_14E, kX11_heirOf_17, kX11_heirOf_19, kX11_heirOf_21r, kX11_heirOf_21n, kX11_heirOf_24, kX11_heirOf_26, kX11_heirOf_27, kX11_heirOf_28, kX11_heirOf_30E, kX11_heirOf_33, kX11_heirOf_36, kX11_heirOf_37, kX11_heirOf_38, kX11_heirOf_40, kX11_heirOf_43, kX11_heirOf_44, kX11_heirOf_47, kX11_heirOf_50, kX11_heirOf_52, q_cut_i, q_cut_r, q_cut_l, q_cut_n, q_psh_n, q_psh_s, bI_eq0, ite_not, ↓if_pos, ↓if_neg, ↓ite_bI_t, ↓ite_bI_f, hpy, uX4_end hp]
        · rw [if_neg g2]
          have ih' := ih (plI (W q.toNat)) (some (qr (A q.toNat 0))) (by omega) (by omega) (by omega)
          have e : 21 - (k : Int) = 21 - ((k + 1 : Nat) : Int) + 1 := by omega
          rw [e] at ih'
          simp (disch := first | assumption | exact PLr_0 hp | exact PLr_k1 hp | exact PLr_k4 hp | exact PLr_k7 hp | exact bI_lo | exact bI_hi | exact bI_01 | (show (List.map q_wd _).sum ≤ 8; with_unfolding_all exact Nat.le_of_ble_eq_true rfl) | omega) only [kX11_heirOf_0, kX11_heirOf_1, kX11_heirOf_2, kX11_heirOf_3, kX11_heirOf_7, kX11_heirOf_9, kX11_heirOf_12, kX11_heirOf_13, kX11_heirOf_14E, kX11_heirOf_17, kX11_heirOf_19, kX11_heirOf_21r, kX11_heirOf_21n, kX11_heirOf_24, kX11_heirOf_26, kX11_heirOf_27, kX11_heirOf_28, kX11_heirOf_30E, kX11_heirOf_33, kX11_heirOf_36, kX11_heirOf_37, kX11_heirOf_38, kX11_heirOf_40, kX11_heirOf_43, kX11_heirOf_44, kX11_heirOf_47, kX11_heirOf_50, kX11_heirOf_52, q_cut_i, q_cut_r, q_cut_l, q_cut_n, q_psh_n, q_psh_s, bI_eq0, ite_not, ↓if_pos, ↓if_neg, ↓ite_bI_t, ↓ite_bI_f, hpy, uX4_end hp, PLr_f3 hp]
          exact ih'
      · rw [if_pos g1]
        simp (disch := first | assumption | exact bI_lo | exact bI_hi | exact bI_01 | (show (List.map q_wd _).sum ≤ 8; with_unfolding_all exact Nat.le_of_ble_eq_true rfl) | omega) only [kX11_heirOf_0, kX11_heirOf_1, kX11_heirOf_2, kX11_heirOf_3, kX11_heirOf_7, kX11_heirOf_9, kX11_heirOf_12, kX11_heirOf_13, kX11_heirOf_14E, kX11_heirOf_17, kX11_heirOf_19, kX11_heirOf_21r, kX11_heirOf_21n, kX11_heirOf_24, kX11_heirOf_26, kX11_heirOf_27, kX11_heirOf_28, kX11_heirOf_30E, kX11_heirOf_33, kX11_heirOf_36, kX11_heirOf_37, kX11_heirOf_38, kX11_heirOf_40, kX11_heirOf_43, kX11_heirOf_44, kX11_heirOf_47, kX11_heirOf_50, kX11_heirOf_52, q_cut_i, q_cut_r, q_cut_l, q_cut_n, q_psh_n, q_psh_s, bI_eq0, ite_not, ↓if_pos, ↓if_neg, ↓ite_bI_t, ↓ite_bI_f, uX11_placeN hW g1]
  rw [eX11_heirOf]
  simp (disch := first | assumption | exact bI_lo | exact bI_hi | exact bI_01 | (show (List.map q_wd _).sum ≤ 8; with_unfolding_all exact Nat.le_of_ble_eq_true rfl) | omega) only [kX11_heirOf_0, kX11_heirOf_1, kX11_heirOf_2, kX11_heirOf_3, q_cut_i, q_cut_r, q_cut_l, q_cut_n, q_psh_n, q_psh_s, bI_eq0, ite_not]
  exact loop 21 p none (by omega) h1 h2
def cPa (W : Nat → Pl) (n : Nat) (y : Int) : Nat → Int → Int
  | 0, _ => 0
  | k + 1, q => if 0 ≤ q ∧ q < n then 1 + cPa W n y k (tlAt (plT (W q.toNat)) y) else 0
theorem uX11_parentsAbove {d : Nat} {M : QM} {x : QP} {w pa n : Nat} {A : Nat → Nat → Nat} {cN cT : Nat → Nat} {W : Nat → Pl} (hW : WRd M w pa A cN cT W n) {i : Nat} {y : Int} (hi : i < 20) (h3 : -2147483648 ≤ y) (h4 : y < 2147483648) : q_T (d + 2) iX11_parentsAbove [qr w, qr (A i 0), qi y] M x = x (some (qi (cPa W n y 4 (tlAt (plT (W i)) y)))) M := by
  obtain ⟨kw, fpa, fn, hn20, kpa, hpl⟩ := id hW
  have kpa1 : (q_kd M pa).1 = 5 ∨ (q_kd M pa).1 = 6 := Or.inr (by rw [kpa])
  have kpa2 : ((q_kd M pa).2 : Int) = 20 := by rw [kpa]; rfl
  have kpa3 : 2 ≤ (q_kd M pa).1 := by rw [kpa]; decide
  have kpa4 : (q_kd M pa).1 ≤ 9 := by rw [kpa]; decide
  have loop : ∀ (k : Nat) (q c : Int), k ≤ 4 → c = 4 - (k : Int) → -2147483648 ≤ q → q < 2147483648 → ∀ l4, l4 = some (if 0 ≤ q ∧ q < n then qr (A q.toNat 0) else qn) → Rr (q_C (d + 1)) mX11_parentsAbove (16, [some (qr w), some (qr (A i 0)), some (qi y), some (qi c), l4], [], M) x = x (some (qi (c + cPa W n y k q))) M := by
    intro k
    induction k with
    | zero =>
      intro q c hk hc q1 q2 l4 hl
      subst hl
      rw [cPa, Int.add_zero]
      by_cases g1 : 0 ≤ q ∧ q < n
      · rw [if_pos g1]
        simp (disch := first | assumption | exact bI_lo | exact bI_hi | exact bI_01 | (show (List.map q_wd _).sum ≤ 8; with_unfolding_all exact Nat.le_of_ble_eq_true rfl) | omega) only [kX11_parentsAbove_16, kX11_parentsAbove_18r, kX11_parentsAbove_18n, kX11_parentsAbove_21, kX11_parentsAbove_22, kX11_parentsAbove_23, kX11_parentsAbove_26, kX11_parentsAbove_29, kX11_parentsAbove_30, kX11_parentsAbove_32, kX11_parentsAbove_35, kX11_parentsAbove_36E, kX11_parentsAbove_39E, kX11_parentsAbove_42, kX11_parentsAbove_44, kX11_parentsAbove_47, kX11_parentsAbove_48, q_cut_i, q_cut_r, q_cut_l, q_cut_n, q_psh_n, q_psh_s, bI_eq0, ite_not, ↓if_pos, ↓if_neg, ↓ite_bI_t, ↓ite_bI_f]
      · rw [if_neg g1]
        simp (disch := first | assumption | exact bI_lo | exact bI_hi | exact bI_01 | (show (List.map q_wd _).sum ≤ 8; with_unfolding_all exact Nat.le_of_ble_eq_true rfl) | omega) only [kX11_parentsAbove_16, kX11_parentsAbove_18r, kX11_parentsAbove_18n, kX11_parentsAbove_21, kX11_parentsAbove_22, kX11_parentsAbove_23, kX11_parentsAbove_26, kX11_parentsAbove_29, kX11_parentsAbove_30, kX11_parentsAbove_32, kX11_parentsAbove_35, kX11_parentsAbove_36E, kX11_parentsAbove_39E, kX11_parentsAbove_42, kX11_parentsAbove_44, kX11_parentsAbove_47, kX11_parentsAbove_48, q_cut_i, q_cut_r, q_cut_l, q_cut_n, q_psh_n, q_psh_s, bI_eq0, ite_not, ↓if_pos, ↓if_neg, ↓ite_bI_t, ↓ite_bI_f]
    | succ k ih =>
      intro q c hk hc q1 q2 l4 hl
      subst hl
      rw [cPa]
      by_cases g1 : 0 ≤ q ∧ q < n
      · rw [if_pos g1, if_pos g1, kX11_parentsAbove_16]
        have hp := (hpl q.toNat (by omega)).2
        have ht := tl32 hp y
        have ih' := ih (tlAt (plT (W q.toNat)) y) (c + 1) (by omega) (by omega) ht.1 ht.2 _ rfl
        rw [Int.add_assoc] at ih'
        by_cases g2 : 0 ≤ tlAt (plT (W q.toNat)) y ∧ tlAt (plT (W q.toNat)) y < n
        · rw [if_pos g2] at ih'
          have hpy := fun z : QP => uX11_placeY (d := d) (x := z) hW g2.1 g2.2
          simp (disch := first | assumption | exact PLr_0 hp | exact PLr_k1 hp | exact PLr_k4 hp | exact PLr_k7 hp | exact bI_lo | exact bI_hi | exact bI_01 | (show (List.map q_wd _).sum ≤ 8; with_unfolding_all exact Nat.le_of_ble_eq_true rfl) | omega) only [kX11_parentsAbove_18r, kX11_parentsAbove_18n, kX11_parentsAbove_21, kX11_parentsAbove_22, kX11_parentsAbove_23, kX11_parentsAbove_26, kX11_parentsAbove_29, kX11_parentsAbove_30, kX11_parentsAbove_32, kX11_parentsAbove_35, kX11_parentsAbove_36E, kX11_parentsAbove_39E, kX11_parentsAbove_42, kX11_parentsAbove_44, q_cut_i, q_cut_r, q_cut_l, q_cut_n, q_psh_n, q_psh_s, bI_eq0, ite_not, ↓if_pos, ↓if_neg, ↓ite_bI_t, ↓ite_bI_f, PLr_f7 hp, uX9_at hp, hpy]
          exact ih'
        · rw [if_neg g2] at ih'
          simp (disch := first | assumption | exact PLr_0 hp | exact PLr_k1 hp | exact PLr_k4 hp | exact PLr_k7 hp | exact bI_lo | exact bI_hi | exact bI_01 | (show (List.map q_wd _).sum ≤ 8; with_unfolding_all exact Nat.le_of_ble_eq_true rfl) | omega) only [kX11_parentsAbove_18r, kX11_parentsAbove_18n, kX11_parentsAbove_21, kX11_parentsAbove_22, kX11_parentsAbove_23, kX11_parentsAbove_26, kX11_parentsAbove_29, kX11_parentsAbove_30, kX11_parentsAbove_32, kX11_parentsAbove_35, kX11_parentsAbove_36E, kX11_parentsAbove_39E, kX11_parentsAbove_42, kX11_parentsAbove_44, q_cut_i, q_cut_r, q_cut_l, q_cut_n, q_psh_n, q_psh_s, bI_eq0, ite_not, ↓if_pos, ↓if_neg, ↓ite_bI_t, ↓ite_bI_f, PLr_f7 hp, uX9_at hp, uX11_placeN hW g2]
          exact ih'
      · rw [if_neg g1, if_neg g1, Int.add_zero]
        simp (disch := first | assumption | exact bI_lo | exact bI_hi | exact bI_01 | (show (List.map q_wd _).sum ≤ 8; with_unfolding_all exact Nat.le_of_ble_eq_true rfl) | omega) only [kX11_parentsAbove_16, kX11_parentsAbove_18r, kX11_parentsAbove_18n, kX11_parentsAbove_21, kX11_parentsAbove_22, kX11_parentsAbove_23, kX11_parentsAbove_26, kX11_parentsAbove_29, kX11_parentsAbove_30, kX11_parentsAbove_32, kX11_parentsAbove_35, kX11_parentsAbove_36E, kX11_parentsAbove_39E, kX11_parentsAbove_42, kX11_parentsAbove_44, kX11_parentsAbove_47, kX11_parentsAbove_48, q_cut_i, q_cut_r, q_cut_l, q_cut_n, q_psh_n, q_psh_s, bI_eq0, ite_not, ↓if_pos, ↓if_neg, ↓ite_bI_t, ↓ite_bI_f]
  have hp := (hpl i hi).2
  have ht := tl32 hp y
  have l0 := loop 4 (tlAt (plT (W i)) y) 0 (by omega) (by omega) ht.1 ht.2 _ rfl
  rw [Int.zero_add] at l0
  rw [eX11_parentsAbove]
  by_cases g2 : 0 ≤ tlAt (plT (W i)) y ∧ tlAt (plT (W i)) y < n
  · rw [if_pos g2] at l0
    have hpy := fun z : QP => uX11_placeY (d := d) (x := z) hW g2.1 g2.2
    simp (disch := first | assumption | exact PLr_0 hp | exact PLr_k1 hp | exact PLr_k4 hp | exact PLr_k7 hp | exact bI_lo | exact bI_hi | exact bI_01 | (show (List.map q_wd _).sum ≤ 8; with_unfolding_all exact Nat.le_of_ble_eq_true rfl) | omega) only [kX11_parentsAbove_0, kX11_parentsAbove_1, kX11_parentsAbove_2, kX11_parentsAbove_3, kX11_parentsAbove_4, kX11_parentsAbove_7, kX11_parentsAbove_8E, kX11_parentsAbove_11E, kX11_parentsAbove_14, q_cut_i, q_cut_r, q_cut_l, q_cut_n, q_psh_n, q_psh_s, bI_eq0, ite_not, ↓if_pos, ↓if_neg, ↓ite_bI_t, ↓ite_bI_f, PLr_f7 hp, uX9_at hp, hpy]
    exact l0
  · rw [if_neg g2] at l0
    simp (disch := first | assumption | exact PLr_0 hp | exact PLr_k1 hp | exact PLr_k4 hp | exact PLr_k7 hp | exact bI_lo | exact bI_hi | exact bI_01 | (show (List.map q_wd _).sum ≤ 8; with_unfolding_all exact Nat.le_of_ble_eq_true rfl) | omega) only [kX11_parentsAbove_0, kX11_parentsAbove_1, kX11_parentsAbove_2, kX11_parentsAbove_3, kX11_parentsAbove_4, kX11_parentsAbove_7, kX11_parentsAbove_8E, kX11_parentsAbove_11E, kX11_parentsAbove_14, q_cut_i, q_cut_r, q_cut_l, q_cut_n, q_psh_n, q_psh_s, bI_eq0, ite_not, ↓if_pos, ↓if_neg, ↓ite_bI_t, ↓ite_bI_f, PLr_f7 hp, uX9_at hp, uX11_placeN hW g2]
    exact l0
def cUn (W : Nat → Pl) (n : Nat) (y v : Int) : Nat → Int → Bool
  | 0, q => decide (q = v)
  | k + 1, q => if q = v then true else cUn W n y v k (if 0 ≤ q ∧ q < n then tlAt (plT (W q.toNat)) y else -5)
theorem uX11_isUnder {d : Nat} {M : QM} {x : QP} {w pa n : Nat} {A : Nat → Nat → Nat} {cN cT : Nat → Nat} {W : Nat → Pl} (hW : WRd M w pa A cN cT W n) {i : Nat} {v y : Int} (hi : i < 20) (h1 : -2147483648 ≤ v) (h2 : v < 2147483648) (h3 : -2147483648 ≤ y) (h4 : y < 2147483648) : q_T (d + 2) iX11_isUnder [qr w, qr (A i 0), qi v, qi y] M x = x (some (qi (bI (cUn W n y v 4 (tlAt (plT (W i)) y) = true)))) M := by
  obtain ⟨kw, fpa, fn, hn20, kpa, hpl⟩ := id hW
  have kpa1 : (q_kd M pa).1 = 5 ∨ (q_kd M pa).1 = 6 := Or.inr (by rw [kpa])
  have kpa2 : ((q_kd M pa).2 : Int) = 20 := by rw [kpa]; rfl
  have kpa3 : 2 ≤ (q_kd M pa).1 := by rw [kpa]; decide
  have kpa4 : (q_kd M pa).1 ≤ 9 := by rw [kpa]; decide
  have fin : ∀ (q : Int) (l5 l6 : Option CV), -2147483648 ≤ q → q < 2147483648 → Rr (q_C (d + 1)) mX11_isUnder (60, [some (qr w), some (qr (A i 0)), some (qi v), some (qi y), some (qi q), l5, l6], [], M) x = x (some (qi (bI (q = v)))) M := by
    intro q l5 l6 q1 q2
    by_cases g : q = v
    · rw [bI_pos g]
      simp (disch := first | assumption | exact bI_lo | exact bI_hi | exact bI_01 | (show (List.map q_wd _).sum ≤ 8; with_unfolding_all exact Nat.le_of_ble_eq_true rfl) | omega) only [kX11_isUnder_60, kX11_isUnder_62, kX11_isUnder_63, kX11_isUnder_66, kX11_isUnder_67, kX11_isUnder_70, kX11_isUnder_71, q_cut_i, q_cut_r, q_cut_l, q_cut_n, q_psh_n, q_psh_s, bI_eq0, ite_not, ↓if_pos, ↓if_neg, ↓ite_bI_t, ↓ite_bI_f]
    · rw [bI_neg g]
      simp (disch := first | assumption | exact bI_lo | exact bI_hi | exact bI_01 | (show (List.map q_wd _).sum ≤ 8; with_unfolding_all exact Nat.le_of_ble_eq_true rfl) | omega) only [kX11_isUnder_60, kX11_isUnder_62, kX11_isUnder_63, kX11_isUnder_66, kX11_isUnder_67, kX11_isUnder_70, kX11_isUnder_71, q_cut_i, q_cut_r, q_cut_l, q_cut_n, q_psh_n, q_psh_s, bI_eq0, ite_not, ↓if_pos, ↓if_neg, ↓ite_bI_t, ↓ite_bI_f]
  have loop : ∀ (k : Nat) (q : Int) (l6 : Option CV), k ≤ 4 → -2147483648 ≤ q → q < 2147483648 → Rr (q_C (d + 1)) mX11_isUnder (13, [some (qr w), some (qr (A i 0)), some (qi v), some (qi y), some (qi q), some (qi (4 - (k : Int))), l6], [], M) x = x (some (qi (bI (cUn W n y v k q = true)))) M := by
    intro k
    induction k with
    | zero =>
      intro q l6 hk q1 q2
      rw [kX11_isUnder_13]
      simp (disch := first | assumption | exact bI_lo | exact bI_hi | exact bI_01 | (show (List.map q_wd _).sum ≤ 8; with_unfolding_all exact Nat.le_of_ble_eq_true rfl) | omega) only [kX11_isUnder_15, kX11_isUnder_16, kX11_isUnder_19, kX11_isUnder_21, kX11_isUnder_22, q_cut_i, q_cut_r, q_cut_l, q_cut_n, q_psh_n, q_psh_s, bI_eq0, ite_not, ↓if_pos, ↓if_neg, ↓ite_bI_t, ↓ite_bI_f]
      rw [fin q _ _ q1 q2, cUn]
      rw [bI_c (show q = v ↔ decide (q = v) = true by simp)]
    | succ k ih =>
      intro q l6 hk q1 q2
      rw [cUn, kX11_isUnder_13]
      by_cases g : q = v
      · rw [if_pos g]
        simp (disch := first | assumption | exact bI_lo | exact bI_hi | exact bI_01 | (show (List.map q_wd _).sum ≤ 8; with_unfolding_all exact Nat.le_of_ble_eq_true rfl) | omega) only [kX11_isUnder_15, kX11_isUnder_16, kX11_isUnder_19, kX11_isUnder_21, kX11_isUnder_22, q_cut_i, q_cut_r, q_cut_l, q_cut_n, q_psh_n, q_psh_s, bI_eq0, ite_not, ↓if_pos, ↓if_neg, ↓ite_bI_t, ↓ite_bI_f]
        rw [fin q _ _ q1 q2, bI_pos g, bI_pos trivial]
      · rw [if_neg g]
        have e : 4 - (k : Int) = 4 - ((k + 1 : Nat) : Int) + 1 := by omega
        by_cases g1 : 0 ≤ q ∧ q < n
        · rw [if_pos g1]
          have hp := (hpl q.toNat (by omega)).2
          have ht := tl32 hp y
          have hpy := fun z : QP => uX11_placeY (d := d) (x := z) hW g1.1 g1.2
          have ih' := ih (tlAt (plT (W q.toNat)) y) (some (qr (A q.toNat 0))) (by omega) ht.1 ht.2
          rw [e] at ih'
          simp (disch := first | assumption | exact PLr_0 hp | exact PLr_k1 hp | exact PLr_k4 hp | exact PLr_k7 hp | exact bI_lo | exact bI_hi | exact bI_01 | (show (List.map q_wd _).sum ≤ 8; with_unfolding_all exact Nat.le_of_ble_eq_true rfl) | omega) only [kX11_isUnder_15, kX11_isUnder_16, kX11_isUnder_19, kX11_isUnder_21, kX11_isUnder_22, kX11_isUnder_25, kX11_isUnder_26, kX11_isUnder_28E, kX11_isUnder_31, kX11_isUnder_33, kX11_isUnder_35r, kX11_isUnder_35n, kX11_isUnder_38, kX11_isUnder_40, kX11_isUnder_43, kX11_isUnder_45, kX11_isUnder_48, kX11_isUnder_49E, kX11_isUnder_52, kX11_isUnder_54, kX11_isUnder_57, q_cut_i, q_cut_r, q_cut_l, q_cut_n, q_psh_n, q_psh_s, bI_eq0, ite_not, ↓if_pos, ↓if_neg, ↓ite_bI_t, ↓ite_bI_f, hpy, PLr_f7 hp, uX9_at hp]
          exact ih'
        · rw [if_neg g1]
          have ih' := ih (-5) (some qn) (by omega) (by omega) (by omega)
          rw [e] at ih'
          simp (disch := first | assumption | exact bI_lo | exact bI_hi | exact bI_01 | (show (List.map q_wd _).sum ≤ 8; with_unfolding_all exact Nat.le_of_ble_eq_true rfl) | omega) only [kX11_isUnder_15, kX11_isUnder_16, kX11_isUnder_19, kX11_isUnder_21, kX11_isUnder_22, kX11_isUnder_25, kX11_isUnder_26, kX11_isUnder_28E, kX11_isUnder_31, kX11_isUnder_33, kX11_isUnder_35r, kX11_isUnder_35n, kX11_isUnder_38, kX11_isUnder_40, kX11_isUnder_43, kX11_isUnder_45, kX11_isUnder_48, kX11_isUnder_49E, kX11_isUnder_52, kX11_isUnder_54, kX11_isUnder_57, q_cut_i, q_cut_r, q_cut_l, q_cut_n, q_psh_n, q_psh_s, bI_eq0, ite_not, ↓if_pos, ↓if_neg, ↓ite_bI_t, ↓ite_bI_f, uX11_placeN hW g1]
          exact ih'
  have hp := (hpl i hi).2
  have ht := tl32 hp y
  rw [eX11_isUnder]
  simp (disch := first | assumption | exact PLr_0 hp | exact PLr_k1 hp | exact PLr_k4 hp | exact PLr_k7 hp | exact bI_lo | exact bI_hi | exact bI_01 | (show (List.map q_wd _).sum ≤ 8; with_unfolding_all exact Nat.le_of_ble_eq_true rfl) | omega) only [kX11_isUnder_0, kX11_isUnder_1, kX11_isUnder_4, kX11_isUnder_5E, kX11_isUnder_8, kX11_isUnder_10, kX11_isUnder_11, q_cut_i, q_cut_r, q_cut_l, q_cut_n, q_psh_n, q_psh_s, bI_eq0, ite_not, ↓if_pos, ↓if_neg, ↓ite_bI_t, ↓ite_bI_f, PLr_f7 hp, uX9_at hp]
  exact loop 4 _ none (by omega) ht.1 ht.2
def cFi (W : Nat → Pl) (n : Nat) (y : Int) (i : Nat) (s v : Int) : Bool := if s = 0 then decide (plK (W i) = v) else if s = 1 then decide (tlAt (plT (W i)) y = v) else if s = 2 then decide (v ≤ wdLen (nmAt (plN (W i)) y).toNat 8) else if s = 3 then decide (v ≤ plF (W i)) else cUn W n y v 4 (tlAt (plT (W i)) y)
theorem uX11_isFitting {d : Nat} {M : QM} {x : QP} {w pa n : Nat} {A : Nat → Nat → Nat} {cN cT : Nat → Nat} {W : Nat → Pl} (hW : WRd M w pa A cN cT W n) {i : Nat} {s v y : Int} (hi : i < 20) (h5 : -2147483648 ≤ s) (h6 : s < 2147483648) (h1 : -2147483648 ≤ v) (h2 : v < 2147483648) (h3 : -2147483648 ≤ y) (h4 : y < 2147483648) : q_T (d + 3) iX11_isFitting [qr w, qr (A i 0), qi s, qi v, qi y] M x = x (some (qi (bI (cFi W n y i s v = true)))) M := by
  obtain ⟨kw, fpa, fn, hn20, kpa, hpl⟩ := id hW
  have kpa1 : (q_kd M pa).1 = 5 ∨ (q_kd M pa).1 = 6 := Or.inr (by rw [kpa])
  have kpa2 : ((q_kd M pa).2 : Int) = 20 := by rw [kpa]; rfl
  have kpa3 : 2 ≤ (q_kd M pa).1 := by rw [kpa]; decide
  have kpa4 : (q_kd M pa).1 ≤ 9 := by rw [kpa]; decide
  have hp := (hpl i hi).2
  have ht := tl32 hp y
  have hnm := nm40 hp y
  have hk := plK_b (PLr_ok hp)
  have hf := plF_b (PLr_ok hp)
  have hl := wdLen_le (nmAt (plN (W i)) y).toNat 8
  rw [eX11_isFitting]
  unfold cFi
  by_cases s0 : s = 0
  · rw [if_pos s0]
    by_cases g : plK (W i) = v
    · rw [bI_pos (by simpa using g)]
      simp (disch := first | assumption | exact PLr_0 hp | exact PLr_k1 hp | exact PLr_k4 hp | exact PLr_k7 hp | exact bI_lo | exact bI_hi | exact bI_01 | (show (List.map q_wd _).sum ≤ 8; with_unfolding_all exact Nat.le_of_ble_eq_true rfl) | omega) only [kX11_isFitting_0, kX11_isFitting_1, kX11_isFitting_32, kX11_isFitting_33, kX11_isFitting_36, kX11_isFitting_37, kX11_isFitting_40, kX11_isFitting_41, kX11_isFitting_44, kX11_isFitting_45, kX11_isFitting_46, kX11_isFitting_47, kX11_isFitting_50, kX11_isFitting_52E, kX11_isFitting_55, kX11_isFitting_56, kX11_isFitting_59, kX11_isFitting_60, kX11_isFitting_63, kX11_isFitting_64, kX11_isFitting_65, kX11_isFitting_66, kX11_isFitting_69, kX11_isFitting_71E, kX11_isFitting_74E, kX11_isFitting_77, kX11_isFitting_78, kX11_isFitting_81, kX11_isFitting_82, kX11_isFitting_85, kX11_isFitting_86, kX11_isFitting_87, kX11_isFitting_88, kX11_isFitting_91, kX11_isFitting_92, kX11_isFitting_95, kX11_isFitting_96, kX11_isFitting_99, kX11_isFitting_100, kX11_isFitting_101, kX11_isFitting_102, kX11_isFitting_103, kX11_isFitting_104, kX11_isFitting_106E, kX11_isFitting_109, q_cut_i, q_cut_r, q_cut_l, q_cut_n, q_psh_n, q_psh_s, bI_eq0, ite_not, ↓if_pos, ↓if_neg, ↓ite_bI_t, ↓ite_bI_f, PLr_f0 hp]
    · rw [bI_neg (by simpa using g)]
      simp (disch := first | assumption | exact PLr_0 hp | exact PLr_k1 hp | exact PLr_k4 hp | exact PLr_k7 hp | exact bI_lo | exact bI_hi | exact bI_01 | (show (List.map q_wd _).sum ≤ 8; with_unfolding_all exact Nat.le_of_ble_eq_true rfl) | omega) only [kX11_isFitting_0, kX11_isFitting_1, kX11_isFitting_32, kX11_isFitting_33, kX11_isFitting_36, kX11_isFitting_37, kX11_isFitting_40, kX11_isFitting_41, kX11_isFitting_44, kX11_isFitting_45, kX11_isFitting_46, kX11_isFitting_47, kX11_isFitting_50, kX11_isFitting_52E, kX11_isFitting_55, kX11_isFitting_56, kX11_isFitting_59, kX11_isFitting_60, kX11_isFitting_63, kX11_isFitting_64, kX11_isFitting_65, kX11_isFitting_66, kX11_isFitting_69, kX11_isFitting_71E, kX11_isFitting_74E, kX11_isFitting_77, kX11_isFitting_78, kX11_isFitting_81, kX11_isFitting_82, kX11_isFitting_85, kX11_isFitting_86, kX11_isFitting_87, kX11_isFitting_88, kX11_isFitting_91, kX11_isFitting_92, kX11_isFitting_95, kX11_isFitting_96, kX11_isFitting_99, kX11_isFitting_100, kX11_isFitting_101, kX11_isFitting_102, kX11_isFitting_103, kX11_isFitting_104, kX11_isFitting_106E, kX11_isFitting_109, q_cut_i, q_cut_r, q_cut_l, q_cut_n, q_psh_n, q_psh_s, bI_eq0, ite_not, ↓if_pos, ↓if_neg, ↓ite_bI_t, ↓ite_bI_f, PLr_f0 hp]
  · rw [if_neg s0]
    by_cases s1 : s = 1
    · rw [if_pos s1]
      by_cases g : tlAt (plT (W i)) y = v
      · rw [bI_pos (by simpa using g)]
        simp (disch := first | assumption | exact PLr_0 hp | exact PLr_k1 hp | exact PLr_k4 hp | exact PLr_k7 hp | exact bI_lo | exact bI_hi | exact bI_01 | (show (List.map q_wd _).sum ≤ 8; with_unfolding_all exact Nat.le_of_ble_eq_true rfl) | omega) only [kX11_isFitting_0, kX11_isFitting_1, kX11_isFitting_32, kX11_isFitting_33, kX11_isFitting_36, kX11_isFitting_37, kX11_isFitting_40, kX11_isFitting_41, kX11_isFitting_44, kX11_isFitting_45, kX11_isFitting_46, kX11_isFitting_47, kX11_isFitting_50, kX11_isFitting_52E, kX11_isFitting_55, kX11_isFitting_56, kX11_isFitting_59, kX11_isFitting_60, kX11_isFitting_63, kX11_isFitting_64, kX11_isFitting_65, kX11_isFitting_66, kX11_isFitting_69, kX11_isFitting_71E, kX11_isFitting_74E, kX11_isFitting_77, kX11_isFitting_78, kX11_isFitting_81, kX11_isFitting_82, kX11_isFitting_85, kX11_isFitting_86, kX11_isFitting_87, kX11_isFitting_88, kX11_isFitting_91, kX11_isFitting_92, kX11_isFitting_95, kX11_isFitting_96, kX11_isFitting_99, kX11_isFitting_100, kX11_isFitting_101, kX11_isFitting_102, kX11_isFitting_103, kX11_isFitting_104, kX11_isFitting_106E, kX11_isFitting_109, q_cut_i, q_cut_r, q_cut_l, q_cut_n, q_psh_n, q_psh_s, bI_eq0, ite_not, ↓if_pos, ↓if_neg, ↓ite_bI_t, ↓ite_bI_f, PLr_f7 hp, uX9_at hp]
      · rw [bI_neg (by simpa using g)]
        simp (disch := first | assumption | exact PLr_0 hp | exact PLr_k1 hp | exact PLr_k4 hp | exact PLr_k7 hp | exact bI_lo | exact bI_hi | exact bI_01 | (show (List.map q_wd _).sum ≤ 8; with_unfolding_all exact Nat.le_of_ble_eq_true rfl) | omega) only [kX11_isFitting_0, kX11_isFitting_1, kX11_isFitting_32, kX11_isFitting_33, kX11_isFitting_36, kX11_isFitting_37, kX11_isFitting_40, kX11_isFitting_41, kX11_isFitting_44, kX11_isFitting_45, kX11_isFitting_46, kX11_isFitting_47, kX11_isFitting_50, kX11_isFitting_52E, kX11_isFitting_55, kX11_isFitting_56, kX11_isFitting_59, kX11_isFitting_60, kX11_isFitting_63, kX11_isFitting_64, kX11_isFitting_65, kX11_isFitting_66, kX11_isFitting_69, kX11_isFitting_71E, kX11_isFitting_74E, kX11_isFitting_77, kX11_isFitting_78, kX11_isFitting_81, kX11_isFitting_82, kX11_isFitting_85, kX11_isFitting_86, kX11_isFitting_87, kX11_isFitting_88, kX11_isFitting_91, kX11_isFitting_92, kX11_isFitting_95, kX11_isFitting_96, kX11_isFitting_99, kX11_isFitting_100, kX11_isFitting_101, kX11_isFitting_102, kX11_isFitting_103, kX11_isFitting_104, kX11_isFitting_106E, kX11_isFitting_109, q_cut_i, q_cut_r, q_cut_l, q_cut_n, q_psh_n, q_psh_s, bI_eq0, ite_not, ↓if_pos, ↓if_neg, ↓ite_bI_t, ↓ite_bI_f, PLr_f7 hp, uX9_at hp]
    · rw [if_neg s1]
      by_cases s2 : s = 2
      · rw [if_pos s2]
        by_cases g : v ≤ wdLen (nmAt (plN (W i)) y).toNat 8
        · rw [bI_pos (by simpa using g)]
          simp (disch := first | assumption | exact PLr_0 hp | exact PLr_k1 hp | exact PLr_k4 hp | exact PLr_k7 hp | exact bI_lo | exact bI_hi | exact bI_01 | (show (List.map q_wd _).sum ≤ 8; with_unfolding_all exact Nat.le_of_ble_eq_true rfl) | omega) only [kX11_isFitting_0, kX11_isFitting_1, kX11_isFitting_32, kX11_isFitting_33, kX11_isFitting_36, kX11_isFitting_37, kX11_isFitting_40, kX11_isFitting_41, kX11_isFitting_44, kX11_isFitting_45, kX11_isFitting_46, kX11_isFitting_47, kX11_isFitting_50, kX11_isFitting_52E, kX11_isFitting_55, kX11_isFitting_56, kX11_isFitting_59, kX11_isFitting_60, kX11_isFitting_63, kX11_isFitting_64, kX11_isFitting_65, kX11_isFitting_66, kX11_isFitting_69, kX11_isFitting_71E, kX11_isFitting_74E, kX11_isFitting_77, kX11_isFitting_78, kX11_isFitting_81, kX11_isFitting_82, kX11_isFitting_85, kX11_isFitting_86, kX11_isFitting_87, kX11_isFitting_88, kX11_isFitting_91, kX11_isFitting_92, kX11_isFitting_95, kX11_isFitting_96, kX11_isFitting_99, kX11_isFitting_100, kX11_isFitting_101, kX11_isFitting_102, kX11_isFitting_103, kX11_isFitting_104, kX11_isFitting_106E, kX11_isFitting_109, q_cut_i, q_cut_r, q_cut_l, q_cut_n, q_psh_n, q_psh_s, bI_eq0, ite_not, ↓if_pos, ↓if_neg, ↓ite_bI_t, ↓ite_bI_f, PLr_f6 hp, uX2_at hp, uX10_lengthOf hnm.1 hnm.2]
        · rw [bI_neg (by simpa using g)]
          simp (disch := first | assumption | exact PLr_0 hp | exact PLr_k1 hp | exact PLr_k4 hp | exact PLr_k7 hp | exact bI_lo | exact bI_hi | exact bI_01 | (show (List.map q_wd _).sum ≤ 8; with_unfolding_all exact Nat.le_of_ble_eq_true rfl) | omega) only [kX11_isFitting_0, kX11_isFitting_1, kX11_isFitting_32, kX11_isFitting_33, kX11_isFitting_36, kX11_isFitting_37, kX11_isFitting_40, kX11_isFitting_41, kX11_isFitting_44, kX11_isFitting_45, kX11_isFitting_46, kX11_isFitting_47, kX11_isFitting_50, kX11_isFitting_52E, kX11_isFitting_55, kX11_isFitting_56, kX11_isFitting_59, kX11_isFitting_60, kX11_isFitting_63, kX11_isFitting_64, kX11_isFitting_65, kX11_isFitting_66, kX11_isFitting_69, kX11_isFitting_71E, kX11_isFitting_74E, kX11_isFitting_77, kX11_isFitting_78, kX11_isFitting_81, kX11_isFitting_82, kX11_isFitting_85, kX11_isFitting_86, kX11_isFitting_87, kX11_isFitting_88, kX11_isFitting_91, kX11_isFitting_92, kX11_isFitting_95, kX11_isFitting_96, kX11_isFitting_99, kX11_isFitting_100, kX11_isFitting_101, kX11_isFitting_102, kX11_isFitting_103, kX11_isFitting_104, kX11_isFitting_106E, kX11_isFitting_109, q_cut_i, q_cut_r, q_cut_l, q_cut_n, q_psh_n, q_psh_s, bI_eq0, ite_not, ↓if_pos, ↓if_neg, ↓ite_bI_t, ↓ite_bI_f, PLr_f6 hp, uX2_at hp, uX10_lengthOf hnm.1 hnm.2]
      · rw [if_neg s2]
        by_cases s3 : s = 3
        · rw [if_pos s3]
          by_cases g : v ≤ plF (W i)
          · rw [bI_pos (by simpa using g)]
            simp (disch := first | assumption | exact PLr_0 hp | exact PLr_k1 hp | exact PLr_k4 hp | exact PLr_k7 hp | exact bI_lo | exact bI_hi | exact bI_01 | (show (List.map q_wd _).sum ≤ 8; with_unfolding_all exact Nat.le_of_ble_eq_true rfl) | omega) only [kX11_isFitting_0, kX11_isFitting_1, kX11_isFitting_32, kX11_isFitting_33, kX11_isFitting_36, kX11_isFitting_37, kX11_isFitting_40, kX11_isFitting_41, kX11_isFitting_44, kX11_isFitting_45, kX11_isFitting_46, kX11_isFitting_47, kX11_isFitting_50, kX11_isFitting_52E, kX11_isFitting_55, kX11_isFitting_56, kX11_isFitting_59, kX11_isFitting_60, kX11_isFitting_63, kX11_isFitting_64, kX11_isFitting_65, kX11_isFitting_66, kX11_isFitting_69, kX11_isFitting_71E, kX11_isFitting_74E, kX11_isFitting_77, kX11_isFitting_78, kX11_isFitting_81, kX11_isFitting_82, kX11_isFitting_85, kX11_isFitting_86, kX11_isFitting_87, kX11_isFitting_88, kX11_isFitting_91, kX11_isFitting_92, kX11_isFitting_95, kX11_isFitting_96, kX11_isFitting_99, kX11_isFitting_100, kX11_isFitting_101, kX11_isFitting_102, kX11_isFitting_103, kX11_isFitting_104, kX11_isFitting_106E, kX11_isFitting_109, q_cut_i, q_cut_r, q_cut_l, q_cut_n, q_psh_n, q_psh_s, bI_eq0, ite_not, ↓if_pos, ↓if_neg, ↓ite_bI_t, ↓ite_bI_f, PLr_f1 hp]
          · rw [bI_neg (by simpa using g)]
            simp (disch := first | assumption | exact PLr_0 hp | exact PLr_k1 hp | exact PLr_k4 hp | exact PLr_k7 hp | exact bI_lo | exact bI_hi | exact bI_01 | (show (List.map q_wd _).sum ≤ 8; with_unfolding_all exact Nat.le_of_ble_eq_true rfl) | omega) only [kX11_isFitting_0, kX11_isFitting_1, kX11_isFitting_32, kX11_isFitting_33, kX11_isFitting_36, kX11_isFitting_37, kX11_isFitting_40, kX11_isFitting_41, kX11_isFitting_44, kX11_isFitting_45, kX11_isFitting_46, kX11_isFitting_47, kX11_isFitting_50, kX11_isFitting_52E, kX11_isFitting_55, kX11_isFitting_56, kX11_isFitting_59, kX11_isFitting_60, kX11_isFitting_63, kX11_isFitting_64, kX11_isFitting_65, kX11_isFitting_66, kX11_isFitting_69, kX11_isFitting_71E, kX11_isFitting_74E, kX11_isFitting_77, kX11_isFitting_78, kX11_isFitting_81, kX11_isFitting_82, kX11_isFitting_85, kX11_isFitting_86, kX11_isFitting_87, kX11_isFitting_88, kX11_isFitting_91, kX11_isFitting_92, kX11_isFitting_95, kX11_isFitting_96, kX11_isFitting_99, kX11_isFitting_100, kX11_isFitting_101, kX11_isFitting_102, kX11_isFitting_103, kX11_isFitting_104, kX11_isFitting_106E, kX11_isFitting_109, q_cut_i, q_cut_r, q_cut_l, q_cut_n, q_psh_n, q_psh_s, bI_eq0, ite_not, ↓if_pos, ↓if_neg, ↓ite_bI_t, ↓ite_bI_f, PLr_f1 hp]
        · rw [if_neg s3]
          simp (disch := first | assumption | exact PLr_0 hp | exact PLr_k1 hp | exact PLr_k4 hp | exact PLr_k7 hp | exact bI_lo | exact bI_hi | exact bI_01 | (show (List.map q_wd _).sum ≤ 8; with_unfolding_all exact Nat.le_of_ble_eq_true rfl) | omega) only [kX11_isFitting_0, kX11_isFitting_1, kX11_isFitting_32, kX11_isFitting_33, kX11_isFitting_36, kX11_isFitting_37, kX11_isFitting_40, kX11_isFitting_41, kX11_isFitting_44, kX11_isFitting_45, kX11_isFitting_46, kX11_isFitting_47, kX11_isFitting_50, kX11_isFitting_52E, kX11_isFitting_55, kX11_isFitting_56, kX11_isFitting_59, kX11_isFitting_60, kX11_isFitting_63, kX11_isFitting_64, kX11_isFitting_65, kX11_isFitting_66, kX11_isFitting_69, kX11_isFitting_71E, kX11_isFitting_74E, kX11_isFitting_77, kX11_isFitting_78, kX11_isFitting_81, kX11_isFitting_82, kX11_isFitting_85, kX11_isFitting_86, kX11_isFitting_87, kX11_isFitting_88, kX11_isFitting_91, kX11_isFitting_92, kX11_isFitting_95, kX11_isFitting_96, kX11_isFitting_99, kX11_isFitting_100, kX11_isFitting_101, kX11_isFitting_102, kX11_isFitting_103, kX11_isFitting_104, kX11_isFitting_106E, kX11_isFitting_109, q_cut_i, q_cut_r, q_cut_l, q_cut_n, q_psh_n, q_psh_s, bI_eq0, ite_not, ↓if_pos, ↓if_neg, ↓ite_bI_t, ↓ite_bI_f, uX11_isUnder hW hi]
