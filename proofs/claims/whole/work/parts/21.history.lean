/-! History -/
def HI (M : QM) (t s p r : Nat) (l : List (Int × Int × Int)) : Prop :=
  q_kd M t = (1, 1) ∧ q_fv M t 0 = qr s ∧ q_fv M t 1 = qr p ∧ q_fv M t 2 = qr r ∧ q_fv M t 3 = qi l.length ∧ q_kd M s = (2, 24) ∧ q_kd M p = (2, 24) ∧ q_kd M r = (2, 24) ∧
  s ≠ p ∧ s ≠ r ∧ p ≠ r ∧ l.length ≤ 100000 ∧
  (∀ i (h : i < l.length), i < 24 → q_fv M s i = qi l[i].1 ∧ q_fv M p i = qi l[i].2.1 ∧ q_fv M r i = qi l[i].2.2) ∧
  (∀ i (h : i < l.length), -100000 ≤ l[i].1 ∧ l[i].1 ≤ 100000 ∧ -100000 ≤ l[i].2.1 ∧ l[i].2.1 ≤ 100000 ∧ -100000 ≤ l[i].2.2 ∧ l[i].2.2 ≤ 100000) ∧
  (∀ i, i < 24 → (∃ z, q_fv M s i = qi z) ∧ (∃ z, q_fv M p i = qi z) ∧ ∃ z, q_fv M r i = qi z)
theorem sX1_told {d : Nat} {M : QM} {t s p r : Nat} {l : List (Int × Int × Int)} (hT : HI M t s p r l) {P : QP} (hP : P (some (qi l.length)) M) : q_T (d + 1) iX1_told [qr t] M P := by
  obtain ⟨kt, f0, f1, f2, f3, ks', kp', kr', nsp, nsr, npr, hl, he, hb, hz⟩ := hT
  have ks : (q_kd M s).1 = 2 := by rw [ks']
  have ks2 : (q_kd M s).2 = 24 := by rw [ks']
  have kp : (q_kd M p).1 = 2 := by rw [kp']
  have kp2 : (q_kd M p).2 = 24 := by rw [kp']
  have kr : (q_kd M r).1 = 2 := by rw [kr']
  have kr2 : (q_kd M r).2 = 24 := by rw [kr']
  have ts := q_neK kt ks' (by simp)
  have tp := q_neK kt kp' (by simp)
  have tr := q_neK kt kr' (by simp)
  rw [eX1_told]
  simp (disch := first | assumption | omega | (simp only [q_kd_wr, q_fv_wrE, q_top_wr, q_nc_wr, q_ns_wr, q_gs_wr, q_kd_al, q_fv_al, q_top_al, q_nc_al, q_ns_al, q_gs_al, q_kd_cp, q_fv_cpE, q_top_cp, q_nc_cp, q_ns_cp, q_gs_cp]; first | done | assumption | omega)) only [kX1_told_0, kX1_told_1, kX1_told_4, f3]
  exact hP
theorem sX1_kept {d : Nat} {M : QM} {t s p r : Nat} {l : List (Int × Int × Int)} (hT : HI M t s p r l) {P : QP} (hP : P (some (qi (min l.length 24 : Nat))) M) : q_T (d + 1) iX1_kept [qr t] M P := by
  obtain ⟨kt, f0, f1, f2, f3, ks', kp', kr', nsp, nsr, npr, hl, he, hb, hz⟩ := hT
  have ks : (q_kd M s).1 = 2 := by rw [ks']
  have ks2 : (q_kd M s).2 = 24 := by rw [ks']
  have kp : (q_kd M p).1 = 2 := by rw [kp']
  have kp2 : (q_kd M p).2 = 24 := by rw [kp']
  have kr : (q_kd M r).1 = 2 := by rw [kr']
  have kr2 : (q_kd M r).2 = 24 := by rw [kr']
  have ts := q_neK kt ks' (by simp)
  have tp := q_neK kt kp' (by simp)
  have tr := q_neK kt kr' (by simp)
  rw [eX1_kept]
  simp (disch := first | assumption | omega | (simp only [q_kd_wr, q_fv_wrE, q_top_wr, q_nc_wr, q_ns_wr, q_gs_wr, q_kd_al, q_fv_al, q_top_al, q_nc_al, q_ns_al, q_gs_al, q_kd_cp, q_fv_cpE, q_top_cp, q_nc_cp, q_ns_cp, q_gs_cp]; first | done | assumption | omega)) only [kX1_kept_0, kX1_kept_1, kX1_kept_4, f3]
  rw [kX1_kept_6 (by omega) (by omega) (by omega) (by omega) (Nat.le_of_ble_eq_true rfl)]
  simp (disch := first | assumption | omega | (simp only [q_kd_wr, q_fv_wrE, q_top_wr, q_nc_wr, q_ns_wr, q_gs_wr, q_kd_al, q_fv_al, q_top_al, q_nc_al, q_ns_al, q_gs_al, q_kd_cp, q_fv_cpE, q_top_cp, q_nc_cp, q_ns_cp, q_gs_cp]; first | done | assumption | omega)) only [kX1_kept_9]
  rw [show min (l.length : Int) 24 = ((min l.length 24 : Nat) : Int) by omega]
  exact hP
def hiAt (l : List (Int × Int × Int)) (i : Int) (f : Int × Int × Int → Int) : Int := if 0 ≤ i ∧ i < 24 then (l[i.toNat]?.map f).getD (-5) else -5
theorem sX1_dayOf {d : Nat} {M : QM} {t s p r : Nat} {l : List (Int × Int × Int)} (hT : HI M t s p r l) {i : Int} (h1 : -2147483648 ≤ i) (h2 : i < 2147483648) {P : QP} (hP : P (some (qi (hiAt l i (fun e => e.1)))) M) : q_T (d + 2) iX1_dayOf [qr t, qi i] M P := by
  have hT' := hT
  obtain ⟨kt, f0, f1, f2, f3, ks', kp', kr', nsp, nsr, npr, hl, he, hb, hz⟩ := hT
  have ks : (q_kd M s).1 = 2 := by rw [ks']
  have ks2 : (q_kd M s).2 = 24 := by rw [ks']
  have kp : (q_kd M p).1 = 2 := by rw [kp']
  have kp2 : (q_kd M p).2 = 24 := by rw [kp']
  have kr : (q_kd M r).1 = 2 := by rw [kr']
  have kr2 : (q_kd M r).2 = 24 := by rw [kr']
  have ts := q_neK kt ks' (by simp)
  have tp := q_neK kt kp' (by simp)
  have tr := q_neK kt kr' (by simp)
  rw [eX1_dayOf]
  by_cases h0 : i < 0
  · rw [hiAt, if_neg (by omega)] at hP
    simp (disch := first | assumption | omega | (simp only [q_kd_wr, q_fv_wrE, q_top_wr, q_nc_wr, q_ns_wr, q_gs_wr, q_kd_al, q_fv_al, q_top_al, q_nc_al, q_ns_al, q_gs_al, q_kd_cp, q_fv_cpE, q_top_cp, q_nc_cp, q_ns_cp, q_gs_cp]; first | done | assumption | omega)) only [kX1_dayOf_0, kX1_dayOf_1, kX1_dayOf_4, kX1_dayOf_5, kX1_dayOf_9, kX1_dayOf_12, kX1_dayOf_13, kX1_dayOf_16, kX1_dayOf_17, kX1_dayOf_18, kX1_dayOf_21, kX1_dayOf_23, q_cut_i, q_cut_r, q_cut_l, q_cut_n, if_pos, if_neg]
    exact hP
  · obtain ⟨k, rfl⟩ : ∃ k : Nat, i = k := ⟨i.toNat, by omega⟩
    simp (disch := first | assumption | omega | (simp only [q_kd_wr, q_fv_wrE, q_top_wr, q_nc_wr, q_ns_wr, q_gs_wr, q_kd_al, q_fv_al, q_top_al, q_nc_al, q_ns_al, q_gs_al, q_kd_cp, q_fv_cpE, q_top_cp, q_nc_cp, q_ns_cp, q_gs_cp]; first | done | assumption | omega)) only [kX1_dayOf_0, kX1_dayOf_1, kX1_dayOf_4, kX1_dayOf_5, q_cut_i, q_cut_r, q_cut_l, q_cut_n, if_pos, if_neg]
    refine kX1_dayOf_6 kt (M1 := M) (v := qi (min l.length 24 : Nat)) (q_Tx (sX1_kept hT' ⟨rfl, rfl⟩)) (Nat.le_of_ble_eq_true rfl) ?_
    by_cases hk : k < min l.length 24
    · obtain ⟨e1, e2, e3⟩ := he k (by omega) (by omega)
      simp (disch := first | assumption | omega | (simp only [q_kd_wr, q_fv_wrE, q_top_wr, q_nc_wr, q_ns_wr, q_gs_wr, q_kd_al, q_fv_al, q_top_al, q_nc_al, q_ns_al, q_gs_al, q_kd_cp, q_fv_cpE, q_top_cp, q_nc_cp, q_ns_cp, q_gs_cp]; first | done | assumption | omega)) only [kX1_dayOf_9, kX1_dayOf_12, kX1_dayOf_13, kX1_dayOf_16, kX1_dayOf_17, kX1_dayOf_18, kX1_dayOf_21, kX1_dayOf_23, q_cut_i, q_cut_r, q_cut_l, q_cut_n, if_pos, if_neg, f0, f1, f2, ks2, kp2, kr2, q_toN, e1, e2, e3]
      rw [hiAt, if_pos (by omega), q_toN, List.getElem?_eq_getElem (by omega)] at hP
      exact hP
    · simp (disch := first | assumption | omega | (simp only [q_kd_wr, q_fv_wrE, q_top_wr, q_nc_wr, q_ns_wr, q_gs_wr, q_kd_al, q_fv_al, q_top_al, q_nc_al, q_ns_al, q_gs_al, q_kd_cp, q_fv_cpE, q_top_cp, q_nc_cp, q_ns_cp, q_gs_cp]; first | done | assumption | omega)) only [kX1_dayOf_9, kX1_dayOf_12, kX1_dayOf_13, kX1_dayOf_16, kX1_dayOf_17, kX1_dayOf_18, kX1_dayOf_21, kX1_dayOf_23, q_cut_i, q_cut_r, q_cut_l, q_cut_n, if_pos, if_neg]
      by_cases h24 : k < 24
      · rw [hiAt, if_pos (by omega), q_toN, List.getElem?_eq_none (by omega)] at hP
        exact hP
      · rw [hiAt, if_neg (by omega)] at hP
        exact hP
theorem sX1_sortOf {d : Nat} {M : QM} {t s p r : Nat} {l : List (Int × Int × Int)} (hT : HI M t s p r l) {i : Int} (h1 : -2147483648 ≤ i) (h2 : i < 2147483648) {P : QP} (hP : P (some (qi (hiAt l i (fun e => e.2.1)))) M) : q_T (d + 2) iX1_sortOf [qr t, qi i] M P := by
  have hT' := hT
  obtain ⟨kt, f0, f1, f2, f3, ks', kp', kr', nsp, nsr, npr, hl, he, hb, hz⟩ := hT
  have ks : (q_kd M s).1 = 2 := by rw [ks']
  have ks2 : (q_kd M s).2 = 24 := by rw [ks']
  have kp : (q_kd M p).1 = 2 := by rw [kp']
  have kp2 : (q_kd M p).2 = 24 := by rw [kp']
  have kr : (q_kd M r).1 = 2 := by rw [kr']
  have kr2 : (q_kd M r).2 = 24 := by rw [kr']
  have ts := q_neK kt ks' (by simp)
  have tp := q_neK kt kp' (by simp)
  have tr := q_neK kt kr' (by simp)
  rw [eX1_sortOf]
  by_cases h0 : i < 0
  · rw [hiAt, if_neg (by omega)] at hP
    simp (disch := first | assumption | omega | (simp only [q_kd_wr, q_fv_wrE, q_top_wr, q_nc_wr, q_ns_wr, q_gs_wr, q_kd_al, q_fv_al, q_top_al, q_nc_al, q_ns_al, q_gs_al, q_kd_cp, q_fv_cpE, q_top_cp, q_nc_cp, q_ns_cp, q_gs_cp]; first | done | assumption | omega)) only [kX1_sortOf_0, kX1_sortOf_1, kX1_sortOf_4, kX1_sortOf_5, kX1_sortOf_9, kX1_sortOf_12, kX1_sortOf_13, kX1_sortOf_16, kX1_sortOf_17, kX1_sortOf_18, kX1_sortOf_21, kX1_sortOf_23, q_cut_i, q_cut_r, q_cut_l, q_cut_n, if_pos, if_neg]
    exact hP
  · obtain ⟨k, rfl⟩ : ∃ k : Nat, i = k := ⟨i.toNat, by omega⟩
    simp (disch := first | assumption | omega | (simp only [q_kd_wr, q_fv_wrE, q_top_wr, q_nc_wr, q_ns_wr, q_gs_wr, q_kd_al, q_fv_al, q_top_al, q_nc_al, q_ns_al, q_gs_al, q_kd_cp, q_fv_cpE, q_top_cp, q_nc_cp, q_ns_cp, q_gs_cp]; first | done | assumption | omega)) only [kX1_sortOf_0, kX1_sortOf_1, kX1_sortOf_4, kX1_sortOf_5, q_cut_i, q_cut_r, q_cut_l, q_cut_n, if_pos, if_neg]
    refine kX1_sortOf_6 kt (M1 := M) (v := qi (min l.length 24 : Nat)) (q_Tx (sX1_kept hT' ⟨rfl, rfl⟩)) (Nat.le_of_ble_eq_true rfl) ?_
    by_cases hk : k < min l.length 24
    · obtain ⟨e1, e2, e3⟩ := he k (by omega) (by omega)
      simp (disch := first | assumption | omega | (simp only [q_kd_wr, q_fv_wrE, q_top_wr, q_nc_wr, q_ns_wr, q_gs_wr, q_kd_al, q_fv_al, q_top_al, q_nc_al, q_ns_al, q_gs_al, q_kd_cp, q_fv_cpE, q_top_cp, q_nc_cp, q_ns_cp, q_gs_cp]; first | done | assumption | omega)) only [kX1_sortOf_9, kX1_sortOf_12, kX1_sortOf_13, kX1_sortOf_16, kX1_sortOf_17, kX1_sortOf_18, kX1_sortOf_21, kX1_sortOf_23, q_cut_i, q_cut_r, q_cut_l, q_cut_n, if_pos, if_neg, f0, f1, f2, ks2, kp2, kr2, q_toN, e1, e2, e3]
      rw [hiAt, if_pos (by omega), q_toN, List.getElem?_eq_getElem (by omega)] at hP
      exact hP
    · simp (disch := first | assumption | omega | (simp only [q_kd_wr, q_fv_wrE, q_top_wr, q_nc_wr, q_ns_wr, q_gs_wr, q_kd_al, q_fv_al, q_top_al, q_nc_al, q_ns_al, q_gs_al, q_kd_cp, q_fv_cpE, q_top_cp, q_nc_cp, q_ns_cp, q_gs_cp]; first | done | assumption | omega)) only [kX1_sortOf_9, kX1_sortOf_12, kX1_sortOf_13, kX1_sortOf_16, kX1_sortOf_17, kX1_sortOf_18, kX1_sortOf_21, kX1_sortOf_23, q_cut_i, q_cut_r, q_cut_l, q_cut_n, if_pos, if_neg]
      by_cases h24 : k < 24
      · rw [hiAt, if_pos (by omega), q_toN, List.getElem?_eq_none (by omega)] at hP
        exact hP
      · rw [hiAt, if_neg (by omega)] at hP
        exact hP
theorem sX1_numberOf {d : Nat} {M : QM} {t s p r : Nat} {l : List (Int × Int × Int)} (hT : HI M t s p r l) {i : Int} (h1 : -2147483648 ≤ i) (h2 : i < 2147483648) {P : QP} (hP : P (some (qi (hiAt l i (fun e => e.2.2)))) M) : q_T (d + 2) iX1_numberOf [qr t, qi i] M P := by
  have hT' := hT
  obtain ⟨kt, f0, f1, f2, f3, ks', kp', kr', nsp, nsr, npr, hl, he, hb, hz⟩ := hT
  have ks : (q_kd M s).1 = 2 := by rw [ks']
  have ks2 : (q_kd M s).2 = 24 := by rw [ks']
  have kp : (q_kd M p).1 = 2 := by rw [kp']
  have kp2 : (q_kd M p).2 = 24 := by rw [kp']
  have kr : (q_kd M r).1 = 2 := by rw [kr']
  have kr2 : (q_kd M r).2 = 24 := by rw [kr']
  have ts := q_neK kt ks' (by simp)
  have tp := q_neK kt kp' (by simp)
  have tr := q_neK kt kr' (by simp)
  rw [eX1_numberOf]
  by_cases h0 : i < 0
  · rw [hiAt, if_neg (by omega)] at hP
    simp (disch := first | assumption | omega | (simp only [q_kd_wr, q_fv_wrE, q_top_wr, q_nc_wr, q_ns_wr, q_gs_wr, q_kd_al, q_fv_al, q_top_al, q_nc_al, q_ns_al, q_gs_al, q_kd_cp, q_fv_cpE, q_top_cp, q_nc_cp, q_ns_cp, q_gs_cp]; first | done | assumption | omega)) only [kX1_numberOf_0, kX1_numberOf_1, kX1_numberOf_4, kX1_numberOf_5, kX1_numberOf_9, kX1_numberOf_12, kX1_numberOf_13, kX1_numberOf_16, kX1_numberOf_17, kX1_numberOf_18, kX1_numberOf_21, kX1_numberOf_23, q_cut_i, q_cut_r, q_cut_l, q_cut_n, if_pos, if_neg]
    exact hP
  · obtain ⟨k, rfl⟩ : ∃ k : Nat, i = k := ⟨i.toNat, by omega⟩
    simp (disch := first | assumption | omega | (simp only [q_kd_wr, q_fv_wrE, q_top_wr, q_nc_wr, q_ns_wr, q_gs_wr, q_kd_al, q_fv_al, q_top_al, q_nc_al, q_ns_al, q_gs_al, q_kd_cp, q_fv_cpE, q_top_cp, q_nc_cp, q_ns_cp, q_gs_cp]; first | done | assumption | omega)) only [kX1_numberOf_0, kX1_numberOf_1, kX1_numberOf_4, kX1_numberOf_5, q_cut_i, q_cut_r, q_cut_l, q_cut_n, if_pos, if_neg]
    refine kX1_numberOf_6 kt (M1 := M) (v := qi (min l.length 24 : Nat)) (q_Tx (sX1_kept hT' ⟨rfl, rfl⟩)) (Nat.le_of_ble_eq_true rfl) ?_
    by_cases hk : k < min l.length 24
    · obtain ⟨e1, e2, e3⟩ := he k (by omega) (by omega)
      simp (disch := first | assumption | omega | (simp only [q_kd_wr, q_fv_wrE, q_top_wr, q_nc_wr, q_ns_wr, q_gs_wr, q_kd_al, q_fv_al, q_top_al, q_nc_al, q_ns_al, q_gs_al, q_kd_cp, q_fv_cpE, q_top_cp, q_nc_cp, q_ns_cp, q_gs_cp]; first | done | assumption | omega)) only [kX1_numberOf_9, kX1_numberOf_12, kX1_numberOf_13, kX1_numberOf_16, kX1_numberOf_17, kX1_numberOf_18, kX1_numberOf_21, kX1_numberOf_23, q_cut_i, q_cut_r, q_cut_l, q_cut_n, if_pos, if_neg, f0, f1, f2, ks2, kp2, kr2, q_toN, e1, e2, e3]
      rw [hiAt, if_pos (by omega), q_toN, List.getElem?_eq_getElem (by omega)] at hP
      exact hP
    · simp (disch := first | assumption | omega | (simp only [q_kd_wr, q_fv_wrE, q_top_wr, q_nc_wr, q_ns_wr, q_gs_wr, q_kd_al, q_fv_al, q_top_al, q_nc_al, q_ns_al, q_gs_al, q_kd_cp, q_fv_cpE, q_top_cp, q_nc_cp, q_ns_cp, q_gs_cp]; first | done | assumption | omega)) only [kX1_numberOf_9, kX1_numberOf_12, kX1_numberOf_13, kX1_numberOf_16, kX1_numberOf_17, kX1_numberOf_18, kX1_numberOf_21, kX1_numberOf_23, q_cut_i, q_cut_r, q_cut_l, q_cut_n, if_pos, if_neg]
      by_cases h24 : k < 24
      · rw [hiAt, if_pos (by omega), q_toN, List.getElem?_eq_none (by omega)] at hP
        exact hP
      · rw [hiAt, if_neg (by omega)] at hP
        exact hP
