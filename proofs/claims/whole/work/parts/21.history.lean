/-! History -/
def HI (M : QM) (t s p r : Nat) (l : List (Int × Int × Int)) : Prop :=
  q_kd M t = (1, 1) ∧ q_fv M t 0 = qr s ∧ q_fv M t 1 = qr p ∧ q_fv M t 2 = qr r ∧ q_fv M t 3 = qi l.length ∧ q_kd M s = (2, 24) ∧ q_kd M p = (2, 24) ∧ q_kd M r = (2, 24) ∧
  s ≠ p ∧ s ≠ r ∧ p ≠ r ∧ l.length ≤ 100000 ∧
  (∀ i (h : i < l.length), i < 24 → q_fv M s i = qi l[i].1 ∧ q_fv M p i = qi l[i].2.1 ∧ q_fv M r i = qi l[i].2.2) ∧
  (∀ i (h : i < l.length), -100000 ≤ l[i].1 ∧ l[i].1 ≤ 100000 ∧ -100000 ≤ l[i].2.1 ∧ l[i].2.1 ≤ 100000 ∧ -100000 ≤ l[i].2.2 ∧ l[i].2.2 ≤ 100000) ∧
  (∀ i, i < 24 → (∃ z, q_fv M s i = qi z) ∧ (∃ z, q_fv M p i = qi z) ∧ ∃ z, q_fv M r i = qi z)
theorem sX1_told {d : Nat} {M : QM} {t s p r : Nat} {l : List (Int × Int × Int)} (hT : HI M t s p r l) {P : QP} (hP : P (some (qi l.length)) M) : q_T (d + 1) iX1_told [qr t] M P := by
  obtain ⟨kt, f0, f1, f2, f3, ks', kp', kr', nsp, nsr, npr, hl, he, hb, hz⟩ := hT
  have ks : (q_kd _ s).1 = 2 := congrArg Prod.fst ks'
  have ks2 : (q_kd _ s).2 = 24 := congrArg Prod.snd ks'
  have kp : (q_kd _ p).1 = 2 := congrArg Prod.fst kp'
  have kp2 : (q_kd _ p).2 = 24 := congrArg Prod.snd kp'
  have kr : (q_kd _ r).1 = 2 := congrArg Prod.fst kr'
  have kr2 : (q_kd _ r).2 = 24 := congrArg Prod.snd kr'
  have ts := q_neK kt ks' (by simp)
  have tp := q_neK kt kp' (by simp)
  have tr := q_neK kt kr' (by simp)
  rw [eX1_told]
  simp (disch := first | assumption | omega | (simp only [q_kd_wr, q_fv_wrE, q_top_wr, q_nc_wr, q_ns_wr, q_gs_wr, q_kd_al, q_fv_al, q_top_al, q_nc_al, q_ns_al, q_gs_al, q_kd_cp, q_fv_cpE, q_top_cp, q_nc_cp, q_ns_cp, q_gs_cp]; first | done | assumption | omega)) only [kX1_told_0, kX1_told_1, kX1_told_4, f3]
  exact hP
theorem sX1_kept {d : Nat} {M : QM} {t s p r : Nat} {l : List (Int × Int × Int)} (hT : HI M t s p r l) {P : QP} (hP : P (some (qi (min l.length 24 : Nat))) M) : q_T (d + 1) iX1_kept [qr t] M P := by
  obtain ⟨kt, f0, f1, f2, f3, ks', kp', kr', nsp, nsr, npr, hl, he, hb, hz⟩ := hT
  have ks : (q_kd _ s).1 = 2 := congrArg Prod.fst ks'
  have ks2 : (q_kd _ s).2 = 24 := congrArg Prod.snd ks'
  have kp : (q_kd _ p).1 = 2 := congrArg Prod.fst kp'
  have kp2 : (q_kd _ p).2 = 24 := congrArg Prod.snd kp'
  have kr : (q_kd _ r).1 = 2 := congrArg Prod.fst kr'
  have kr2 : (q_kd _ r).2 = 24 := congrArg Prod.snd kr'
  have ts := q_neK kt ks' (by simp)
  have tp := q_neK kt kp' (by simp)
  have tr := q_neK kt kr' (by simp)
  rw [eX1_kept]
  simp (disch := first | assumption | omega | (simp only [q_kd_wr, q_fv_wrE, q_top_wr, q_nc_wr, q_ns_wr, q_gs_wr, q_kd_al, q_fv_al, q_top_al, q_nc_al, q_ns_al, q_gs_al, q_kd_cp, q_fv_cpE, q_top_cp, q_nc_cp, q_ns_cp, q_gs_cp]; first | done | assumption | omega)) only [kX1_kept_0, kX1_kept_1, kX1_kept_4, f3]
  rw [kX1_kept_6 (by omega) (by omega) (by omega) (by omega) (Nat.le_of_ble_eq_true rfl)]
  simp (disch := first | assumption | omega | (simp only [q_kd_wr, q_fv_wrE, q_top_wr, q_nc_wr, q_ns_wr, q_gs_wr, q_kd_al, q_fv_al, q_top_al, q_nc_al, q_ns_al, q_gs_al, q_kd_cp, q_fv_cpE, q_top_cp, q_nc_cp, q_ns_cp, q_gs_cp]; first | done | assumption | omega)) only [kX1_kept_9]
  rw [show min (l.length : Int) 24 = ((min l.length 24 : Nat) : Int) by omega]
  exact hP
def hiAt (l : List (Int × Int × Int)) (i : Int) (f : Int × Int × Int → Int) : Int := if 0 ≤ i ∧ i < 24 then (l[i.toNat]?.map f).getD (-5) else -5
theorem sX1_dayOf {d : Nat} {M : QM} {t s p r : Nat} {l : List (Int × Int × Int)} (hT : HI M t s p r l) {i : Int} (h1 : -2147483648 ≤ i) (h2 : i < 2147483648) {P : QP} (hP : P (some (qi (hiAt l i (fun e => e.1)))) M) : q_T (d + 2) iX1_dayOf [qr t, qi i] M P := by
  have hT' := hT
  obtain ⟨kt, f0, f1, f2, f3, ks', kp', kr', nsp, nsr, npr, hl, he, hb, hz⟩ := hT
  have ks : (q_kd _ s).1 = 2 := congrArg Prod.fst ks'
  have ks2 : (q_kd _ s).2 = 24 := congrArg Prod.snd ks'
  have kp : (q_kd _ p).1 = 2 := congrArg Prod.fst kp'
  have kp2 : (q_kd _ p).2 = 24 := congrArg Prod.snd kp'
  have kr : (q_kd _ r).1 = 2 := congrArg Prod.fst kr'
  have kr2 : (q_kd _ r).2 = 24 := congrArg Prod.snd kr'
  have ts := q_neK kt ks' (by simp)
  have tp := q_neK kt kp' (by simp)
  have tr := q_neK kt kr' (by simp)
  rw [eX1_dayOf]
  by_cases h0 : i < 0
  · rw [hiAt, if_neg (by omega)] at hP
    simp (disch := first | assumption | omega | (simp only [q_kd_wr, q_fv_wrE, q_top_wr, q_nc_wr, q_ns_wr, q_gs_wr, q_kd_al, q_fv_al, q_top_al, q_nc_al, q_ns_al, q_gs_al, q_kd_cp, q_fv_cpE, q_top_cp, q_nc_cp, q_ns_cp, q_gs_cp]; first | done | assumption | omega)) only [kX1_dayOf_0, kX1_dayOf_1, kX1_dayOf_4, kX1_dayOf_5, kX1_dayOf_9, kX1_dayOf_12, kX1_dayOf_13, kX1_dayOf_16, kX1_dayOf_17, kX1_dayOf_18, kX1_dayOf_21, kX1_dayOf_23, q_cut_i, q_cut_r, q_cut_l, q_cut_n, if_pos, if_neg]
    exact hP
  · obtain ⟨k, rfl⟩ : ∃ k : Nat, i = k := ⟨i.toNat, by omega⟩
    simp (disch := first | assumption | omega | (simp only [q_kd_wr, q_fv_wrE, q_top_wr, q_nc_wr, q_ns_wr, q_gs_wr, q_kd_al, q_fv_al, q_top_al, q_nc_al, q_ns_al, q_gs_al, q_kd_cp, q_fv_cpE, q_top_cp, q_nc_cp, q_ns_cp, q_gs_cp]; first | done | assumption | omega)) only [kX1_dayOf_0, kX1_dayOf_1, kX1_dayOf_4, kX1_dayOf_5, q_cut_i, q_cut_r, q_cut_l, q_cut_n, if_pos, if_neg]
    refine kX1_dayOf_6 kt (M1 := M) (v := qi (min l.length 24 : Nat)) (q_Tx (sX1_kept hT' ⟨rfl, rfl⟩)) (Nat.le_of_ble_eq_true rfl) ?_
    by_cases hk : k < min l.length 24
    · obtain ⟨e1, e2, e3⟩ := he k (by omega) (by omega)
      simp (disch := first | assumption | omega | (simp only [q_kd_wr, q_fv_wrE, q_top_wr, q_nc_wr, q_ns_wr, q_gs_wr, q_kd_al, q_fv_al, q_top_al, q_nc_al, q_ns_al, q_gs_al, q_kd_cp, q_fv_cpE, q_top_cp, q_nc_cp, q_ns_cp, q_gs_cp]; first | done | assumption | omega)) only [kX1_dayOf_9, kX1_dayOf_12, kX1_dayOf_13, kX1_dayOf_16, kX1_dayOf_17, kX1_dayOf_18, kX1_dayOf_21, kX1_dayOf_23, q_cut_i, q_cut_r, q_cut_l, q_cut_n, if_pos, if_neg, f0, f1, f2, ks2, kp2, kr2, q_toN, e1, e2, e3]
      rw [hiAt, if_pos (by omega), q_toN, List.getElem?_eq_getElem (by omega)] at hP
      exact hP
    · simp (disch := first | assumption | omega | (simp only [q_kd_wr, q_fv_wrE, q_top_wr, q_nc_wr, q_ns_wr, q_gs_wr, q_kd_al, q_fv_al, q_top_al, q_nc_al, q_ns_al, q_gs_al, q_kd_cp, q_fv_cpE, q_top_cp, q_nc_cp, q_ns_cp, q_gs_cp]; first | done | assumption | omega)) only [kX1_dayOf_9, kX1_dayOf_12, kX1_dayOf_13, kX1_dayOf_16, kX1_dayOf_17, kX1_dayOf_18, kX1_dayOf_21, kX1_dayOf_23, q_cut_i, q_cut_r, q_cut_l, q_cut_n, if_pos, if_neg]
      by_cases h24 : k < 24
      · rw [hiAt, if_pos (by omega), q_toN, List.getElem?_eq_none (by omega)] at hP
        exact hP
      · rw [hiAt, if_neg (by omega)] at hP
        exact hP
theorem sX1_sortOf {d : Nat} {M : QM} {t s p r : Nat} {l : List (Int × Int × Int)} (hT : HI M t s p r l) {i : Int} (h1 : -2147483648 ≤ i) (h2 : i < 2147483648) {P : QP} (hP : P (some (qi (hiAt l i (fun e => e.2.1)))) M) : q_T (d + 2) iX1_sortOf [qr t, qi i] M P := by
  have hT' := hT
  obtain ⟨kt, f0, f1, f2, f3, ks', kp', kr', nsp, nsr, npr, hl, he, hb, hz⟩ := hT
  have ks : (q_kd _ s).1 = 2 := congrArg Prod.fst ks'
  have ks2 : (q_kd _ s).2 = 24 := congrArg Prod.snd ks'
  have kp : (q_kd _ p).1 = 2 := congrArg Prod.fst kp'
  have kp2 : (q_kd _ p).2 = 24 := congrArg Prod.snd kp'
  have kr : (q_kd _ r).1 = 2 := congrArg Prod.fst kr'
  have kr2 : (q_kd _ r).2 = 24 := congrArg Prod.snd kr'
  have ts := q_neK kt ks' (by simp)
  have tp := q_neK kt kp' (by simp)
  have tr := q_neK kt kr' (by simp)
  rw [eX1_sortOf]
  by_cases h0 : i < 0
  · rw [hiAt, if_neg (by omega)] at hP
    simp (disch := first | assumption | omega | (simp only [q_kd_wr, q_fv_wrE, q_top_wr, q_nc_wr, q_ns_wr, q_gs_wr, q_kd_al, q_fv_al, q_top_al, q_nc_al, q_ns_al, q_gs_al, q_kd_cp, q_fv_cpE, q_top_cp, q_nc_cp, q_ns_cp, q_gs_cp]; first | done | assumption | omega)) only [kX1_sortOf_0, kX1_sortOf_1, kX1_sortOf_4, kX1_sortOf_5, kX1_sortOf_9, kX1_sortOf_12, kX1_sortOf_13, kX1_sortOf_16, kX1_sortOf_17, kX1_sortOf_18, kX1_sortOf_21, kX1_sortOf_23, q_cut_i, q_cut_r, q_cut_l, q_cut_n, if_pos, if_neg]
    exact hP
  · obtain ⟨k, rfl⟩ : ∃ k : Nat, i = k := ⟨i.toNat, by omega⟩
    simp (disch := first | assumption | omega | (simp only [q_kd_wr, q_fv_wrE, q_top_wr, q_nc_wr, q_ns_wr, q_gs_wr, q_kd_al, q_fv_al, q_top_al, q_nc_al, q_ns_al, q_gs_al, q_kd_cp, q_fv_cpE, q_top_cp, q_nc_cp, q_ns_cp, q_gs_cp]; first | done | assumption | omega)) only [kX1_sortOf_0, kX1_sortOf_1, kX1_sortOf_4, kX1_sortOf_5, q_cut_i, q_cut_r, q_cut_l, q_cut_n, if_pos, if_neg]
    refine kX1_sortOf_6 kt (M1 := M) (v := qi (min l.length 24 : Nat)) (q_Tx (sX1_kept hT' ⟨rfl, rfl⟩)) (Nat.le_of_ble_eq_true rfl) ?_
    by_cases hk : k < min l.length 24
    · obtain ⟨e1, e2, e3⟩ := he k (by omega) (by omega)
      simp (disch := first | assumption | omega | (simp only [q_kd_wr, q_fv_wrE, q_top_wr, q_nc_wr, q_ns_wr, q_gs_wr, q_kd_al, q_fv_al, q_top_al, q_nc_al, q_ns_al, q_gs_al, q_kd_cp, q_fv_cpE, q_top_cp, q_nc_cp, q_ns_cp, q_gs_cp]; first | done | assumption | omega)) only [kX1_sortOf_9, kX1_sortOf_12, kX1_sortOf_13, kX1_sortOf_16, kX1_sortOf_17, kX1_sortOf_18, kX1_sortOf_21, kX1_sortOf_23, q_cut_i, q_cut_r, q_cut_l, q_cut_n, if_pos, if_neg, f0, f1, f2, ks2, kp2, kr2, q_toN, e1, e2, e3]
      rw [hiAt, if_pos (by omega), q_toN, List.getElem?_eq_getElem (by omega)] at hP
      exact hP
    · simp (disch := first | assumption | omega | (simp only [q_kd_wr, q_fv_wrE, q_top_wr, q_nc_wr, q_ns_wr, q_gs_wr, q_kd_al, q_fv_al, q_top_al, q_nc_al, q_ns_al, q_gs_al, q_kd_cp, q_fv_cpE, q_top_cp, q_nc_cp, q_ns_cp, q_gs_cp]; first | done | assumption | omega)) only [kX1_sortOf_9, kX1_sortOf_12, kX1_sortOf_13, kX1_sortOf_16, kX1_sortOf_17, kX1_sortOf_18, kX1_sortOf_21, kX1_sortOf_23, q_cut_i, q_cut_r, q_cut_l, q_cut_n, if_pos, if_neg]
      by_cases h24 : k < 24
      · rw [hiAt, if_pos (by omega), q_toN, List.getElem?_eq_none (by omega)] at hP
        exact hP
      · rw [hiAt, if_neg (by omega)] at hP
        exact hP
theorem sX1_numberOf {d : Nat} {M : QM} {t s p r : Nat} {l : List (Int × Int × Int)} (hT : HI M t s p r l) {i : Int} (h1 : -2147483648 ≤ i) (h2 : i < 2147483648) {P : QP} (hP : P (some (qi (hiAt l i (fun e => e.2.2)))) M) : q_T (d + 2) iX1_numberOf [qr t, qi i] M P := by
  have hT' := hT
  obtain ⟨kt, f0, f1, f2, f3, ks', kp', kr', nsp, nsr, npr, hl, he, hb, hz⟩ := hT
  have ks : (q_kd _ s).1 = 2 := congrArg Prod.fst ks'
  have ks2 : (q_kd _ s).2 = 24 := congrArg Prod.snd ks'
  have kp : (q_kd _ p).1 = 2 := congrArg Prod.fst kp'
  have kp2 : (q_kd _ p).2 = 24 := congrArg Prod.snd kp'
  have kr : (q_kd _ r).1 = 2 := congrArg Prod.fst kr'
  have kr2 : (q_kd _ r).2 = 24 := congrArg Prod.snd kr'
  have ts := q_neK kt ks' (by simp)
  have tp := q_neK kt kp' (by simp)
  have tr := q_neK kt kr' (by simp)
  rw [eX1_numberOf]
  by_cases h0 : i < 0
  · rw [hiAt, if_neg (by omega)] at hP
    simp (disch := first | assumption | omega | (simp only [q_kd_wr, q_fv_wrE, q_top_wr, q_nc_wr, q_ns_wr, q_gs_wr, q_kd_al, q_fv_al, q_top_al, q_nc_al, q_ns_al, q_gs_al, q_kd_cp, q_fv_cpE, q_top_cp, q_nc_cp, q_ns_cp, q_gs_cp]; first | done | assumption | omega)) only [kX1_numberOf_0, kX1_numberOf_1, kX1_numberOf_4, kX1_numberOf_5, kX1_numberOf_9, kX1_numberOf_12, kX1_numberOf_13, kX1_numberOf_16, kX1_numberOf_17, kX1_numberOf_18, kX1_numberOf_21, kX1_numberOf_23, q_cut_i, q_cut_r, q_cut_l, q_cut_n, if_pos, if_neg]
    exact hP
  · obtain ⟨k, rfl⟩ : ∃ k : Nat, i = k := ⟨i.toNat, by omega⟩
    simp (disch := first | assumption | omega | (simp only [q_kd_wr, q_fv_wrE, q_top_wr, q_nc_wr, q_ns_wr, q_gs_wr, q_kd_al, q_fv_al, q_top_al, q_nc_al, q_ns_al, q_gs_al, q_kd_cp, q_fv_cpE, q_top_cp, q_nc_cp, q_ns_cp, q_gs_cp]; first | done | assumption | omega)) only [kX1_numberOf_0, kX1_numberOf_1, kX1_numberOf_4, kX1_numberOf_5, q_cut_i, q_cut_r, q_cut_l, q_cut_n, if_pos, if_neg]
    refine kX1_numberOf_6 kt (M1 := M) (v := qi (min l.length 24 : Nat)) (q_Tx (sX1_kept hT' ⟨rfl, rfl⟩)) (Nat.le_of_ble_eq_true rfl) ?_
    by_cases hk : k < min l.length 24
    · obtain ⟨e1, e2, e3⟩ := he k (by omega) (by omega)
      simp (disch := first | assumption | omega | (simp only [q_kd_wr, q_fv_wrE, q_top_wr, q_nc_wr, q_ns_wr, q_gs_wr, q_kd_al, q_fv_al, q_top_al, q_nc_al, q_ns_al, q_gs_al, q_kd_cp, q_fv_cpE, q_top_cp, q_nc_cp, q_ns_cp, q_gs_cp]; first | done | assumption | omega)) only [kX1_numberOf_9, kX1_numberOf_12, kX1_numberOf_13, kX1_numberOf_16, kX1_numberOf_17, kX1_numberOf_18, kX1_numberOf_21, kX1_numberOf_23, q_cut_i, q_cut_r, q_cut_l, q_cut_n, if_pos, if_neg, f0, f1, f2, ks2, kp2, kr2, q_toN, e1, e2, e3]
      rw [hiAt, if_pos (by omega), q_toN, List.getElem?_eq_getElem (by omega)] at hP
      exact hP
    · simp (disch := first | assumption | omega | (simp only [q_kd_wr, q_fv_wrE, q_top_wr, q_nc_wr, q_ns_wr, q_gs_wr, q_kd_al, q_fv_al, q_top_al, q_nc_al, q_ns_al, q_gs_al, q_kd_cp, q_fv_cpE, q_top_cp, q_nc_cp, q_ns_cp, q_gs_cp]; first | done | assumption | omega)) only [kX1_numberOf_9, kX1_numberOf_12, kX1_numberOf_13, kX1_numberOf_16, kX1_numberOf_17, kX1_numberOf_18, kX1_numberOf_21, kX1_numberOf_23, q_cut_i, q_cut_r, q_cut_l, q_cut_n, if_pos, if_neg]
      by_cases h24 : k < 24
      · rw [hiAt, if_pos (by omega), q_toN, List.getElem?_eq_none (by omega)] at hP
        exact hP
      · rw [hiAt, if_neg (by omega)] at hP
        exact hP
theorem sX1_begin {d : Nat} {M : QM} {t s p r : Nat} {l : List (Int × Int × Int)} {a b : Int} (hT : HI M t s p r l) (h1 : -100000 ≤ a ∧ a ≤ 100000) (h2 : -100000 ≤ b ∧ b ≤ 100000) {P : QP} (hP : ∀ M', HI M' t s p r [(a, 0, b)] → q_fr (fun x => x = t ∨ x = s ∨ x = p ∨ x = r) M M' → q_qt M M' → P none M') : q_T (d + 1) iX1_begin [qr t, qi a, qi b] M P := by
  obtain ⟨kt, f0, f1, f2, f3, ks', kp', kr', nsp, nsr, npr, hl, he, hb, hz⟩ := hT
  have ks : (q_kd _ s).1 = 2 := congrArg Prod.fst ks'
  have ks2 : (q_kd _ s).2 = 24 := congrArg Prod.snd ks'
  have kp : (q_kd _ p).1 = 2 := congrArg Prod.fst kp'
  have kp2 : (q_kd _ p).2 = 24 := congrArg Prod.snd kp'
  have kr : (q_kd _ r).1 = 2 := congrArg Prod.fst kr'
  have kr2 : (q_kd _ r).2 = 24 := congrArg Prod.snd kr'
  have ts := q_neK kt ks' (by simp)
  have tp := q_neK kt kp' (by simp)
  have tr := q_neK kt kr' (by simp)
  rw [eX1_begin]
  simp (disch := first | assumption | omega | (simp only [q_kd_wr, q_fv_wrE, q_top_wr, q_nc_wr, q_ns_wr, q_gs_wr, q_kd_al, q_fv_al, q_top_al, q_nc_al, q_ns_al, q_gs_al, q_kd_cp, q_fv_cpE, q_top_cp, q_nc_cp, q_ns_cp, q_gs_cp]; first | done | assumption | omega)) only [kX1_begin_0, kX1_begin_1, kX1_begin_4, kX1_begin_5, kX1_begin_6, kX1_begin_7, kX1_begin_8, kX1_begin_11, kX1_begin_12, kX1_begin_13, kX1_begin_14, kX1_begin_15, kX1_begin_18, kX1_begin_19, kX1_begin_20, kX1_begin_21, kX1_begin_22, kX1_begin_23, kX1_begin_26, q_cut_i, q_cut_r, q_cut_l, q_cut_n, if_pos, if_neg, q_kd_wr, q_fv_wrE, q_top_wr, q_nc_wr, q_ns_wr, q_gs_wr, q_kd_al, q_fv_al, q_top_al, q_nc_al, q_ns_al, q_gs_al, q_kd_cp, q_fv_cpE, q_top_cp, q_nc_cp, q_ns_cp, q_gs_cp, f0, f1, f2, ks2, kp2, kr2, if_neg ts, if_neg tp, if_neg tr, false_and, if_false, if_neg ts.symm, if_neg tp.symm, if_neg tr.symm, ts, tp, tr, Int.toNat_zero]
  refine hP _ ⟨kt, ?_, ?_, ?_, ?_, ks', kp', kr', nsp, nsr, npr, by simp, ?_, ?_, ?_⟩ (((q_fr.wr (Or.inr (Or.inl rfl))).tr (q_fr.wr (Or.inr (Or.inr (Or.inl rfl))))).tr ((q_fr.wr (Or.inr (Or.inr (Or.inr rfl)))).tr (q_fr.wr (Or.inl rfl)))) ((q_qt.wr.tr q_qt.wr).tr (q_qt.wr.tr q_qt.wr))
  · simp [q_fv_wrE, ts, tp, tr, f0]
  · simp [q_fv_wrE, ts, tp, tr, f1]
  · simp [q_fv_wrE, ts, tp, tr, f2]
  · simp [q_fv_wrE]
  · intro i hi _
    have : i = 0 := by simpa using hi
    subst this
    simp [q_fv_wrE, ts.symm, tp.symm, tr.symm, nsp, nsr, npr, nsp.symm, nsr.symm, npr.symm]
  · intro i hi
    have : i = 0 := by simpa using hi
    subst this
    simpa using ⟨h1.1, h1.2, h2.1, h2.2⟩
  · intro i hi
    obtain ⟨z1, z2, z3⟩ := hz i hi
    simp only [q_fv_wrE, if_neg (fun q : s = t ∧ i = 3 => ts q.1.symm), if_neg (fun q : p = t ∧ i = 3 => tp q.1.symm), if_neg (fun q : r = t ∧ i = 3 => tr q.1.symm)]
    refine ⟨?_, ?_, ?_⟩
    · repeat' split
      all_goals first | exact ⟨_, rfl⟩ | assumption
    · repeat' split
      all_goals first | exact ⟨_, rfl⟩ | assumption
    · repeat' split
      all_goals first | exact ⟨_, rfl⟩ | assumption
theorem sX1_append {d : Nat} {M : QM} {t s p r : Nat} {l : List (Int × Int × Int)} {a b c : Int} (hT : HI M t s p r l) (hl9 : l.length < 100000) (h1 : -100000 ≤ a ∧ a ≤ 100000) (h2 : -100000 ≤ b ∧ b ≤ 100000) (h3 : -100000 ≤ c ∧ c ≤ 100000) {P : QP} (hP : ∀ M', HI M' t s p r (l ++ [(a, b, c)]) → q_fr (fun x => x = t ∨ x = s ∨ x = p ∨ x = r) M M' → q_qt M M' → P none M') : q_T (d + 1) iX1_append [qr t, qi a, qi b, qi c] M P := by
  obtain ⟨kt, f0, f1, f2, f3, ks', kp', kr', nsp, nsr, npr, hl, he, hb, hz⟩ := hT
  have ks : (q_kd _ s).1 = 2 := congrArg Prod.fst ks'
  have ks2 : (q_kd _ s).2 = 24 := congrArg Prod.snd ks'
  have kp : (q_kd _ p).1 = 2 := congrArg Prod.fst kp'
  have kp2 : (q_kd _ p).2 = 24 := congrArg Prod.snd kp'
  have kr : (q_kd _ r).1 = 2 := congrArg Prod.fst kr'
  have kr2 : (q_kd _ r).2 = 24 := congrArg Prod.snd kr'
  have ts := q_neK kt ks' (by simp)
  have tp := q_neK kt kp' (by simp)
  have tr := q_neK kt kr' (by simp)
  rw [eX1_append]
  have hbs : ∀ i (h : i < (l ++ [(a, b, c)]).length), -100000 ≤ (l ++ [(a, b, c)])[i].1 ∧ (l ++ [(a, b, c)])[i].1 ≤ 100000 ∧ -100000 ≤ (l ++ [(a, b, c)])[i].2.1 ∧ (l ++ [(a, b, c)])[i].2.1 ≤ 100000 ∧ -100000 ≤ (l ++ [(a, b, c)])[i].2.2 ∧ (l ++ [(a, b, c)])[i].2.2 ≤ 100000 := by
    intro i hi
    rw [List.getElem_append]
    split
    · exact hb i _
    · simp; omega
  by_cases hk : l.length < 24
  · simp (disch := first | assumption | omega | (simp only [q_kd_wr, q_fv_wrE, q_top_wr, q_nc_wr, q_ns_wr, q_gs_wr, q_kd_al, q_fv_al, q_top_al, q_nc_al, q_ns_al, q_gs_al, q_kd_cp, q_fv_cpE, q_top_cp, q_nc_cp, q_ns_cp, q_gs_cp]; first | done | assumption | omega)) only [kX1_append_0, kX1_append_1, kX1_append_4, kX1_append_6, kX1_append_9, kX1_append_10, kX1_append_13, kX1_append_14, kX1_append_17, kX1_append_18, kX1_append_19, kX1_append_20, kX1_append_23, kX1_append_24, kX1_append_27, kX1_append_28, kX1_append_29, kX1_append_30, kX1_append_33, kX1_append_34, kX1_append_37, kX1_append_38, kX1_append_39, kX1_append_40i, kX1_append_40r, kX1_append_41, kX1_append_44, kX1_append_45, kX1_append_46, kX1_append_49, q_cut_i, q_cut_r, q_cut_l, q_cut_n, if_pos, if_neg, q_kd_wr, q_fv_wrE, q_top_wr, q_nc_wr, q_ns_wr, q_gs_wr, q_kd_al, q_fv_al, q_top_al, q_nc_al, q_ns_al, q_gs_al, q_kd_cp, q_fv_cpE, q_top_cp, q_nc_cp, q_ns_cp, q_gs_cp, f0, f1, f2, f3, ks2, kp2, kr2, if_neg ts, if_neg tp, if_neg tr, false_and, if_false, ts, tp, tr, q_toN]
    refine hP _ ⟨kt, ?_, ?_, ?_, ?_, ks', kp', kr', nsp, nsr, npr, by simp; omega, ?_, hbs, ?_⟩ (((q_fr.wr (Or.inr (Or.inl rfl))).tr (q_fr.wr (Or.inr (Or.inr (Or.inl rfl))))).tr ((q_fr.wr (Or.inr (Or.inr (Or.inr rfl)))).tr (q_fr.wr (Or.inl rfl)))) ((q_qt.wr.tr q_qt.wr).tr (q_qt.wr.tr q_qt.wr))
    · simp [q_fv_wrE, ts, tp, tr, f0]
    · simp [q_fv_wrE, ts, tp, tr, f1]
    · simp [q_fv_wrE, ts, tp, tr, f2]
    · simp [q_fv_wrE]
    · intro i hi h24
      simp only [q_fv_wrE, if_neg (fun q : s = t ∧ i = 3 => ts q.1.symm), if_neg (fun q : p = t ∧ i = 3 => tp q.1.symm), if_neg (fun q : r = t ∧ i = 3 => tr q.1.symm), nsp, nsr, npr, nsp.symm, nsr.symm, npr.symm, false_and, if_false, true_and]
      by_cases hi2 : i = l.length
      · subst hi2
        simp
      · rw [List.length_append, List.length_singleton] at hi
        rw [List.getElem_append_left (by omega), if_neg hi2, if_neg hi2, if_neg hi2]
        exact he i (by omega) h24
    · intro i hi
      obtain ⟨z1, z2, z3⟩ := hz i hi
      simp only [q_fv_wrE, if_neg (fun q : s = t ∧ i = 3 => ts q.1.symm), if_neg (fun q : p = t ∧ i = 3 => tp q.1.symm), if_neg (fun q : r = t ∧ i = 3 => tr q.1.symm)]
      refine ⟨?_, ?_, ?_⟩
      · repeat' split
        all_goals first | exact ⟨_, rfl⟩ | assumption
      · repeat' split
        all_goals first | exact ⟨_, rfl⟩ | assumption
      · repeat' split
        all_goals first | exact ⟨_, rfl⟩ | assumption
  · simp (disch := first | assumption | omega | (simp only [q_kd_wr, q_fv_wrE, q_top_wr, q_nc_wr, q_ns_wr, q_gs_wr, q_kd_al, q_fv_al, q_top_al, q_nc_al, q_ns_al, q_gs_al, q_kd_cp, q_fv_cpE, q_top_cp, q_nc_cp, q_ns_cp, q_gs_cp]; first | done | assumption | omega)) only [kX1_append_0, kX1_append_1, kX1_append_4, kX1_append_6, kX1_append_9, kX1_append_10, kX1_append_13, kX1_append_14, kX1_append_17, kX1_append_18, kX1_append_19, kX1_append_20, kX1_append_23, kX1_append_24, kX1_append_27, kX1_append_28, kX1_append_29, kX1_append_30, kX1_append_33, kX1_append_34, kX1_append_37, kX1_append_38, kX1_append_39, kX1_append_40i, kX1_append_40r, kX1_append_41, kX1_append_44, kX1_append_45, kX1_append_46, kX1_append_49, q_cut_i, q_cut_r, q_cut_l, q_cut_n, if_pos, if_neg, q_kd_wr, q_fv_wrE, q_top_wr, q_nc_wr, q_ns_wr, q_gs_wr, q_kd_al, q_fv_al, q_top_al, q_nc_al, q_ns_al, q_gs_al, q_kd_cp, q_fv_cpE, q_top_cp, q_nc_cp, q_ns_cp, q_gs_cp, f3]
    refine hP _ ⟨kt, ?_, ?_, ?_, ?_, ks', kp', kr', nsp, nsr, npr, by simp; omega, ?_, hbs, ?_⟩ (q_fr.wr (Or.inl rfl)) q_qt.wr
    · simp [q_fv_wrE, f0]
    · simp [q_fv_wrE, f1]
    · simp [q_fv_wrE, f2]
    · simp [q_fv_wrE]
    · intro i hi h24
      rw [List.getElem_append_left (by omega)]
      simp only [q_fv_wrE, if_neg (fun q : s = t ∧ i = 3 => ts q.1.symm), if_neg (fun q : p = t ∧ i = 3 => tp q.1.symm), if_neg (fun q : r = t ∧ i = 3 => tr q.1.symm)]
      exact he i (by omega) h24
    · intro i hi
      simp only [q_fv_wrE, if_neg (fun q : s = t ∧ i = 3 => ts q.1.symm), if_neg (fun q : p = t ∧ i = 3 => tp q.1.symm), if_neg (fun q : r = t ∧ i = 3 => tr q.1.symm)]
      exact hz i hi
