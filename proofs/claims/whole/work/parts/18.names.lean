/-! Names -/
def nmAt (l : List (Int × Int)) (d : Int) : Int := l.foldl (fun acc q => if q.1 ≤ d then q.2 else acc) 0
theorem nmAt_snoc (l : List (Int × Int)) (q : Int × Int) (d : Int) : nmAt (l ++ [q]) d = if q.1 ≤ d then q.2 else nmAt l d := by
  simp [nmAt, List.foldl_append]
def NM (M : QM) (t s p cap : Nat) (l : List (Int × Int)) : Prop :=
  q_kd M t = (1, 2) ∧ q_fv M t 0 = qr s ∧ q_fv M t 1 = qr p ∧ q_fv M t 2 = qi l.length ∧ q_kd M s = (2, cap) ∧ q_kd M p = (3, cap) ∧ l.length ≤ cap ∧ 4 ≤ cap ∧ cap ≤ 2000 ∧
  (∀ i (h : i < l.length), q_fv M s i = qi l[i].1 ∧ q_fv M p i = ql l[i].2 ∧ -100000 ≤ l[i].1 ∧ l[i].1 ≤ 100000) ∧ (∀ i, i < cap → (∃ z, q_fv M s i = qi z) ∧ ∃ z, q_fv M p i = ql z)
theorem sX2_size {d : Nat} {M : QM} {t s p cap : Nat} {l : List (Int × Int)} (hT : NM M t s p cap l) {P : QP} (hP : P (some (qi l.length)) M) : q_T (d + 1) iX2_size [qr t] M P := by
  obtain ⟨kt, f0, f1, f2, ks', kp', hl, hc4, hc, he, hz⟩ := hT
  have ks : (q_kd M s).1 = 2 := by rw [ks']
  have ks2 : (q_kd M s).2 = cap := by rw [ks']
  have kp : (q_kd M p).1 = 3 := by rw [kp']
  have kp2 : (q_kd M p).2 = cap := by rw [kp']
  have ts := q_neK kt ks' (by simp)
  have tp := q_neK kt kp' (by simp)
  have hsp := q_neK ks' kp' (by simp)
  rw [eX2_size]
  simp (disch := first | assumption | omega | (simp only [q_kd_wr, q_fv_wrE, q_top_wr, q_nc_wr, q_ns_wr, q_gs_wr, q_kd_al, q_fv_al, q_top_al, q_nc_al, q_ns_al, q_gs_al, q_kd_cp, q_fv_cpE, q_top_cp, q_nc_cp, q_ns_cp, q_gs_cp]; first | done | assumption | omega)) only [kX2_size_0, kX2_size_1, kX2_size_4, f2]
  exact hP
theorem sX2_at {d : Nat} {M : QM} {t s p cap : Nat} {l : List (Int × Int)} {day : Int} (hT : NM M t s p cap l) (h1 : -2147483648 ≤ day) (h2 : day < 2147483648) {P : QP} (hP : P (some (ql (nmAt l day))) M) : q_T (d + 1) iX2_at [qr t, qi day] M P := by
  obtain ⟨kt, f0, f1, f2, ks', kp', hl, hc4, hc, he, hz⟩ := hT
  have ks : (q_kd M s).1 = 2 := by rw [ks']
  have ks2 : (q_kd M s).2 = cap := by rw [ks']
  have kp : (q_kd M p).1 = 3 := by rw [kp']
  have kp2 : (q_kd M p).2 = cap := by rw [kp']
  have ts := q_neK kt ks' (by simp)
  have tp := q_neK kt kp' (by simp)
  have hsp := q_neK ks' kp' (by simp)
  have loop : ∀ k : Nat, k ≤ l.length → nmAt (l.take k) day = nmAt l day → Rr (q_C d) mX2_at (7, [some (qr t), some (qi day), some (qi ((k : Int) - 1))], [], M) P := by
    intro k
    induction k with
    | zero =>
      intro _ ha
      simp (disch := first | assumption | omega | (simp only [q_kd_wr, q_fv_wrE, q_top_wr, q_nc_wr, q_ns_wr, q_gs_wr, q_kd_al, q_fv_al, q_top_al, q_nc_al, q_ns_al, q_gs_al, q_kd_cp, q_fv_cpE, q_top_cp, q_nc_cp, q_ns_cp, q_gs_cp]; first | done | assumption | omega)) only [kX2_at_7, kX2_at_8, kX2_at_11, kX2_at_12, kX2_at_15, kX2_at_16, kX2_at_17, kX2_at_18, kX2_at_21, kX2_at_22, kX2_at_25, kX2_at_26, kX2_at_27, kX2_at_28, kX2_at_31, kX2_at_34, kX2_at_35, q_cut_i, q_cut_r, q_cut_l, q_cut_n, if_pos, if_neg]
      simp [nmAt] at ha
      simpa [nmAt, ← ha] using hP
    | succ k ih =>
      intro hk ha
      obtain ⟨e1, e2, e3, e4⟩ := he k (by omega)
      have e : (((k + 1 : Nat) : Int) - 1) = (k : Int) := by omega
      have hsn : l.take (k + 1) = l.take k ++ [l[k]] := by rw [List.take_add_one]; simp [List.getElem?_eq_getElem (by omega : k < l.length)]
      rw [hsn, nmAt_snoc] at ha
      rw [e]
      by_cases hq : l[k].1 ≤ day
      · rw [if_pos hq] at ha
        simp (disch := first | assumption | omega | (simp only [q_kd_wr, q_fv_wrE, q_top_wr, q_nc_wr, q_ns_wr, q_gs_wr, q_kd_al, q_fv_al, q_top_al, q_nc_al, q_ns_al, q_gs_al, q_kd_cp, q_fv_cpE, q_top_cp, q_nc_cp, q_ns_cp, q_gs_cp]; first | done | assumption | omega)) only [kX2_at_0, kX2_at_1, kX2_at_4, kX2_at_5, kX2_at_6, kX2_at_7, kX2_at_8, kX2_at_11, kX2_at_12, kX2_at_15, kX2_at_16, kX2_at_17, kX2_at_18, kX2_at_21, kX2_at_22, kX2_at_25, kX2_at_26, kX2_at_27, kX2_at_28, kX2_at_31, kX2_at_34, kX2_at_35, q_cut_i, q_cut_r, q_cut_l, q_cut_n, if_pos, if_neg, q_toN, f0, f1, f2, e1, e2]
        rw [ha]; exact hP
      · rw [if_neg hq] at ha
        rw [kX2_at_7]
        simp (disch := first | assumption | omega | (simp only [q_kd_wr, q_fv_wrE, q_top_wr, q_nc_wr, q_ns_wr, q_gs_wr, q_kd_al, q_fv_al, q_top_al, q_nc_al, q_ns_al, q_gs_al, q_kd_cp, q_fv_cpE, q_top_cp, q_nc_cp, q_ns_cp, q_gs_cp]; first | done | assumption | omega)) only [kX2_at_8, kX2_at_11, kX2_at_12, kX2_at_15, kX2_at_16, kX2_at_17, kX2_at_18, kX2_at_21, kX2_at_22, kX2_at_25, kX2_at_26, kX2_at_27, kX2_at_28, kX2_at_31, q_cut_i, q_cut_r, q_cut_l, q_cut_n, if_pos, if_neg, q_toN, f0, f1, f2, e1, e2]
        exact ih (by omega) ha
  rw [eX2_at]
  simp (disch := first | assumption | omega | (simp only [q_kd_wr, q_fv_wrE, q_top_wr, q_nc_wr, q_ns_wr, q_gs_wr, q_kd_al, q_fv_al, q_top_al, q_nc_al, q_ns_al, q_gs_al, q_kd_cp, q_fv_cpE, q_top_cp, q_nc_cp, q_ns_cp, q_gs_cp]; first | done | assumption | omega)) only [kX2_at_0, kX2_at_1, kX2_at_4, kX2_at_5, kX2_at_6, q_cut_i, q_cut_r, q_cut_l, q_cut_n, if_pos, if_neg, f0, f1, f2]
  exact loop l.length (Nat.le_refl _) (by rw [List.take_length])
theorem sX2_dayOf {d : Nat} {M : QM} {t s p cap : Nat} {l : List (Int × Int)} {i : Nat} (hT : NM M t s p cap l) (hi : i < l.length) {P : QP} (hP : P (some (qi l[i].1)) M) : q_T (d + 1) iX2_dayOf [qr t, qi i] M P := by
  obtain ⟨kt, f0, f1, f2, ks', kp', hl, hc4, hc, he, hz⟩ := hT
  have ks : (q_kd M s).1 = 2 := by rw [ks']
  have ks2 : (q_kd M s).2 = cap := by rw [ks']
  have kp : (q_kd M p).1 = 3 := by rw [kp']
  have kp2 : (q_kd M p).2 = cap := by rw [kp']
  have ts := q_neK kt ks' (by simp)
  have tp := q_neK kt kp' (by simp)
  have hsp := q_neK ks' kp' (by simp)
  obtain ⟨e1, e2, e3, e4⟩ := he i hi
  rw [eX2_dayOf]
  simp (disch := first | assumption | omega | (simp only [q_kd_wr, q_fv_wrE, q_top_wr, q_nc_wr, q_ns_wr, q_gs_wr, q_kd_al, q_fv_al, q_top_al, q_nc_al, q_ns_al, q_gs_al, q_kd_cp, q_fv_cpE, q_top_cp, q_nc_cp, q_ns_cp, q_gs_cp]; first | done | assumption | omega)) only [kX2_dayOf_0, kX2_dayOf_1, kX2_dayOf_4, kX2_dayOf_5, kX2_dayOf_6, kX2_dayOf_9, kX2_dayOf_12, kX2_dayOf_13, kX2_dayOf_16, kX2_dayOf_17, kX2_dayOf_18, kX2_dayOf_21, kX2_dayOf_23, q_cut_i, q_cut_r, q_cut_l, q_cut_n, if_pos, if_neg, q_toN, f0, f1, f2, e1, e2]
  exact hP
theorem sX2_wordOf {d : Nat} {M : QM} {t s p cap : Nat} {l : List (Int × Int)} {i : Nat} (hT : NM M t s p cap l) (hi : i < l.length) {P : QP} (hP : P (some (ql l[i].2)) M) : q_T (d + 1) iX2_wordOf [qr t, qi i] M P := by
  obtain ⟨kt, f0, f1, f2, ks', kp', hl, hc4, hc, he, hz⟩ := hT
  have ks : (q_kd M s).1 = 2 := by rw [ks']
  have ks2 : (q_kd M s).2 = cap := by rw [ks']
  have kp : (q_kd M p).1 = 3 := by rw [kp']
  have kp2 : (q_kd M p).2 = cap := by rw [kp']
  have ts := q_neK kt ks' (by simp)
  have tp := q_neK kt kp' (by simp)
  have hsp := q_neK ks' kp' (by simp)
  obtain ⟨e1, e2, e3, e4⟩ := he i hi
  rw [eX2_wordOf]
  simp (disch := first | assumption | omega | (simp only [q_kd_wr, q_fv_wrE, q_top_wr, q_nc_wr, q_ns_wr, q_gs_wr, q_kd_al, q_fv_al, q_top_al, q_nc_al, q_ns_al, q_gs_al, q_kd_cp, q_fv_cpE, q_top_cp, q_nc_cp, q_ns_cp, q_gs_cp]; first | done | assumption | omega)) only [kX2_wordOf_0, kX2_wordOf_1, kX2_wordOf_4, kX2_wordOf_5, kX2_wordOf_6, kX2_wordOf_9, kX2_wordOf_12, kX2_wordOf_13, kX2_wordOf_16, kX2_wordOf_17, kX2_wordOf_18, kX2_wordOf_21, kX2_wordOf_22, q_cut_i, q_cut_r, q_cut_l, q_cut_n, if_pos, if_neg, q_toN, f0, f1, f2, e1, e2]
  exact hP
def nmDays (l : List (Int × Int)) (i : Nat) (e : Int) : Int := (if h : i + 1 < l.length then l[i + 1].1 else e) - (l.getD i (0, 0)).1
theorem sX2_daysOf {d : Nat} {M : QM} {t s p cap : Nat} {l : List (Int × Int)} {i : Nat} {e : Int} (hT : NM M t s p cap l) (hi : i < l.length) {P : QP} (hP : P (some (qi (nmDays l i e))) M) : q_T (d + 2) iX2_daysOf [qr t, qi i, qi e] M P := by
  have hT' := hT
  obtain ⟨kt, f0, f1, f2, ks', kp', hl, hc4, hc, he, hz⟩ := hT
  have ks : (q_kd M s).1 = 2 := by rw [ks']
  have ks2 : (q_kd M s).2 = cap := by rw [ks']
  have kp : (q_kd M p).1 = 3 := by rw [kp']
  have kp2 : (q_kd M p).2 = cap := by rw [kp']
  have ts := q_neK kt ks' (by simp)
  have tp := q_neK kt kp' (by simp)
  have hsp := q_neK ks' kp' (by simp)
  have hg : l.getD i (0, 0) = l[i] := by simp [List.getD_eq_getElem?_getD, List.getElem?_eq_getElem hi]
  unfold nmDays at hP
  rw [hg] at hP
  have en : ((i : Int) + 1) = ((i + 1 : Nat) : Int) := by omega
  rw [eX2_daysOf]
  by_cases hq : i + 1 < l.length
  · rw [dif_pos hq] at hP
    simp (disch := first | assumption | omega | (simp only [q_kd_wr, q_fv_wrE, q_top_wr, q_nc_wr, q_ns_wr, q_gs_wr, q_kd_al, q_fv_al, q_top_al, q_nc_al, q_ns_al, q_gs_al, q_kd_cp, q_fv_cpE, q_top_cp, q_nc_cp, q_ns_cp, q_gs_cp]; first | done | assumption | omega)) only [kX2_daysOf_0, kX2_daysOf_1, kX2_daysOf_2, kX2_daysOf_3, kX2_daysOf_4, kX2_daysOf_7, kX2_daysOf_10, kX2_daysOf_11, kX2_daysOf_12, kX2_daysOf_13, q_cut_i, q_cut_r, q_cut_l, q_cut_n, if_pos, if_neg, q_toN, f0, f1, f2]
    rw [en]
    refine kX2_daysOf_14 kt (q_Tx (sX2_dayOf hT' hq ⟨rfl, rfl⟩)) (Nat.le_of_ble_eq_true rfl) ?_
    simp (disch := first | assumption | omega | (simp only [q_kd_wr, q_fv_wrE, q_top_wr, q_nc_wr, q_ns_wr, q_gs_wr, q_kd_al, q_fv_al, q_top_al, q_nc_al, q_ns_al, q_gs_al, q_kd_cp, q_fv_cpE, q_top_cp, q_nc_cp, q_ns_cp, q_gs_cp]; first | done | assumption | omega)) only [kX2_daysOf_17, kX2_daysOf_20, kX2_daysOf_21, kX2_daysOf_22, q_cut_i, q_cut_r, q_cut_l, q_cut_n, if_pos, if_neg]
    refine kX2_daysOf_23 kt (q_Tx (sX2_dayOf hT' hi ⟨rfl, rfl⟩)) (Nat.le_of_ble_eq_true rfl) ?_
    simp (disch := first | assumption | omega | (simp only [q_kd_wr, q_fv_wrE, q_top_wr, q_nc_wr, q_ns_wr, q_gs_wr, q_kd_al, q_fv_al, q_top_al, q_nc_al, q_ns_al, q_gs_al, q_kd_cp, q_fv_cpE, q_top_cp, q_nc_cp, q_ns_cp, q_gs_cp]; first | done | assumption | omega)) only [kX2_daysOf_26, kX2_daysOf_27]
    exact hP
  · rw [dif_neg hq] at hP
    simp (disch := first | assumption | omega | (simp only [q_kd_wr, q_fv_wrE, q_top_wr, q_nc_wr, q_ns_wr, q_gs_wr, q_kd_al, q_fv_al, q_top_al, q_nc_al, q_ns_al, q_gs_al, q_kd_cp, q_fv_cpE, q_top_cp, q_nc_cp, q_ns_cp, q_gs_cp]; first | done | assumption | omega)) only [kX2_daysOf_0, kX2_daysOf_1, kX2_daysOf_2, kX2_daysOf_3, kX2_daysOf_4, kX2_daysOf_7, kX2_daysOf_10, kX2_daysOf_11, kX2_daysOf_12, kX2_daysOf_13, kX2_daysOf_20, kX2_daysOf_21, kX2_daysOf_22, q_cut_i, q_cut_r, q_cut_l, q_cut_n, if_pos, if_neg, q_toN, f0, f1, f2]
    refine kX2_daysOf_23 kt (q_Tx (sX2_dayOf hT' hi ⟨rfl, rfl⟩)) (Nat.le_of_ble_eq_true rfl) ?_
    simp (disch := first | assumption | omega | (simp only [q_kd_wr, q_fv_wrE, q_top_wr, q_nc_wr, q_ns_wr, q_gs_wr, q_kd_al, q_fv_al, q_top_al, q_nc_al, q_ns_al, q_gs_al, q_kd_cp, q_fv_cpE, q_top_cp, q_nc_cp, q_ns_cp, q_gs_cp]; first | done | assumption | omega)) only [kX2_daysOf_26, kX2_daysOf_27]
    exact hP
theorem sX2_begin {d : Nat} {M : QM} {t s p cap : Nat} {l : List (Int × Int)} {day w : Int} (hT : NM M t s p cap l) (h1 : -100000 ≤ day ∧ day ≤ 100000) {P : QP} (hP : ∀ M', NM M' t s p cap [(day, w)] → q_fr (fun a => a = t ∨ a = s ∨ a = p) M M' → q_top M' = q_top M → q_ct M M' 0 0 → P none M') : q_T (d + 1) iX2_begin [qr t, qi day, ql w] M P := by
  obtain ⟨kt, f0, f1, f2, ks', kp', hl, hc4, hc, he, hz⟩ := hT
  have ks : (q_kd M s).1 = 2 := by rw [ks']
  have ks2 : (q_kd M s).2 = cap := by rw [ks']
  have kp : (q_kd M p).1 = 3 := by rw [kp']
  have kp2 : (q_kd M p).2 = cap := by rw [kp']
  have ts := q_neK kt ks' (by simp)
  have tp := q_neK kt kp' (by simp)
  have hsp := q_neK ks' kp' (by simp)
  rw [eX2_begin]
  simp (disch := first | assumption | omega | (simp only [q_kd_wr, q_fv_wrE, q_top_wr, q_nc_wr, q_ns_wr, q_gs_wr, q_kd_al, q_fv_al, q_top_al, q_nc_al, q_ns_al, q_gs_al, q_kd_cp, q_fv_cpE, q_top_cp, q_nc_cp, q_ns_cp, q_gs_cp]; first | done | assumption | omega)) only [kX2_begin_0, kX2_begin_1, kX2_begin_4, kX2_begin_5, kX2_begin_6, kX2_begin_7, kX2_begin_8, kX2_begin_11, kX2_begin_12, kX2_begin_13, kX2_begin_14, kX2_begin_15, kX2_begin_16, kX2_begin_19, q_cut_i, q_cut_r, q_cut_l, q_cut_n, if_pos, if_neg, q_kd_wr, q_fv_wrE, q_top_wr, q_nc_wr, q_ns_wr, q_gs_wr, q_kd_al, q_fv_al, q_top_al, q_nc_al, q_ns_al, q_gs_al, q_kd_cp, q_fv_cpE, q_top_cp, q_nc_cp, q_ns_cp, q_gs_cp, f0, f1, f2, ts, ts.symm, tp, tp.symm, hsp, hsp.symm, false_and, if_false, Int.toNat_zero]
  refine hP _ ⟨kt, ?_, ?_, ?_, ks', kp', by simp; omega, hc4, hc, ?_, ?_⟩ ?_ rfl ⟨rfl, rfl⟩
  · simp [q_fv_wrE, ts, tp, f0]
  · simp [q_fv_wrE, ts, tp, f1]
  · simp [q_fv_wrE]
  · intro i hi
    have : i = 0 := by simpa using hi
    subst this
    simp [q_fv_wrE, ts.symm, tp.symm, hsp, h1]
  · intro i hi
    obtain ⟨⟨z1, e1⟩, z2, e2⟩ := hz i hi
    simp only [q_fv_wrE, ts.symm, tp.symm, hsp, hsp.symm, false_and, if_false, e1, e2]
    exact ⟨by split <;> exact ⟨_, rfl⟩, by split <;> exact ⟨_, rfl⟩⟩
  · exact ((q_fr.wr (by simp)).tr (q_fr.wr (by simp))).tr (q_fr.wr (by simp))
def q_gr (M M' : QM) (cap cap' : Nat) : Prop := cap ≤ cap' ∧ q_nc M' + cap ≤ q_nc M + cap' ∧ q_ns M' + 4 * cap ≤ q_ns M + 4 * cap'
theorem nm_room {C : QC} {M : QM} {t s p cap : Nat} {l : List (Int × Int)} {day w : Int} (hT : NM M t s p cap l) (hlt : l.length < cap) (h1 : -100000 ≤ day ∧ day ≤ 100000) {P : QP} (hP : ∀ M', NM M' t s p cap (l ++ [(day, w)]) → q_fr (fun a => a = t ∨ a = s ∨ a = p) M M' → q_top M' = q_top M → q_ct M M' 0 0 → P none M') : Rr C mX2_append (50, [some (qr t), some (qi day), some (ql w), none], [], M) P := by
  obtain ⟨kt, f0, f1, f2, ks', kp', hl, hc4, hc, he, hz⟩ := hT
  have ks : (q_kd M s).1 = 2 := by rw [ks']
  have ks2 : (q_kd M s).2 = cap := by rw [ks']
  have kp : (q_kd M p).1 = 3 := by rw [kp']
  have kp2 : (q_kd M p).2 = cap := by rw [kp']
  have ts := q_neK kt ks' (by simp)
  have tp := q_neK kt kp' (by simp)
  have hsp := q_neK ks' kp' (by simp)
  simp (disch := first | assumption | omega | (simp only [q_kd_wr, q_fv_wrE, q_top_wr, q_nc_wr, q_ns_wr, q_gs_wr, q_kd_al, q_fv_al, q_top_al, q_nc_al, q_ns_al, q_gs_al, q_kd_cp, q_fv_cpE, q_top_cp, q_nc_cp, q_ns_cp, q_gs_cp]; first | done | assumption | omega)) only [kX2_append_50, kX2_append_51, kX2_append_54, kX2_append_55, kX2_append_58, kX2_append_59, kX2_append_60, kX2_append_61, kX2_append_64, kX2_append_65, kX2_append_68, kX2_append_69, kX2_append_70, kX2_append_71i, kX2_append_71r, kX2_append_72, kX2_append_75, kX2_append_76, kX2_append_77, kX2_append_80, q_cut_i, q_cut_r, q_cut_l, q_cut_n, if_pos, if_neg, q_kd_wr, q_fv_wrE, q_top_wr, q_nc_wr, q_ns_wr, q_gs_wr, q_kd_al, q_fv_al, q_top_al, q_nc_al, q_ns_al, q_gs_al, q_kd_cp, q_fv_cpE, q_top_cp, q_nc_cp, q_ns_cp, q_gs_cp, f0, f1, f2, ts, ts.symm, tp, tp.symm, hsp, hsp.symm, false_and, if_false, q_toN]
  refine hP _ ⟨kt, ?_, ?_, ?_, ks', kp', by simp; omega, hc4, hc, ?_, ?_⟩ ?_ rfl ⟨rfl, rfl⟩
  · simp [q_fv_wrE, ts, tp, f0]
  · simp [q_fv_wrE, ts, tp, f1]
  · simp [q_fv_wrE]
  · intro i hi
    rw [List.length_append, List.length_singleton] at hi
    by_cases hil : i < l.length
    · obtain ⟨e1, e2, e3, e4⟩ := he i hil
      have : i ≠ l.length := by omega
      simp [q_fv_wrE, ts.symm, tp.symm, hsp, hsp.symm, this, e1, e2, e3, e4, List.getElem_append_left hil]
    · have : i = l.length := by omega
      subst this
      simp [q_fv_wrE, ts.symm, tp.symm, hsp, h1]
  · intro i hi
    obtain ⟨⟨z1, e1⟩, z2, e2⟩ := hz i hi
    simp only [q_fv_wrE, ts.symm, tp.symm, hsp, hsp.symm, false_and, if_false, e1, e2]
    exact ⟨by split <;> exact ⟨_, rfl⟩, by split <;> exact ⟨_, rfl⟩⟩
  · exact ((q_fr.wr (by simp)).tr (q_fr.wr (by simp))).tr (q_fr.wr (by simp))
