/-! Names -/
def nmAt (l : List (Int × Int)) (d : Int) : Int := l.foldl (fun acc q => if q.1 ≤ d then q.2 else acc) 0
theorem nmAt_snoc (l : List (Int × Int)) (q : Int × Int) (d : Int) : nmAt (l ++ [q]) d = if q.1 ≤ d then q.2 else nmAt l d := by
  simp [nmAt, List.foldl_append]
def NM (M : QM) (t s p cap : Nat) (l : List (Int × Int)) : Prop :=
  q_kd M t = (1, 2) ∧ q_fv M t 0 = qr s ∧ q_fv M t 1 = qr p ∧ q_fv M t 2 = qi l.length ∧ q_kd M s = (2, cap) ∧ q_kd M p = (3, cap) ∧ l.length ≤ cap ∧ 4 ≤ cap ∧ cap ≤ 4200 ∧
  (∀ i (h : i < l.length), q_fv M s i = qi l[i].1 ∧ q_fv M p i = ql l[i].2 ∧ -100000 ≤ l[i].1 ∧ l[i].1 ≤ 100000) ∧ (∀ i, i < cap → (∃ z, q_fv M s i = qi z) ∧ ∃ z, q_fv M p i = ql z)
theorem sX2_size {d : Nat} {M : QM} {t s p cap : Nat} {l : List (Int × Int)} (hT : NM M t s p cap l) {P : QP} (hP : P (some (qi l.length)) M) : q_T (d + 1) iX2_size [qr t] M P := by
  obtain ⟨kt, f0, f1, f2, ks', kp', hl, hc4, hc, he, hz⟩ := hT
  have ks : (q_kd _ s).1 = 2 := congrArg Prod.fst ks'
  have ks2 : (q_kd _ s).2 = cap := congrArg Prod.snd ks'
  have kp : (q_kd _ p).1 = 3 := congrArg Prod.fst kp'
  have kp2 : (q_kd _ p).2 = cap := congrArg Prod.snd kp'
  have ts := q_neK kt ks' (by simp)
  have tp := q_neK kt kp' (by simp)
  have hsp := q_neK ks' kp' (by simp)
  rw [eX2_size]
  simp (disch := first | assumption | omega | (simp only [q_kd_wr, q_fv_wrE, q_top_wr, q_nc_wr, q_ns_wr, q_gs_wr, q_kd_al, q_fv_al, q_top_al, q_nc_al, q_ns_al, q_gs_al, q_kd_cp, q_fv_cpE, q_top_cp, q_nc_cp, q_ns_cp, q_gs_cp]; first | done | assumption | omega)) only [kX2_size_0, kX2_size_1, kX2_size_4, f2]
  exact hP
theorem sX2_at {d : Nat} {M : QM} {t s p cap : Nat} {l : List (Int × Int)} {day : Int} (hT : NM M t s p cap l) (h1 : -2147483648 ≤ day) (h2 : day < 2147483648) {P : QP} (hP : P (some (ql (nmAt l day))) M) : q_T (d + 1) iX2_at [qr t, qi day] M P := by
  obtain ⟨kt, f0, f1, f2, ks', kp', hl, hc4, hc, he, hz⟩ := hT
  have ks : (q_kd _ s).1 = 2 := congrArg Prod.fst ks'
  have ks2 : (q_kd _ s).2 = cap := congrArg Prod.snd ks'
  have kp : (q_kd _ p).1 = 3 := congrArg Prod.fst kp'
  have kp2 : (q_kd _ p).2 = cap := congrArg Prod.snd kp'
  have ts := q_neK kt ks' (by simp)
  have tp := q_neK kt kp' (by simp)
  have hsp := q_neK ks' kp' (by simp)
  have loop : ∀ k : Nat, k ≤ l.length → nmAt (l.take k) day = nmAt l day → Rr (q_C d) mX2_at (7, [some (qr t), some (qi day), some (qi ((k : Int) - 1))], [], M) P := by
    intro k
    induction k with
    | zero =>
      intro _ ha
      simp (disch := first | assumption | omega | (simp only [q_kd_wr, q_fv_wrE, q_top_wr, q_nc_wr, q_ns_wr, q_gs_wr, q_kd_al, q_fv_al, q_top_al, q_nc_al, q_ns_al, q_gs_al, q_kd_cp, q_fv_cpE, q_top_cp, q_nc_cp, q_ns_cp, q_gs_cp]; first | done | assumption | omega)) only [kX2_at_7, kX2_at_8, kX2_at_11, kX2_at_12, kX2_at_15, kX2_at_16, kX2_at_17, kX2_at_18, kX2_at_21, kX2_at_22, kX2_at_25, kX2_at_26, kX2_at_27, kX2_at_28, kX2_at_31, kX2_at_34, kX2_at_35, q_cut_i, q_cut_r, q_cut_l, q_cut_n, if_pos, if_neg]
      simp [nmAt] at ha
      simpa [nmAt, ← ha] using hP
    | succ k ih =>
      intro hk ha
      obtain ⟨e1, e2, e3, e4⟩ := he k (by omega)
      have e : (((k + 1 : Nat) : Int) - 1) = (k : Int) := by omega
      have hsn : l.take (k + 1) = l.take k ++ [l[k]] := by rw [List.take_add_one]; simp [List.getElem?_eq_getElem (by omega : k < l.length)]
      rw [hsn, nmAt_snoc] at ha
      rw [e]
      by_cases hq : l[k].1 ≤ day
      · rw [if_pos hq] at ha
        simp (disch := first | assumption | omega | (simp only [q_kd_wr, q_fv_wrE, q_top_wr, q_nc_wr, q_ns_wr, q_gs_wr, q_kd_al, q_fv_al, q_top_al, q_nc_al, q_ns_al, q_gs_al, q_kd_cp, q_fv_cpE, q_top_cp, q_nc_cp, q_ns_cp, q_gs_cp]; first | done | assumption | omega)) only [kX2_at_0, kX2_at_1, kX2_at_4, kX2_at_5, kX2_at_6, kX2_at_7, kX2_at_8, kX2_at_11, kX2_at_12, kX2_at_15, kX2_at_16, kX2_at_17, kX2_at_18, kX2_at_21, kX2_at_22, kX2_at_25, kX2_at_26, kX2_at_27, kX2_at_28, kX2_at_31, kX2_at_34, kX2_at_35, q_cut_i, q_cut_r, q_cut_l, q_cut_n, if_pos, if_neg, q_toN, f0, f1, f2, e1, e2]
        rw [ha]; exact hP
      · rw [if_neg hq] at ha
        rw [kX2_at_7]
        simp (disch := first | assumption | omega | (simp only [q_kd_wr, q_fv_wrE, q_top_wr, q_nc_wr, q_ns_wr, q_gs_wr, q_kd_al, q_fv_al, q_top_al, q_nc_al, q_ns_al, q_gs_al, q_kd_cp, q_fv_cpE, q_top_cp, q_nc_cp, q_ns_cp, q_gs_cp]; first | done | assumption | omega)) only [kX2_at_8, kX2_at_11, kX2_at_12, kX2_at_15, kX2_at_16, kX2_at_17, kX2_at_18, kX2_at_21, kX2_at_22, kX2_at_25, kX2_at_26, kX2_at_27, kX2_at_28, kX2_at_31, q_cut_i, q_cut_r, q_cut_l, q_cut_n, if_pos, if_neg, q_toN, f0, f1, f2, e1, e2]
        exact ih (by omega) ha
  rw [eX2_at]
  simp (disch := first | assumption | omega | (simp only [q_kd_wr, q_fv_wrE, q_top_wr, q_nc_wr, q_ns_wr, q_gs_wr, q_kd_al, q_fv_al, q_top_al, q_nc_al, q_ns_al, q_gs_al, q_kd_cp, q_fv_cpE, q_top_cp, q_nc_cp, q_ns_cp, q_gs_cp]; first | done | assumption | omega)) only [kX2_at_0, kX2_at_1, kX2_at_4, kX2_at_5, kX2_at_6, q_cut_i, q_cut_r, q_cut_l, q_cut_n, if_pos, if_neg, f0, f1, f2]
  exact loop l.length (Nat.le_refl _) (by rw [List.take_length])
theorem sX2_dayOf {d : Nat} {M : QM} {t s p cap : Nat} {l : List (Int × Int)} {i : Nat} (hT : NM M t s p cap l) (hi : i < l.length) {P : QP} (hP : P (some (qi l[i].1)) M) : q_T (d + 1) iX2_dayOf [qr t, qi i] M P := by
  obtain ⟨kt, f0, f1, f2, ks', kp', hl, hc4, hc, he, hz⟩ := hT
  have ks : (q_kd _ s).1 = 2 := congrArg Prod.fst ks'
  have ks2 : (q_kd _ s).2 = cap := congrArg Prod.snd ks'
  have kp : (q_kd _ p).1 = 3 := congrArg Prod.fst kp'
  have kp2 : (q_kd _ p).2 = cap := congrArg Prod.snd kp'
  have ts := q_neK kt ks' (by simp)
  have tp := q_neK kt kp' (by simp)
  have hsp := q_neK ks' kp' (by simp)
  obtain ⟨e1, e2, e3, e4⟩ := he i hi
  rw [eX2_dayOf]
  simp (disch := first | assumption | omega | (simp only [q_kd_wr, q_fv_wrE, q_top_wr, q_nc_wr, q_ns_wr, q_gs_wr, q_kd_al, q_fv_al, q_top_al, q_nc_al, q_ns_al, q_gs_al, q_kd_cp, q_fv_cpE, q_top_cp, q_nc_cp, q_ns_cp, q_gs_cp]; first | done | assumption | omega)) only [kX2_dayOf_0, kX2_dayOf_1, kX2_dayOf_4, kX2_dayOf_5, kX2_dayOf_6, kX2_dayOf_9, kX2_dayOf_12, kX2_dayOf_13, kX2_dayOf_16, kX2_dayOf_17, kX2_dayOf_18, kX2_dayOf_21, kX2_dayOf_23, q_cut_i, q_cut_r, q_cut_l, q_cut_n, if_pos, if_neg, q_toN, f0, f1, f2, e1, e2]
  exact hP
theorem sX2_wordOf {d : Nat} {M : QM} {t s p cap : Nat} {l : List (Int × Int)} {i : Nat} (hT : NM M t s p cap l) (hi : i < l.length) {P : QP} (hP : P (some (ql l[i].2)) M) : q_T (d + 1) iX2_wordOf [qr t, qi i] M P := by
  obtain ⟨kt, f0, f1, f2, ks', kp', hl, hc4, hc, he, hz⟩ := hT
  have ks : (q_kd _ s).1 = 2 := congrArg Prod.fst ks'
  have ks2 : (q_kd _ s).2 = cap := congrArg Prod.snd ks'
  have kp : (q_kd _ p).1 = 3 := congrArg Prod.fst kp'
  have kp2 : (q_kd _ p).2 = cap := congrArg Prod.snd kp'
  have ts := q_neK kt ks' (by simp)
  have tp := q_neK kt kp' (by simp)
  have hsp := q_neK ks' kp' (by simp)
  obtain ⟨e1, e2, e3, e4⟩ := he i hi
  rw [eX2_wordOf]
  simp (disch := first | assumption | omega | (simp only [q_kd_wr, q_fv_wrE, q_top_wr, q_nc_wr, q_ns_wr, q_gs_wr, q_kd_al, q_fv_al, q_top_al, q_nc_al, q_ns_al, q_gs_al, q_kd_cp, q_fv_cpE, q_top_cp, q_nc_cp, q_ns_cp, q_gs_cp]; first | done | assumption | omega)) only [kX2_wordOf_0, kX2_wordOf_1, kX2_wordOf_4, kX2_wordOf_5, kX2_wordOf_6, kX2_wordOf_9, kX2_wordOf_12, kX2_wordOf_13, kX2_wordOf_16, kX2_wordOf_17, kX2_wordOf_18, kX2_wordOf_21, kX2_wordOf_22, q_cut_i, q_cut_r, q_cut_l, q_cut_n, if_pos, if_neg, q_toN, f0, f1, f2, e1, e2]
  exact hP
def nmDays (l : List (Int × Int)) (i : Nat) (e : Int) : Int := (if h : i + 1 < l.length then l[i + 1].1 else e) - (l.getD i (0, 0)).1
theorem sX2_daysOf {d : Nat} {M : QM} {t s p cap : Nat} {l : List (Int × Int)} {i : Nat} {e : Int} (hT : NM M t s p cap l) (hi : i < l.length) {P : QP} (hP : P (some (qi (nmDays l i e))) M) : q_T (d + 2) iX2_daysOf [qr t, qi i, qi e] M P := by
  have hT' := hT
  obtain ⟨kt, f0, f1, f2, ks', kp', hl, hc4, hc, he, hz⟩ := hT
  have ks : (q_kd _ s).1 = 2 := congrArg Prod.fst ks'
  have ks2 : (q_kd _ s).2 = cap := congrArg Prod.snd ks'
  have kp : (q_kd _ p).1 = 3 := congrArg Prod.fst kp'
  have kp2 : (q_kd _ p).2 = cap := congrArg Prod.snd kp'
  have ts := q_neK kt ks' (by simp)
  have tp := q_neK kt kp' (by simp)
  have hsp := q_neK ks' kp' (by simp)
  have hg : l.getD i (0, 0) = l[i] := by simp [List.getD_eq_getElem?_getD, List.getElem?_eq_getElem hi]
  unfold nmDays at hP
  rw [hg] at hP
  have en : ((i : Int) + 1) = ((i + 1 : Nat) : Int) := by omega
  rw [eX2_daysOf]
  by_cases hq : i + 1 < l.length
  · rw [dif_pos hq] at hP
    simp (disch := first | assumption | omega | (simp only [q_kd_wr, q_fv_wrE, q_top_wr, q_nc_wr, q_ns_wr, q_gs_wr, q_kd_al, q_fv_al, q_top_al, q_nc_al, q_ns_al, q_gs_al, q_kd_cp, q_fv_cpE, q_top_cp, q_nc_cp, q_ns_cp, q_gs_cp]; first | done | assumption | omega)) only [kX2_daysOf_0, kX2_daysOf_1, kX2_daysOf_2, kX2_daysOf_3, kX2_daysOf_4, kX2_daysOf_7, kX2_daysOf_10, kX2_daysOf_11, kX2_daysOf_12, kX2_daysOf_13, q_cut_i, q_cut_r, q_cut_l, q_cut_n, if_pos, if_neg, q_toN, f0, f1, f2]
    rw [en]
    refine kX2_daysOf_14 kt (q_Tx (sX2_dayOf hT' hq ⟨rfl, rfl⟩)) (Nat.le_of_ble_eq_true rfl) ?_
    simp (disch := first | assumption | omega | (simp only [q_kd_wr, q_fv_wrE, q_top_wr, q_nc_wr, q_ns_wr, q_gs_wr, q_kd_al, q_fv_al, q_top_al, q_nc_al, q_ns_al, q_gs_al, q_kd_cp, q_fv_cpE, q_top_cp, q_nc_cp, q_ns_cp, q_gs_cp]; first | done | assumption | omega)) only [kX2_daysOf_17, kX2_daysOf_20, kX2_daysOf_21, kX2_daysOf_22, q_cut_i, q_cut_r, q_cut_l, q_cut_n, if_pos, if_neg]
    refine kX2_daysOf_23 kt (q_Tx (sX2_dayOf hT' hi ⟨rfl, rfl⟩)) (Nat.le_of_ble_eq_true rfl) ?_
    simp (disch := first | assumption | omega | (simp only [q_kd_wr, q_fv_wrE, q_top_wr, q_nc_wr, q_ns_wr, q_gs_wr, q_kd_al, q_fv_al, q_top_al, q_nc_al, q_ns_al, q_gs_al, q_kd_cp, q_fv_cpE, q_top_cp, q_nc_cp, q_ns_cp, q_gs_cp]; first | done | assumption | omega)) only [kX2_daysOf_26, kX2_daysOf_27]
    exact hP
  · rw [dif_neg hq] at hP
    simp (disch := first | assumption | omega | (simp only [q_kd_wr, q_fv_wrE, q_top_wr, q_nc_wr, q_ns_wr, q_gs_wr, q_kd_al, q_fv_al, q_top_al, q_nc_al, q_ns_al, q_gs_al, q_kd_cp, q_fv_cpE, q_top_cp, q_nc_cp, q_ns_cp, q_gs_cp]; first | done | assumption | omega)) only [kX2_daysOf_0, kX2_daysOf_1, kX2_daysOf_2, kX2_daysOf_3, kX2_daysOf_4, kX2_daysOf_7, kX2_daysOf_10, kX2_daysOf_11, kX2_daysOf_12, kX2_daysOf_13, kX2_daysOf_20, kX2_daysOf_21, kX2_daysOf_22, q_cut_i, q_cut_r, q_cut_l, q_cut_n, if_pos, if_neg, q_toN, f0, f1, f2]
    refine kX2_daysOf_23 kt (q_Tx (sX2_dayOf hT' hi ⟨rfl, rfl⟩)) (Nat.le_of_ble_eq_true rfl) ?_
    simp (disch := first | assumption | omega | (simp only [q_kd_wr, q_fv_wrE, q_top_wr, q_nc_wr, q_ns_wr, q_gs_wr, q_kd_al, q_fv_al, q_top_al, q_nc_al, q_ns_al, q_gs_al, q_kd_cp, q_fv_cpE, q_top_cp, q_nc_cp, q_ns_cp, q_gs_cp]; first | done | assumption | omega)) only [kX2_daysOf_26, kX2_daysOf_27]
    exact hP
theorem sX2_begin {d : Nat} {M : QM} {t s p cap : Nat} {l : List (Int × Int)} {day w : Int} (hT : NM M t s p cap l) (h1 : -100000 ≤ day ∧ day ≤ 100000) {P : QP} (hP : ∀ M', NM M' t s p cap [(day, w)] → q_fr (fun a => a = t ∨ a = s ∨ a = p) M M' → q_qt M M' → P none M') : q_T (d + 1) iX2_begin [qr t, qi day, ql w] M P := by
  obtain ⟨kt, f0, f1, f2, ks', kp', hl, hc4, hc, he, hz⟩ := hT
  have ks : (q_kd _ s).1 = 2 := congrArg Prod.fst ks'
  have ks2 : (q_kd _ s).2 = cap := congrArg Prod.snd ks'
  have kp : (q_kd _ p).1 = 3 := congrArg Prod.fst kp'
  have kp2 : (q_kd _ p).2 = cap := congrArg Prod.snd kp'
  have ts := q_neK kt ks' (by simp)
  have tp := q_neK kt kp' (by simp)
  have hsp := q_neK ks' kp' (by simp)
  rw [eX2_begin]
  simp (disch := first | assumption | omega | (simp only [q_kd_wr, q_fv_wrE, q_top_wr, q_nc_wr, q_ns_wr, q_gs_wr, q_kd_al, q_fv_al, q_top_al, q_nc_al, q_ns_al, q_gs_al, q_kd_cp, q_fv_cpE, q_top_cp, q_nc_cp, q_ns_cp, q_gs_cp]; first | done | assumption | omega)) only [kX2_begin_0, kX2_begin_1, kX2_begin_4, kX2_begin_5, kX2_begin_6, kX2_begin_7, kX2_begin_8, kX2_begin_11, kX2_begin_12, kX2_begin_13, kX2_begin_14, kX2_begin_15, kX2_begin_16, kX2_begin_19, q_cut_i, q_cut_r, q_cut_l, q_cut_n, if_pos, if_neg, q_kd_wr, q_fv_wrE, q_top_wr, q_nc_wr, q_ns_wr, q_gs_wr, q_kd_al, q_fv_al, q_top_al, q_nc_al, q_ns_al, q_gs_al, q_kd_cp, q_fv_cpE, q_top_cp, q_nc_cp, q_ns_cp, q_gs_cp, f0, f1, f2, ts, ts.symm, tp, tp.symm, hsp, hsp.symm, false_and, if_false, Int.toNat_zero]
  refine hP _ ⟨kt, ?_, ?_, ?_, ks', kp', by simp; omega, hc4, hc, ?_, ?_⟩ ?_ ((q_qt.wr.tr q_qt.wr).tr q_qt.wr)
  · simp [q_fv_wrE, ts, tp, f0]
  · simp [q_fv_wrE, ts, tp, f1]
  · simp [q_fv_wrE]
  · intro i hi
    have : i = 0 := by simpa using hi
    subst this
    simp [q_fv_wrE, ts.symm, tp.symm, hsp, h1]
  · intro i hi
    obtain ⟨⟨z1, e1⟩, z2, e2⟩ := hz i hi
    simp only [q_fv_wrE, ts.symm, tp.symm, hsp, hsp.symm, false_and, if_false, e1, e2]
    exact ⟨by split <;> exact ⟨_, rfl⟩, by split <;> exact ⟨_, rfl⟩⟩
  · exact ((q_fr.wr (by simp)).tr (q_fr.wr (by simp))).tr (q_fr.wr (by simp))
def q_gr (M M' : QM) (cap cap' : Nat) : Prop := cap ≤ cap' ∧ q_nc M' + cap ≤ q_nc M + cap' ∧ q_ns M' + 4 * cap ≤ q_ns M + 4 * cap'
theorem nm_room {C : QC} {M : QM} {t s p cap : Nat} {l : List (Int × Int)} {day w : Int} (hT : NM M t s p cap l) (hlt : l.length < cap) (h1 : -100000 ≤ day ∧ day ≤ 100000) {P : QP} (hP : ∀ M', NM M' t s p cap (l ++ [(day, w)]) → q_fr (fun a => a = t ∨ a = s ∨ a = p) M M' → q_qt M M' → P none M') : Rr C mX2_append (50, [some (qr t), some (qi day), some (ql w), none], [], M) P := by
  obtain ⟨kt, f0, f1, f2, ks', kp', hl, hc4, hc, he, hz⟩ := hT
  have ks : (q_kd _ s).1 = 2 := congrArg Prod.fst ks'
  have ks2 : (q_kd _ s).2 = cap := congrArg Prod.snd ks'
  have kp : (q_kd _ p).1 = 3 := congrArg Prod.fst kp'
  have kp2 : (q_kd _ p).2 = cap := congrArg Prod.snd kp'
  have ts := q_neK kt ks' (by simp)
  have tp := q_neK kt kp' (by simp)
  have hsp := q_neK ks' kp' (by simp)
  simp (disch := first | assumption | omega | (simp only [q_kd_wr, q_fv_wrE, q_top_wr, q_nc_wr, q_ns_wr, q_gs_wr, q_kd_al, q_fv_al, q_top_al, q_nc_al, q_ns_al, q_gs_al, q_kd_cp, q_fv_cpE, q_top_cp, q_nc_cp, q_ns_cp, q_gs_cp]; first | done | assumption | omega)) only [kX2_append_50, kX2_append_51, kX2_append_54, kX2_append_55, kX2_append_58, kX2_append_59, kX2_append_60, kX2_append_61, kX2_append_64, kX2_append_65, kX2_append_68, kX2_append_69, kX2_append_70, kX2_append_71i, kX2_append_71r, kX2_append_72, kX2_append_75, kX2_append_76, kX2_append_77, kX2_append_80, q_cut_i, q_cut_r, q_cut_l, q_cut_n, if_pos, if_neg, q_kd_wr, q_fv_wrE, q_top_wr, q_nc_wr, q_ns_wr, q_gs_wr, q_kd_al, q_fv_al, q_top_al, q_nc_al, q_ns_al, q_gs_al, q_kd_cp, q_fv_cpE, q_top_cp, q_nc_cp, q_ns_cp, q_gs_cp, f0, f1, f2, ts, ts.symm, tp, tp.symm, hsp, hsp.symm, false_and, if_false, q_toN]
  refine hP _ ⟨kt, ?_, ?_, ?_, ks', kp', by simp; omega, hc4, hc, ?_, ?_⟩ ?_ ((q_qt.wr.tr q_qt.wr).tr q_qt.wr)
  · simp [q_fv_wrE, ts, tp, f0]
  · simp [q_fv_wrE, ts, tp, f1]
  · simp [q_fv_wrE]
  · intro i hi
    rw [List.length_append, List.length_singleton] at hi
    by_cases hil : i < l.length
    · obtain ⟨e1, e2, e3, e4⟩ := he i hil
      have : i ≠ l.length := by omega
      simp [q_fv_wrE, ts.symm, tp.symm, hsp, hsp.symm, this, e1, e2, e3, e4, List.getElem_append_left hil]
    · have : i = l.length := by omega
      subst this
      simp [q_fv_wrE, ts.symm, tp.symm, hsp, h1]
  · intro i hi
    obtain ⟨⟨z1, e1⟩, z2, e2⟩ := hz i hi
    simp only [q_fv_wrE, ts.symm, tp.symm, hsp, hsp.symm, false_and, if_false, e1, e2]
    exact ⟨by split <;> exact ⟨_, rfl⟩, by split <;> exact ⟨_, rfl⟩⟩
  · exact ((q_fr.wr (by simp)).tr (q_fr.wr (by simp))).tr (q_fr.wr (by simp))
theorem q_gr.rf {M M' : QM} {cap : Nat} (h : q_qt M M') : q_gr M M' cap cap := ⟨Nat.le_refl _, by have := h.2.2.1; omega, by have := h.2.2.2; omega⟩
theorem q_frk {A : Nat → Prop} {M M1 : QM} (h : q_fr A M M1) {a : Nat} {x : Nat × Nat} (hw : q_wf M) (hk : q_kd M a = x) (hx : x ≠ (0, 0)) : q_kd M1 a = x := by rw [h.2.2.1 a (hw.lt (by rw [hk]; exact hx))]; exact hk
theorem q_frv {A : Nat → Prop} {M M1 : QM} (h : q_fr A M M1) {a : Nat} {x : Nat × Nat} (hw : q_wf M) (hk : q_kd M a = x) (hx : x ≠ (0, 0)) (hA : ¬ A a) (j : Nat) : q_fv M1 a j = q_fv M a j := h.2.2.2 a (hw.lt (by rw [hk]; exact hx)) hA j
set_option maxHeartbeats 1000000 in
theorem sX2_append {d : Nat} {M : QM} {t s p cap : Nat} {l : List (Int × Int)} {day w : Int} (hT : NM M t s p cap l) (hw : q_wf M) (hl9 : l.length ≤ 2000) (h1 : -100000 ≤ day ∧ day ≤ 100000) {P : QP} (hP : ∀ M' s' p' cap', NM M' t s' p' cap' (l ++ [(day, w)]) → q_fr (fun a => a = t ∨ a = s ∨ a = p) M M' → q_wf M' → q_gr M M' cap cap' → (s' = s ∨ q_top M ≤ s') → (p' = p ∨ q_top M ≤ p') → P none M') : q_T (d + 2) iX2_append [qr t, qi day, ql w] M P := by
  have hT' := hT
  obtain ⟨kt, f0, f1, f2, ks', kp', hl, hc4, hc, he, hz⟩ := hT
  have ks : (q_kd _ s).1 = 2 := congrArg Prod.fst ks'
  have ks2 : (q_kd _ s).2 = cap := congrArg Prod.snd ks'
  have kp : (q_kd _ p).1 = 3 := congrArg Prod.fst kp'
  have kp2 : (q_kd _ p).2 = cap := congrArg Prod.snd kp'
  have ts := q_neK kt ks' (by simp)
  have tp := q_neK kt kp' (by simp)
  have hsp := q_neK ks' kp' (by simp)
  rw [eX2_append]
  by_cases hq : l.length < cap
  · simp (disch := first | assumption | omega | (simp only [q_kd_wr, q_fv_wrE, q_top_wr, q_nc_wr, q_ns_wr, q_gs_wr, q_kd_al, q_fv_al, q_top_al, q_nc_al, q_ns_al, q_gs_al, q_kd_cp, q_fv_cpE, q_top_cp, q_nc_cp, q_ns_cp, q_gs_cp]; first | done | assumption | omega)) only [kX2_append_0, kX2_append_1, kX2_append_4, kX2_append_5, kX2_append_8, kX2_append_9, q_cut_i, q_cut_r, q_cut_l, q_cut_n, if_pos, if_neg, f0, f1, f2, ks2]
    exact nm_room hT' hq h1 (fun M' a b c => hP M' s p cap a b (hw.qt c) (q_gr.rf c) (Or.inl rfl) (Or.inl rfl))
  · have hcap : l.length = cap := by omega
    have e : (2 * (l.length : Int) + 1) = ((2 * cap + 1 : Nat) : Int) := by omega
    simp (disch := first | assumption | omega | (simp only [q_kd_wr, q_fv_wrE, q_top_wr, q_nc_wr, q_ns_wr, q_gs_wr, q_kd_al, q_fv_al, q_top_al, q_nc_al, q_ns_al, q_gs_al, q_kd_cp, q_fv_cpE, q_top_cp, q_nc_cp, q_ns_cp, q_gs_cp]; first | done | assumption | omega)) only [kX2_append_0, kX2_append_1, kX2_append_4, kX2_append_5, kX2_append_8, kX2_append_9, kX2_append_12, kX2_append_13, kX2_append_14, kX2_append_17, kX2_append_18, kX2_append_19, kX2_append_22, kX2_append_23, kX2_append_24, q_cut_i, q_cut_r, q_cut_l, q_cut_n, if_pos, if_neg, f0, f1, f2, ks2, e]
    obtain ⟨M1, hc1, c1, c2, c3, c4, c5, c6, c7⟩ := sJ7_copyOfI2 (d := d) (n := 2 * cap + 1) ks' hw (by omega) (by omega) (fun i hi => (hz i hi).1)
    refine kX2_append_25 hc1 (Nat.le_of_ble_eq_true rfl) ?_
    have hw1 := c7 hw
    have kt1 := q_frk c1 hw kt (by simp)
    have kp1 := q_frk c1 hw kp' (by simp)
    have g1 : q_fv M1 t 1 = qr p := (q_frv c1 hw kt (by simp) not_false 1).trans f1
    have g2 : q_fv M1 t 2 = qi l.length := (q_frv c1 hw kt (by simp) not_false 2).trans f2
    have gp : ∀ i, q_fv M1 p i = q_fv M p i := fun i => q_frv c1 hw kp' (by simp) not_false i
    have tt1 : t ≠ q_top M := by have := hw.lt (a := t) (by rw [kt]; simp); omega
    have tp1 : p ≠ q_top M := by have := hw.lt (a := p) (by rw [kp']; simp); omega
    simp (disch := first | assumption | omega | (simp only [q_kd_wr, q_fv_wrE, q_top_wr, q_nc_wr, q_ns_wr, q_gs_wr, q_kd_al, q_fv_al, q_top_al, q_nc_al, q_ns_al, q_gs_al, q_kd_cp, q_fv_cpE, q_top_cp, q_nc_cp, q_ns_cp, q_gs_cp]; first | done | assumption | omega)) only [kX2_append_28, kX2_append_31, kX2_append_32, kX2_append_33, kX2_append_36, kX2_append_37, kX2_append_38, kX2_append_41, kX2_append_42, kX2_append_43, q_cut_i, q_cut_r, q_cut_l, q_cut_n, if_pos, if_neg, q_kd_wr, q_fv_wrE, q_top_wr, q_nc_wr, q_ns_wr, q_gs_wr, q_kd_al, q_fv_al, q_top_al, q_nc_al, q_ns_al, q_gs_al, q_kd_cp, q_fv_cpE, q_top_cp, q_nc_cp, q_ns_cp, q_gs_cp, g1, g2, and_true, Nat.reduceEqDiff, and_false, if_false, e]
    obtain ⟨M3, hc3, b1, b2, b3, b4, b5, b6, b7⟩ := sJ7_copyOfJ2 (d := d) (M := q_wr M1 t 0 (qr (q_top M))) (n := 2 * cap + 1) (a := p) kp1 hw1.wr (by omega) (by omega) (fun i hi => by
      rw [q_fv_wrE, if_neg (fun q => tp q.1.symm), gp]; exact (hz i hi).2)
    refine kX2_append_44 hc3 (Nat.le_of_ble_eq_true rfl) ?_
    have hw3 := b7 hw1.wr
    have etop : q_top (q_wr M1 t 0 (qr (q_top M))) = q_top M + 1 := c3
    rw [etop] at b2 b3 b4 b5 ⊢
    have kt3 := q_frk b1 hw1.wr (a := t) kt1 (by simp)
    have ks3 : q_kd M3 (q_top M) = (2, 2 * cap + 1) := q_frk b1 hw1.wr (a := q_top M) c2 (by simp)
    simp (disch := first | assumption | omega | (simp only [q_kd_wr, q_fv_wrE, q_top_wr, q_nc_wr, q_ns_wr, q_gs_wr, q_kd_al, q_fv_al, q_top_al, q_nc_al, q_ns_al, q_gs_al, q_kd_cp, q_fv_cpE, q_top_cp, q_nc_cp, q_ns_cp, q_gs_cp]; first | done | assumption | omega)) only [kX2_append_47, q_kd_wr, q_fv_wrE, q_top_wr, q_nc_wr, q_ns_wr, q_gs_wr, q_kd_al, q_fv_al, q_top_al, q_nc_al, q_ns_al, q_gs_al, q_kd_cp, q_fv_cpE, q_top_cp, q_nc_cp, q_ns_cp, q_gs_cp]
    have v3 : ∀ j, q_fv M3 t j = if j = 0 then qr (q_top M) else q_fv M t j := fun j => by
      rw [q_frv b1 hw1.wr (a := t) kt1 (by simp) not_false j, q_fv_wrE]
      by_cases hj : j = 0
      · simp [hj]
      · simp [hj]; exact q_frv c1 hw kt (by simp) not_false j
    have s3 : ∀ j, q_fv M3 (q_top M) j = q_fv M1 (q_top M) j := fun j => by
      rw [q_frv b1 hw1.wr (a := q_top M) c2 (by simp) not_false j, q_fv_wrE, if_neg (fun q => tt1 q.1.symm)]
    have tlt := hw.lt (a := t) (by rw [kt]; simp)
    have hNM : NM (q_wr M3 t 1 (qr (q_top M + 1))) t (q_top M) (q_top M + 1) (2 * cap + 1) l := by
      refine ⟨kt3, ?_, ?_, ?_, ks3, b2, by omega, by omega, by omega, fun i hi => ?_, fun i hi => ⟨?_, ?_⟩⟩
      · rw [q_fv_wrE, if_neg (by simp), v3]; rfl
      · rw [q_fv_wrE, if_pos ⟨rfl, rfl⟩]
      · rw [q_fv_wrE, if_neg (by simp), v3]; exact f2
      · obtain ⟨e1, e2, e3, e4⟩ := he i hi
        refine ⟨?_, ?_, e3, e4⟩
        · rw [q_fv_wrE, if_neg (by omega), s3, c4 i (by omega)]; exact e1
        · rw [q_fv_wrE, if_neg (by omega), b4 i (by omega), q_fv_wrE, if_neg (fun q => tp q.1.symm), gp]; exact e2
      · rw [q_fv_wrE, if_neg (by omega), s3]
        by_cases h : i < cap
        · rw [c4 i h]; exact (hz i h).1
        · rw [c5 i (by omega)]; exact ⟨0, rfl⟩
      · rw [q_fv_wrE, if_neg (by omega)]
        by_cases h : i < cap
        · rw [b4 i h, q_fv_wrE, if_neg (fun q => tp q.1.symm), gp]; exact (hz i h).2
        · rw [b5 i (by omega)]; exact ⟨0, rfl⟩
    refine nm_room hNM (by omega) h1 (fun M' a b c => hP M' _ _ _ a ?_ (hw3.wr.qt c) ⟨by omega, ?_, ?_⟩ (Or.inr (Nat.le_refl _)) (Or.inr (Nat.le_succ _)))
    · refine (((c1.wk (fun _ _ h => h.elim)).tr (q_fr.wr (Or.inl rfl))).tr (b1.wk (fun _ _ h => h.elim))).tr2 ((q_fr.wr (Or.inl rfl)).tr2 b (fun x _ h => h)) (fun x hx h => ?_)
      rcases h with h | h | h
      · exact Or.inl h
      · omega
      · omega
    · have := c.2.2.1; have := b6.1; have := c6.1
      simp only [q_nc_wr] at *
      omega
    · have := c.2.2.2; have := b6.2; have := c6.2
      simp only [q_ns_wr] at *
      omega
