/-! Timeline -/
def tlAt (l : List (Int × Int)) (d : Int) : Int := l.foldl (fun acc q => if q.1 ≤ d then q.2 else acc) (-5)
theorem tlAt_snoc (l : List (Int × Int)) (q : Int × Int) (d : Int) : tlAt (l ++ [q]) d = if q.1 ≤ d then q.2 else tlAt l d := by
  simp [tlAt, List.foldl_append]
/-- a Timeline object t, its two arrays s and p of cap places -/
def TL (M : QM) (t s p cap : Nat) (l : List (Int × Int)) : Prop :=
  q_kd M t = (1, 9) ∧ q_fv M t 0 = qr s ∧ q_fv M t 1 = qr p ∧ q_fv M t 2 = qi l.length ∧ (q_kd M s).1 = 2 ∧ (q_kd M s).2 = cap ∧ (q_kd M p).1 = 2 ∧ (q_kd M p).2 = cap ∧ l.length ≤ cap ∧ cap ≤ 2000 ∧
  (∀ i (h : i < l.length), q_fv M s i = qi l[i].1 ∧ q_fv M p i = qi l[i].2 ∧ -100000 ≤ l[i].1 ∧ l[i].1 ≤ 100000)
theorem sX9_at {d : Nat} {M : QM} {t s p cap : Nat} {l : List (Int × Int)} {day : Int} (hT : TL M t s p cap l) (h1 : -2147483648 ≤ day) (h2 : day < 2147483648) {P : QP} (hP : P (some (qi (tlAt l day))) M) : q_T (d + 1) iX9_at [qr t, qi day] M P := by
  obtain ⟨kt, f0, f1, f2, ks, ks2, kp, kp2, hl, hc, he⟩ := hT
  have loop : ∀ k : Nat, k ≤ l.length → tlAt (l.take k) day = tlAt l day → Rr (q_C d) mX9_at (7, [some (qr t), some (qi day), some (qi ((k : Int) - 1))], [], M) P := by
    intro k
    induction k with
    | zero =>
      intro _ ha
      simp (disch := first | assumption | omega | (simp only [q_kd_wr, q_fv_wrE, q_top_wr, q_nc_wr, q_ns_wr, q_gs_wr, q_kd_al, q_fv_al, q_top_al, q_nc_al, q_ns_al, q_gs_al, q_kd_cp, q_fv_cpE, q_top_cp, q_nc_cp, q_ns_cp, q_gs_cp]; first | done | assumption | omega)) only [kX9_at_7, kX9_at_8, kX9_at_11, kX9_at_12, kX9_at_15, kX9_at_16, kX9_at_17, kX9_at_18, kX9_at_21, kX9_at_22, kX9_at_25, kX9_at_26, kX9_at_27, kX9_at_28, kX9_at_31, kX9_at_34, kX9_at_36, q_cut_i, q_cut_r, q_cut_l, q_cut_n, if_pos, if_neg]
      simp [tlAt] at ha
      simpa [tlAt, ← ha] using hP
    | succ k ih =>
      intro hk ha
      obtain ⟨e1, e2, e3, e4⟩ := he k (by omega)
      have e : (((k + 1 : Nat) : Int) - 1) = (k : Int) := by omega
      have hsn : l.take (k + 1) = l.take k ++ [l[k]] := by rw [List.take_add_one]; simp [List.getElem?_eq_getElem (by omega : k < l.length)]
      rw [hsn, tlAt_snoc] at ha
      rw [e]
      by_cases hq : l[k].1 ≤ day
      · rw [if_pos hq] at ha
        simp (disch := first | assumption | omega | (simp only [q_kd_wr, q_fv_wrE, q_top_wr, q_nc_wr, q_ns_wr, q_gs_wr, q_kd_al, q_fv_al, q_top_al, q_nc_al, q_ns_al, q_gs_al, q_kd_cp, q_fv_cpE, q_top_cp, q_nc_cp, q_ns_cp, q_gs_cp]; first | done | assumption | omega)) only [kX9_at_0, kX9_at_1, kX9_at_4, kX9_at_5, kX9_at_6, kX9_at_7, kX9_at_8, kX9_at_11, kX9_at_12, kX9_at_15, kX9_at_16, kX9_at_17, kX9_at_18, kX9_at_21, kX9_at_22, kX9_at_25, kX9_at_26, kX9_at_27, kX9_at_28, kX9_at_31, kX9_at_34, kX9_at_36, q_cut_i, q_cut_r, q_cut_l, q_cut_n, if_pos, if_neg, q_toN, f0, f1, f2, e1, e2]
        rw [ha]; exact hP
      · rw [if_neg hq] at ha
        simp (disch := first | assumption | omega | (simp only [q_kd_wr, q_fv_wrE, q_top_wr, q_nc_wr, q_ns_wr, q_gs_wr, q_kd_al, q_fv_al, q_top_al, q_nc_al, q_ns_al, q_gs_al, q_kd_cp, q_fv_cpE, q_top_cp, q_nc_cp, q_ns_cp, q_gs_cp]; first | done | assumption | omega)) only [kX9_at_8, kX9_at_11, kX9_at_12, kX9_at_15, kX9_at_16, kX9_at_17, kX9_at_18, kX9_at_21, kX9_at_22, kX9_at_25, kX9_at_26, kX9_at_27, kX9_at_28, kX9_at_31, q_cut_i, q_cut_r, q_cut_l, q_cut_n, if_pos, if_neg, q_toN, f0, f1, f2, e1, e2]
        exact ih (by omega) ha
  rw [eX9_at]
  simp (disch := first | assumption | omega | (simp only [q_kd_wr, q_fv_wrE, q_top_wr, q_nc_wr, q_ns_wr, q_gs_wr, q_kd_al, q_fv_al, q_top_al, q_nc_al, q_ns_al, q_gs_al, q_kd_cp, q_fv_cpE, q_top_cp, q_nc_cp, q_ns_cp, q_gs_cp]; first | done | assumption | omega)) only [kX9_at_0, kX9_at_1, kX9_at_4, kX9_at_5, kX9_at_6, q_cut_i, q_cut_r, q_cut_l, q_cut_n, if_pos, if_neg, f0, f1, f2]
  exact loop l.length (Nat.le_refl _) (by rw [List.take_length])
