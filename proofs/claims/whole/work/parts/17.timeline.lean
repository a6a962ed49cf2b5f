/-! frames; copies of arrays; Timeline -/
def q_fr (A : Nat → Prop) (M M' : QM) : Prop := q_top M ≤ q_top M' ∧ q_gs M' = q_gs M ∧ (∀ a, a < q_top M → q_kd M' a = q_kd M a) ∧ ∀ a, a < q_top M → ¬ A a → ∀ j, q_fv M' a j = q_fv M a j
def q_wf (M : QM) : Prop := ∀ a, q_top M ≤ a → q_kd M a = (0, 0)
theorem q_wf.lt {M : QM} (h : q_wf M) {a : Nat} (ha : q_kd M a ≠ (0, 0)) : a < q_top M := by
  rcases Nat.lt_or_ge a (q_top M) with q | q
  · exact q
  · exact absurd (h a q) ha
theorem q_wf.lt1 {M : QM} (h : q_wf M) {a : Nat} (ha : 1 ≤ (q_kd M a).1) : a < q_top M := h.lt (fun q => by rw [q] at ha; simp at ha)
theorem q_fr.rf {A : Nat → Prop} {M : QM} : q_fr A M M := ⟨Nat.le_refl _, rfl, fun _ _ => rfl, fun _ _ _ _ => rfl⟩
theorem q_fr.tr {A : Nat → Prop} {M M1 M2 : QM} (h1 : q_fr A M M1) (h2 : q_fr A M1 M2) : q_fr A M M2 :=
  ⟨Nat.le_trans h1.1 h2.1, h2.2.1.trans h1.2.1, fun a h => (h2.2.2.1 a (Nat.lt_of_lt_of_le h h1.1)).trans (h1.2.2.1 a h), fun a h hA j => (h2.2.2.2 a (Nat.lt_of_lt_of_le h h1.1) hA j).trans (h1.2.2.2 a h hA j)⟩
theorem q_fr.tr2 {A B : Nat → Prop} {M M1 M2 : QM} (h1 : q_fr A M M1) (h2 : q_fr B M1 M2) (hB : ∀ a, a < q_top M → B a → A a) : q_fr A M M2 :=
  ⟨Nat.le_trans h1.1 h2.1, h2.2.1.trans h1.2.1, fun a h => (h2.2.2.1 a (Nat.lt_of_lt_of_le h h1.1)).trans (h1.2.2.1 a h), fun a h hA j => (h2.2.2.2 a (Nat.lt_of_lt_of_le h h1.1) (fun hb => hA (hB a h hb)) j).trans (h1.2.2.2 a h hA j)⟩
theorem q_fr.wk {A B : Nat → Prop} {M M1 : QM} (h1 : q_fr A M M1) (hB : ∀ a, a < q_top M → A a → B a) : q_fr B M M1 := ⟨h1.1, h1.2.1, h1.2.2.1, fun a h hA => h1.2.2.2 a h (fun q => hA (hB a h q))⟩
theorem q_fr.wr {A : Nat → Prop} {M : QM} {a k : Nat} {v : CV} (h : A a) : q_fr A M (q_wr M a k v) :=
  ⟨Nat.le_refl _, rfl, fun _ _ => rfl, fun b _ hb j => by rw [q_fv_wrE, if_neg]; rintro ⟨rfl, -⟩; exact hb h⟩
theorem q_fr.al {A : Nat → Prop} {M : QM} {kd : Nat × Nat} {n : Nat} {f : Nat → CV} : q_fr A M (q_al M kd n f) :=
  ⟨Nat.le_succ _, rfl, fun b hb => by rw [q_kd_al, if_neg (by omega)], fun b hb _ j => by rw [q_fv_al, if_neg (by omega)]⟩
theorem q_fr.cp {A : Nat → Prop} {M : QM} {a0 sp a dp n : Nat} (h : A a ∨ q_top M ≤ a) : q_fr A M (q_cp M a0 sp a dp n) :=
  ⟨Nat.le_refl _, rfl, fun _ _ => rfl, fun b hb hA j => by
    rw [q_fv_cpE, if_neg]
    rintro ⟨rfl, -⟩
    rcases h with h | h
    · exact hA h
    · omega⟩
theorem q_wf.wr {M : QM} (h : q_wf M) {a k : Nat} {v : CV} : q_wf (q_wr M a k v) := h
theorem q_wf.cp {M : QM} (h : q_wf M) {a0 sp a dp n : Nat} : q_wf (q_cp M a0 sp a dp n) := h
theorem q_wf.al {M : QM} (h : q_wf M) {kd : Nat × Nat} {n : Nat} {f : Nat → CV} : q_wf (q_al M kd n f) := by
  intro a ha
  rw [q_top_al] at ha
  rw [q_kd_al, if_neg (by omega)]
  exact h a (by omega)
theorem q_ac2ok {M : QM} {a cap n t : Nat} {z : CV} (ht : 2 ≤ t ∧ t ≤ 5) (hk : q_kd M a = (t, cap)) (hat : a < q_top M) (hcap : cap ≤ n) (he : ∀ i, i < cap → q_elok t (q_al M (t, n) n (fun _ => z)) (q_fv M a i) = true) : q_acc (q_al M (t, n) n (fun _ => z)) a (q_top M) 0 0 (cap : Int) = true := by
  have k1 : q_kd (q_al M (t, n) n (fun _ => z)) a = (t, cap) := by rw [q_kd_al, if_neg (by omega)]; exact hk
  have k2 : q_kd (q_al M (t, n) n (fun _ => z)) (q_top M) = (t, n) := by rw [q_kd_al, if_pos rfl]
  unfold q_acc
  rw [Bool.and_eq_true, decide_eq_true_eq, k1, k2]
  refine ⟨⟨rfl, ht.1, ht.2, by omega, by omega, by omega, by show (0 : Int) + cap ≤ cap; omega, by show (0 : Int) + cap ≤ n; omega⟩, ?_⟩
  rw [List.all_eq_true]
  intro i hi
  have hi := List.mem_range.mp hi
  have hi : i < cap := by simpa using hi
  rw [q_fv_al, if_neg (by omega)]
  simpa using he i hi
theorem sJ7_copyOfI {d : Nat} {M : QM} {a n cap : Nat} (hk : q_kd M a = (2, cap)) (hat : a < q_top M) (hcap : cap < n) (hn : n ≤ 60000) (he : ∀ i, i < cap → ∃ z, q_fv M a i = qi z) {P : QP} (hP : P (some (qr (q_top M))) (q_cp (q_al M (2, n) n (fun _ => qi 0)) a 0 (q_top M) 0 cap)) : q_T (d + 1) iJ7_copyOf_59c91 [qr a, qi n] M P := by
  have k0 : (q_kd M a).1 = 2 := by rw [hk]
  have k02 : (q_kd M a).2 = cap := by rw [hk]
  have k1 : q_kd (q_al M (2, n) n (fun _ => qi 0)) a = (2, cap) := by rw [q_kd_al, if_neg (by omega)]; exact hk
  have k11 : (q_kd (q_al M (2, n) n (fun _ => qi 0)) a).1 = 2 := by rw [k1]
  have k12 : (q_kd (q_al M (2, n) n (fun _ => qi 0)) a).2 = cap := by rw [k1]
  have hac := q_ac2ok (z := qi 0) (by decide) hk hat (Nat.le_of_lt hcap) (fun i hi => by obtain ⟨z, hz⟩ := he i hi; rw [hz]; rfl)
  rw [eJ7_copyOf_59c91]
  simp (disch := first | assumption | omega | (simp only [q_kd_wr, q_fv_wrE, q_top_wr, q_nc_wr, q_ns_wr, q_gs_wr, q_kd_al, q_fv_al, q_top_al, q_nc_al, q_ns_al, q_gs_al, q_kd_cp, q_fv_cpE, q_top_cp, q_nc_cp, q_ns_cp, q_gs_cp]; first | done | assumption | omega)) only [kJ7_copyOf_59c91_0, kJ7_copyOf_59c91_1, kJ7_copyOf_59c91_2, kJ7_copyOf_59c91_3, kJ7_copyOf_59c91_14, kJ7_copyOf_59c91_15, kJ7_copyOf_59c91_17, kJ7_copyOf_59c91_18, kJ7_copyOf_59c91_19, kJ7_copyOf_59c91_20, kJ7_copyOf_59c91_21, kJ7_copyOf_59c91_22, kJ7_copyOf_59c91_23, kJ7_copyOf_59c91_24, q_cut_i, q_cut_r, q_cut_l, q_cut_n, if_pos, if_neg, q_toN, k02, k12]
  rw [kJ7_copyOf_59c91_25 (by omega) (by omega) (by omega) (by omega) (Nat.le_of_ble_eq_true rfl), Int.min_eq_left (by omega)]
  rw [kJ7_copyOf_59c91_28 hac (Nat.le_of_ble_eq_true rfl)]
  simp (disch := first | assumption | omega | (simp only [q_kd_wr, q_fv_wrE, q_top_wr, q_nc_wr, q_ns_wr, q_gs_wr, q_kd_al, q_fv_al, q_top_al, q_nc_al, q_ns_al, q_gs_al, q_kd_cp, q_fv_cpE, q_top_cp, q_nc_cp, q_ns_cp, q_gs_cp]; first | done | assumption | omega)) only [kJ7_copyOf_59c91_31, kJ7_copyOf_59c91_32, q_toN]
  exact hP
theorem sJ7_copyOfJ {d : Nat} {M : QM} {a n cap : Nat} (hk : q_kd M a = (3, cap)) (hat : a < q_top M) (hcap : cap < n) (hn : n ≤ 60000) (he : ∀ i, i < cap → ∃ z, q_fv M a i = ql z) {P : QP} (hP : P (some (qr (q_top M))) (q_cp (q_al M (3, n) n (fun _ => ql 0)) a 0 (q_top M) 0 cap)) : q_T (d + 1) iJ7_copyOf_c38d5 [qr a, qi n] M P := by
  have k0 : (q_kd M a).1 = 3 := by rw [hk]
  have k02 : (q_kd M a).2 = cap := by rw [hk]
  have k1 : q_kd (q_al M (3, n) n (fun _ => ql 0)) a = (3, cap) := by rw [q_kd_al, if_neg (by omega)]; exact hk
  have k11 : (q_kd (q_al M (3, n) n (fun _ => ql 0)) a).1 = 3 := by rw [k1]
  have k12 : (q_kd (q_al M (3, n) n (fun _ => ql 0)) a).2 = cap := by rw [k1]
  have hac := q_ac2ok (z := ql 0) (by decide) hk hat (Nat.le_of_lt hcap) (fun i hi => by obtain ⟨z, hz⟩ := he i hi; rw [hz]; rfl)
  rw [eJ7_copyOf_c38d5]
  simp (disch := first | assumption | omega | (simp only [q_kd_wr, q_fv_wrE, q_top_wr, q_nc_wr, q_ns_wr, q_gs_wr, q_kd_al, q_fv_al, q_top_al, q_nc_al, q_ns_al, q_gs_al, q_kd_cp, q_fv_cpE, q_top_cp, q_nc_cp, q_ns_cp, q_gs_cp]; first | done | assumption | omega)) only [kJ7_copyOf_c38d5_0, kJ7_copyOf_c38d5_1, kJ7_copyOf_c38d5_2, kJ7_copyOf_c38d5_3, kJ7_copyOf_c38d5_14, kJ7_copyOf_c38d5_15, kJ7_copyOf_c38d5_17, kJ7_copyOf_c38d5_18, kJ7_copyOf_c38d5_19, kJ7_copyOf_c38d5_20, kJ7_copyOf_c38d5_21, kJ7_copyOf_c38d5_22, kJ7_copyOf_c38d5_23, kJ7_copyOf_c38d5_24, q_cut_i, q_cut_r, q_cut_l, q_cut_n, if_pos, if_neg, q_toN, k02, k12]
  rw [kJ7_copyOf_c38d5_25 (by omega) (by omega) (by omega) (by omega) (Nat.le_of_ble_eq_true rfl), Int.min_eq_left (by omega)]
  rw [kJ7_copyOf_c38d5_28 hac (Nat.le_of_ble_eq_true rfl)]
  simp (disch := first | assumption | omega | (simp only [q_kd_wr, q_fv_wrE, q_top_wr, q_nc_wr, q_ns_wr, q_gs_wr, q_kd_al, q_fv_al, q_top_al, q_nc_al, q_ns_al, q_gs_al, q_kd_cp, q_fv_cpE, q_top_cp, q_nc_cp, q_ns_cp, q_gs_cp]; first | done | assumption | omega)) only [kJ7_copyOf_c38d5_31, kJ7_copyOf_c38d5_32, q_toN]
  exact hP
def q_ct (M M' : QM) (c s : Nat) : Prop := q_nc M' = q_nc M + c ∧ q_ns M' = q_ns M + s
/-- nothing made, the kinds as they were -/
def q_qt (M M' : QM) : Prop := (∀ a, q_kd M' a = q_kd M a) ∧ q_top M' = q_top M ∧ q_ct M M' 0 0
theorem q_wf.qt {M M' : QM} (h : q_wf M) (hq : q_qt M M') : q_wf M' := fun a ha => by rw [hq.1]; exact h a (by rw [← hq.2.1]; exact ha)
theorem q_qt.rf {M : QM} : q_qt M M := ⟨fun _ => rfl, rfl, rfl, rfl⟩
theorem q_qt.tr {M M1 M2 : QM} (h : q_qt M M1) (h2 : q_qt M1 M2) : q_qt M M2 := ⟨fun a => (h2.1 a).trans (h.1 a), h2.2.1.trans h.2.1, h2.2.2.1.trans h.2.2.1, h2.2.2.2.trans h.2.2.2⟩
theorem q_qt.wr {M : QM} {a k : Nat} {v : CV} : q_qt M (q_wr M a k v) := ⟨fun _ => rfl, rfl, rfl, rfl⟩
/-- a copy that was made: of the first cap places of a, in a new array of n -/
def q_cpd (M M1 : QM) (a cap n t : Nat) (z : CV) : Prop := q_fr (fun _ => False) M M1 ∧ q_kd M1 (q_top M) = (t, n) ∧ q_top M1 = q_top M + 1 ∧ (∀ i, i < cap → q_fv M1 (q_top M) i = q_fv M a i) ∧ (∀ i, cap ≤ i → q_fv M1 (q_top M) i = z) ∧ q_ct M M1 1 n ∧ (q_wf M → q_wf M1)
theorem q_cpd_ok {M : QM} {a cap n t : Nat} {z : CV} (hat : a < q_top M) : q_cpd M (q_cp (q_al M (t, n) n (fun _ => z)) a 0 (q_top M) 0 cap) a cap n t z := by
  refine ⟨⟨Nat.le_succ _, rfl, fun b hb => ?_, fun b hb _ j => ?_⟩, ?_, rfl, fun i hi => ?_, fun i hi => ?_, ⟨rfl, rfl⟩, fun h => h.al.cp⟩
  · rw [q_kd_cp, q_kd_al, if_neg (by omega)]
  · rw [q_fv_cpE, if_neg (by omega), q_fv_al, if_neg (by omega)]
  · rw [q_kd_cp, q_kd_al, if_pos rfl]
  · rw [q_fv_cpE, if_pos (by omega), q_fv_al, if_neg (by omega)]; simp
  · rw [q_fv_cpE, if_neg (by omega), q_fv_al, if_pos rfl]
theorem sJ7_copyOfI2 {d : Nat} {M : QM} {a n cap : Nat} (hk : q_kd M a = (2, cap)) (hw : q_wf M) (hcap : cap < n) (hn : n ≤ 60000) (he : ∀ i, i < cap → ∃ z, q_fv M a i = qi z) : ∃ M1, q_C (d + 1) iJ7_copyOf_59c91 [qr a, qi n] M (some (qr (q_top M))) M1 ∧ q_cpd M M1 a cap n 2 (qi 0) := by
  have hat := hw.lt (a := a) (by rw [hk]; simp)
  exact ⟨_, q_Tx (sJ7_copyOfI hk hat hcap hn he ⟨rfl, rfl⟩), q_cpd_ok hat⟩
theorem sJ7_copyOfJ2 {d : Nat} {M : QM} {a n cap : Nat} (hk : q_kd M a = (3, cap)) (hw : q_wf M) (hcap : cap < n) (hn : n ≤ 60000) (he : ∀ i, i < cap → ∃ z, q_fv M a i = ql z) : ∃ M1, q_C (d + 1) iJ7_copyOf_c38d5 [qr a, qi n] M (some (qr (q_top M))) M1 ∧ q_cpd M M1 a cap n 3 (ql 0) := by
  have hat := hw.lt (a := a) (by rw [hk]; simp)
  exact ⟨_, q_Tx (sJ7_copyOfJ hk hat hcap hn he ⟨rfl, rfl⟩), q_cpd_ok hat⟩
def tlAt (l : List (Int × Int)) (d : Int) : Int := l.foldl (fun acc q => if q.1 ≤ d then q.2 else acc) (-5)
theorem tlAt_snoc (l : List (Int × Int)) (q : Int × Int) (d : Int) : tlAt (l ++ [q]) d = if q.1 ≤ d then q.2 else tlAt l d := by
  simp [tlAt, List.foldl_append]
/-- a Timeline object t, its two arrays s and p of cap places -/
def TL (M : QM) (t s p cap : Nat) (l : List (Int × Int)) : Prop :=
  q_kd M t = (1, 9) ∧ q_fv M t 0 = qr s ∧ q_fv M t 1 = qr p ∧ q_fv M t 2 = qi l.length ∧ q_kd M s = (2, cap) ∧ q_kd M p = (2, cap) ∧ l.length ≤ cap ∧ 4 ≤ cap ∧ cap ≤ 4200 ∧ s ≠ p ∧
  (∀ i (h : i < l.length), q_fv M s i = qi l[i].1 ∧ q_fv M p i = qi l[i].2 ∧ -100000 ≤ l[i].1 ∧ l[i].1 ≤ 100000 ∧ -100000 ≤ l[i].2 ∧ l[i].2 ≤ 100000) ∧ (∀ i, i < cap → (∃ z, q_fv M s i = qi z) ∧ ∃ z, q_fv M p i = qi z)
theorem sX9_at {d : Nat} {M : QM} {t s p cap : Nat} {l : List (Int × Int)} {day : Int} (hT : TL M t s p cap l) (h1 : -2147483648 ≤ day) (h2 : day < 2147483648) {P : QP} (hP : P (some (qi (tlAt l day))) M) : q_T (d + 1) iX9_at [qr t, qi day] M P := by
  obtain ⟨kt, f0, f1, f2, ks', kp', hl, hc4, hc, hsp, he, hz⟩ := hT
  have ks : (q_kd M s).1 = 2 := by rw [ks']
  have ks2 : (q_kd M s).2 = cap := by rw [ks']
  have kp : (q_kd M p).1 = 2 := by rw [kp']
  have kp2 : (q_kd M p).2 = cap := by rw [kp']
  have loop : ∀ k : Nat, k ≤ l.length → tlAt (l.take k) day = tlAt l day → Rr (q_C d) mX9_at (7, [some (qr t), some (qi day), some (qi ((k : Int) - 1))], [], M) P := by
    intro k
    induction k with
    | zero =>
      intro _ ha
      simp (disch := first | assumption | omega | (simp only [q_kd_wr, q_fv_wrE, q_top_wr, q_nc_wr, q_ns_wr, q_gs_wr, q_kd_al, q_fv_al, q_top_al, q_nc_al, q_ns_al, q_gs_al, q_kd_cp, q_fv_cpE, q_top_cp, q_nc_cp, q_ns_cp, q_gs_cp]; first | done | assumption | omega)) only [kX9_at_7, kX9_at_8, kX9_at_11, kX9_at_12, kX9_at_15, kX9_at_16, kX9_at_17, kX9_at_18, kX9_at_21, kX9_at_22, kX9_at_25, kX9_at_26, kX9_at_27, kX9_at_28, kX9_at_31, kX9_at_34, kX9_at_36, q_cut_i, q_cut_r, q_cut_l, q_cut_n, if_pos, if_neg]
      simp [tlAt] at ha
      simpa [tlAt, ← ha] using hP
    | succ k ih =>
      intro hk ha
      obtain ⟨e1, e2, e3, e4, -⟩ := he k (by omega)
      have e : (((k + 1 : Nat) : Int) - 1) = (k : Int) := by omega
      have hsn : l.take (k + 1) = l.take k ++ [l[k]] := by rw [List.take_add_one]; simp [List.getElem?_eq_getElem (by omega : k < l.length)]
      rw [hsn, tlAt_snoc] at ha
      rw [e]
      by_cases hq : l[k].1 ≤ day
      · rw [if_pos hq] at ha
        simp (disch := first | assumption | omega | (simp only [q_kd_wr, q_fv_wrE, q_top_wr, q_nc_wr, q_ns_wr, q_gs_wr, q_kd_al, q_fv_al, q_top_al, q_nc_al, q_ns_al, q_gs_al, q_kd_cp, q_fv_cpE, q_top_cp, q_nc_cp, q_ns_cp, q_gs_cp]; first | done | assumption | omega)) only [kX9_at_0, kX9_at_1, kX9_at_4, kX9_at_5, kX9_at_6, kX9_at_7, kX9_at_8, kX9_at_11, kX9_at_12, kX9_at_15, kX9_at_16, kX9_at_17, kX9_at_18, kX9_at_21, kX9_at_22, kX9_at_25, kX9_at_26, kX9_at_27, kX9_at_28, kX9_at_31, kX9_at_34, kX9_at_36, q_cut_i, q_cut_r, q_cut_l, q_cut_n, if_pos, if_neg, q_toN, f0, f1, f2, e1, e2]
        rw [ha]; exact hP
      · rw [if_neg hq] at ha
        rw [kX9_at_7]
        simp (disch := first | assumption | omega | (simp only [q_kd_wr, q_fv_wrE, q_top_wr, q_nc_wr, q_ns_wr, q_gs_wr, q_kd_al, q_fv_al, q_top_al, q_nc_al, q_ns_al, q_gs_al, q_kd_cp, q_fv_cpE, q_top_cp, q_nc_cp, q_ns_cp, q_gs_cp]; first | done | assumption | omega)) only [kX9_at_8, kX9_at_11, kX9_at_12, kX9_at_15, kX9_at_16, kX9_at_17, kX9_at_18, kX9_at_21, kX9_at_22, kX9_at_25, kX9_at_26, kX9_at_27, kX9_at_28, kX9_at_31, q_cut_i, q_cut_r, q_cut_l, q_cut_n, if_pos, if_neg, q_toN, f0, f1, f2, e1, e2]
        exact ih (by omega) ha
  rw [eX9_at]
  simp (disch := first | assumption | omega | (simp only [q_kd_wr, q_fv_wrE, q_top_wr, q_nc_wr, q_ns_wr, q_gs_wr, q_kd_al, q_fv_al, q_top_al, q_nc_al, q_ns_al, q_gs_al, q_kd_cp, q_fv_cpE, q_top_cp, q_nc_cp, q_ns_cp, q_gs_cp]; first | done | assumption | omega)) only [kX9_at_0, kX9_at_1, kX9_at_4, kX9_at_5, kX9_at_6, q_cut_i, q_cut_r, q_cut_l, q_cut_n, if_pos, if_neg, f0, f1, f2]
  exact loop l.length (Nat.le_refl _) (by rw [List.take_length])
def tlStop (l : List (Int × Int)) (i : Nat) : Int := if h : i + 1 < l.length then l[i + 1].1 else 10000
theorem sX9_stopOf {d : Nat} {M : QM} {t s p cap : Nat} {l : List (Int × Int)} {i : Nat} (hT : TL M t s p cap l) (hi : i < l.length) {P : QP} (hP : P (some (qi (tlStop l i))) M) : q_T (d + 1) iX9_stopOf [qr t, qi i] M P := by
  obtain ⟨kt, f0, f1, f2, ks', kp', hl, hc4, hc, hsp, he, hz⟩ := hT
  have ks : (q_kd M s).1 = 2 := by rw [ks']
  have ks2 : (q_kd M s).2 = cap := by rw [ks']
  have kp : (q_kd M p).1 = 2 := by rw [kp']
  have kp2 : (q_kd M p).2 = cap := by rw [kp']
  rw [eX9_stopOf]
  unfold tlStop at hP
  have en : ((i : Int) + 1).toNat = i + 1 := by omega
  by_cases hq : i + 1 < l.length
  · obtain ⟨e1, -⟩ := he (i + 1) hq
    rw [dif_pos hq] at hP
    simp (disch := first | assumption | omega | (simp only [q_kd_wr, q_fv_wrE, q_top_wr, q_nc_wr, q_ns_wr, q_gs_wr, q_kd_al, q_fv_al, q_top_al, q_nc_al, q_ns_al, q_gs_al, q_kd_cp, q_fv_cpE, q_top_cp, q_nc_cp, q_ns_cp, q_gs_cp]; first | done | assumption | omega)) only [kX9_stopOf_0, kX9_stopOf_1, kX9_stopOf_2, kX9_stopOf_3, kX9_stopOf_4, kX9_stopOf_7, kX9_stopOf_10, kX9_stopOf_11, kX9_stopOf_14, kX9_stopOf_15, kX9_stopOf_16, kX9_stopOf_17, kX9_stopOf_18, kX9_stopOf_21, kX9_stopOf_24, q_cut_i, q_cut_r, q_cut_l, q_cut_n, if_pos, if_neg, en, f0, f1, f2, e1]
    exact hP
  · rw [dif_neg hq] at hP
    simp (disch := first | assumption | omega | (simp only [q_kd_wr, q_fv_wrE, q_top_wr, q_nc_wr, q_ns_wr, q_gs_wr, q_kd_al, q_fv_al, q_top_al, q_nc_al, q_ns_al, q_gs_al, q_kd_cp, q_fv_cpE, q_top_cp, q_nc_cp, q_ns_cp, q_gs_cp]; first | done | assumption | omega)) only [kX9_stopOf_0, kX9_stopOf_1, kX9_stopOf_2, kX9_stopOf_3, kX9_stopOf_4, kX9_stopOf_7, kX9_stopOf_10, kX9_stopOf_11, kX9_stopOf_14, kX9_stopOf_15, kX9_stopOf_16, kX9_stopOf_17, kX9_stopOf_18, kX9_stopOf_21, kX9_stopOf_24, q_cut_i, q_cut_r, q_cut_l, q_cut_n, if_pos, if_neg, en, f0, f1, f2]
    exact hP
theorem q_neK {M : QM} {a b : Nat} {x y : Nat × Nat} (ha : q_kd M a = x) (hb : q_kd M b = y) (h : x ≠ y) : a ≠ b := by
  rintro rfl
  exact h (ha.symm.trans hb)
theorem sX9_begin {d : Nat} {M : QM} {t s p cap : Nat} {l : List (Int × Int)} {day par : Int} (hT : TL M t s p cap l) (h1 : -100000 ≤ day ∧ day ≤ 100000) (h2 : -100000 ≤ par ∧ par ≤ 100000) {P : QP} (hP : ∀ M', TL M' t s p cap [(day, par)] → q_fr (fun a => a = t ∨ a = s ∨ a = p) M M' → q_qt M M' → P none M') : q_T (d + 1) iX9_begin [qr t, qi day, qi par] M P := by
  obtain ⟨kt, f0, f1, f2, ks', kp', hl, hc4, hc, hsp, he, hz⟩ := hT
  have ks : (q_kd M s).1 = 2 := by rw [ks']
  have ks2 : (q_kd M s).2 = cap := by rw [ks']
  have kp : (q_kd M p).1 = 2 := by rw [kp']
  have kp2 : (q_kd M p).2 = cap := by rw [kp']
  have ts := q_neK kt ks' (by simp)
  have tp := q_neK kt kp' (by simp)
  rw [eX9_begin]
  simp (disch := first | assumption | omega | (simp only [q_kd_wr, q_fv_wrE, q_top_wr, q_nc_wr, q_ns_wr, q_gs_wr, q_kd_al, q_fv_al, q_top_al, q_nc_al, q_ns_al, q_gs_al, q_kd_cp, q_fv_cpE, q_top_cp, q_nc_cp, q_ns_cp, q_gs_cp]; first | done | assumption | omega)) only [kX9_begin_0, kX9_begin_1, kX9_begin_4, kX9_begin_5, kX9_begin_6, kX9_begin_7, kX9_begin_8, kX9_begin_11, kX9_begin_12, kX9_begin_13, kX9_begin_14, kX9_begin_15, kX9_begin_16, kX9_begin_19, q_cut_i, q_cut_r, q_cut_l, q_cut_n, if_pos, if_neg, q_kd_wr, q_fv_wrE, q_top_wr, q_nc_wr, q_ns_wr, q_gs_wr, q_kd_al, q_fv_al, q_top_al, q_nc_al, q_ns_al, q_gs_al, q_kd_cp, q_fv_cpE, q_top_cp, q_nc_cp, q_ns_cp, q_gs_cp, f0, f1, f2, ts, ts.symm, tp, tp.symm, hsp, hsp.symm, false_and, if_false, Int.toNat_zero]
  refine hP _ ⟨kt, ?_, ?_, ?_, ks', kp', by simp; omega, hc4, hc, hsp, ?_, ?_⟩ ?_ ((q_qt.wr.tr q_qt.wr).tr q_qt.wr)
  · simp [q_fv_wrE, ts, tp, f0]
  · simp [q_fv_wrE, ts, tp, f1]
  · simp [q_fv_wrE]
  · intro i hi
    have : i = 0 := by simpa using hi
    subst this
    simp [q_fv_wrE, ts.symm, tp.symm, hsp, h1, h2]
  · intro i hi
    obtain ⟨⟨z1, e1⟩, z2, e2⟩ := hz i hi
    simp only [q_fv_wrE, ts.symm, tp.symm, hsp, hsp.symm, false_and, if_false, e1, e2]
    exact ⟨by split <;> exact ⟨_, rfl⟩, by split <;> exact ⟨_, rfl⟩⟩
  · exact ((q_fr.wr (by simp)).tr (q_fr.wr (by simp))).tr (q_fr.wr (by simp))
