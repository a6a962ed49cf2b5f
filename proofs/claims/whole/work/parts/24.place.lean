/-! one place: kind, founded, ended, into, latest, parents given; names; parents; history -/
abbrev Pl := (Int × Int × Int × Int × Int × Int) × List (Int × Int) × List (Int × Int) × List (Int × Int × Int)
abbrev plK (p : Pl) : Int := p.1.1
abbrev plF (p : Pl) : Int := p.1.2.1
abbrev plE (p : Pl) : Int := p.1.2.2.1
abbrev plI (p : Pl) : Int := p.1.2.2.2.1
abbrev plL (p : Pl) : Int := p.1.2.2.2.2.1
abbrev plG (p : Pl) : Int := p.1.2.2.2.2.2
abbrev plN (p : Pl) : List (Int × Int) := p.2.1
abbrev plT (p : Pl) : List (Int × Int) := p.2.2.1
abbrev plH (p : Pl) : List (Int × Int × Int) := p.2.2.2
abbrev q_b (z : Int) : Prop := -100000 ≤ z ∧ z ≤ 100000
def plOk (p : Pl) : Prop := q_b (plK p) ∧ q_b (plF p) ∧ q_b (plE p) ∧ q_b (plI p) ∧ q_b (plL p) ∧ q_b (plG p) ∧ tlSrt (plT p) ∧ ∀ q ∈ plN p, 0 ≤ q.2 ∧ q.2 < 2 ^ 40
/-- the object's own words -/
def PF (M : QM) (a : Nat) (p : Pl) : Prop := q_kd M a = (1, 4) ∧ q_fv M a 0 = qi (plK p) ∧ q_fv M a 1 = qi (plF p) ∧ q_fv M a 2 = qi (plE p) ∧ q_fv M a 3 = qi (plI p) ∧ q_fv M a 4 = qi (plL p) ∧ q_fv M a 5 = qi (plG p)
def plEnd (p : Pl) : Int := if plE p = -5 then 10000 else plE p
def plEx (p : Pl) (d : Int) : Bool := decide (plF p ≤ d ∧ d < plEnd p)
def plSt (p : Pl) (d : Int) : Bool := decide (plF p ≤ d ∧ plE p = -5)
theorem plEnd_b {p : Pl} (h : plOk p) : q_b (plEnd p) := by
  obtain ⟨_, _, h3, _⟩ := h
  unfold plEnd
  split
  · exact ⟨by omega, by omega⟩
  · exact h3
theorem sX4_hasEnded {d : Nat} {M : QM} {a : Nat} {p : Pl} (hf : PF M a p) (ho : plOk p) {P : QP} (hP : P (some (qi (if plE p = -5 then 0 else 1))) M) : q_T (d + 1) iX4_hasEnded [qr a] M P := by
  obtain ⟨k, f0, f1, f2, f3, f4, f5⟩ := hf
  obtain ⟨⟨a1, a2⟩, ⟨b1, b2⟩, ⟨c1, c2⟩, ⟨d1, d2⟩, _⟩ := ho
  rw [eX4_hasEnded]
  by_cases h : plE p = -5
  · rw [if_pos h] at hP
    simp (disch := first | assumption | omega | (simp only [q_kd_wr, q_fv_wrE, q_top_wr, q_nc_wr, q_ns_wr, q_gs_wr, q_kd_al, q_fv_al, q_top_al, q_nc_al, q_ns_al, q_gs_al, q_kd_cp, q_fv_cpE, q_top_cp, q_nc_cp, q_ns_cp, q_gs_cp]; first | done | assumption | omega)) only [kX4_hasEnded_0, kX4_hasEnded_1, kX4_hasEnded_4, kX4_hasEnded_6, kX4_hasEnded_9, kX4_hasEnded_10, kX4_hasEnded_13, kX4_hasEnded_14, q_cut_i, q_cut_r, q_cut_l, q_cut_n, if_pos, if_neg, f2]
    exact hP
  · rw [if_neg h] at hP
    simp (disch := first | assumption | omega | (simp only [q_kd_wr, q_fv_wrE, q_top_wr, q_nc_wr, q_ns_wr, q_gs_wr, q_kd_al, q_fv_al, q_top_al, q_nc_al, q_ns_al, q_gs_al, q_kd_cp, q_fv_cpE, q_top_cp, q_nc_cp, q_ns_cp, q_gs_cp]; first | done | assumption | omega)) only [kX4_hasEnded_0, kX4_hasEnded_1, kX4_hasEnded_4, kX4_hasEnded_6, kX4_hasEnded_9, kX4_hasEnded_10, kX4_hasEnded_13, kX4_hasEnded_14, q_cut_i, q_cut_r, q_cut_l, q_cut_n, if_pos, if_neg, f2]
    exact hP
theorem sX4_end {d : Nat} {M : QM} {a : Nat} {p : Pl} (hf : PF M a p) (ho : plOk p) {P : QP} (hP : P (some (qi (plEnd p))) M) : q_T (d + 2) iX4_end [qr a] M P := by
  have hf' := hf
  obtain ⟨k, f0, f1, f2, f3, f4, f5⟩ := hf
  rw [eX4_end]
  simp (disch := first | assumption | omega | (simp only [q_kd_wr, q_fv_wrE, q_top_wr, q_nc_wr, q_ns_wr, q_gs_wr, q_kd_al, q_fv_al, q_top_al, q_nc_al, q_ns_al, q_gs_al, q_kd_cp, q_fv_cpE, q_top_cp, q_nc_cp, q_ns_cp, q_gs_cp]; first | done | assumption | omega)) only [kX4_end_0]
  refine kX4_end_1 k (M1 := M) (v := qi (if plE p = -5 then 0 else 1)) (q_Tx (sX4_hasEnded hf' ho ⟨rfl, rfl⟩)) (Nat.le_of_ble_eq_true rfl) ?_
  unfold plEnd at hP
  by_cases h : plE p = -5
  · rw [if_pos h] at hP ⊢
    simp (disch := first | assumption | omega | (simp only [q_kd_wr, q_fv_wrE, q_top_wr, q_nc_wr, q_ns_wr, q_gs_wr, q_kd_al, q_fv_al, q_top_al, q_nc_al, q_ns_al, q_gs_al, q_kd_cp, q_fv_cpE, q_top_cp, q_nc_cp, q_ns_cp, q_gs_cp]; first | done | assumption | omega)) only [kX4_end_4, kX4_end_7, kX4_end_8, kX4_end_11, kX4_end_14, kX4_end_17, q_cut_i, q_cut_r, q_cut_l, q_cut_n, if_pos, if_neg]
    exact hP
  · rw [if_neg h] at hP ⊢
    rw [kX4_end_4 (by omega) (by omega), if_neg (by omega)]
    simp (disch := first | assumption | omega | (simp only [q_kd_wr, q_fv_wrE, q_top_wr, q_nc_wr, q_ns_wr, q_gs_wr, q_kd_al, q_fv_al, q_top_al, q_nc_al, q_ns_al, q_gs_al, q_kd_cp, q_fv_cpE, q_top_cp, q_nc_cp, q_ns_cp, q_gs_cp]; first | done | assumption | omega)) only [kX4_end_7, kX4_end_8, kX4_end_11, kX4_end_14, kX4_end_17, q_cut_i, q_cut_r, q_cut_l, q_cut_n, if_pos, if_neg, f2]
    exact hP
theorem sX4_existsOn {d : Nat} {M : QM} {a : Nat} {p : Pl} {x : Int} (hf : PF M a p) (ho : plOk p) (h1 : -2147483648 ≤ x) (h2 : x < 2147483648) {P : QP} (hP : P (some (qi (if plEx p x = true then 1 else 0))) M) : q_T (d + 3) iX4_existsOn [qr a, qi x] M P := by
  have hf' := hf
  have he := plEnd_b ho
  obtain ⟨k, f0, f1, f2, f3, f4, f5⟩ := hf
  obtain ⟨_, ⟨b1, b2⟩, _⟩ := id ho
  rw [eX4_existsOn]
  by_cases h : plF p ≤ x
  · simp (disch := first | assumption | omega | (simp only [q_kd_wr, q_fv_wrE, q_top_wr, q_nc_wr, q_ns_wr, q_gs_wr, q_kd_al, q_fv_al, q_top_al, q_nc_al, q_ns_al, q_gs_al, q_kd_cp, q_fv_cpE, q_top_cp, q_nc_cp, q_ns_cp, q_gs_cp]; first | done | assumption | omega)) only [kX4_existsOn_0, kX4_existsOn_1, kX4_existsOn_4, kX4_existsOn_5, kX4_existsOn_8, kX4_existsOn_9, q_cut_i, q_cut_r, q_cut_l, q_cut_n, if_pos, if_neg, f1]
    refine kX4_existsOn_10 k (M1 := M) (v := qi (plEnd p)) (q_Tx (sX4_end hf' ho ⟨rfl, rfl⟩)) (Nat.le_of_ble_eq_true rfl) ?_
    by_cases h3 : x < plEnd p
    · rw [plEx, decide_eq_true ⟨h, h3⟩, if_pos rfl] at hP
      simp (disch := first | assumption | omega | (simp only [q_kd_wr, q_fv_wrE, q_top_wr, q_nc_wr, q_ns_wr, q_gs_wr, q_kd_al, q_fv_al, q_top_al, q_nc_al, q_ns_al, q_gs_al, q_kd_cp, q_fv_cpE, q_top_cp, q_nc_cp, q_ns_cp, q_gs_cp]; first | done | assumption | omega)) only [kX4_existsOn_13, kX4_existsOn_16, kX4_existsOn_17, kX4_existsOn_20, kX4_existsOn_21, q_cut_i, q_cut_r, q_cut_l, q_cut_n, if_pos, if_neg]
      exact hP
    · rw [plEx, decide_eq_false (fun g => h3 g.2), if_neg (by simp)] at hP
      simp (disch := first | assumption | omega | (simp only [q_kd_wr, q_fv_wrE, q_top_wr, q_nc_wr, q_ns_wr, q_gs_wr, q_kd_al, q_fv_al, q_top_al, q_nc_al, q_ns_al, q_gs_al, q_kd_cp, q_fv_cpE, q_top_cp, q_nc_cp, q_ns_cp, q_gs_cp]; first | done | assumption | omega)) only [kX4_existsOn_13, kX4_existsOn_16, kX4_existsOn_17, kX4_existsOn_20, kX4_existsOn_21, q_cut_i, q_cut_r, q_cut_l, q_cut_n, if_pos, if_neg]
      exact hP
  · rw [plEx, decide_eq_false (fun g => h g.1), if_neg (by simp)] at hP
    simp (disch := first | assumption | omega | (simp only [q_kd_wr, q_fv_wrE, q_top_wr, q_nc_wr, q_ns_wr, q_gs_wr, q_kd_al, q_fv_al, q_top_al, q_nc_al, q_ns_al, q_gs_al, q_kd_cp, q_fv_cpE, q_top_cp, q_nc_cp, q_ns_cp, q_gs_cp]; first | done | assumption | omega)) only [kX4_existsOn_0, kX4_existsOn_1, kX4_existsOn_4, kX4_existsOn_5, kX4_existsOn_8, kX4_existsOn_9, kX4_existsOn_13, kX4_existsOn_16, kX4_existsOn_17, kX4_existsOn_20, kX4_existsOn_21, q_cut_i, q_cut_r, q_cut_l, q_cut_n, if_pos, if_neg, f1]
    exact hP
theorem sX4_standsFrom {d : Nat} {M : QM} {a : Nat} {p : Pl} {x : Int} (hf : PF M a p) (ho : plOk p) (h1 : -2147483648 ≤ x) (h2 : x < 2147483648) {P : QP} (hP : P (some (qi (if plSt p x = true then 1 else 0))) M) : q_T (d + 3) iX4_standsFrom [qr a, qi x] M P := by
  have hf' := hf
  obtain ⟨k, f0, f1, f2, f3, f4, f5⟩ := hf
  obtain ⟨_, ⟨b1, b2⟩, _⟩ := id ho
  rw [eX4_standsFrom]
  by_cases h : plF p ≤ x
  · simp (disch := first | assumption | omega | (simp only [q_kd_wr, q_fv_wrE, q_top_wr, q_nc_wr, q_ns_wr, q_gs_wr, q_kd_al, q_fv_al, q_top_al, q_nc_al, q_ns_al, q_gs_al, q_kd_cp, q_fv_cpE, q_top_cp, q_nc_cp, q_ns_cp, q_gs_cp]; first | done | assumption | omega)) only [kX4_standsFrom_0, kX4_standsFrom_1, kX4_standsFrom_4, kX4_standsFrom_5, kX4_standsFrom_8, q_cut_i, q_cut_r, q_cut_l, q_cut_n, if_pos, if_neg, f1]
    refine kX4_standsFrom_9 k (M1 := M) (v := qi (if plE p = -5 then 0 else 1)) (q_Tx (sX4_hasEnded hf' ho ⟨rfl, rfl⟩)) (Nat.le_of_ble_eq_true rfl) ?_
    by_cases h3 : plE p = -5
    · rw [plSt, decide_eq_true ⟨h, h3⟩, if_pos rfl] at hP
      rw [if_pos h3, kX4_standsFrom_12 (by omega) (by omega), if_pos rfl]
      simp (disch := first | assumption | omega | (simp only [q_kd_wr, q_fv_wrE, q_top_wr, q_nc_wr, q_ns_wr, q_gs_wr, q_kd_al, q_fv_al, q_top_al, q_nc_al, q_ns_al, q_gs_al, q_kd_cp, q_fv_cpE, q_top_cp, q_nc_cp, q_ns_cp, q_gs_cp]; first | done | assumption | omega)) only [kX4_standsFrom_15, kX4_standsFrom_16, kX4_standsFrom_19, kX4_standsFrom_20, q_cut_i, q_cut_r, q_cut_l, q_cut_n, if_pos, if_neg]
      exact hP
    · rw [plSt, decide_eq_false (fun g => h3 g.2), if_neg (by simp)] at hP
      rw [if_neg h3, kX4_standsFrom_12 (by omega) (by omega), if_neg (by omega)]
      simp (disch := first | assumption | omega | (simp only [q_kd_wr, q_fv_wrE, q_top_wr, q_nc_wr, q_ns_wr, q_gs_wr, q_kd_al, q_fv_al, q_top_al, q_nc_al, q_ns_al, q_gs_al, q_kd_cp, q_fv_cpE, q_top_cp, q_nc_cp, q_ns_cp, q_gs_cp]; first | done | assumption | omega)) only [kX4_standsFrom_15, kX4_standsFrom_16, kX4_standsFrom_19, kX4_standsFrom_20, q_cut_i, q_cut_r, q_cut_l, q_cut_n, if_pos, if_neg]
      exact hP
  · rw [plSt, decide_eq_false (fun g => h g.1), if_neg (by simp)] at hP
    simp (disch := first | assumption | omega | (simp only [q_kd_wr, q_fv_wrE, q_top_wr, q_nc_wr, q_ns_wr, q_gs_wr, q_kd_al, q_fv_al, q_top_al, q_nc_al, q_ns_al, q_gs_al, q_kd_cp, q_fv_cpE, q_top_cp, q_nc_cp, q_ns_cp, q_gs_cp]; first | done | assumption | omega)) only [kX4_standsFrom_0, kX4_standsFrom_1, kX4_standsFrom_4, kX4_standsFrom_5, kX4_standsFrom_8, kX4_standsFrom_12, kX4_standsFrom_15, kX4_standsFrom_16, kX4_standsFrom_19, kX4_standsFrom_20, q_cut_i, q_cut_r, q_cut_l, q_cut_n, if_pos, if_neg, f1]
    exact hP
theorem sX4_firstDayUnder {d : Nat} {M : QM} {a t s q cap : Nat} {p : Pl} {par x : Int} (hf : PF M a p) (ho : plOk p) (ft : q_fv M a 7 = qr t) (hT : TL M t s q cap (plT p)) (h0 : -2147483648 ≤ par ∧ par < 2147483648) (h1 : -2147483648 ≤ x ∧ x < 2147483648) {P : QP} (hP : P (some (qi (tlFst par x (plEnd p) (plT p)))) M) : q_T (d + 3) iX4_firstDayUnder [qr a, qi par, qi x] M P := by
  have hf' := hf
  have he := plEnd_b ho
  obtain ⟨k, f0, f1, f2, f3, f4, f5⟩ := hf
  rw [eX4_firstDayUnder]
  simp (disch := first | assumption | omega | (simp only [q_kd_wr, q_fv_wrE, q_top_wr, q_nc_wr, q_ns_wr, q_gs_wr, q_kd_al, q_fv_al, q_top_al, q_nc_al, q_ns_al, q_gs_al, q_kd_cp, q_fv_cpE, q_top_cp, q_nc_cp, q_ns_cp, q_gs_cp]; first | done | assumption | omega)) only [kX4_firstDayUnder_0, kX4_firstDayUnder_1, kX4_firstDayUnder_4, kX4_firstDayUnder_5, kX4_firstDayUnder_6, q_cut_i, q_cut_r, q_cut_l, q_cut_n, if_pos, if_neg, ft]
  refine kX4_firstDayUnder_7 k (M1 := M) (v := qi (plEnd p)) (q_Tx (sX4_end hf' ho ⟨rfl, rfl⟩)) (Nat.le_of_ble_eq_true rfl) ?_
  refine kX4_firstDayUnder_10 hT.1 (M1 := M) (v := qi (tlFst par x (plEnd p) (plT p))) (q_Tx (sX9_firstDayWith hT h0 h1 ⟨by omega, by omega⟩ ⟨rfl, rfl⟩)) (Nat.le_of_ble_eq_true rfl) ?_
  simp (disch := first | assumption | omega | (simp only [q_kd_wr, q_fv_wrE, q_top_wr, q_nc_wr, q_ns_wr, q_gs_wr, q_kd_al, q_fv_al, q_top_al, q_nc_al, q_ns_al, q_gs_al, q_kd_cp, q_fv_cpE, q_top_cp, q_nc_cp, q_ns_cp, q_gs_cp]; first | done | assumption | omega)) only [kX4_firstDayUnder_13]
  exact hP
theorem z_lcmp0 {a b : Int} (ha : 0 ≤ a ∧ a < 2 ^ 63) (hb : 0 ≤ b ∧ b < 2 ^ 63) : q_lcmp a b = 0 ↔ a = b := by
  have h : (lg_cmp (Int64.ofInt a) (Int64.ofInt b)).toInt = (0 : Int32).toInt ↔ lg_cmp (Int64.ofInt a) (Int64.ofInt b) = 0 := Int32.toInt_inj
  have h0 : (0 : Int32).toInt = 0 := by decide
  rw [h0, lg_cmp_eq] at h
  rw [q_lcmp, h]
  constructor
  · intro e
    have := congrArg Int64.toInt e
    rwa [z_toInt ha.1 ha.2, z_toInt hb.1 hb.2] at this
  · rintro rfl; rfl
theorem z_lcmpR (a b : Int) : -1 ≤ q_lcmp a b ∧ q_lcmp a b ≤ 1 := by
  unfold q_lcmp lg_cmp
  split
  · decide
  · split
    · decide
    · decide
theorem nmAt_R {l : List (Int × Int)} (h : ∀ q ∈ l, 0 ≤ q.2 ∧ q.2 < 2 ^ 40) (d : Int) : 0 ≤ nmAt l d ∧ nmAt l d < 2 ^ 40 := by
  suffices g : ∀ l : List (Int × Int), (∀ q ∈ l, 0 ≤ q.2 ∧ q.2 < 2 ^ 40) → ∀ acc : Int, 0 ≤ acc ∧ acc < 2 ^ 40 → 0 ≤ tlF acc l d ∧ tlF acc l d < 2 ^ 40 from g l h 0 (by omega)
  intro l
  induction l with
  | nil => intro _ acc h; exact h
  | cons q l ih =>
    intro h acc ha
    rw [tlF_cons]
    refine ih (fun r hr => h r (by simp [hr])) _ ?_
    have := h q (by simp)
    split
    · exact this
    · exact ha
def plDf (p : Pl) (x y : Int) : Bool := plEx p x && plEx p y && decide (tlAt (plT p) x ≠ tlAt (plT p) y ∨ nmAt (plN p) x ≠ nmAt (plN p) y)
theorem sX4_differsOn {d : Nat} {M : QM} {a t s q cap n ns np ncap : Nat} {p : Pl} {x y : Int} (hf : PF M a p) (ho : plOk p) (ft : q_fv M a 7 = qr t) (hT : TL M t s q cap (plT p)) (fn : q_fv M a 6 = qr n) (hN : NM M n ns np ncap (plN p)) (h0 : -2147483648 ≤ x ∧ x < 2147483648) (h1 : -2147483648 ≤ y ∧ y < 2147483648) {P : QP} (hP : P (some (qi (if plDf p x y = true then 1 else 0))) M) : q_T (d + 4) iX4_differsOn [qr a, qi x, qi y] M P := by
  have hf' := hf
  obtain ⟨k, f0, f1, f2, f3, f4, f5⟩ := hf
  have hw := (id ho).2.2.2.2.2.2.2
  have r1 := tlAt_R hT x
  have r2 := tlAt_R hT y
  have r3 := nmAt_R hw x
  have r4 := nmAt_R hw y
  rw [eX4_differsOn]
  simp (disch := first | assumption | omega | (simp only [q_kd_wr, q_fv_wrE, q_top_wr, q_nc_wr, q_ns_wr, q_gs_wr, q_kd_al, q_fv_al, q_top_al, q_nc_al, q_ns_al, q_gs_al, q_kd_cp, q_fv_cpE, q_top_cp, q_nc_cp, q_ns_cp, q_gs_cp]; first | done | assumption | omega)) only [kX4_differsOn_0, kX4_differsOn_1, q_cut_i, q_cut_r, q_cut_l, q_cut_n, if_pos, if_neg]
  refine kX4_differsOn_2 k (M1 := M) (v := qi (if plEx p x = true then 1 else 0)) (q_Tx (sX4_existsOn hf' ho h0.1 h0.2 ⟨rfl, rfl⟩)) (Nat.le_of_ble_eq_true rfl) ?_
  by_cases e1 : plEx p x = true
  · rw [if_pos e1, kX4_differsOn_5 (by omega) (by omega), if_neg (by omega)]
    simp (disch := first | assumption | omega | (simp only [q_kd_wr, q_fv_wrE, q_top_wr, q_nc_wr, q_ns_wr, q_gs_wr, q_kd_al, q_fv_al, q_top_al, q_nc_al, q_ns_al, q_gs_al, q_kd_cp, q_fv_cpE, q_top_cp, q_nc_cp, q_ns_cp, q_gs_cp]; first | done | assumption | omega)) only [kX4_differsOn_8, kX4_differsOn_9, q_cut_i, q_cut_r, q_cut_l, q_cut_n, if_pos, if_neg]
    refine kX4_differsOn_10 k (M1 := M) (v := qi (if plEx p y = true then 1 else 0)) (q_Tx (sX4_existsOn hf' ho h1.1 h1.2 ⟨rfl, rfl⟩)) (Nat.le_of_ble_eq_true rfl) ?_
    by_cases e2 : plEx p y = true
    · rw [if_pos e2, kX4_differsOn_13 (by omega) (by omega), if_neg (by omega)]
      simp (disch := first | assumption | omega | (simp only [q_kd_wr, q_fv_wrE, q_top_wr, q_nc_wr, q_ns_wr, q_gs_wr, q_kd_al, q_fv_al, q_top_al, q_nc_al, q_ns_al, q_gs_al, q_kd_cp, q_fv_cpE, q_top_cp, q_nc_cp, q_ns_cp, q_gs_cp]; first | done | assumption | omega)) only [kX4_differsOn_18, kX4_differsOn_19, kX4_differsOn_22, q_cut_i, q_cut_r, q_cut_l, q_cut_n, if_pos, if_neg, ft]
      refine kX4_differsOn_23 hT.1 (M1 := M) (v := qi (tlAt (plT p) x)) (q_Tx (sX9_at hT h0.1 h0.2 ⟨rfl, rfl⟩)) (Nat.le_of_ble_eq_true rfl) ?_
      simp (disch := first | assumption | omega | (simp only [q_kd_wr, q_fv_wrE, q_top_wr, q_nc_wr, q_ns_wr, q_gs_wr, q_kd_al, q_fv_al, q_top_al, q_nc_al, q_ns_al, q_gs_al, q_kd_cp, q_fv_cpE, q_top_cp, q_nc_cp, q_ns_cp, q_gs_cp]; first | done | assumption | omega)) only [kX4_differsOn_26, kX4_differsOn_27, kX4_differsOn_30, q_cut_i, q_cut_r, q_cut_l, q_cut_n, if_pos, if_neg, ft]
      refine kX4_differsOn_31 hT.1 (M1 := M) (v := qi (tlAt (plT p) y)) (q_Tx (sX9_at hT h1.1 h1.2 ⟨rfl, rfl⟩)) (Nat.le_of_ble_eq_true rfl) ?_
      rw [plDf, e1, e2, Bool.true_and, Bool.true_and] at hP
      by_cases e3 : tlAt (plT p) x = tlAt (plT p) y
      · simp (disch := first | assumption | omega | (simp only [q_kd_wr, q_fv_wrE, q_top_wr, q_nc_wr, q_ns_wr, q_gs_wr, q_kd_al, q_fv_al, q_top_al, q_nc_al, q_ns_al, q_gs_al, q_kd_cp, q_fv_cpE, q_top_cp, q_nc_cp, q_ns_cp, q_gs_cp]; first | done | assumption | omega)) only [kX4_differsOn_34, kX4_differsOn_37, kX4_differsOn_38, kX4_differsOn_41, q_cut_i, q_cut_r, q_cut_l, q_cut_n, if_pos, if_neg, fn]
        refine kX4_differsOn_42 hN.1 (M1 := M) (v := ql (nmAt (plN p) x)) (q_Tx (sX2_at hN h0.1 h0.2 ⟨rfl, rfl⟩)) (Nat.le_of_ble_eq_true rfl) ?_
        simp (disch := first | assumption | omega | (simp only [q_kd_wr, q_fv_wrE, q_top_wr, q_nc_wr, q_ns_wr, q_gs_wr, q_kd_al, q_fv_al, q_top_al, q_nc_al, q_ns_al, q_gs_al, q_kd_cp, q_fv_cpE, q_top_cp, q_nc_cp, q_ns_cp, q_gs_cp]; first | done | assumption | omega)) only [kX4_differsOn_45, kX4_differsOn_46, kX4_differsOn_49, q_cut_i, q_cut_r, q_cut_l, q_cut_n, if_pos, if_neg, fn]
        refine kX4_differsOn_50 hN.1 (M1 := M) (v := ql (nmAt (plN p) y)) (q_Tx (sX2_at hN h1.1 h1.2 ⟨rfl, rfl⟩)) (Nat.le_of_ble_eq_true rfl) ?_
        have r5 := z_lcmpR (nmAt (plN p) x) (nmAt (plN p) y)
        have r6 := z_lcmp0 (a := nmAt (plN p) x) (b := nmAt (plN p) y) (by omega) (by omega)
        rw [kX4_differsOn_53, kX4_differsOn_54 (by omega) (by omega)]
        by_cases e4 : nmAt (plN p) x = nmAt (plN p) y
        · rw [if_pos (r6.mpr e4)]
          simp (disch := first | assumption | omega | (simp only [q_kd_wr, q_fv_wrE, q_top_wr, q_nc_wr, q_ns_wr, q_gs_wr, q_kd_al, q_fv_al, q_top_al, q_nc_al, q_ns_al, q_gs_al, q_kd_cp, q_fv_cpE, q_top_cp, q_nc_cp, q_ns_cp, q_gs_cp]; first | done | assumption | omega)) only [kX4_differsOn_57, kX4_differsOn_58, kX4_differsOn_61, kX4_differsOn_62, q_cut_i, q_cut_r, q_cut_l, q_cut_n, if_pos, if_neg]
          rw [decide_eq_false (by simp [e3, e4]), if_neg (by simp)] at hP
          exact hP
        · rw [if_neg (fun g => e4 (r6.mp g))]
          simp (disch := first | assumption | omega | (simp only [q_kd_wr, q_fv_wrE, q_top_wr, q_nc_wr, q_ns_wr, q_gs_wr, q_kd_al, q_fv_al, q_top_al, q_nc_al, q_ns_al, q_gs_al, q_kd_cp, q_fv_cpE, q_top_cp, q_nc_cp, q_ns_cp, q_gs_cp]; first | done | assumption | omega)) only [kX4_differsOn_57, kX4_differsOn_58, kX4_differsOn_61, kX4_differsOn_62, q_cut_i, q_cut_r, q_cut_l, q_cut_n, if_pos, if_neg]
          rw [decide_eq_true (Or.inr e4), if_pos rfl] at hP
          exact hP
      · simp (disch := first | assumption | omega | (simp only [q_kd_wr, q_fv_wrE, q_top_wr, q_nc_wr, q_ns_wr, q_gs_wr, q_kd_al, q_fv_al, q_top_al, q_nc_al, q_ns_al, q_gs_al, q_kd_cp, q_fv_cpE, q_top_cp, q_nc_cp, q_ns_cp, q_gs_cp]; first | done | assumption | omega)) only [kX4_differsOn_34, q_cut_i, q_cut_r, q_cut_l, q_cut_n, if_pos, if_neg]
        simp (disch := first | assumption | omega | (simp only [q_kd_wr, q_fv_wrE, q_top_wr, q_nc_wr, q_ns_wr, q_gs_wr, q_kd_al, q_fv_al, q_top_al, q_nc_al, q_ns_al, q_gs_al, q_kd_cp, q_fv_cpE, q_top_cp, q_nc_cp, q_ns_cp, q_gs_cp]; first | done | assumption | omega)) only [kX4_differsOn_57, kX4_differsOn_58, kX4_differsOn_61, kX4_differsOn_62, q_cut_i, q_cut_r, q_cut_l, q_cut_n, if_pos, if_neg]
        rw [decide_eq_true (Or.inl e3), if_pos rfl] at hP
        exact hP
    · rw [if_neg e2, kX4_differsOn_13 (by omega) (by omega), if_pos rfl]
      simp (disch := first | assumption | omega | (simp only [q_kd_wr, q_fv_wrE, q_top_wr, q_nc_wr, q_ns_wr, q_gs_wr, q_kd_al, q_fv_al, q_top_al, q_nc_al, q_ns_al, q_gs_al, q_kd_cp, q_fv_cpE, q_top_cp, q_nc_cp, q_ns_cp, q_gs_cp]; first | done | assumption | omega)) only [kX4_differsOn_16, kX4_differsOn_17, q_cut_i, q_cut_r, q_cut_l, q_cut_n, if_pos, if_neg]
      rw [plDf, Bool.eq_false_iff.mpr e2, Bool.and_false, Bool.false_and, if_neg (by simp)] at hP
      exact hP
  · rw [if_neg e1, kX4_differsOn_5 (by omega) (by omega), if_pos rfl]
    simp (disch := first | assumption | omega | (simp only [q_kd_wr, q_fv_wrE, q_top_wr, q_nc_wr, q_ns_wr, q_gs_wr, q_kd_al, q_fv_al, q_top_al, q_nc_al, q_ns_al, q_gs_al, q_kd_cp, q_fv_cpE, q_top_cp, q_nc_cp, q_ns_cp, q_gs_cp]; first | done | assumption | omega)) only [kX4_differsOn_16, kX4_differsOn_17, q_cut_i, q_cut_r, q_cut_l, q_cut_n, if_pos, if_neg]
    rw [plDf, Bool.eq_false_iff.mpr e1, Bool.false_and, Bool.false_and, if_neg (by simp)] at hP
    exact hP
