
/-! Filters -/
def fcol (k : Nat) (q : Int × Int × Int) : Int := if k = 0 then q.1 else if k = 1 then q.2.1 else q.2.2
def FLm (M : QM) (g c : Nat → Nat) (N : List (Int × Int × Int)) (O : List Nat) : Prop :=
  q_kd M (g 18) = (1, 0) ∧ q_fv M (g 18) 4 = qi N.length ∧ q_fv M (g 18) 5 = qr (g 23) ∧ q_fv M (g 18) 6 = qi O.length ∧ q_kd M (g 23) = (2, 8) ∧ O.length ≤ 8 ∧ (∀ k, k < 4 → q_fv M (g 18) k = qr (g (19 + k)) ∧ q_kd M (g (19 + k)) = (2, c k) ∧ N.length ≤ c k ∧ 8 ≤ c k ∧ c k ≤ 4200 ∧ ∀ i, i < c k → ∃ z, q_fv M (g (19 + k)) i = qi z) ∧ (∀ k, k < 3 → ∀ i q, N[i]? = some q → q_fv M (g (19 + k)) i = qi (fcol k q)) ∧ (∀ i, i < 8 → ∃ z, q_fv M (g 23) i = qi z) ∧ (∀ i v, O[i]? = some v → q_fv M (g 23) i = qi (v : Nat)) ∧ (∀ v ∈ O, v < N.length) ∧ ∀ q ∈ N, q_i32 q.1 ∧ q_i32 q.2.1 ∧ q_i32 q.2.2
def flS (s : Nat) : Prop := 18 ≤ s ∧ s < 24
theorem FLm_fr {M M' : QM} {g g' c : Nat → Nat} {N : List (Int × Int × Int)} {O : List Nat} {S : Nat → Prop} (hg : gI M g) (h : FLm M g c N O) (hF : GF S M M' g g') (hS : ∀ s, flS s → ¬ S s) : FLm M' g' c N O := by
  have e : ∀ s, flS s → g' s = g s := fun s hs => hF.2.1 s (by unfold flS at hs; omega) (hS s hs)
  have m : ∀ s, flS s → Sm M M' (g s) := fun s hs => hF.sm hg (by unfold flS at hs; omega) (hS s hs)
  have f : ∀ s, 18 ≤ s → s < 24 → flS s := fun s h1 h2 => ⟨h1, h2⟩
  have m18 := m 18 (f 18 (by omega) (by omega))
  have m23 := m 23 (f 23 (by omega) (by omega))
  obtain ⟨h1, h2, h3, h4, h5, h6, h7, h8, h9, h10, h11, h12⟩ := h
  unfold FLm
  rw [e 18 (f 18 (by omega) (by omega)), e 23 (f 23 (by omega) (by omega)), m18.1, m23.1]
  refine ⟨h1, by rw [m18.2, h2], by rw [m18.2, h3], by rw [m18.2, h4], h5, h6, fun k hk => ?_, fun k hk i q hq => ?_, fun i hi => by rw [m23.2]; exact h9 i hi, fun i v hv => by rw [m23.2]; exact h10 i v hv, h11, h12⟩
  · have mk := m (19 + k) (f _ (by omega) (by omega))
    rw [e (19 + k) (f _ (by omega) (by omega)), m18.2, mk.1]
    obtain ⟨a1, a2, a3, a4, a5, a6⟩ := h7 k hk
    exact ⟨a1, a2, a3, a4, a5, fun i hi => by rw [mk.2]; exact a6 i hi⟩
  · have mk := m (19 + k) (f _ (by omega) (by omega))
    rw [e (19 + k) (f _ (by omega) (by omega)), mk.2]
    exact h8 k hk i q hq
theorem WMm_fr {M M' : QM} {g g' : Nat → Nat} {cN cT : Nat → Nat} {W : Nat → Pl} {n : Nat} {mg sp : Int} {S : Nat → Prop} (hg : gI M g) (h : WMm M g cN cT W n mg sp) (hF : GF S M M' g g') (hS : ∀ s, s = 16 ∨ s = 17 ∨ 24 ≤ s → ¬ S s) (e18 : g' 18 = g 18) : WMm M' g' cN cT W n mg sp := by
  obtain ⟨⟨kw, fpa, fn, hn, kpa, hpl⟩, f0, f1, f2⟩ := h
  have s16 : Sm M M' (g 16) := hF.sm hg (by omega) (hS 16 (Or.inl rfl))
  have s17 : Sm M M' (g 17) := hF.sm hg (by omega) (hS 17 (Or.inr (Or.inl rfl)))
  unfold WMm WRd
  rw [hF.2.1 16 (by omega) (hS 16 (Or.inl rfl)), hF.2.1 17 (by omega) (hS 17 (Or.inr (Or.inl rfl))), e18, s16.1, s17.1]
  refine ⟨⟨kw, by rw [s16.2, fpa], by rw [s16.2, fn], hn, kpa, fun j hj => ?_⟩, by rw [s16.2, f0], by rw [s16.2, f1], by rw [s16.2, f2]⟩
  obtain ⟨q1, q2⟩ := hpl j hj
  have ea : ∀ k, k < 11 → gA g' j k = gA g j k := fun k hk => hF.2.1 _ (by omega) (hS _ (Or.inr (Or.inr (by omega))))
  refine ⟨by rw [s17.2, ea 0 (by omega), q1], PLr_sm q2 (fun k hk => ?_) (fun k hk => ea k hk)⟩
  exact hF.sm hg (s := 24 + 11 * j + k) (by omega) (hS _ (Or.inr (Or.inr (by omega))))
section FL
variable {M : QM} {g c : Nat → Nat} {N : List (Int × Int × Int)} {O : List Nat} {d : Nat} {x : QP}
theorem FLm_c {k s : Nat} (h : FLm M g c N O) (hk : k < 4) (hs : s = 19 + k) : q_fv M (g 18) k = qr (g s) ∧ (q_kd M (g s)).1 = 2 ∧ (q_kd M (g s)).2 = c k ∧ N.length ≤ c k := by
  subst hs
  obtain ⟨a1, a2, a3, a4, a5, a6⟩ := h.2.2.2.2.2.2.1 k hk
  exact ⟨a1, by rw [a2], by rw [a2], a3⟩
theorem uX0_size (h : FLm M g c N O) : q_T (d + 1) iX0_size [qr (g 18)] M x = x (some (qi O.length)) M := by
  obtain ⟨h1, h2, h3, h4, -⟩ := h
  rw [eX0_size]
  simp (disch := first | assumption | exact bI_lo | exact bI_hi | exact bI_01 | (show (List.map q_wd _).sum ≤ 8; with_unfolding_all exact Nat.le_of_ble_eq_true rfl) | omega) only [kX0_size_0, kX0_size_1, kX0_size_4, q_cut_i, q_cut_r, q_cut_l, q_cut_n, q_psh_n, q_psh_s, bI_eq0, ite_not, h4]
theorem uX0_has (h : FLm M g c N O) {k : Int} (k1 : -2147483648 ≤ k) (k2 : k < 2147483648) : q_T (d + 1) iX0_has [qr (g 18), qi k] M x = x (some (qi (bI (0 ≤ k ∧ k < O.length)))) M := by
  obtain ⟨h1, h2, h3, h4, h5, h6, -⟩ := h
  rw [eX0_has]
  by_cases e1 : k < 0
  · rw [bI_neg (by omega)]
    simp (disch := first | assumption | exact bI_lo | exact bI_hi | exact bI_01 | (show (List.map q_wd _).sum ≤ 8; with_unfolding_all exact Nat.le_of_ble_eq_true rfl) | omega) only [kX0_has_0, kX0_has_1, kX0_has_4, kX0_has_5, kX0_has_6, kX0_has_9, kX0_has_12, kX0_has_13, kX0_has_16, kX0_has_17, q_cut_i, q_cut_r, q_cut_l, q_cut_n, q_psh_n, q_psh_s, bI_eq0, ite_not, ↓if_pos, ↓if_neg, ↓ite_bI_t, ↓ite_bI_f, h4]
  · by_cases e2 : k < O.length
    · rw [bI_pos (by omega)]
      simp (disch := first | assumption | exact bI_lo | exact bI_hi | exact bI_01 | (show (List.map q_wd _).sum ≤ 8; with_unfolding_all exact Nat.le_of_ble_eq_true rfl) | omega) only [kX0_has_0, kX0_has_1, kX0_has_4, kX0_has_5, kX0_has_6, kX0_has_9, kX0_has_12, kX0_has_13, kX0_has_16, kX0_has_17, q_cut_i, q_cut_r, q_cut_l, q_cut_n, q_psh_n, q_psh_s, bI_eq0, ite_not, ↓if_pos, ↓if_neg, ↓ite_bI_t, ↓ite_bI_f, h4]
    · rw [bI_neg (by omega)]
      simp (disch := first | assumption | exact bI_lo | exact bI_hi | exact bI_01 | (show (List.map q_wd _).sum ≤ 8; with_unfolding_all exact Nat.le_of_ble_eq_true rfl) | omega) only [kX0_has_0, kX0_has_1, kX0_has_4, kX0_has_5, kX0_has_6, kX0_has_9, kX0_has_12, kX0_has_13, kX0_has_16, kX0_has_17, q_cut_i, q_cut_r, q_cut_l, q_cut_n, q_psh_n, q_psh_s, bI_eq0, ite_not, ↓if_pos, ↓if_neg, ↓ite_bI_t, ↓ite_bI_f, h4]
theorem vX0_clear (hg : gI M g) (hw : q_wf M) (h : FLm M g c N O) : ∃ M', q_C (d + 1) iX0_clear [qr (g 18)] M none M' ∧ FLm M' g c [] [] ∧ GF flS M M' g g ∧ q_qt M M' := by
  obtain ⟨h1, h2, h3, h4, h5, h6, h7, h8, h9, h10, h11, h12⟩ := h
  have n23 := g_ne hg (s := 23) (t := 18) (by omega) (by omega) (by omega)
  have F1 : GF flS M (q_wr M (g 18) 4 (qi 0)) g g := GF_wr hg hw (by omega) ⟨by omega, by omega⟩
  have F2 : GF flS (q_wr M (g 18) 4 (qi 0)) (q_wr (q_wr M (g 18) 4 (qi 0)) (g 18) 6 (qi 0)) g g := GF_wr F1.2.2.2.1 F1.2.2.2.2 (by omega) ⟨by omega, by omega⟩
  refine ⟨q_wr (q_wr M (g 18) 4 (qi 0)) (g 18) 6 (qi 0), C_of (fun P => ?_), ⟨h1, q_fwo (by decide) q_fws, q_fwo (by decide) (q_fwo (by decide) h3), q_fws, h5, by simp, fun k hk => ?_, fun k hk i q hq => by simp at hq, fun i hi => ?_, fun i v hv => by simp at hv, by simp, by simp⟩, F1.tr F2, q_qt.wr.tr q_qt.wr⟩
  · rw [eX0_clear]
    simp (disch := first | assumption | exact bI_lo | exact bI_hi | exact bI_01 | (show (List.map q_wd _).sum ≤ 8; with_unfolding_all exact Nat.le_of_ble_eq_true rfl) | omega | (simp only [q_kd_wr]; assumption)) only [kX0_clear_0, kX0_clear_1, kX0_clear_2, kX0_clear_5, kX0_clear_6, kX0_clear_7, kX0_clear_10, q_cut_i, q_cut_r, q_cut_l, q_cut_n, q_psh_n, q_psh_s, bI_eq0, ite_not]
  · obtain ⟨a1, a2, a3, a4, a5, a6⟩ := h7 k hk
    have nk := g_ne hg (s := 19 + k) (t := 18) (by omega) (by omega) (by omega)
    exact ⟨q_fwo (by omega) (q_fwo (by omega) a1), a2, Nat.zero_le _, a4, a5, fun i hi => by rw [q_fv_wrE, if_neg (fun z => nk z.1), q_fv_wrE, if_neg (fun z => nk z.1)]; exact a6 i hi⟩
  · rw [q_fv_wrE, if_neg (fun z => n23 z.1), q_fv_wrE, if_neg (fun z => n23 z.1)]
    exact h9 i hi
def flA (N : List (Int × Int × Int)) (O : List Nat) (q : Int × Int × Int) : List (Int × Int × Int) × List Nat := (N ++ [q], O ++ [N.length])
theorem fl_room {C : QC} {q : Int × Int × Int} (hg : gI M g) (hw : q_wf M) (h : FLm M g c N O) (hc : ∀ k, k < 4 → N.length < c k) (hO : O.length < 8) (hq : q_i32 q.1 ∧ q_i32 q.2.1 ∧ q_i32 q.2.2) : ∃ M', (∀ P, Rr C mX0_append (103, [some (qr (g 18)), some (qi q.1), some (qi q.2.1), some (qi q.2.2)], [], M) P = P (some (qi O.length)) M') ∧ FLm M' g c (N ++ [q]) (O ++ [N.length]) ∧ GF flS M M' g g ∧ q_qt M M' := by
  have h' := h
  obtain ⟨h1, h2, h3, h4, h5, h6, h7, h8, h9, h10, h11, h12⟩ := h
  obtain ⟨⟨q11, q12⟩, ⟨q21, q22⟩, q31, q32⟩ := id hq
  have n01 := g_ne hg (s := 18) (t := 19) (by omega) (by omega) (by omega)
  have n02 := g_ne hg (s := 18) (t := 20) (by omega) (by omega) (by omega)
  have n03 := g_ne hg (s := 18) (t := 21) (by omega) (by omega) (by omega)
  have n04 := g_ne hg (s := 18) (t := 22) (by omega) (by omega) (by omega)
  have n05 := g_ne hg (s := 18) (t := 23) (by omega) (by omega) (by omega)
  have n12 := g_ne hg (s := 19) (t := 20) (by omega) (by omega) (by omega)
  have n13 := g_ne hg (s := 19) (t := 21) (by omega) (by omega) (by omega)
  have n14 := g_ne hg (s := 19) (t := 22) (by omega) (by omega) (by omega)
  have n15 := g_ne hg (s := 19) (t := 23) (by omega) (by omega) (by omega)
  have n23 := g_ne hg (s := 20) (t := 21) (by omega) (by omega) (by omega)
  have n24 := g_ne hg (s := 20) (t := 22) (by omega) (by omega) (by omega)
  have n25 := g_ne hg (s := 20) (t := 23) (by omega) (by omega) (by omega)
  have n34 := g_ne hg (s := 21) (t := 22) (by omega) (by omega) (by omega)
  have n35 := g_ne hg (s := 21) (t := 23) (by omega) (by omega) (by omega)
  have n45 := g_ne hg (s := 22) (t := 23) (by omega) (by omega) (by omega)
  obtain ⟨a0, b0, e0, l0⟩ := FLm_c (s := 19) h' (by omega : 0 < 4) rfl
  obtain ⟨a1, b1, e1, l1⟩ := FLm_c (s := 20) h' (by omega : 1 < 4) rfl
  obtain ⟨a2, b2, e2, l2⟩ := FLm_c (s := 21) h' (by omega : 2 < 4) rfl
  obtain ⟨a3, b3, e3, l3⟩ := FLm_c (s := 22) h' (by omega : 3 < 4) rfl
  have b5 : (q_kd M (g 23)).1 = 2 := by rw [h5]
  have e5 : (q_kd M (g 23)).2 = 8 := by rw [h5]
  have c0 := hc 0 (by omega)
  have c1 := hc 1 (by omega)
  have c2 := hc 2 (by omega)
  have bN := (h7 0 (by omega)).2.2.2.2.1
  have W : ∀ (A : QM) (s k : Nat) (v : CV), flS s → gI A g → q_wf A → GF flS A (q_wr A (g s) k v) g g := fun A s k v hs ha hb => GF_wr ha hb (by unfold flS at hs; omega) hs
  have f1 := W M 19 N.length (qi q.1) ⟨by omega, by omega⟩ hg hw
  have f2 := W _ 20 N.length (qi q.2.1) ⟨by omega, by omega⟩ f1.2.2.2.1 f1.2.2.2.2
  have f3 := W _ 21 N.length (qi q.2.2) ⟨by omega, by omega⟩ f2.2.2.2.1 f2.2.2.2.2
  have f4 := W _ 23 O.length (qi N.length) ⟨by omega, by omega⟩ f3.2.2.2.1 f3.2.2.2.2
  have f5 := W _ 18 4 (qi ((N.length : Int) + 1)) ⟨by omega, by omega⟩ f4.2.2.2.1 f4.2.2.2.2
  have f6 := W _ 18 6 (qi ((O.length : Int) + 1)) ⟨by omega, by omega⟩ f5.2.2.2.1 f5.2.2.2.2
  have ff := ((((f1.tr f2).tr f3).tr f4).tr f5).tr f6
  refine ⟨_, fun P => ?_, ?_, ff, ((((q_qt.wr.tr q_qt.wr).tr q_qt.wr).tr q_qt.wr).tr q_qt.wr).tr q_qt.wr⟩
  · have em : (O.length : Int) + 1 - 1 = O.length := by omega
    simp (disch := first | assumption | exact bI_lo | exact bI_hi | exact bI_01 | (show (List.map q_wd _).sum ≤ 8; with_unfolding_all exact Nat.le_of_ble_eq_true rfl) | omega | (simp only [q_kd_wr]; first | assumption | omega)) only [kX0_append_103, kX0_append_104, kX0_append_107, kX0_append_108, kX0_append_111, kX0_append_112, kX0_append_113, kX0_append_114, kX0_append_117, kX0_append_118, kX0_append_121, kX0_append_122, kX0_append_123, kX0_append_124, kX0_append_127, kX0_append_128, kX0_append_131, kX0_append_132, kX0_append_133, kX0_append_134, kX0_append_137, kX0_append_138, kX0_append_141, kX0_append_142, kX0_append_145, kX0_append_146, kX0_append_147i, kX0_append_147r, kX0_append_148, kX0_append_151, kX0_append_152, kX0_append_153, kX0_append_156, kX0_append_157i, kX0_append_157r, kX0_append_158, kX0_append_161, kX0_append_162, kX0_append_163, kX0_append_166, kX0_append_167, kX0_append_170, kX0_append_171, kX0_append_172, q_cut_i, q_cut_r, q_cut_l, q_cut_n, q_psh_n, q_psh_s, bI_eq0, ite_not, ↓if_pos, ↓if_neg, ↓ite_bI_t, ↓ite_bI_f, q_toN, q_fv_wrE, a0, a1, a2, h2, h3, h4, n01, n02, n03, n05, n01.symm, n02.symm, n03.symm, n05.symm, false_and, and_true, true_and, if_false, if_true, Nat.reduceEqDiff, and_false, em]
  · have e18 : ∀ k, q_fv (q_wr (q_wr (q_wr (q_wr (q_wr (q_wr M (g 19) N.length (qi q.1)) (g 20) N.length (qi q.2.1)) (g 21) N.length (qi q.2.2)) (g 23) O.length (qi N.length)) (g 18) 4 (qi ((N.length : Int) + 1))) (g 18) 6 (qi ((O.length : Int) + 1))) (g 18) k = if k = 6 then qi ((O.length : Int) + 1) else if k = 4 then qi ((N.length : Int) + 1) else q_fv M (g 18) k := by
      intro k
      simp only [q_fv_wrE, n01, n02, n03, n05, false_and, true_and, if_false]
    have e23 : ∀ k, q_fv (q_wr (q_wr (q_wr (q_wr (q_wr (q_wr M (g 19) N.length (qi q.1)) (g 20) N.length (qi q.2.1)) (g 21) N.length (qi q.2.2)) (g 23) O.length (qi N.length)) (g 18) 4 (qi ((N.length : Int) + 1))) (g 18) 6 (qi ((O.length : Int) + 1))) (g 23) k = if k = O.length then qi N.length else q_fv M (g 23) k := by
      intro k
      simp only [q_fv_wrE, n05.symm, n15.symm, n25.symm, n35.symm, false_and, true_and, if_false]
    have e22 : ∀ k, q_fv (q_wr (q_wr (q_wr (q_wr (q_wr (q_wr M (g 19) N.length (qi q.1)) (g 20) N.length (qi q.2.1)) (g 21) N.length (qi q.2.2)) (g 23) O.length (qi N.length)) (g 18) 4 (qi ((N.length : Int) + 1))) (g 18) 6 (qi ((O.length : Int) + 1))) (g 22) k = q_fv M (g 22) k := by
      intro k
      simp only [q_fv_wrE, n04.symm, n14.symm, n24.symm, n34.symm, n45, false_and, true_and, if_false]
    have ek : ∀ k i, k < 3 → q_fv (q_wr (q_wr (q_wr (q_wr (q_wr (q_wr M (g 19) N.length (qi q.1)) (g 20) N.length (qi q.2.1)) (g 21) N.length (qi q.2.2)) (g 23) O.length (qi N.length)) (g 18) 4 (qi ((N.length : Int) + 1))) (g 18) 6 (qi ((O.length : Int) + 1))) (g (19 + k)) i = if i = N.length then qi (fcol k q) else q_fv M (g (19 + k)) i := by
      intro k i hk
      have : k = 0 ∨ k = 1 ∨ k = 2 := by omega
      rcases this with rfl | rfl | rfl
      · show q_fv _ (g 19) i = if i = N.length then qi q.1 else q_fv M (g 19) i
        simp only [q_fv_wrE, n01.symm, n12, n13, n15, false_and, true_and, if_false]
      · show q_fv _ (g 20) i = if i = N.length then qi q.2.1 else q_fv M (g 20) i
        simp only [q_fv_wrE, n02.symm, n12.symm, n23, n25, false_and, true_and, if_false]
      · show q_fv _ (g 21) i = if i = N.length then qi q.2.2 else q_fv M (g 21) i
        simp only [q_fv_wrE, n03.symm, n13.symm, n23.symm, n35, false_and, true_and, if_false]
    refine ⟨h1, ?_, ?_, ?_, h5, ?_, fun k hk => ?_, fun k hk i r hr => ?_, fun i hi => ?_, fun i v hv => ?_, fun v hv => ?_, fun r hr => ?_⟩
    · rw [e18]; simp
    · rw [e18, if_neg (by omega), if_neg (by omega)]; exact h3
    · rw [e18]; simp
    · simp; omega
    · obtain ⟨x1, x2, x3, x4, x5, x6⟩ := h7 k hk
      have := hc k hk
      refine ⟨by rw [e18, if_neg (by omega), if_neg (by omega), x1], x2, by simp; omega, x4, x5, fun i hi => ?_⟩
      by_cases k3 : k < 3
      · rw [ek k i k3]
        split
        · exact ⟨_, rfl⟩
        · exact x6 i hi
      · have : k = 3 := by omega
        subst this
        rw [e22]; exact x6 i hi
    · rw [ek k i hk]
      by_cases hi : i = N.length
      · subst hi
        rw [List.getElem?_append_right (Nat.le_refl _), Nat.sub_self] at hr
        have : r = q := by simpa using hr.symm
        rw [if_pos rfl, this]
      · rw [if_neg hi]
        by_cases hl : i < N.length
        · rw [List.getElem?_append_left hl] at hr
          exact h8 k hk i r hr
        · rw [List.getElem?_eq_none (by simp; omega)] at hr
          simp at hr
    · rw [e23]
      split
      · exact ⟨_, rfl⟩
      · exact h9 i hi
    · rw [e23]
      by_cases hi : i = O.length
      · subst hi
        rw [List.getElem?_append_right (Nat.le_refl _), Nat.sub_self] at hv
        have : v = N.length := by simpa using hv.symm
        rw [if_pos rfl, this]
      · rw [if_neg hi]
        by_cases hl : i < O.length
        · rw [List.getElem?_append_left hl] at hv
          exact h10 i v hv
        · rw [List.getElem?_eq_none (by simp; omega)] at hv
          simp at hv
    · rw [List.length_append, List.length_singleton]
      rcases List.mem_append.mp hv with hv | hv
      · have := h11 v hv; omega
      · rw [List.mem_singleton.mp hv]; omega
    · rcases List.mem_append.mp hr with hr | hr
      · exact h12 r hr
      · rw [List.mem_singleton.mp hr]; exact hq
end FL
