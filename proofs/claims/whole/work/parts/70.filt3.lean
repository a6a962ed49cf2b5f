
/-! Filters: remove; sets -/
theorem bSet_and (f g : Nat → Bool) (n : Nat) : bSet f n &&& bSet g n = bSet (fun p => f p && g p) n := by
  refine Nat.eq_of_testBit_eq (fun i => ?_)
  rw [Nat.testBit_and, bSet_tb, bSet_tb, bSet_tb]
  by_cases h : i < n <;> simp [h]
theorem bSet_orr (f g : Nat → Bool) (n : Nat) : bSet f n ||| bSet g n = bSet (fun p => f p || g p) n := by
  refine Nat.eq_of_testBit_eq (fun i => ?_)
  rw [Nat.testBit_or, bSet_tb, bSet_tb, bSet_tb]
  by_cases h : i < n <;> simp [h]
theorem y_andS {f g : Nat → Bool} {n : Nat} (h : n ≤ 20) : q_and (bSet f n : Nat) (bSet g n : Nat) = (bSet (fun p => f p && g p) n : Nat) := by
  have h1 := y_big (f := f) h
  have h2 := y_big (f := g) h
  rw [y_and (by omega) (by omega), bSet_and]
theorem y_orS {f g : Nat → Bool} {n : Nat} (h : n ≤ 20) : q_or (bSet f n : Nat) (bSet g n : Nat) = (bSet (fun p => f p || g p) n : Nat) := by
  have h1 := y_big (f := f) h
  have h2 := y_big (f := g) h
  rw [y_or (by omega) (by omega), bSet_orr]
theorem y_xorR (a b : Int) : -2147483648 ≤ q_xor a b ∧ q_xor a b < 2147483648 := by
  have h1 := (Int32.ofInt a ^^^ Int32.ofInt b).le_toInt
  have h2 := (Int32.ofInt a ^^^ Int32.ofInt b).toInt_lt
  unfold q_xor
  exact ⟨h1, h2⟩
theorem y_andN {f g : Nat → Bool} {n : Nat} (h : n ≤ 20) : q_and (bSet f n : Nat) (q_xor (bSet g n : Nat) (-1)) = (bSet (fun p => f p && !g p) n : Nat) := by
  have h1 := y_big (f := f) h
  have h2 := y_big (f := g) h
  have h3 := y_big (f := fun p => f p && !g p) h
  have e : Int32.ofInt (q_xor (bSet g n : Nat) (-1)) = Int32.ofInt (bSet g n : Nat) ^^^ Int32.ofInt (-1) := by
    unfold q_xor
    rw [Int32.ofInt_toInt]
  unfold q_and
  rw [e]
  refine y_ofN (by omega) ?_
  rw [Int32.toBitVec_and, BitVec.toNat_and, Int32.toBitVec_xor, BitVec.toNat_xor, y_nat (by omega), y_nat (by omega), show (Int32.ofInt (-1)).toBitVec.toNat = 2 ^ 32 - 1 from by decide]
  refine Nat.eq_of_testBit_eq (fun i => ?_)
  rw [Nat.testBit_and, Nat.testBit_xor, Nat.testBit_two_pow_sub_one, bSet_tb, bSet_tb, bSet_tb]
  by_cases h : i < n
  · simp [h, show i < 32 by omega]
  · simp [h]
theorem bSet_0 (n : Nat) : bSet (fun _ => false) n = 0 := by
  induction n with
  | zero => rfl
  | succ n ih => rw [bSet, ih]; rfl
section FL3
variable {M : QM} {g c : Nat → Nat} {N : List (Int × Int × Int)} {O : List Nat} {d : Nat} {x : QP}
theorem uX0_removeN {k : Int} (h : FLm M g c N O) (k1 : -2147483648 ≤ k) (k2 : k < 2147483648) (hk : ¬ (0 ≤ k ∧ k < O.length)) : q_T (d + 2) iX0_remove [qr (g 18), qi k] M x = x (some (qi (-1))) M := by
  obtain ⟨h1, h2, h3, h4, -⟩ := id h
  rw [eX0_remove]
  simp (disch := first | assumption | exact bI_lo | exact bI_hi | exact bI_01 | (show (List.map q_wd _).sum ≤ 8; with_unfolding_all exact Nat.le_of_ble_eq_true rfl) | omega) only [kX0_remove_0, kX0_remove_1, kX0_remove_2E, kX0_remove_5, kX0_remove_8, kX0_remove_9, q_cut_i, q_cut_r, q_cut_l, q_cut_n, q_psh_n, q_psh_s, bI_eq0, ite_not, ↓if_pos, ↓if_neg, ↓ite_bI_t, ↓ite_bI_f, uX0_has h]
theorem vX0_remove {k : Nat} (hg : gI M g) (hw : q_wf M) (h : FLm M g c N O) (hk : k < O.length) : ∃ M', q_C (d + 2) iX0_remove [qr (g 18), qi k] M (some (qi ((O.length : Int) - 1))) M' ∧ FLm M' g c N (O.eraseIdx k) ∧ GF flS M M' g g ∧ q_qt M M' := by
  obtain ⟨h1, h2, h3, h4, h5, h6, h7, h8, h9, h10, h11, h12⟩ := id h
  have n23 := g_ne hg (s := 23) (t := 18) (by omega) (by omega) (by omega)
  obtain ⟨V, hV⟩ : ∃ V : Nat → Int, ∀ j, j < 8 → q_fv M (g 23) j = qi (V j) := ⟨fun j => if hj : j < 8 then (h9 j hj).choose else 0, fun j hj => by dsimp only; rw [dif_pos hj]; exact (h9 j hj).choose_spec⟩
  have b5 : (q_kd M (g 23)).1 = 2 := by rw [h5]
  have e5 : (q_kd M (g 23)).2 = 8 := by rw [h5]
  obtain ⟨M1, hM1⟩ : ∃ M1, q_wr M (g 18) 6 (qi ((O.length : Int) - 1)) = M1 := ⟨_, rfl⟩
  have F1 : GF flS M M1 g g := by rw [← hM1]; exact GF_wr hg hw (by omega) ⟨by omega, by omega⟩
  have Q1 : q_qt M M1 := by rw [← hM1]; exact q_qt.wr
  have loop : ∀ (m i : Nat) (A : QM), i + m = O.length - 1 → k ≤ i → GF (fun s => s = 23) M1 A g g → q_qt M1 A → (∀ j, j < 8 → q_fv A (g 23) j = qi (if k ≤ j ∧ j < i then V (j + 1) else V j)) → ∃ B, (∀ P, Rr (q_C (d + 1)) mX0_remove (22, [some (qr (g 18)), some (qi k), some (qi i)], [], A) P = P (some (qi ((O.length : Int) - 1))) B) ∧ GF (fun s => s = 23) M1 B g g ∧ q_qt M1 B ∧ (∀ j, j < 8 → q_fv B (g 23) j = qi (if k ≤ j ∧ j < O.length - 1 then V (j + 1) else V j)) := by
    intro m
    induction m with
    | zero =>
      intro i A hm hi hF hQ hv
      have e : i = O.length - 1 := by omega
      subst e
      refine ⟨A, fun P => ?_, hF, hQ, hv⟩
      have s18 := hF.sm F1.2.2.2.1 (s := 18) (by omega) (by omega)
      have k18 : q_kd A (g 18) = (1, 0) := by rw [s18.1, ← hM1]; exact h1
      have v6 : q_fv A (g 18) 6 = qi ((O.length : Int) - 1) := by rw [s18.2, ← hM1]; exact q_fws
      rw [kX0_remove_22]
      simp (disch := first | assumption | exact bI_lo | exact bI_hi | exact bI_01 | (show (List.map q_wd _).sum ≤ 8; with_unfolding_all exact Nat.le_of_ble_eq_true rfl) | omega) only [kX0_remove_23, kX0_remove_24, kX0_remove_27, kX0_remove_30, kX0_remove_31, kX0_remove_34, kX0_remove_35, kX0_remove_36, kX0_remove_39, kX0_remove_40, kX0_remove_41, kX0_remove_42, kX0_remove_43, kX0_remove_44, kX0_remove_47, kX0_remove_50, kX0_remove_51, kX0_remove_54, q_cut_i, q_cut_r, q_cut_l, q_cut_n, q_psh_n, q_psh_s, bI_eq0, ite_not, ↓if_pos, ↓if_neg, ↓ite_bI_t, ↓ite_bI_f, v6]
    | succ m ih =>
      intro i A hm hi hF hQ hv
      have s18 := hF.sm F1.2.2.2.1 (s := 18) (by omega) (by omega)
      have k18 : q_kd A (g 18) = (1, 0) := by rw [s18.1, ← hM1]; exact h1
      have v6 : q_fv A (g 18) 6 = qi ((O.length : Int) - 1) := by rw [s18.2, ← hM1]; exact q_fws
      have v5 : q_fv A (g 18) 5 = qr (g 23) := by rw [s18.2, ← hM1]; exact q_fwo (by decide) h3
      have k23 : q_kd A (g 23) = (2, 8) := by rw [hQ.1, Q1.1]; exact h5
      have b5 : (q_kd A (g 23)).1 = 2 := by rw [k23]
      have e5 : (q_kd A (g 23)).2 = 8 := by rw [k23]
      have vi := hv (i + 1) (by omega)
      rw [if_neg (by omega)] at vi
      have en : ((i : Int) + 1).toNat = i + 1 := by omega
      have hF2 : GF (fun s => s = 23) A (q_wr A (g 23) i (qi (V (i + 1)))) g g := GF_wr hF.2.2.2.1 hF.2.2.2.2 (by omega) rfl
      obtain ⟨B, r1, r2, r3, r4⟩ := ih (i + 1) (q_wr A (g 23) i (qi (V (i + 1)))) (by omega) (by omega) (hF.tr hF2) (hQ.tr q_qt.wr) (fun j hj => by
        rw [q_fv_wrE]
        by_cases e : j = i
        · subst e
          rw [if_pos ⟨rfl, rfl⟩, if_pos (by omega)]
        · rw [if_neg (fun z => e z.2), hv j hj]
          by_cases e2 : k ≤ j ∧ j < i
          · rw [if_pos e2, if_pos (by omega)]
          · rw [if_neg e2, if_neg (by omega)])
      refine ⟨B, fun P => ?_, r2, r3, r4⟩
      have r1' := r1 P
      rw [show ((i + 1 : Nat) : Int) = (i : Int) + 1 by omega] at r1'
      rw [kX0_remove_22]
      simp (disch := first | assumption | exact bI_lo | exact bI_hi | exact bI_01 | (show (List.map q_wd _).sum ≤ 8; with_unfolding_all exact Nat.le_of_ble_eq_true rfl) | omega) only [kX0_remove_23, kX0_remove_24, kX0_remove_27, kX0_remove_30, kX0_remove_31, kX0_remove_34, kX0_remove_35, kX0_remove_36, kX0_remove_39, kX0_remove_40, kX0_remove_41, kX0_remove_42, kX0_remove_43, kX0_remove_44, kX0_remove_47, kX0_remove_50, kX0_remove_51, kX0_remove_54, q_cut_i, q_cut_r, q_cut_l, q_cut_n, q_psh_n, q_psh_s, bI_eq0, ite_not, ↓if_pos, ↓if_neg, ↓ite_bI_t, ↓ite_bI_f, v6, v5, q_toN, vi, en]
      exact r1'
  have s23 : ∀ j, q_fv M1 (g 23) j = q_fv M (g 23) j := fun j => by rw [← hM1, q_fv_wrE, if_neg (fun z => n23 z.1)]
  obtain ⟨B, r1, r2, r3, r4⟩ := loop (O.length - 1 - k) k M1 (by omega) (Nat.le_refl _) (GF.rf F1.2.2.2.1 F1.2.2.2.2) ⟨fun _ => rfl, rfl, ⟨by omega, by omega⟩⟩ (fun j hj => by rw [if_neg (by omega), s23, hV j hj])
  have hVO : ∀ j v, O[j]? = some v → V j = (v : Nat) := by
    intro j v hj
    have hl : j < O.length := by
      rcases Nat.lt_or_ge j O.length with z | z
      · exact z
      · rw [List.getElem?_eq_none z] at hj; simp at hj
    have e1 := hV j (by omega)
    have e2 := h10 j v hj
    rw [e1] at e2
    have : some (V j) = some ((v : Nat) : Int) := by
      have := congrArg (fun z : CV => z) e2
      simpa [qi] using this
    exact Option.some.inj this
  have sm : ∀ s, flS s → s ≠ 18 → s ≠ 23 → Sm M B (g s) := fun s hs a b => (Sm.tr (by rw [← hM1]; exact Sm_wr (g_ne hg (by unfold flS at hs; omega) (by omega) a)) (r2.sm F1.2.2.2.1 (by unfold flS at hs; omega) b))
  have sm18 := r2.sm F1.2.2.2.1 (s := 18) (by omega) (by omega)
  have f18 : ∀ j, j ≠ 6 → q_fv B (g 18) j = q_fv M (g 18) j := fun j hj => by rw [sm18.2, ← hM1, q_fv_wrE, if_neg (fun z => hj z.2)]
  have el : (O.eraseIdx k).length = O.length - 1 := List.length_eraseIdx_of_lt hk
  refine ⟨B, C_of (fun P => ?_), ⟨by rw [r3.1, Q1.1]; exact h1, by rw [f18 4 (by decide)]; exact h2, by rw [f18 5 (by decide)]; exact h3, ?_, by rw [r3.1, Q1.1]; exact h5, by omega, fun k' hk' => ?_, fun k' hk' i q hq => ?_, fun i hi => ?_, fun i v hv => ?_, fun v hv => h11 v (List.mem_of_mem_eraseIdx hv), h12⟩, F1.tr (r2.wk (fun s _ z => by rw [z]; exact ⟨by omega, by omega⟩)), Q1.tr r3⟩
  · have r1' := r1 P
    rw [eX0_remove]
    simp (disch := first | assumption | exact bI_lo | exact bI_hi | exact bI_01 | (show (List.map q_wd _).sum ≤ 8; with_unfolding_all exact Nat.le_of_ble_eq_true rfl) | omega) only [kX0_remove_0, kX0_remove_1, kX0_remove_2E, kX0_remove_5, kX0_remove_8, kX0_remove_9, kX0_remove_10, kX0_remove_11i, kX0_remove_11r, kX0_remove_12, kX0_remove_15, kX0_remove_16, kX0_remove_17, kX0_remove_20, kX0_remove_21, q_cut_i, q_cut_r, q_cut_l, q_cut_n, q_psh_n, q_psh_s, bI_eq0, ite_not, ↓if_pos, ↓if_neg, ↓ite_bI_t, ↓ite_bI_f, uX0_has h, h4, hM1]
    exact r1'
  · rw [sm18.2, ← hM1, q_fws, el]
    congr 1
    omega
  · obtain ⟨a1, a2, a3, a4, a5, a6⟩ := h7 k' hk'
    have s := sm (19 + k') ⟨by omega, by omega⟩ (by omega) (by omega)
    exact ⟨by rw [f18 k' (by omega)]; exact a1, by rw [s.1]; exact a2, a3, a4, a5, fun i hi => by rw [s.2]; exact a6 i hi⟩
  · have s := sm (19 + k') ⟨by omega, by omega⟩ (by omega) (by omega)
    rw [s.2]
    exact h8 k' hk' i q hq
  · exact ⟨_, r4 i hi⟩
  · rw [List.getElem?_eraseIdx] at hv
    by_cases e : i < k
    · rw [if_pos e] at hv
      rw [r4 i (by omega), if_neg (by omega), hVO i v hv]
    · rw [if_neg e] at hv
      have hl : i + 1 < O.length := by
        rcases Nat.lt_or_ge (i + 1) O.length with z | z
        · exact z
        · rw [List.getElem?_eq_none z] at hv; simp at hv
      rw [r4 i (by omega), if_pos (by omega), hVO (i + 1) v hv]
end FL3
