
/-! Spelling: the next row -/
def spRow (f : Nat → Int) (i c : Int) (w : Nat) : Nat → Int
  | 0 => i
  | j + 1 => min (if (wdAt w j : Nat) = c then f j else f j + 1) (min (f (j + 1)) (spRow f i c w j) + 1)
theorem spRow_b {f : Nat → Int} {i c : Int} {w : Nat} {K : Int} (hf : ∀ j, 0 ≤ f j ∧ f j ≤ K) (hi : 0 ≤ i ∧ i ≤ K) : ∀ j, 0 ≤ spRow f i c w j ∧ spRow f i c w j ≤ K + 1 := by
  intro j
  induction j with
  | zero => rw [spRow]; omega
  | succ j ih =>
    have h1 := hf j
    have h2 := hf (j + 1)
    rw [spRow]
    split <;> omega
def SPm (M : QM) (s r : Nat) (f : Nat → Int) : Prop := q_kd M s = (1, 7) ∧ q_fv M s 0 = qr r ∧ q_kd M r = (2, 9) ∧ ∀ j, j < 9 → q_fv M r j = qi (f j)
theorem vX7_nextRow {M : QM} {s r d : Nat} {f : Nat → Int} {i c w : Int} (hw : q_wf M) (h : SPm M s r f) (hf : ∀ j, 0 ≤ f j ∧ f j ≤ 1000) (hi : 0 ≤ i ∧ i ≤ 1000) (hc : 0 ≤ c ∧ c < 32) (h0 : 0 ≤ w) (h1 : w < 2 ^ 40) : ∃ M', q_C (d + 2) iX7_nextRow [qr s, qi i, qi c, ql w] M none M' ∧ SPm M' s r (spRow f i c w.toNat) ∧ q_fr (fun x => x = r) M M' ∧ q_qt M M' := by
  obtain ⟨k1, f0, k2, hv⟩ := h
  have sr : s ≠ r := q_neK k1 k2 (by simp)
  have hSlt : s < q_top M := hw.lt (by rw [k1]; simp)
  have hs := spRow_b (c := c) (w := w.toNat) hf hi
  have loop : ∀ (m j : Nat) (A : QM) (l7 l8 : Option CV), j + 1 + m = 9 → q_fr (fun x => x = r) M A → q_qt M A → (∀ k, k < 9 → q_fv A r k = qi (if k < j + 1 then spRow f i c w.toNat k else f k)) → ∃ B, (∀ P, Rr (q_C (d + 1)) mX7_nextRow (18, [some (qr s), some (qi i), some (qi c), some (ql w), none, some (qi (f j)), some (qi ((j : Int) + 1)), l7, l8], [], A) P = P none B) ∧ q_fr (fun x => x = r) M B ∧ q_qt M B ∧ (∀ k, k < 9 → q_fv B r k = qi (spRow f i c w.toNat k)) := by
    intro m
    induction m with
    | zero =>
      intro j A l7 l8 hm hF hQ hA
      have a1 : q_kd A s = (1, 7) := by rw [hQ.1, k1]
      have a2 : q_kd A r = (2, 9) := by rw [hQ.1, k2]
      have a3 : q_fv A s 0 = qr r := by rw [hF.2.2.2 s hSlt sr, f0]
      have b2 : 2 ≤ (q_kd A r).1 := by rw [a2]; exact Nat.le_refl 2
      have b9 : (q_kd A r).1 ≤ 9 := by rw [a2]; exact Nat.le_of_ble_eq_true rfl
      have e9 : ((q_kd A r).2 : Int) = 9 := by rw [a2]; rfl
      refine ⟨A, fun P => ?_, hF, hQ, fun k hk => by rw [hA k hk, if_pos (by omega)]⟩
      rw [kX7_nextRow_18]
      simp (disch := first | assumption | exact bI_lo | exact bI_hi | exact bI_01 | (show (List.map q_wd _).sum ≤ 8; with_unfolding_all exact Nat.le_of_ble_eq_true rfl) | omega) only [kX7_nextRow_20, kX7_nextRow_21, kX7_nextRow_24, kX7_nextRow_25, kX7_nextRow_28, kX7_nextRow_29, kX7_nextRow_32, kX7_nextRow_34, kX7_nextRow_35, kX7_nextRow_37, kX7_nextRow_38, kX7_nextRow_40, kX7_nextRow_41, kX7_nextRow_42E, kX7_nextRow_45, kX7_nextRow_46, kX7_nextRow_49, kX7_nextRow_51, kX7_nextRow_54, kX7_nextRow_56, kX7_nextRow_57, kX7_nextRow_58, kX7_nextRow_60, kX7_nextRow_61, kX7_nextRow_64, kX7_nextRow_66, kX7_nextRow_68, kX7_nextRow_70, kX7_nextRow_71, kX7_nextRow_74, kX7_nextRow_76, kX7_nextRow_77, kX7_nextRow_78, kX7_nextRow_79, kX7_nextRow_82, kX7_nextRow_83, kX7_nextRow_84, kX7_nextRow_87, kX7_nextRow_88, kX7_nextRow_90, kX7_nextRow_92, kX7_nextRow_95, kX7_nextRow_98, q_cut_i, q_cut_r, q_cut_l, q_cut_n, q_psh_n, q_psh_s, bI_eq0, ite_not, ↓if_pos, ↓if_neg, ↓ite_bI_t, ↓ite_bI_f, a3, e9]
    | succ m ih =>
      intro j A l7 l8 hm hF hQ hA
      have a1 : q_kd A s = (1, 7) := by rw [hQ.1, k1]
      have a2 : q_kd A r = (2, 9) := by rw [hQ.1, k2]
      have a3 : q_fv A s 0 = qr r := by rw [hF.2.2.2 s hSlt sr, f0]
      have b2 : 2 ≤ (q_kd A r).1 := by rw [a2]; exact Nat.le_refl 2
      have b9 : (q_kd A r).1 ≤ 9 := by rw [a2]; exact Nat.le_of_ble_eq_true rfl
      have b5 : (q_kd A r).1 = 2 := by rw [a2]
      have e9 : ((q_kd A r).2 : Int) = 9 := by rw [a2]; rfl
      have fj := hf j
      have fj1 := hf (j + 1)
      have sj := hs j
      have vj := hA j (by omega)
      rw [if_pos (by omega)] at vj
      have vj1 := hA (j + 1) (by omega)
      rw [if_neg (by omega)] at vj1
      have t1 : ((j : Int) + 1).toNat = j + 1 := by omega
      have t2 : ((j : Int) + 1 - 1) = (j : Int) := by omega
      have rl := fun x : QP => uX10_letterOf (d := d) (M := A) (P := x) (i := (j : Int)) h0 h1 (by omega) (by omega)
      rw [if_neg (by omega), q_toN] at rl
      have wl := wdAt_lt w.toNat j
      obtain ⟨V, hV⟩ : ∃ V, V = spRow f i c w.toNat (j + 1) := ⟨_, rfl⟩
      have hV2 := hV
      rw [spRow] at hV2
      obtain ⟨B, q1, q2, q3, q4⟩ := ih (j + 1) (q_wr A r (j + 1) (qi V)) (some (qi (f (j + 1)))) (some (qi (if (wdAt w.toNat j : Nat) = c then f j else f j + 1))) (by omega) (hF.tr (q_fr.wr rfl)) (hQ.tr q_qt.wr) (fun k hk => by
        rw [q_fv_wrE]
        by_cases e : k = j + 1
        · subst e
          rw [if_pos ⟨rfl, rfl⟩, if_pos (by omega), hV]
        · rw [if_neg (fun z => e z.2), hA k hk]
          by_cases e2 : k < j + 1
          · rw [if_pos e2, if_pos (by omega)]
          · rw [if_neg e2, if_neg (by omega)])
      refine ⟨B, fun P => ?_, q2, q3, q4⟩
      have q1' := q1 P
      rw [show ((j + 1 : Nat) : Int) + 1 = (j : Int) + 1 + 1 by omega] at q1'
      rw [kX7_nextRow_18]
      by_cases g : ((wdAt w.toNat j : Nat) : Int) = c
      · rw [if_pos g] at hV2 q1'
        simp (disch := first | assumption | exact bI_lo | exact bI_hi | exact bI_01 | (show (List.map q_wd _).sum ≤ 8; with_unfolding_all exact Nat.le_of_ble_eq_true rfl) | omega) only [kX7_nextRow_20, kX7_nextRow_21, kX7_nextRow_24, kX7_nextRow_25, kX7_nextRow_28, kX7_nextRow_29, kX7_nextRow_32, kX7_nextRow_34, kX7_nextRow_35, kX7_nextRow_37, kX7_nextRow_38, kX7_nextRow_40, kX7_nextRow_41, kX7_nextRow_42E, kX7_nextRow_45, kX7_nextRow_46, kX7_nextRow_49, kX7_nextRow_51, kX7_nextRow_54, kX7_nextRow_56, kX7_nextRow_57, kX7_nextRow_58, kX7_nextRow_60, kX7_nextRow_61, kX7_nextRow_64, kX7_nextRow_66, kX7_nextRow_68, kX7_nextRow_70, kX7_nextRow_71, kX7_nextRow_74, kX7_nextRow_76, kX7_nextRow_77, kX7_nextRow_78, kX7_nextRow_79, kX7_nextRow_82, kX7_nextRow_83, kX7_nextRow_84, kX7_nextRow_87, kX7_nextRow_88, kX7_nextRow_90, kX7_nextRow_92, kX7_nextRow_95, kX7_nextRow_98, q_cut_i, q_cut_r, q_cut_l, q_cut_n, q_psh_n, q_psh_s, bI_eq0, ite_not, ↓if_pos, ↓if_neg, ↓ite_bI_t, ↓ite_bI_f, a3, e9, t1, t2, q_toN, vj1, rl, vj, ← hV2]
        exact q1'
      · rw [if_neg g] at hV2 q1'
        simp (disch := first | assumption | exact bI_lo | exact bI_hi | exact bI_01 | (show (List.map q_wd _).sum ≤ 8; with_unfolding_all exact Nat.le_of_ble_eq_true rfl) | omega) only [kX7_nextRow_20, kX7_nextRow_21, kX7_nextRow_24, kX7_nextRow_25, kX7_nextRow_28, kX7_nextRow_29, kX7_nextRow_32, kX7_nextRow_34, kX7_nextRow_35, kX7_nextRow_37, kX7_nextRow_38, kX7_nextRow_40, kX7_nextRow_41, kX7_nextRow_42E, kX7_nextRow_45, kX7_nextRow_46, kX7_nextRow_49, kX7_nextRow_51, kX7_nextRow_54, kX7_nextRow_56, kX7_nextRow_57, kX7_nextRow_58, kX7_nextRow_60, kX7_nextRow_61, kX7_nextRow_64, kX7_nextRow_66, kX7_nextRow_68, kX7_nextRow_70, kX7_nextRow_71, kX7_nextRow_74, kX7_nextRow_76, kX7_nextRow_77, kX7_nextRow_78, kX7_nextRow_79, kX7_nextRow_82, kX7_nextRow_83, kX7_nextRow_84, kX7_nextRow_87, kX7_nextRow_88, kX7_nextRow_90, kX7_nextRow_92, kX7_nextRow_95, kX7_nextRow_98, q_cut_i, q_cut_r, q_cut_l, q_cut_n, q_psh_n, q_psh_s, bI_eq0, ite_not, ↓if_pos, ↓if_neg, ↓ite_bI_t, ↓ite_bI_f, a3, e9, t1, t2, q_toN, vj1, rl, vj, ← hV2]
        exact q1'
  have b5 : (q_kd M r).1 = 2 := by rw [k2]
  have e9 : ((q_kd M r).2 : Int) = 9 := by rw [k2]; rfl
  obtain ⟨B, q1, q2, q3, q4⟩ := loop 8 0 (q_wr M r 0 (qi i)) none none (by omega) (q_fr.wr rfl) q_qt.wr (fun k hk => by
    rw [q_fv_wrE]
    by_cases e : k = 0
    · subst e
      rw [if_pos ⟨rfl, rfl⟩, if_pos (by omega), spRow]
    · rw [if_neg (fun z => e z.2), if_neg (by omega), hv k hk])
  refine ⟨B, C_of (fun P => ?_), ⟨by rw [q3.1, k1], by rw [q2.2.2.2 s hSlt sr, f0], by rw [q3.1, k2], q4⟩, q2, q3⟩
  have q1' := q1 P
  have v0 := hv 0 (by omega)
  rw [eX7_nextRow]
  simp (disch := first | assumption | exact bI_lo | exact bI_hi | exact bI_01 | (show (List.map q_wd _).sum ≤ 8; with_unfolding_all exact Nat.le_of_ble_eq_true rfl) | omega | (simp only [q_kd_wr]; first | assumption | omega)) only [kX7_nextRow_0, kX7_nextRow_1, kX7_nextRow_4, kX7_nextRow_5, kX7_nextRow_6, kX7_nextRow_8, kX7_nextRow_9, kX7_nextRow_12, kX7_nextRow_13, kX7_nextRow_14, kX7_nextRow_15, kX7_nextRow_16, q_cut_i, q_cut_r, q_cut_l, q_cut_n, q_psh_n, q_psh_s, bI_eq0, ite_not, f0, e9, Int.toNat_zero, v0]
  exact q1'
