
/-! Spelling: the distance -/
def spF (w v : Nat) : Nat → Nat → Int
  | 0 => fun j => if j < 9 then (j : Int) else 0
  | k + 1 => spRow (spF w v k) ((k : Int) + 1) (wdAt w k : Nat) v
theorem spF_b (w v : Nat) : ∀ k j, 0 ≤ spF w v k j ∧ spF w v k j ≤ 8 + (k : Int)
  | 0, j => by
    show 0 ≤ (if j < 9 then (j : Int) else 0) ∧ (if j < 9 then (j : Int) else 0) ≤ 8 + ((0 : Nat) : Int)
    split <;> omega
  | k + 1, j => by
    have h := spRow_b (f := spF w v k) (i := (k : Int) + 1) (c := (wdAt w k : Nat)) (w := v) (K := 8 + (k : Int)) (spF_b w v k) (by omega) j
    show 0 ≤ spRow (spF w v k) ((k : Int) + 1) (wdAt w k : Nat) v j ∧ spRow (spF w v k) ((k : Int) + 1) (wdAt w k : Nat) v j ≤ 8 + ((k + 1 : Nat) : Int)
    omega
theorem vX7_distance {M : QM} {s r d : Nat} {f : Nat → Int} {w v : Int} (hw : q_wf M) (h : SPm M s r f) (h0 : 0 ≤ w) (h1 : w < 2 ^ 40) (h2 : 0 ≤ v) (h3 : v < 2 ^ 40) : ∃ M', q_C (d + 3) iX7_distance [qr s, ql w, ql v] M (some (qi (spF w.toNat v.toNat (wdLen w.toNat 8) (wdLen v.toNat 8)))) M' ∧ SPm M' s r (spF w.toNat v.toNat (wdLen w.toNat 8)) ∧ q_fr (fun x => x = r) M M' ∧ q_qt M M' := by
  obtain ⟨k1, f0, k2, hv⟩ := h
  have sr : s ≠ r := q_neK k1 k2 (by simp)
  have hSlt : s < q_top M := hw.lt (by rw [k1]; simp)
  have lw := wdLen_le w.toNat 8
  have lv := wdLen_le v.toNat 8
  have loop0 : ∀ (m j : Nat) (A : QM), j + m = 9 → q_fr (fun x => x = r) M A → q_qt M A → (∀ k, k < j → q_fv A r k = qi (k : Nat)) → ∃ B, (∀ P, Rr (q_C (d + 2)) mX7_distance (15, [some (qr s), some (ql w), none, some (ql v), none, some (qi (wdLen w.toNat 8 : Nat)), some (qi (wdLen v.toNat 8 : Nat)), some (qi j)], [], A) P = Rr (q_C (d + 2)) mX7_distance (40, [some (qr s), some (ql w), none, some (ql v), none, some (qi (wdLen w.toNat 8 : Nat)), some (qi (wdLen v.toNat 8 : Nat)), some (qi 9)], [], B) P) ∧ q_fr (fun x => x = r) M B ∧ q_qt M B ∧ (∀ k, k < 9 → q_fv B r k = qi (k : Nat)) := by
    intro m
    induction m with
    | zero =>
      intro j A hm hF hQ hA
      have e : j = 9 := by omega
      subst e
      have a1 : q_kd A s = (1, 7) := by rw [hQ.1, k1]
      have a2 : q_kd A r = (2, 9) := by rw [hQ.1, k2]
      have a3 : q_fv A s 0 = qr r := by rw [hF.2.2.2 s hSlt sr, f0]
      have b2 : 2 ≤ (q_kd A r).1 := by rw [a2]; exact Nat.le_refl 2
      have b9 : (q_kd A r).1 ≤ 9 := by rw [a2]; exact Nat.le_of_ble_eq_true rfl
      have e9 : ((q_kd A r).2 : Int) = 9 := by rw [a2]; rfl
      refine ⟨A, fun P => ?_, hF, hQ, hA⟩
      rw [kX7_distance_15]
      simp (disch := first | assumption | exact bI_lo | exact bI_hi | exact bI_01 | (show (List.map q_wd _).sum ≤ 8; with_unfolding_all exact Nat.le_of_ble_eq_true rfl) | omega) only [kX7_distance_17, kX7_distance_18, kX7_distance_21, kX7_distance_22, kX7_distance_25, kX7_distance_26, kX7_distance_29, kX7_distance_31, kX7_distance_33, kX7_distance_34, kX7_distance_37, q_cut_i, q_cut_r, q_cut_l, q_cut_n, q_psh_n, q_psh_s, bI_eq0, ite_not, ↓if_pos, ↓if_neg, ↓ite_bI_t, ↓ite_bI_f, a3, e9]
      rfl
    | succ m ih =>
      intro j A hm hF hQ hA
      have a1 : q_kd A s = (1, 7) := by rw [hQ.1, k1]
      have a2 : q_kd A r = (2, 9) := by rw [hQ.1, k2]
      have a3 : q_fv A s 0 = qr r := by rw [hF.2.2.2 s hSlt sr, f0]
      have b2 : 2 ≤ (q_kd A r).1 := by rw [a2]; exact Nat.le_refl 2
      have b9 : (q_kd A r).1 ≤ 9 := by rw [a2]; exact Nat.le_of_ble_eq_true rfl
      have b5 : (q_kd A r).1 = 2 := by rw [a2]
      have e9 : ((q_kd A r).2 : Int) = 9 := by rw [a2]; rfl
      obtain ⟨B, q1, q2⟩ := ih (j + 1) (q_wr A r j (qi j)) (by omega) (hF.tr (q_fr.wr rfl)) (hQ.tr q_qt.wr) (fun k hk => by
        rw [q_fv_wrE]
        by_cases e : k = j
        · subst e; rw [if_pos ⟨rfl, rfl⟩]
        · rw [if_neg (fun z => e z.2), hA k (by omega)])
      refine ⟨B, fun P => ?_, q2⟩
      have q1' := q1 P
      rw [show ((j + 1 : Nat) : Int) = (j : Int) + 1 by omega] at q1'
      rw [kX7_distance_15]
      simp (disch := first | assumption | exact bI_lo | exact bI_hi | exact bI_01 | (show (List.map q_wd _).sum ≤ 8; with_unfolding_all exact Nat.le_of_ble_eq_true rfl) | omega) only [kX7_distance_17, kX7_distance_18, kX7_distance_21, kX7_distance_22, kX7_distance_25, kX7_distance_26, kX7_distance_29, kX7_distance_31, kX7_distance_33, kX7_distance_34, kX7_distance_37, q_cut_i, q_cut_r, q_cut_l, q_cut_n, q_psh_n, q_psh_s, bI_eq0, ite_not, ↓if_pos, ↓if_neg, ↓ite_bI_t, ↓ite_bI_f, a3, e9, q_toN]
      exact q1'
  obtain ⟨M1, p1, p2, p3, p4⟩ := loop0 9 0 M (by omega) q_fr.rf ⟨fun _ => rfl, rfl, ⟨by omega, by omega⟩⟩ (fun k hk => by omega)
  have hS1 : SPm M1 s r (spF w.toNat v.toNat 0) := ⟨by rw [p3.1, k1], by rw [p2.2.2.2 s hSlt sr, f0], by rw [p3.1, k2], fun j hj => by
    rw [p4 j hj]
    show qi (j : Int) = qi (if j < 9 then (j : Int) else 0)
    rw [if_pos hj]⟩
  have loop1 : ∀ (m k : Nat) (A : QM), k + m = wdLen w.toNat 8 → q_wf A → SPm A s r (spF w.toNat v.toNat k) → q_fr (fun x => x = r) M A → q_qt M A → ∃ B, (∀ P, Rr (q_C (d + 2)) mX7_distance (43, [some (qr s), some (ql w), none, some (ql v), none, some (qi (wdLen w.toNat 8 : Nat)), some (qi (wdLen v.toNat 8 : Nat)), some (qi ((k : Int) + 1))], [], A) P = P (some (qi (spF w.toNat v.toNat (wdLen w.toNat 8) (wdLen v.toNat 8)))) B) ∧ SPm B s r (spF w.toNat v.toNat (wdLen w.toNat 8)) ∧ q_fr (fun x => x = r) M B ∧ q_qt M B := by
    intro m
    induction m with
    | zero =>
      intro k A hm hwA hA hF hQ
      have e : k = wdLen w.toNat 8 := by omega
      subst e
      obtain ⟨a1, a3, a2, av⟩ := id hA
      have b2 : 2 ≤ (q_kd A r).1 := by rw [a2]; exact Nat.le_refl 2
      have b9 : (q_kd A r).1 ≤ 9 := by rw [a2]; exact Nat.le_of_ble_eq_true rfl
      have b5 : (q_kd A r).1 = 2 := by rw [a2]
      have e9 : ((q_kd A r).2 : Int) = 9 := by rw [a2]; rfl
      have vv := av (wdLen v.toNat 8) (by omega)
      refine ⟨A, fun P => ?_, hA, hF, hQ⟩
      rw [kX7_distance_43]
      simp (disch := first | assumption | exact bI_lo | exact bI_hi | exact bI_01 | (show (List.map q_wd _).sum ≤ 8; with_unfolding_all exact Nat.le_of_ble_eq_true rfl) | omega) only [kX7_distance_45, kX7_distance_47, kX7_distance_50, kX7_distance_51, kX7_distance_53, kX7_distance_54, kX7_distance_56, kX7_distance_57, kX7_distance_58E, kX7_distance_61, kX7_distance_62E, kX7_distance_65, kX7_distance_68, kX7_distance_71, kX7_distance_73, kX7_distance_74, kX7_distance_77, kX7_distance_78, kX7_distance_81, kX7_distance_82, kX7_distance_85, kX7_distance_87, kX7_distance_88, kX7_distance_91, kX7_distance_92, q_cut_i, q_cut_r, q_cut_l, q_cut_n, q_psh_n, q_psh_s, bI_eq0, ite_not, ↓if_pos, ↓if_neg, ↓ite_bI_t, ↓ite_bI_f, a3, e9, q_toN, vv]
    | succ m ih =>
      intro k A hm hwA hA hF hQ
      obtain ⟨a1, a3, a2, av⟩ := id hA
      have wl := wdAt_lt w.toNat k
      have bb := spF_b w.toNat v.toNat k
      obtain ⟨A1, n1, n2, n3, n4⟩ := vX7_nextRow (d := d) (i := (k : Int) + 1) (c := (wdAt w.toNat k : Nat)) (w := v) hwA hA (fun j => by have := bb j; omega) (by omega) (by omega) h2 h3
      obtain ⟨B, q1, q2⟩ := ih (k + 1) A1 (by omega) (hwA.qt n4) n2 (hF.tr n3) (hQ.tr n4)
      refine ⟨B, fun P => ?_, q2⟩
      have q1' := q1 P
      rw [show ((k + 1 : Nat) : Int) + 1 = (k : Int) + 1 + 1 by omega] at q1'
      have rl := fun x : QP => uX10_letterOf (d := d + 1) (M := A) (P := x) (i := (k : Int)) h0 h1 (by omega) (by omega)
      rw [if_neg (by omega), q_toN] at rl
      have t2 : ((k : Int) + 1 - 1) = (k : Int) := by omega
      rw [kX7_distance_43]
      simp (disch := first | assumption | exact bI_lo | exact bI_hi | exact bI_01 | (show (List.map q_wd _).sum ≤ 8; with_unfolding_all exact Nat.le_of_ble_eq_true rfl) | omega) only [kX7_distance_45, kX7_distance_47, kX7_distance_50, kX7_distance_51, kX7_distance_53, kX7_distance_54, kX7_distance_56, kX7_distance_57, kX7_distance_58E, kX7_distance_61, kX7_distance_62E, kX7_distance_65, kX7_distance_68, kX7_distance_71, kX7_distance_73, kX7_distance_74, kX7_distance_77, kX7_distance_78, kX7_distance_81, kX7_distance_82, kX7_distance_85, kX7_distance_87, kX7_distance_88, kX7_distance_91, kX7_distance_92, q_cut_i, q_cut_r, q_cut_l, q_cut_n, q_psh_n, q_psh_s, bI_eq0, ite_not, ↓if_pos, ↓if_neg, ↓ite_bI_t, ↓ite_bI_f, t2, rl, T_of n1]
      exact q1'
  obtain ⟨B, q1, q2, q3, q4⟩ := loop1 (wdLen w.toNat 8) 0 M1 (by omega) (hw.qt p3) hS1 p2 p3
  refine ⟨B, C_of (fun P => ?_), q2, q3, q4⟩
  have p1' := p1 P
  have q1' := q1 P
  rw [eX7_distance]
  simp (disch := first | assumption | exact bI_lo | exact bI_hi | exact bI_01 | (show (List.map q_wd _).sum ≤ 8; with_unfolding_all exact Nat.le_of_ble_eq_true rfl) | omega) only [kX7_distance_0, kX7_distance_1E, kX7_distance_4, kX7_distance_6, kX7_distance_7E, kX7_distance_10, kX7_distance_12, kX7_distance_13, q_cut_i, q_cut_r, q_cut_l, q_cut_n, q_psh_n, q_psh_s, bI_eq0, ite_not, uX10_lengthOf h0 h1, uX10_lengthOf h2 h3]
  refine p1'.trans ?_
  simp (disch := first | assumption | exact bI_lo | exact bI_hi | exact bI_01 | (show (List.map q_wd _).sum ≤ 8; with_unfolding_all exact Nat.le_of_ble_eq_true rfl) | omega) only [kX7_distance_40, kX7_distance_41, q_cut_i, q_cut_r, q_cut_l, q_cut_n, q_psh_n, q_psh_s, bI_eq0, ite_not]
  exact q1'
