
/-! lookup -/
def lkF (C : CWs) (w y : Int) : Nat → List Nat
  | 0 => []
  | k + 1 => kH (cW C) w y k (lkF C w y k) (cn C)
abbrev lkBad (y t : Int) : Prop := ¬ (0 ≤ y ∧ y < 10000) ∨ t < 0 ∨ 3 < t
def lkL (C : CWs) (hl : List Nat) (w y t : Int) : List Nat := if lkBad y t then hl else if w = 0 then hl else lkF C w y (t.toNat + 1)
def lkA (C : CWs) (w y t : Int) : Int := if lkBad y t then -2 else if w = 0 then -3 else (lkF C w y (t.toNat + 1)).length
def lkR (lr w y t : Int) : Int := if lkBad y t then lr else if w = 0 then 9 else lr
section LKU
variable {M : QM} {g cN cT c : Nat → Nat} {e1 c1 e2 c2 : Nat} {L1 L2 : List Nat} {C : CWs} {J J2 : List Od} {ms : List Int} {hs lr : Int} {d : Nat}
theorem vX12_lookup {y t : Int} {l : List Int} {hl : List Nat} {f : Nat → Int} (h : CRI M g cN cT c e1 c1 L1 e2 c2 L2 C J J2 ms hs lr hl.length) (hT : TP M (g 1) (g 2) l) (hH : HT M g hl) (hS : SPm M (g 5) (g 6) f) (hy : q_i32 y) (ht : q_i32 t) : ∃ M' f', q_C (d + 6) iX12_lookup [qr (g 0), qi y, qi t] M (some (qi (lkA C (tkW l) y t))) M' ∧ CRI M' g cN cT c e1 c1 L1 e2 c2 L2 C J J2 ms hs (lkR lr (tkW l) y t) (lkL C hl (tkW l) y t).length ∧ HT M' g (lkL C hl (tkW l) y t) ∧ SPm M' (g 5) (g 6) f' ∧ TP M' (g 1) (g 2) [] ∧ q_fr (fun x => x = g 0 ∨ x = g 1 ∨ x = g 6 ∨ x = g 15) M M' ∧ q_qt M M' := by
  obtain ⟨y1, y2⟩ := hy
  obtain ⟨t1, t2⟩ := ht
  have hg := h.1
  have hw := h.2.1
  have n01 := g_ne hg (s := 0) (t := 1) (by omega) (by omega) (by omega)
  have n02 := g_ne hg (s := 0) (t := 2) (by omega) (by omega) (by omega)
  have n06 := g_ne hg (s := 0) (t := 6) (by omega) (by omega) (by omega)
  have n05 := g_ne hg (s := 0) (t := 5) (by omega) (by omega) (by omega)
  have n015 := g_ne hg (s := 0) (t := 15) (by omega) (by omega) (by omega)
  have n15 := g_ne hg (s := 1) (t := 5) (by omega) (by omega) (by omega)
  have n16 := g_ne hg (s := 1) (t := 6) (by omega) (by omega) (by omega)
  have n115 := g_ne hg (s := 1) (t := 15) (by omega) (by omega) (by omega)
  have n26 := g_ne hg (s := 2) (t := 6) (by omega) (by omega) (by omega)
  have n215 := g_ne hg (s := 2) (t := 15) (by omega) (by omega) (by omega)
  have n12 := g_ne hg (s := 1) (t := 2) (by omega) (by omega) (by omega)
  have tw := tkW_lt l
  obtain ⟨tc, tT⟩ := uX8_takeWord (d := d + 3) hT
  obtain ⟨M0, hM0⟩ : ∃ M0, q_wr M (g 1) 1 (qi 0) = M0 := ⟨_, rfl⟩
  rw [hM0] at tc tT
  have f0 : q_fr (fun x => x = g 1) M M0 := by rw [← hM0]; exact q_fr.wr rfl
  have w0 : q_wf M0 := by rw [← hM0]; exact hw.wr
  have q0 : q_qt M M0 := by rw [← hM0]; exact q_qt.wr
  have h0 := CRI_q h (s := 1) (Or.inl ⟨by omega, by omega⟩) f0 w0
  have H0 := HT_fr hg hH f0 (fun z => n115 z.symm) rfl
  have S0 := SPm_fr hw hS f0 (fun z => n15 z.symm) (fun z => n16 z.symm)
  obtain ⟨-, -, -, -, hR, -⟩ := id h
  obtain ⟨k0, r0, r1, r2, r3, r4, r5, r6, r7, r8, r9, r10, r11, r12, r13⟩ := id hR
  obtain ⟨-, -, -, -, hR0, -⟩ := id h0
  obtain ⟨u0, v0, v1, v2, v3, v4, v5, v6, v7, v8, v9, v10, v11, v12, v13⟩ := id hR0
  have k1 : q_kd M (g 1) = (1, 8) := hT.1
  by_cases gb : lkBad y t
  · refine ⟨M0, f, C_of (fun P => ?_), ?_, ?_, S0, tT, f0.wk (fun x _ z => Or.inr (Or.inl z)), q0⟩
    · unfold lkA
      rw [if_pos gb, eX12_lookup]
      unfold lkBad at gb
      by_cases g1 : 0 ≤ y ∧ y < 10000
      · by_cases g2 : t < 0
        · simp (disch := first | assumption | exact bI_lo | exact bI_hi | exact bI_01 | (show (List.map q_wd _).sum ≤ 8; with_unfolding_all exact Nat.le_of_ble_eq_true rfl) | omega) only [kX12_lookup_0, kX12_lookup_1, kX12_lookup_4E, kX12_lookup_7, kX12_lookup_8, kX12_lookup_9E, kX12_lookup_12, kX12_lookup_15, kX12_lookup_16, kX12_lookup_19, kX12_lookup_20, kX12_lookup_21, kX12_lookup_24, kX12_lookup_26, kX12_lookup_27, kX12_lookup_28, kX12_lookup_29, kX12_lookup_30, kX12_lookup_33, kX12_lookup_34, kX12_lookup_36, kX12_lookup_39, kX12_lookup_41, kX12_lookup_42, kX12_lookup_43, kX12_lookup_44, kX12_lookup_47, kX12_lookup_48, kX12_lookup_50, kX12_lookup_52, kX12_lookup_53, kX12_lookup_56, kX12_lookup_57, kX12_lookup_58, kX12_lookup_59, kX12_lookup_61E, kX12_lookup_64, kX12_lookup_67, kX12_lookup_70, kX12_lookup_71, kX12_lookup_74, q_cut_i, q_cut_r, q_cut_l, q_cut_n, q_psh_n, q_psh_s, bI_eq0, ite_not, ↓if_pos, ↓if_neg, ↓ite_bI_t, ↓ite_bI_f, r0, T_of tc, uX12_isDay]
        · simp (disch := first | assumption | exact bI_lo | exact bI_hi | exact bI_01 | (show (List.map q_wd _).sum ≤ 8; with_unfolding_all exact Nat.le_of_ble_eq_true rfl) | omega) only [kX12_lookup_0, kX12_lookup_1, kX12_lookup_4E, kX12_lookup_7, kX12_lookup_8, kX12_lookup_9E, kX12_lookup_12, kX12_lookup_15, kX12_lookup_16, kX12_lookup_19, kX12_lookup_20, kX12_lookup_21, kX12_lookup_24, kX12_lookup_26, kX12_lookup_27, kX12_lookup_28, kX12_lookup_29, kX12_lookup_30, kX12_lookup_33, kX12_lookup_34, kX12_lookup_36, kX12_lookup_39, kX12_lookup_41, kX12_lookup_42, kX12_lookup_43, kX12_lookup_44, kX12_lookup_47, kX12_lookup_48, kX12_lookup_50, kX12_lookup_52, kX12_lookup_53, kX12_lookup_56, kX12_lookup_57, kX12_lookup_58, kX12_lookup_59, kX12_lookup_61E, kX12_lookup_64, kX12_lookup_67, kX12_lookup_70, kX12_lookup_71, kX12_lookup_74, q_cut_i, q_cut_r, q_cut_l, q_cut_n, q_psh_n, q_psh_s, bI_eq0, ite_not, ↓if_pos, ↓if_neg, ↓ite_bI_t, ↓ite_bI_f, r0, T_of tc, uX12_isDay]
      · simp (disch := first | assumption | exact bI_lo | exact bI_hi | exact bI_01 | (show (List.map q_wd _).sum ≤ 8; with_unfolding_all exact Nat.le_of_ble_eq_true rfl) | omega) only [kX12_lookup_0, kX12_lookup_1, kX12_lookup_4E, kX12_lookup_7, kX12_lookup_8, kX12_lookup_9E, kX12_lookup_12, kX12_lookup_15, kX12_lookup_16, kX12_lookup_19, kX12_lookup_20, kX12_lookup_21, kX12_lookup_24, kX12_lookup_26, kX12_lookup_27, kX12_lookup_28, kX12_lookup_29, kX12_lookup_30, kX12_lookup_33, kX12_lookup_34, kX12_lookup_36, kX12_lookup_39, kX12_lookup_41, kX12_lookup_42, kX12_lookup_43, kX12_lookup_44, kX12_lookup_47, kX12_lookup_48, kX12_lookup_50, kX12_lookup_52, kX12_lookup_53, kX12_lookup_56, kX12_lookup_57, kX12_lookup_58, kX12_lookup_59, kX12_lookup_61E, kX12_lookup_64, kX12_lookup_67, kX12_lookup_70, kX12_lookup_71, kX12_lookup_74, q_cut_i, q_cut_r, q_cut_l, q_cut_n, q_psh_n, q_psh_s, bI_eq0, ite_not, ↓if_pos, ↓if_neg, ↓ite_bI_t, ↓ite_bI_f, r0, T_of tc, uX12_isDay]
    · unfold lkR lkL; rw [if_pos gb, if_pos gb]; exact h0
    · unfold lkL; rw [if_pos gb]; exact H0
  · have gb' := gb
    unfold lkBad at gb'
    have g1 : 0 ≤ y ∧ y < 10000 := by omega
    have g2 : ¬ t < 0 := by omega
    have g3 : t ≤ 3 := by omega
    by_cases gz : (tkW l : Int) = 0
    · obtain ⟨h1, f1⟩ := CRI_lr (v := 9) h0
      have f1' : q_fr (fun x => x = g 0) M0 (q_wr M0 (g 0) 11 (qi 9)) := q_fr.wr rfl
      refine ⟨q_wr M0 (g 0) 11 (qi 9), f, C_of (fun P => ?_), ?_, ?_, SPm_fr w0 S0 f1' (fun z => n05 z.symm) (fun z => n06 z.symm), TP_fr w0 tT f1' (fun z => n01 z.symm) (fun z => n02 z.symm), (f0.wk (fun x _ z => Or.inr (Or.inl z))).tr (f1'.wk (fun x _ z => Or.inl z)), q0.tr q_qt.wr⟩
      · unfold lkA
        have lc : q_lcmp 0 0 = 0 := by decide
        rw [if_neg gb, if_pos gz, eX12_lookup]
        simp (disch := first | assumption | exact bI_lo | exact bI_hi | exact bI_01 | (show (List.map q_wd _).sum ≤ 8; with_unfolding_all exact Nat.le_of_ble_eq_true rfl) | omega) only [kX12_lookup_0, kX12_lookup_1, kX12_lookup_4E, kX12_lookup_7, kX12_lookup_8, kX12_lookup_9E, kX12_lookup_12, kX12_lookup_15, kX12_lookup_16, kX12_lookup_19, kX12_lookup_20, kX12_lookup_21, kX12_lookup_24, kX12_lookup_26, kX12_lookup_27, kX12_lookup_28, kX12_lookup_29, kX12_lookup_30, kX12_lookup_33, kX12_lookup_34, kX12_lookup_36, kX12_lookup_39, kX12_lookup_41, kX12_lookup_42, kX12_lookup_43, kX12_lookup_44, kX12_lookup_47, kX12_lookup_48, kX12_lookup_50, kX12_lookup_52, kX12_lookup_53, kX12_lookup_56, kX12_lookup_57, kX12_lookup_58, kX12_lookup_59, kX12_lookup_61E, kX12_lookup_64, kX12_lookup_67, kX12_lookup_70, kX12_lookup_71, kX12_lookup_74, q_cut_i, q_cut_r, q_cut_l, q_cut_n, q_psh_n, q_psh_s, bI_eq0, ite_not, ↓if_pos, ↓if_neg, ↓ite_bI_t, ↓ite_bI_f, r0, T_of tc, uX12_isDay, gz, lc]
      · unfold lkR lkL; rw [if_neg gb, if_pos gz, if_neg gb, if_pos gz]; exact h1
      · unfold lkL; rw [if_neg gb, if_pos gz]; exact HT_fr h0.1 H0 f1' (fun z => n015 z.symm) rfl
    · obtain ⟨h1, f1'⟩ := CRI_hc (v := 0) h0
      obtain ⟨M1, hM1⟩ : ∃ M1, q_wr M0 (g 0) 13 (qi 0) = M1 := ⟨_, rfl⟩
      rw [hM1] at h1 f1'
      have H1 : HT M1 g [] := by
        obtain ⟨m0, m1, m2, m3⟩ := HT_fr h0.1 H0 f1' (fun z => n015 z.symm) (g' := g) rfl
        exact ⟨m0, by simp, fun i v z => by simp at z, m3⟩
      have S1 := SPm_fr w0 S0 f1' (fun z => n05 z.symm) (fun z => n06 z.symm)
      have T1 := TP_fr w0 tT f1' (fun z => n01 z.symm) (fun z => n02 z.symm)
      have loop : ∀ (m k : Nat) (A : QM) (f : Nat → Int), k + m = t.toNat + 1 → CRI A g cN cT c e1 c1 L1 e2 c2 L2 C J J2 ms hs lr (lkF C (tkW l) y k).length → HT A g (lkF C (tkW l) y k) → SPm A (g 5) (g 6) f → TP A (g 1) (g 2) [] → q_fr (fun x => x = g 0 ∨ x = g 1 ∨ x = g 6 ∨ x = g 15) M A → q_qt M A → ∃ B f', (∀ P, Rr (q_C (d + 5)) mX12_lookup (50, [some (qr (g 0)), some (qi y), some (qi t), some (ql (tkW l)), none, some (qi k)], [], A) P = P (some (qi (lkF C (tkW l) y (t.toNat + 1)).length)) B) ∧ CRI B g cN cT c e1 c1 L1 e2 c2 L2 C J J2 ms hs lr (lkF C (tkW l) y (t.toNat + 1)).length ∧ HT B g (lkF C (tkW l) y (t.toNat + 1)) ∧ SPm B (g 5) (g 6) f' ∧ TP B (g 1) (g 2) [] ∧ q_fr (fun x => x = g 0 ∨ x = g 1 ∨ x = g 6 ∨ x = g 15) M B ∧ q_qt M B := by
        intro m
        induction m with
        | zero =>
          intro k A f hm hA hHA hSA hTA hF hQ
          have e : k = t.toNat + 1 := by omega
          obtain ⟨-, -, -, -, hR, -⟩ := id hA
          obtain ⟨k0', r0, r1, r2, r3, r4, r5, r6, r7, r8, r9, r10, r11, r12, r13⟩ := id hR
          refine ⟨A, f, fun P => ?_, by rw [← e]; exact hA, by rw [← e]; exact hHA, hSA, hTA, hF, hQ⟩
          rw [← e]
          rw [kX12_lookup_50]
          simp (disch := first | assumption | exact bI_lo | exact bI_hi | exact bI_01 | (show (List.map q_wd _).sum ≤ 8; with_unfolding_all exact Nat.le_of_ble_eq_true rfl) | omega) only [kX12_lookup_52, kX12_lookup_53, kX12_lookup_56, kX12_lookup_57, kX12_lookup_58, kX12_lookup_59, kX12_lookup_61E, kX12_lookup_64, kX12_lookup_67, kX12_lookup_70, kX12_lookup_71, kX12_lookup_74, q_cut_i, q_cut_r, q_cut_l, q_cut_n, q_psh_n, q_psh_s, bI_eq0, ite_not, ↓if_pos, ↓if_neg, ↓ite_bI_t, ↓ite_bI_f, r13]
        | succ m ih =>
          intro k A f hm hA hHA hSA hTA hF hQ
          obtain ⟨A1, f1, d1, d2, d3, d4, d5, d6⟩ := vX12_keepHits (d := d) (w := (tkW l : Int)) (y := y) (wt := k) hA hHA hSA (by omega) (by omega) ⟨y1, y2⟩ ⟨by omega, by omega⟩
          have T2 := TP_fr hA.2.1 hTA d5 (by omega) (by omega)
          obtain ⟨-, -, -, -, hR, -⟩ := id hA
          obtain ⟨k0', r0, r1, r2, r3, r4, r5, r6, r7, r8, r9, r10, r11, r12, r13⟩ := id hR
          obtain ⟨B, f', q1, q2⟩ := ih (k + 1) A1 f1 (by omega) d2 d3 d4 T2 (hF.tr (d5.wk (fun x _ z => by omega))) (hQ.tr d6)
          refine ⟨B, f', fun P => ?_, q2⟩
          have q1' := q1 P
          rw [show ((k + 1 : Nat) : Int) = (k : Int) + 1 by omega] at q1'
          rw [kX12_lookup_50]
          simp (disch := first | assumption | exact bI_lo | exact bI_hi | exact bI_01 | (show (List.map q_wd _).sum ≤ 8; with_unfolding_all exact Nat.le_of_ble_eq_true rfl) | omega) only [kX12_lookup_52, kX12_lookup_53, kX12_lookup_56, kX12_lookup_57, kX12_lookup_58, kX12_lookup_59, kX12_lookup_61E, kX12_lookup_64, kX12_lookup_67, kX12_lookup_70, kX12_lookup_71, kX12_lookup_74, q_cut_i, q_cut_r, q_cut_l, q_cut_n, q_psh_n, q_psh_s, bI_eq0, ite_not, ↓if_pos, ↓if_neg, ↓ite_bI_t, ↓ite_bI_f, T_of d1]
          exact q1'
      obtain ⟨B, f', q1, q2, q3, q4, q5, q6, q7⟩ := loop (t.toNat + 1) 0 M1 f (by omega) h1 H1 S1 T1 ((f0.wk (fun x _ z => Or.inr (Or.inl z))).tr (f1'.wk (fun x _ z => Or.inl z))) (q0.tr (by rw [← hM1]; exact q_qt.wr))
      refine ⟨B, f', C_of (fun P => ?_), ?_, ?_, q4, q5, q6, q7⟩
      · have q1' := q1 P
        unfold lkA
        have l1 := z_lcmpR (tkW l) 0
        have l2 := z_lcmp0 (a := (tkW l : Int)) (b := 0) (by omega) (by omega)
        have l3 : ¬ q_lcmp (tkW l) 0 = 0 := fun z => gz (l2.mp z)
        rw [if_neg gb, if_neg gz, eX12_lookup]
        simp (disch := first | assumption | exact bI_lo | exact bI_hi | exact bI_01 | (show (List.map q_wd _).sum ≤ 8; with_unfolding_all exact Nat.le_of_ble_eq_true rfl) | omega) only [kX12_lookup_0, kX12_lookup_1, kX12_lookup_4E, kX12_lookup_7, kX12_lookup_8, kX12_lookup_9E, kX12_lookup_12, kX12_lookup_15, kX12_lookup_16, kX12_lookup_19, kX12_lookup_20, kX12_lookup_21, kX12_lookup_24, kX12_lookup_26, kX12_lookup_27, kX12_lookup_28, kX12_lookup_29, kX12_lookup_30, kX12_lookup_33, kX12_lookup_34, kX12_lookup_36, kX12_lookup_39, kX12_lookup_41, kX12_lookup_42, kX12_lookup_43, kX12_lookup_44, kX12_lookup_47, kX12_lookup_48, q_cut_i, q_cut_r, q_cut_l, q_cut_n, q_psh_n, q_psh_s, bI_eq0, ite_not, ↓if_pos, ↓if_neg, ↓ite_bI_t, ↓ite_bI_f, r0, T_of tc, uX12_isDay, hM1]
        exact q1'
      · unfold lkR lkL; rw [if_neg gb, if_neg gz, if_neg gb, if_neg gz]; exact q2
      · unfold lkL; rw [if_neg gb, if_neg gz]; exact q3
end LKU
