
/-! Filters: what they fit -/
def nF1 (W : Nat → Pl) (n : Nat) (y : Int) (V : Nat → Nat → Bool) (q : Int × Int × Int) : Nat → Bool := fun p => if q.1 = 5 then V q.2.1.toNat p && V q.2.2.toNat p else if q.1 = 6 then V q.2.1.toNat p || V q.2.2.toNat p else if q.1 = 7 then cEx W y p && !V q.2.1.toNat p else cLf W n q.1 q.2.1 y p
def nV (W : Nat → Pl) (n : Nat) (y : Int) (N : List (Int × Int × Int)) : Nat → Nat → Nat → Bool
  | 0 => fun _ _ => false
  | k + 1 => upF (nV W n y N k) k (nF1 W n y (nV W n y N k) (N.getD k (0, 0, 0)))
def fOk (N : List (Int × Int × Int)) : Prop := ∀ (i : Nat) (q : Int × Int × Int), N[i]? = some q → (q.1 = 5 ∨ q.1 = 6 → (0 ≤ q.2.1 ∧ q.2.1 < i) ∧ 0 ≤ q.2.2 ∧ q.2.2 < i) ∧ (q.1 = 7 → 0 ≤ q.2.1 ∧ q.2.1 < i)
section FL4
variable {M : QM} {g c cN cT : Nat → Nat} {W : Nat → Pl} {n : Nat} {mg sp : Int} {N : List (Int × Int × Int)} {O : List Nat} {d : Nat} {x : QP}
theorem uX0_setAt {k v : Int} (h : FLm M g c N O) (k0 : 0 ≤ k) (k1 : k < N.length) (hv : q_fv M (g 22) k.toNat = qi v) : q_T (d + 1) iX0_setAt [qr (g 18), qi k] M x = x (some (qi v)) M := by
  obtain ⟨h1, h2, h3, h4, h5, h6, h7, -⟩ := id h
  obtain ⟨a3, b3, e3, l3⟩ := FLm_c (s := 22) h (by omega : 3 < 4) rfl
  have bc := (h7 3 (by omega)).2.2.2.2.1
  rw [eX0_setAt]
  simp (disch := first | assumption | exact bI_lo | exact bI_hi | exact bI_01 | (show (List.map q_wd _).sum ≤ 8; with_unfolding_all exact Nat.le_of_ble_eq_true rfl) | omega) only [kX0_setAt_0, kX0_setAt_1, kX0_setAt_4, kX0_setAt_5, kX0_setAt_6, kX0_setAt_9, kX0_setAt_12, kX0_setAt_13, kX0_setAt_16, kX0_setAt_17, kX0_setAt_18, kX0_setAt_21, kX0_setAt_22, q_cut_i, q_cut_r, q_cut_l, q_cut_n, q_psh_n, q_psh_s, bI_eq0, ite_not, ↓if_pos, ↓if_neg, ↓ite_bI_t, ↓ite_bI_f, h2, a3, hv]
theorem uX0_setOfNode {i : Nat} {q : Int × Int × Int} {y : Int} {V : Nat → Nat → Bool} (h : FLm M g c N O) (hW : WRd M (g 16) (g 17) (gA g) cN cT W n) (hi : N[i]? = some q) (hS : ∀ j, j < i → q_fv M (g 22) j = qi (bSet (V j) n : Nat)) (ok : (q.1 = 5 ∨ q.1 = 6 → (0 ≤ q.2.1 ∧ q.2.1 < i) ∧ 0 ≤ q.2.2 ∧ q.2.2 < i) ∧ (q.1 = 7 → 0 ≤ q.2.1 ∧ q.2.1 < i)) (h3 : -2147483648 ≤ y) (h4 : y < 2147483648) : q_T (d + 5) iX0_setOfNode [qr (g 18), qi i, qi y, qr (g 16)] M x = x (some (qi (bSet (nF1 W n y V q) n : Nat))) M := by
  have n20 := WRd_n hW
  have il : i < N.length := by
    rcases Nat.lt_or_ge i N.length with z | z
    · exact z
    · rw [List.getElem?_eq_none z] at hi; simp at hi
  obtain ⟨h1, h2, hz3, hz4, h5, h6, h7, h8, h9, h10, h11, h12⟩ := id h
  obtain ⟨⟨q11, q12⟩, ⟨q21, q22⟩, q31, q32⟩ := h12 q (List.mem_of_getElem? hi)
  obtain ⟨a0, b0, e0, l0⟩ := FLm_c (s := 19) h (by omega : 0 < 4) rfl
  obtain ⟨a1, b1, e1, l1⟩ := FLm_c (s := 20) h (by omega : 1 < 4) rfl
  obtain ⟨a2, b2, e2, l2⟩ := FLm_c (s := 21) h (by omega : 2 < 4) rfl
  have bc := (h7 0 (by omega)).2.2.2.2.1
  have v0 : q_fv M (g 19) i = qi q.1 := h8 0 (by omega) i q hi
  have v1 : q_fv M (g 20) i = qi q.2.1 := h8 1 (by omega) i q hi
  have v2 : q_fv M (g 21) i = qi q.2.2 := h8 2 (by omega) i q hi
  have kw := hW.1
  have at1 : ∀ k : Int, 0 ≤ k → k < i → ∀ z : QP, q_T (d + 4) iX0_setAt [qr (g 18), qi k] M z = z (some (qi (bSet (V k.toNat) n : Nat))) M := fun k k0 k1 z => uX0_setAt (d := d + 3) h k0 (by omega) (hS k.toNat (by omega))
  rw [eX0_setOfNode]
  by_cases g5 : q.1 = 5
  · have e := ok.1 (Or.inl g5)
    have r1 := at1 q.2.1 e.1.1 e.1.2
    have r2 := at1 q.2.2 e.2.1 e.2.2
    have f : nF1 W n y V q = fun p => V q.2.1.toNat p && V q.2.2.toNat p := by
      funext p; unfold nF1; rw [if_pos g5]
    rw [f, ← y_andS n20]
    simp (disch := first | assumption | exact bI_lo | exact bI_hi | exact bI_01 | (show (List.map q_wd _).sum ≤ 8; with_unfolding_all exact Nat.le_of_ble_eq_true rfl) | omega) only [kX0_setOfNode_0, kX0_setOfNode_1, kX0_setOfNode_4, kX0_setOfNode_5, kX0_setOfNode_6, kX0_setOfNode_32, kX0_setOfNode_33, kX0_setOfNode_34, kX0_setOfNode_37, kX0_setOfNode_38, kX0_setOfNode_39E, kX0_setOfNode_42, kX0_setOfNode_43, kX0_setOfNode_44, kX0_setOfNode_47, kX0_setOfNode_48, kX0_setOfNode_49E, kX0_setOfNode_52, kX0_setOfNode_53, kX0_setOfNode_54, kX0_setOfNode_55, kX0_setOfNode_56, kX0_setOfNode_59, kX0_setOfNode_60, kX0_setOfNode_61E, kX0_setOfNode_64, kX0_setOfNode_65, kX0_setOfNode_66, kX0_setOfNode_69, kX0_setOfNode_70, kX0_setOfNode_71E, kX0_setOfNode_74, kX0_setOfNode_75, kX0_setOfNode_76, kX0_setOfNode_77, kX0_setOfNode_78E, kX0_setOfNode_81, kX0_setOfNode_82, kX0_setOfNode_83, kX0_setOfNode_86, kX0_setOfNode_87, kX0_setOfNode_88E, kX0_setOfNode_91, kX0_setOfNode_92, kX0_setOfNode_93, kX0_setOfNode_94, kX0_setOfNode_95, kX0_setOfNode_96, kX0_setOfNode_97, kX0_setOfNode_100, kX0_setOfNode_101, kX0_setOfNode_102, kX0_setOfNode_103, kX0_setOfNode_106, kX0_setOfNode_107, kX0_setOfNode_108, kX0_setOfNode_109E, kX0_setOfNode_112, q_cut_i, q_cut_r, q_cut_l, q_cut_n, q_psh_n, q_psh_s, bI_eq0, ite_not, ↓if_pos, ↓if_neg, ↓ite_bI_t, ↓ite_bI_f, a0, a1, a2, v0, v1, v2, q_toN, r1, r2]
  · by_cases g6 : q.1 = 6
    · have e := ok.1 (Or.inr g6)
      have r1 := at1 q.2.1 e.1.1 e.1.2
      have r2 := at1 q.2.2 e.2.1 e.2.2
      have f : nF1 W n y V q = fun p => V q.2.1.toNat p || V q.2.2.toNat p := by
        funext p; unfold nF1; rw [if_neg g5, if_pos g6]
      rw [f, ← y_orS n20]
      simp (disch := first | assumption | exact bI_lo | exact bI_hi | exact bI_01 | (show (List.map q_wd _).sum ≤ 8; with_unfolding_all exact Nat.le_of_ble_eq_true rfl) | omega) only [kX0_setOfNode_0, kX0_setOfNode_1, kX0_setOfNode_4, kX0_setOfNode_5, kX0_setOfNode_6, kX0_setOfNode_32, kX0_setOfNode_33, kX0_setOfNode_34, kX0_setOfNode_37, kX0_setOfNode_38, kX0_setOfNode_39E, kX0_setOfNode_42, kX0_setOfNode_43, kX0_setOfNode_44, kX0_setOfNode_47, kX0_setOfNode_48, kX0_setOfNode_49E, kX0_setOfNode_52, kX0_setOfNode_53, kX0_setOfNode_54, kX0_setOfNode_55, kX0_setOfNode_56, kX0_setOfNode_59, kX0_setOfNode_60, kX0_setOfNode_61E, kX0_setOfNode_64, kX0_setOfNode_65, kX0_setOfNode_66, kX0_setOfNode_69, kX0_setOfNode_70, kX0_setOfNode_71E, kX0_setOfNode_74, kX0_setOfNode_75, kX0_setOfNode_76, kX0_setOfNode_77, kX0_setOfNode_78E, kX0_setOfNode_81, kX0_setOfNode_82, kX0_setOfNode_83, kX0_setOfNode_86, kX0_setOfNode_87, kX0_setOfNode_88E, kX0_setOfNode_91, kX0_setOfNode_92, kX0_setOfNode_93, kX0_setOfNode_94, kX0_setOfNode_95, kX0_setOfNode_96, kX0_setOfNode_97, kX0_setOfNode_100, kX0_setOfNode_101, kX0_setOfNode_102, kX0_setOfNode_103, kX0_setOfNode_106, kX0_setOfNode_107, kX0_setOfNode_108, kX0_setOfNode_109E, kX0_setOfNode_112, q_cut_i, q_cut_r, q_cut_l, q_cut_n, q_psh_n, q_psh_s, bI_eq0, ite_not, ↓if_pos, ↓if_neg, ↓ite_bI_t, ↓ite_bI_f, a0, a1, a2, v0, v1, v2, q_toN, r1, r2]
    · by_cases g7 : q.1 = 7
      · have e := ok.2 g7
        have r1 := at1 q.2.1 e.1 e.2
        have f : nF1 W n y V q = fun p => cEx W y p && !V q.2.1.toNat p := by
          funext p; unfold nF1; rw [if_neg g5, if_neg g6, if_pos g7]
        have rx := fun z : QP => uX11_existingOn (d := d) (x := z) hW h3 h4
        have b1 := y_xorR (bSet (V q.2.1.toNat) n : Nat) (-1)
        rw [f, ← y_andN n20]
        simp (disch := first | assumption | exact bI_lo | exact bI_hi | exact bI_01 | (show (List.map q_wd _).sum ≤ 8; with_unfolding_all exact Nat.le_of_ble_eq_true rfl) | omega) only [kX0_setOfNode_0, kX0_setOfNode_1, kX0_setOfNode_4, kX0_setOfNode_5, kX0_setOfNode_6, kX0_setOfNode_32, kX0_setOfNode_33, kX0_setOfNode_34, kX0_setOfNode_37, kX0_setOfNode_38, kX0_setOfNode_39E, kX0_setOfNode_42, kX0_setOfNode_43, kX0_setOfNode_44, kX0_setOfNode_47, kX0_setOfNode_48, kX0_setOfNode_49E, kX0_setOfNode_52, kX0_setOfNode_53, kX0_setOfNode_54, kX0_setOfNode_55, kX0_setOfNode_56, kX0_setOfNode_59, kX0_setOfNode_60, kX0_setOfNode_61E, kX0_setOfNode_64, kX0_setOfNode_65, kX0_setOfNode_66, kX0_setOfNode_69, kX0_setOfNode_70, kX0_setOfNode_71E, kX0_setOfNode_74, kX0_setOfNode_75, kX0_setOfNode_76, kX0_setOfNode_77, kX0_setOfNode_78E, kX0_setOfNode_81, kX0_setOfNode_82, kX0_setOfNode_83, kX0_setOfNode_86, kX0_setOfNode_87, kX0_setOfNode_88E, kX0_setOfNode_91, kX0_setOfNode_92, kX0_setOfNode_93, kX0_setOfNode_94, kX0_setOfNode_95, kX0_setOfNode_96, kX0_setOfNode_97, kX0_setOfNode_100, kX0_setOfNode_101, kX0_setOfNode_102, kX0_setOfNode_103, kX0_setOfNode_106, kX0_setOfNode_107, kX0_setOfNode_108, kX0_setOfNode_109E, kX0_setOfNode_112, q_cut_i, q_cut_r, q_cut_l, q_cut_n, q_psh_n, q_psh_s, bI_eq0, ite_not, ↓if_pos, ↓if_neg, ↓ite_bI_t, ↓ite_bI_f, a0, a1, a2, v0, v1, v2, q_toN, r1, rx]
      · have f : nF1 W n y V q = cLf W n q.1 q.2.1 y := by
          funext p; unfold nF1; rw [if_neg g5, if_neg g6, if_neg g7]
        have rx := fun z : QP => uX11_leafSet (d := d) (x := z) hW q11 q12 q21 q22 h3 h4
        rw [f]
        simp (disch := first | assumption | exact bI_lo | exact bI_hi | exact bI_01 | (show (List.map q_wd _).sum ≤ 8; with_unfolding_all exact Nat.le_of_ble_eq_true rfl) | omega) only [kX0_setOfNode_0, kX0_setOfNode_1, kX0_setOfNode_4, kX0_setOfNode_5, kX0_setOfNode_6, kX0_setOfNode_32, kX0_setOfNode_33, kX0_setOfNode_34, kX0_setOfNode_37, kX0_setOfNode_38, kX0_setOfNode_39E, kX0_setOfNode_42, kX0_setOfNode_43, kX0_setOfNode_44, kX0_setOfNode_47, kX0_setOfNode_48, kX0_setOfNode_49E, kX0_setOfNode_52, kX0_setOfNode_53, kX0_setOfNode_54, kX0_setOfNode_55, kX0_setOfNode_56, kX0_setOfNode_59, kX0_setOfNode_60, kX0_setOfNode_61E, kX0_setOfNode_64, kX0_setOfNode_65, kX0_setOfNode_66, kX0_setOfNode_69, kX0_setOfNode_70, kX0_setOfNode_71E, kX0_setOfNode_74, kX0_setOfNode_75, kX0_setOfNode_76, kX0_setOfNode_77, kX0_setOfNode_78E, kX0_setOfNode_81, kX0_setOfNode_82, kX0_setOfNode_83, kX0_setOfNode_86, kX0_setOfNode_87, kX0_setOfNode_88E, kX0_setOfNode_91, kX0_setOfNode_92, kX0_setOfNode_93, kX0_setOfNode_94, kX0_setOfNode_95, kX0_setOfNode_96, kX0_setOfNode_97, kX0_setOfNode_100, kX0_setOfNode_101, kX0_setOfNode_102, kX0_setOfNode_103, kX0_setOfNode_106, kX0_setOfNode_107, kX0_setOfNode_108, kX0_setOfNode_109E, kX0_setOfNode_112, q_cut_i, q_cut_r, q_cut_l, q_cut_n, q_psh_n, q_psh_s, bI_eq0, ite_not, ↓if_pos, ↓if_neg, ↓ite_bI_t, ↓ite_bI_f, a0, a1, a2, v0, v1, v2, q_toN, rx]
theorem FLm_w22 {i : Nat} {v : Int} (hg : gI M g) (h : FLm M g c N O) : FLm (q_wr M (g 22) i (qi v)) g c N O := by
  obtain ⟨h1, h2, h3, h4, h5, h6, h7, h8, h9, h10, h11, h12⟩ := h
  have o : ∀ s j, s < 244 → s ≠ 22 → q_fv (q_wr M (g 22) i (qi v)) (g s) j = q_fv M (g s) j := fun s j hs hn => by rw [q_fv_wrE, if_neg (fun z => g_ne hg hs (by omega) hn z.1)]
  refine ⟨h1, by rw [o 18 _ (by omega) (by omega), h2], by rw [o 18 _ (by omega) (by omega), h3], by rw [o 18 _ (by omega) (by omega), h4], h5, h6, fun k hk => ?_, fun k hk j q hq => by rw [o _ _ (by omega) (by omega)]; exact h8 k hk j q hq, fun j hj => by rw [o 23 _ (by omega) (by omega)]; exact h9 j hj, fun j w hj => by rw [o 23 _ (by omega) (by omega)]; exact h10 j w hj, h11, h12⟩
  obtain ⟨a1, a2, a3, a4, a5, a6⟩ := h7 k hk
  refine ⟨by rw [o 18 _ (by omega) (by omega)]; exact a1, a2, a3, a4, a5, fun j hj => ?_⟩
  rw [q_fv_wrE]
  split
  · exact ⟨_, rfl⟩
  · exact a6 j hj
theorem vX0_setOn {f w : Nat} {y : Int} (hg : gI M g) (hw : q_wf M) (h : FLm M g c N O) (hW : WMm M g cN cT W n mg sp) (ho : fOk N) (hf : O[f]? = some w) (h3 : -2147483648 ≤ y) (h4 : y < 2147483648) : ∃ M', q_C (d + 6) iX0_setOn [qr (g 18), qi f, qi y, qr (g 16)] M (some (qi (bSet (nV W n y N (w + 1) w) n : Nat))) M' ∧ FLm M' g c N O ∧ WMm M' g cN cT W n mg sp ∧ GF (fun s => s = 22) M M' g g ∧ q_qt M M' := by
  have fl : f < O.length := by
    rcases Nat.lt_or_ge f O.length with z | z
    · exact z
    · rw [List.getElem?_eq_none z] at hf; simp at hf
  have wl : w < N.length := h.2.2.2.2.2.2.2.2.2.2.1 w (List.mem_of_getElem? hf)
  have bc := (h.2.2.2.2.2.2.1 0 (by omega)).2.2.2.2.1
  have lc := (h.2.2.2.2.2.2.1 0 (by omega)).2.2.1
  have loop : ∀ (m i : Nat) (A : QM), i + m = w + 1 → GF (fun s => s = 22) M A g g → q_qt M A → FLm A g c N O → (∀ j, j < i → q_fv A (g 22) j = qi (bSet (nV W n y N i j) n : Nat)) → ∃ B, (∀ P, Rr (q_C (d + 5)) mX0_setOn (21, [some (qr (g 18)), some (qi f), some (qi y), some (qr (g 16)), some (qi w), some (qi i)], [], A) P = P (some (qi (bSet (nV W n y N (w + 1) w) n : Nat))) B) ∧ GF (fun s => s = 22) M B g g ∧ q_qt M B ∧ FLm B g c N O := by
    intro m
    induction m with
    | zero =>
      intro i A hm hF hQ hA hS
      have e : i = w + 1 := by omega
      subst e
      refine ⟨A, fun P => ?_, hF, hQ, hA⟩
      have z := hS w (by omega)
      have k18 := hA.1
      have v4 := hA.2.1
      have r := fun x : QP => uX0_setAt (d := d + 4) (x := x) (k := w) hA (by omega) (by omega) z
      rw [kX0_setOn_21]
      simp (disch := first | assumption | exact bI_lo | exact bI_hi | exact bI_01 | (show (List.map q_wd _).sum ≤ 8; with_unfolding_all exact Nat.le_of_ble_eq_true rfl) | omega) only [kX0_setOn_23, kX0_setOn_24, kX0_setOn_27, kX0_setOn_30, kX0_setOn_32, kX0_setOn_34, kX0_setOn_37, kX0_setOn_38, kX0_setOn_41, kX0_setOn_43, kX0_setOn_44, kX0_setOn_46, kX0_setOn_47, kX0_setOn_48E, kX0_setOn_51, kX0_setOn_52, kX0_setOn_55, kX0_setOn_58, kX0_setOn_59, kX0_setOn_61E, kX0_setOn_64, q_cut_i, q_cut_r, q_cut_l, q_cut_n, q_psh_n, q_psh_s, bI_eq0, ite_not, ↓if_pos, ↓if_neg, ↓ite_bI_t, ↓ite_bI_f, v4, r]
      split <;> rfl
    | succ m ih =>
      intro i A hm hF hQ hA hS
      have k18 := hA.1
      have v4 := hA.2.1
      have il : i < N.length := by omega
      have hq : N[i]? = some (N.getD i (0, 0, 0)) := by
        rw [List.getElem?_eq_getElem il, List.getD_eq_getElem?_getD, List.getElem?_eq_getElem il]; rfl
      have hW' : WMm A g cN cT W n mg sp := WMm_fr hg hW hF (fun s hs => by omega) rfl
      have r := fun x : QP => uX0_setOfNode (d := d) (x := x) hA hW'.1 hq hS (ho i _ hq) h3 h4
      have hF2 : GF (fun s => s = 22) A (q_wr A (g 22) i (qi (bSet (nF1 W n y (nV W n y N i) (N.getD i (0, 0, 0))) n : Nat))) g g := GF_wr hF.2.2.2.1 hF.2.2.2.2 (by omega) rfl
      obtain ⟨B, r1, r2, r3, r4⟩ := ih (i + 1) _ (by omega) (hF.tr hF2) (hQ.tr q_qt.wr) (FLm_w22 hF.2.2.2.1 hA) (fun j hj => by
        rw [q_fv_wrE, nV]
        by_cases e : j = i
        · subst e
          rw [if_pos ⟨rfl, rfl⟩, upF_s]
        · rw [if_neg (fun z => e z.2), upF_o e]
          exact hS j (by omega))
      refine ⟨B, fun P => ?_, r2, r3, r4⟩
      have r1' := r1 P
      rw [show ((i + 1 : Nat) : Int) = (i : Int) + 1 by omega] at r1'
      obtain ⟨a3, b3, e3, l3⟩ := FLm_c (s := 22) hA (by omega : 3 < 4) rfl
      rw [kX0_setOn_21]
      simp (disch := first | assumption | exact bI_lo | exact bI_hi | exact bI_01 | (show (List.map q_wd _).sum ≤ 8; with_unfolding_all exact Nat.le_of_ble_eq_true rfl) | omega) only [kX0_setOn_23, kX0_setOn_24, kX0_setOn_27, kX0_setOn_30, kX0_setOn_32, kX0_setOn_34, kX0_setOn_37, kX0_setOn_38, kX0_setOn_41, kX0_setOn_43, kX0_setOn_44, kX0_setOn_46, kX0_setOn_47, kX0_setOn_48E, kX0_setOn_51, kX0_setOn_52, kX0_setOn_55, kX0_setOn_58, kX0_setOn_59, kX0_setOn_61E, kX0_setOn_64, q_cut_i, q_cut_r, q_cut_l, q_cut_n, q_psh_n, q_psh_s, bI_eq0, ite_not, ↓if_pos, ↓if_neg, ↓ite_bI_t, ↓ite_bI_f, v4, a3, r, q_toN]
      exact r1'
  obtain ⟨B, r1, r2, r3, r4⟩ := loop (w + 1) 0 M (by omega) (GF.rf hg hw) ⟨fun _ => rfl, rfl, ⟨by omega, by omega⟩⟩ h (fun j hj => by omega)
  refine ⟨B, C_of (fun P => ?_), r4, WMm_fr hg hW r2 (fun s hs => by omega) rfl, r2, r3⟩
  have r1' := r1 P
  obtain ⟨h1, h2, hz3, hz4, h5, h6, h7, h8, h9, h10, h11, h12⟩ := id h
  have vf := h10 f w hf
  have b5 : (q_kd M (g 23)).1 = 2 := by rw [h5]
  have e5 : (q_kd M (g 23)).2 = 8 := by rw [h5]
  rw [eX0_setOn]
  simp (disch := first | assumption | exact bI_lo | exact bI_hi | exact bI_01 | (show (List.map q_wd _).sum ≤ 8; with_unfolding_all exact Nat.le_of_ble_eq_true rfl) | omega) only [kX0_setOn_0, kX0_setOn_1, kX0_setOn_2E, kX0_setOn_5, kX0_setOn_8, kX0_setOn_9, kX0_setOn_10, kX0_setOn_11, kX0_setOn_14, kX0_setOn_15, kX0_setOn_16, kX0_setOn_18, kX0_setOn_19, q_cut_i, q_cut_r, q_cut_l, q_cut_n, q_psh_n, q_psh_s, bI_eq0, ite_not, ↓if_pos, ↓if_neg, ↓ite_bI_t, ↓ite_bI_f, uX0_has h, hz3, q_toN, vf]
  exact r1'
end FL4
