
/-! the name that was held longest -/
def nmBest (l : List (Int × Int)) (e : Int) : Nat → Nat
  | 0 => 0
  | k + 1 => if k = 0 then 0 else if nmDays l (nmBest l e k) e < nmDays l k e then k else nmBest l e k
theorem nmBest_lt (l : List (Int × Int)) (e : Int) : ∀ k : Nat, 0 < k → nmBest l e k < k
  | 0, h => by omega
  | k + 1, _ => by
    rw [nmBest]
    by_cases g : k = 0
    · rw [if_pos g]; omega
    · rw [if_neg g]
      have := nmBest_lt l e k (by omega)
      split <;> omega
section LNG
variable {M : QM} {a : Nat → Nat} {cN cT d : Nat} {p : Pl} {x : QP}
theorem nm_b (h : PLr M a cN cT p) {i : Nat} (hi : i < (plN p).length) : -100000 ≤ (plN p)[i].1 ∧ (plN p)[i].1 ≤ 100000 := by
  obtain ⟨e1, e2, e3, e4⟩ := h.2.2.2.2.1.2.2.2.2.2.2.2.2.2.1 i hi
  exact ⟨e3, e4⟩
theorem nmDays_b (h : PLr M a cN cT p) {i : Nat} {e : Int} (hi : i < (plN p).length) (he : q_b e) : -200000 ≤ nmDays (plN p) i e ∧ nmDays (plN p) i e ≤ 200000 := by
  have b0 := nm_b h hi
  obtain ⟨e1, e2⟩ := he
  have gd : (plN p).getD i (0, 0) = (plN p)[i] := by rw [List.getD_eq_getElem?_getD, List.getElem?_eq_getElem hi]; rfl
  unfold nmDays
  rw [gd]
  by_cases g : i + 1 < (plN p).length
  · have b1 := nm_b h g
    simp only [g, hi, dif_pos, if_pos, dite_true]
    omega
  · simp only [g, hi, dif_neg, dif_pos, dite_false, dite_true]
    omega
theorem uX2_daysOf (h : PLr M a cN cT p) {i : Nat} {e : Int} (hi : i < (plN p).length) : q_T (d + 2) iX2_daysOf [qr (a 1), qi i, qi e] M x = x (some (qi (nmDays (plN p) i e))) M := T_eq (fun P hP => sX2_daysOf h.2.2.2.2.1 hi hP) x
theorem uX2_dayOf (h : PLr M a cN cT p) {i : Nat} (hi : i < (plN p).length) : q_T (d + 1) iX2_dayOf [qr (a 1), qi i] M x = x (some (qi (plN p)[i].1)) M := T_eq (fun P hP => sX2_dayOf h.2.2.2.2.1 hi hP) x
theorem uX2_wordOf (h : PLr M a cN cT p) {i : Nat} (hi : i < (plN p).length) : q_T (d + 1) iX2_wordOf [qr (a 1), qi i] M x = x (some (ql (plN p)[i].2)) M := T_eq (fun P hP => sX2_wordOf h.2.2.2.2.1 hi hP) x
theorem uX2_longestHeld (h : PLr M a cN cT p) {e : Int} (hne : 0 < (plN p).length) (hl : (plN p).length ≤ 2000) (he : q_b e) : q_T (d + 3) iX2_longestHeld [qr (a 1), qi e] M x = x (some (qi (nmBest (plN p) e (plN p).length : Nat))) M := by
  have hT := h.2.2.2.2.1
  have kt := PLr_k1 h
  have f2 : q_fv M (a 1) 2 = qi (plN p).length := hT.2.2.2.1
  have loop : ∀ m k : Nat, k + m = (plN p).length → 1 ≤ k → Rr (q_C (d + 2)) mX2_longestHeld (4, [some (qr (a 1)), some (qi e), some (qi (nmBest (plN p) e k : Nat)), some (qi k)], [], M) x = x (some (qi (nmBest (plN p) e (plN p).length : Nat))) M := by
    intro m
    induction m with
    | zero =>
      intro k hk h1
      have ek : k = (plN p).length := by omega
      have b := nmBest_lt (plN p) e k (by omega)
      subst ek
      rw [kX2_longestHeld_4]
      simp (disch := first | assumption | exact bI_lo | exact bI_hi | exact bI_01 | (show (List.map q_wd _).sum ≤ 8; with_unfolding_all exact Nat.le_of_ble_eq_true rfl) | omega) only [kX2_longestHeld_0, kX2_longestHeld_1, kX2_longestHeld_2, kX2_longestHeld_3, kX2_longestHeld_5, kX2_longestHeld_6, kX2_longestHeld_9, kX2_longestHeld_12, kX2_longestHeld_13, kX2_longestHeld_14, kX2_longestHeld_15E, kX2_longestHeld_18, kX2_longestHeld_19, kX2_longestHeld_20, kX2_longestHeld_21E, kX2_longestHeld_24, kX2_longestHeld_27, kX2_longestHeld_28, kX2_longestHeld_29, kX2_longestHeld_32, kX2_longestHeld_35, kX2_longestHeld_36, q_cut_i, q_cut_r, q_cut_l, q_cut_n, q_psh_n, q_psh_s, bI_eq0, ite_not, ↓if_pos, ↓if_neg, ↓ite_bI_t, ↓ite_bI_f, f2]
    | succ m ih =>
      intro k hk h1
      have ih' := ih (k + 1) (by omega) (by omega)
      have b := nmBest_lt (plN p) e k (by omega)
      have d1 := nmDays_b h (i := k) (e := e) (by omega) he
      have d2 := nmDays_b h (i := nmBest (plN p) e k) (e := e) (by omega) he
      have r1 := fun x : QP => uX2_daysOf (d := d) (x := x) (e := e) h (i := k) (by omega)
      have r2 := fun x : QP => uX2_daysOf (d := d) (x := x) (e := e) h (i := nmBest (plN p) e k) (by omega)
      rw [nmBest, if_neg (by omega)] at ih'
      rw [show ((k + 1 : Nat) : Int) = (k : Int) + 1 by omega] at ih'
      rw [kX2_longestHeld_4]
      by_cases g : nmDays (plN p) (nmBest (plN p) e k) e < nmDays (plN p) k e
      · rw [if_pos g] at ih'
        simp (disch := first | assumption | exact bI_lo | exact bI_hi | exact bI_01 | (show (List.map q_wd _).sum ≤ 8; with_unfolding_all exact Nat.le_of_ble_eq_true rfl) | omega) only [kX2_longestHeld_0, kX2_longestHeld_1, kX2_longestHeld_2, kX2_longestHeld_3, kX2_longestHeld_5, kX2_longestHeld_6, kX2_longestHeld_9, kX2_longestHeld_12, kX2_longestHeld_13, kX2_longestHeld_14, kX2_longestHeld_15E, kX2_longestHeld_18, kX2_longestHeld_19, kX2_longestHeld_20, kX2_longestHeld_21E, kX2_longestHeld_24, kX2_longestHeld_27, kX2_longestHeld_28, kX2_longestHeld_29, kX2_longestHeld_32, kX2_longestHeld_35, kX2_longestHeld_36, q_cut_i, q_cut_r, q_cut_l, q_cut_n, q_psh_n, q_psh_s, bI_eq0, ite_not, ↓if_pos, ↓if_neg, ↓ite_bI_t, ↓ite_bI_f, f2, r1, r2]
        exact ih'
      · rw [if_neg g] at ih'
        simp (disch := first | assumption | exact bI_lo | exact bI_hi | exact bI_01 | (show (List.map q_wd _).sum ≤ 8; with_unfolding_all exact Nat.le_of_ble_eq_true rfl) | omega) only [kX2_longestHeld_0, kX2_longestHeld_1, kX2_longestHeld_2, kX2_longestHeld_3, kX2_longestHeld_5, kX2_longestHeld_6, kX2_longestHeld_9, kX2_longestHeld_12, kX2_longestHeld_13, kX2_longestHeld_14, kX2_longestHeld_15E, kX2_longestHeld_18, kX2_longestHeld_19, kX2_longestHeld_20, kX2_longestHeld_21E, kX2_longestHeld_24, kX2_longestHeld_27, kX2_longestHeld_28, kX2_longestHeld_29, kX2_longestHeld_32, kX2_longestHeld_35, kX2_longestHeld_36, q_cut_i, q_cut_r, q_cut_l, q_cut_n, q_psh_n, q_psh_s, bI_eq0, ite_not, ↓if_pos, ↓if_neg, ↓ite_bI_t, ↓ite_bI_f, f2, r1, r2]
        exact ih'
  rw [eX2_longestHeld]
  simp (disch := first | assumption | exact bI_lo | exact bI_hi | exact bI_01 | (show (List.map q_wd _).sum ≤ 8; with_unfolding_all exact Nat.le_of_ble_eq_true rfl) | omega) only [kX2_longestHeld_0, kX2_longestHeld_1, kX2_longestHeld_2, kX2_longestHeld_3, q_cut_i, q_cut_r, q_cut_l, q_cut_n, q_psh_n, q_psh_s, bI_eq0, ite_not]
  exact loop ((plN p).length - 1) 1 (by omega) (Nat.le_refl 1)
end LNG
def cLg (W : Nat → Pl) (p : Nat) (what : Int) : Int := if what = 0 then ((plN (W p)).getD (nmBest (plN (W p)) (plEnd (W p)) (plN (W p)).length) (0, 0)).1 else if what = 1 then nmDays (plN (W p)) (nmBest (plN (W p)) (plEnd (W p)) (plN (W p)).length) (plEnd (W p)) else if what = 2 then (wdLen ((plN (W p)).getD (nmBest (plN (W p)) (plEnd (W p)) (plN (W p)).length) (0, 0)).2.toNat 8 : Nat) else -1
theorem uX12_longestN {d : Nat} {M : QM} {x : QP} {g cN cT : Nat → Nat} {W : Nat → Pl} {n : Nat} {hs ch lr hc : Int} (hR : RO M g hs ch lr hc) (hW : WRd M (g 16) (g 17) (gA g) cN cT W n) {p what : Int} (h1 : -2147483648 ≤ p) (h2 : p < 2147483648) (hn : ¬ (0 ≤ p ∧ p < n)) : q_T (d + 2) iX12_longest [qr (g 0), qi p, qi what] M x = x (some (qi (-1))) M := by
  obtain ⟨k0, r0, r1, r2, r3, r4, r5, r6, r7, r8, r9, r10, r11, r12, r13⟩ := id hR
  have kw := hW.1
  rw [eX12_longest]
  simp (disch := first | assumption | exact bI_lo | exact bI_hi | exact bI_01 | (show (List.map q_wd _).sum ≤ 8; with_unfolding_all exact Nat.le_of_ble_eq_true rfl) | omega) only [kX12_longest_0, kX12_longest_1, kX12_longest_4, kX12_longest_5E, kX12_longest_8, kX12_longest_9, kX12_longest_10r, kX12_longest_10n, kX12_longest_13, kX12_longest_14, kX12_longest_15, kX12_longest_16, kX12_longest_19, kX12_longest_20E, kX12_longest_23E, kX12_longest_26, kX12_longest_28, kX12_longest_29, kX12_longest_56, kX12_longest_57, kX12_longest_60, kX12_longest_62E, kX12_longest_65, kX12_longest_66, kX12_longest_67, kX12_longest_70, kX12_longest_72, kX12_longest_73E, kX12_longest_76E, kX12_longest_79, kX12_longest_80, kX12_longest_81, kX12_longest_84, kX12_longest_86E, kX12_longest_89E, kX12_longest_92, kX12_longest_93, kX12_longest_94, q_cut_i, q_cut_r, q_cut_l, q_cut_n, q_psh_n, q_psh_s, bI_eq0, ite_not, ↓if_pos, ↓if_neg, ↓ite_bI_t, ↓ite_bI_f, r2, uX11_placeN hW hn]
theorem uX12_longestY {d : Nat} {M : QM} {x : QP} {g cN cT : Nat → Nat} {W : Nat → Pl} {n : Nat} {hs ch lr hc : Int} (hR : RO M g hs ch lr hc) (hW : WRd M (g 16) (g 17) (gA g) cN cT W n) {p : Nat} {what : Int} (hp20 : p < n) (hne : 0 < (plN (W p)).length) (hl : (plN (W p)).length ≤ 2000) (hw : q_i32 what) : q_T (d + 4) iX12_longest [qr (g 0), qi p, qi what] M x = x (some (qi (cLg W p what))) M := by
  obtain ⟨k0, r0, r1, r2, r3, r4, r5, r6, r7, r8, r9, r10, r11, r12, r13⟩ := id hR
  have kw := hW.1
  have n20 := WRd_n hW
  obtain ⟨w1, w2⟩ := hw
  have hp := (hW.2.2.2.2.2 p (by omega)).2
  have hpy := fun z : QP => uX11_placeY (d := d + 2) (x := z) hW (p := p) (by omega) (by omega)
  rw [q_toN] at hpy
  have he := plEnd_b (PLr_ok hp)
  have b := nmBest_lt (plN (W p)) (plEnd (W p)) (plN (W p)).length hne
  have rl := fun z : QP => uX2_longestHeld (d := d) (x := z) hp hne hl he
  have rd := fun z : QP => uX2_dayOf (d := d + 2) (x := z) hp b
  have rw' := fun z : QP => uX2_wordOf (d := d + 2) (x := z) hp b
  have rs := fun z : QP => uX2_daysOf (d := d + 1) (x := z) (e := plEnd (W p)) hp b
  have gd : (plN (W p)).getD (nmBest (plN (W p)) (plEnd (W p)) (plN (W p)).length) (0, 0) = (plN (W p))[nmBest (plN (W p)) (plEnd (W p)) (plN (W p)).length] := by
    rw [List.getD_eq_getElem?_getD, List.getElem?_eq_getElem b]; rfl
  have wd := (PLr_ok hp).2.2.2.2.2.2.2 _ (List.getElem_mem b)
  rw [eX12_longest]
  unfold cLg
  rw [gd]
  by_cases s0 : what = 0
  · rw [if_pos s0]
    simp (disch := first | assumption | exact PLr_0 hp | exact PLr_k1 hp | exact PLr_k4 hp | exact PLr_k7 hp | exact bI_lo | exact bI_hi | exact bI_01 | (show (List.map q_wd _).sum ≤ 8; with_unfolding_all exact Nat.le_of_ble_eq_true rfl) | omega) only [kX12_longest_0, kX12_longest_1, kX12_longest_4, kX12_longest_5E, kX12_longest_8, kX12_longest_9, kX12_longest_10r, kX12_longest_10n, kX12_longest_13, kX12_longest_14, kX12_longest_15, kX12_longest_16, kX12_longest_19, kX12_longest_20E, kX12_longest_23E, kX12_longest_26, kX12_longest_28, kX12_longest_29, kX12_longest_56, kX12_longest_57, kX12_longest_60, kX12_longest_62E, kX12_longest_65, kX12_longest_66, kX12_longest_67, kX12_longest_70, kX12_longest_72, kX12_longest_73E, kX12_longest_76E, kX12_longest_79, kX12_longest_80, kX12_longest_81, kX12_longest_84, kX12_longest_86E, kX12_longest_89E, kX12_longest_92, kX12_longest_93, kX12_longest_94, q_cut_i, q_cut_r, q_cut_l, q_cut_n, q_psh_n, q_psh_s, bI_eq0, ite_not, ↓if_pos, ↓if_neg, ↓ite_bI_t, ↓ite_bI_f, r2, hpy, PLr_f6 hp, uX4_end hp, rl, rd]
  · rw [if_neg s0]
    by_cases s1 : what = 1
    · rw [if_pos s1]
      simp (disch := first | assumption | exact PLr_0 hp | exact PLr_k1 hp | exact PLr_k4 hp | exact PLr_k7 hp | exact bI_lo | exact bI_hi | exact bI_01 | (show (List.map q_wd _).sum ≤ 8; with_unfolding_all exact Nat.le_of_ble_eq_true rfl) | omega) only [kX12_longest_0, kX12_longest_1, kX12_longest_4, kX12_longest_5E, kX12_longest_8, kX12_longest_9, kX12_longest_10r, kX12_longest_10n, kX12_longest_13, kX12_longest_14, kX12_longest_15, kX12_longest_16, kX12_longest_19, kX12_longest_20E, kX12_longest_23E, kX12_longest_26, kX12_longest_28, kX12_longest_29, kX12_longest_56, kX12_longest_57, kX12_longest_60, kX12_longest_62E, kX12_longest_65, kX12_longest_66, kX12_longest_67, kX12_longest_70, kX12_longest_72, kX12_longest_73E, kX12_longest_76E, kX12_longest_79, kX12_longest_80, kX12_longest_81, kX12_longest_84, kX12_longest_86E, kX12_longest_89E, kX12_longest_92, kX12_longest_93, kX12_longest_94, q_cut_i, q_cut_r, q_cut_l, q_cut_n, q_psh_n, q_psh_s, bI_eq0, ite_not, ↓if_pos, ↓if_neg, ↓ite_bI_t, ↓ite_bI_f, r2, hpy, PLr_f6 hp, uX4_end hp, rl, rs]
    · rw [if_neg s1]
      by_cases s2 : what = 2
      · rw [if_pos s2]
        simp (disch := first | assumption | exact PLr_0 hp | exact PLr_k1 hp | exact PLr_k4 hp | exact PLr_k7 hp | exact bI_lo | exact bI_hi | exact bI_01 | (show (List.map q_wd _).sum ≤ 8; with_unfolding_all exact Nat.le_of_ble_eq_true rfl) | omega) only [kX12_longest_0, kX12_longest_1, kX12_longest_4, kX12_longest_5E, kX12_longest_8, kX12_longest_9, kX12_longest_10r, kX12_longest_10n, kX12_longest_13, kX12_longest_14, kX12_longest_15, kX12_longest_16, kX12_longest_19, kX12_longest_20E, kX12_longest_23E, kX12_longest_26, kX12_longest_28, kX12_longest_29, kX12_longest_56, kX12_longest_57, kX12_longest_60, kX12_longest_62E, kX12_longest_65, kX12_longest_66, kX12_longest_67, kX12_longest_70, kX12_longest_72, kX12_longest_73E, kX12_longest_76E, kX12_longest_79, kX12_longest_80, kX12_longest_81, kX12_longest_84, kX12_longest_86E, kX12_longest_89E, kX12_longest_92, kX12_longest_93, kX12_longest_94, q_cut_i, q_cut_r, q_cut_l, q_cut_n, q_psh_n, q_psh_s, bI_eq0, ite_not, ↓if_pos, ↓if_neg, ↓ite_bI_t, ↓ite_bI_f, r2, hpy, PLr_f6 hp, uX4_end hp, rl, rw', uX10_lengthOf wd.1 wd.2]
      · rw [if_neg s2]
        simp (disch := first | assumption | exact PLr_0 hp | exact PLr_k1 hp | exact PLr_k4 hp | exact PLr_k7 hp | exact bI_lo | exact bI_hi | exact bI_01 | (show (List.map q_wd _).sum ≤ 8; with_unfolding_all exact Nat.le_of_ble_eq_true rfl) | omega) only [kX12_longest_0, kX12_longest_1, kX12_longest_4, kX12_longest_5E, kX12_longest_8, kX12_longest_9, kX12_longest_10r, kX12_longest_10n, kX12_longest_13, kX12_longest_14, kX12_longest_15, kX12_longest_16, kX12_longest_19, kX12_longest_20E, kX12_longest_23E, kX12_longest_26, kX12_longest_28, kX12_longest_29, kX12_longest_56, kX12_longest_57, kX12_longest_60, kX12_longest_62E, kX12_longest_65, kX12_longest_66, kX12_longest_67, kX12_longest_70, kX12_longest_72, kX12_longest_73E, kX12_longest_76E, kX12_longest_79, kX12_longest_80, kX12_longest_81, kX12_longest_84, kX12_longest_86E, kX12_longest_89E, kX12_longest_92, kX12_longest_93, kX12_longest_94, q_cut_i, q_cut_r, q_cut_l, q_cut_n, q_psh_n, q_psh_s, bI_eq0, ite_not, ↓if_pos, ↓if_neg, ↓ite_bI_t, ↓ite_bI_f, r2, hpy, PLr_f6 hp, uX4_end hp, rl]
