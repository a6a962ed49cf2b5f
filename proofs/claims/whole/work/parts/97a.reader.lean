
/-! Reader -/
def tpH (l : List Int) (i : Int) : Int := if i < 0 then -1 else l[i.toNat]?.getD (-1)
def RD (M : QM) (r b : Nat) (a nu w : Int) : Prop := q_kd M r = (1, 5) ∧ q_fv M r 0 = qr b ∧ q_fv M r 1 = qi a ∧ q_fv M r 2 = qi nu ∧ q_fv M r 3 = ql w
theorem RD.w1 {M : QM} {r b : Nat} {a nu w : Int} (h : RD M r b a nu w) (a' : Int) : RD (q_wr M r 1 (qi a')) r b a' nu w := ⟨h.1, q_fwo (by decide) h.2.1, q_fws, q_fwo (by decide) h.2.2.2.1, q_fwo (by decide) h.2.2.2.2⟩
theorem RD.w2 {M : QM} {r b : Nat} {a nu w : Int} (h : RD M r b a nu w) (n' : Int) : RD (q_wr M r 2 (qi n')) r b a n' w := ⟨h.1, q_fwo (by decide) h.2.1, q_fwo (by decide) h.2.2.1, q_fws, q_fwo (by decide) h.2.2.2.2⟩
theorem RD.w3 {M : QM} {r b : Nat} {a nu w : Int} (h : RD M r b a nu w) (w' : Int) : RD (q_wr M r 3 (ql w')) r b a nu w' := ⟨h.1, q_fwo (by decide) h.2.1, q_fwo (by decide) h.2.2.1, q_fwo (by decide) h.2.2.2.1, q_fws⟩
theorem RD.fr {M M' : QM} {r b : Nat} {a nu w : Int} {A : Nat → Prop} (hw : q_wf M) (h : RD M r b a nu w) (hf : q_fr A M M') (h1 : ¬ A r) : RD M' r b a nu w := by
  obtain ⟨k, f0, f1, f2, f3⟩ := h
  have l : r < q_top M := hw.lt (by rw [k]; simp)
  have v : ∀ j, q_fv M' r j = q_fv M r j := hf.2.2.2 r l h1
  exact ⟨by rw [hf.2.2.1 r l, k], by rw [v, f0], by rw [v, f1], by rw [v, f2], by rw [v, f3]⟩
def wLs (h : Int → Int) (a : Int) (n : Nat) : List Int := (List.range n).map (fun i : Nat => h (a + i))
theorem wLs_len (h : Int → Int) (a : Int) (n : Nat) : (wLs h a n).length = n := by unfold wLs; simp
theorem wLs_s (h : Int → Int) (a : Int) (n : Nat) : wLs h a (n + 1) = wLs h a n ++ [h (a + n)] := by unfold wLs; rw [List.range_succ, List.map_append]; rfl
theorem wLs_all {h : Int → Int} {a : Int} {n : Nat} (hl : ∀ i : Nat, i < n → 97 ≤ h (a + i) ∧ h (a + i) ≤ 122) : (wLs h a n).all isLt = true := by
  unfold wLs
  rw [List.all_eq_true]
  intro c hc
  obtain ⟨i, hi, rfl⟩ := List.mem_map.mp hc
  exact decide_eq_true (hl i (List.mem_range.mp hi))
theorem wCnt_at (h : Int → Int) : ∀ (k : Nat) (a : Int) (i : Nat), i < wCnt h k a → 97 ≤ h (a + i) ∧ h (a + i) ≤ 122
  | 0, a, i, hi => by simp [wCnt] at hi
  | k + 1, a, i, hi => by
    rw [wCnt] at hi
    split at hi
    · rename_i g
      cases i with
      | zero => simpa using g
      | succ i =>
        have := wCnt_at h k (a + 1) i (by omega)
        rw [show a + ((i + 1 : Nat) : Int) = a + 1 + i by omega]
        exact this
    · omega
theorem pkW_b {h : Int → Int} {a : Int} {n : Nat} (hn : n ≤ 8) (hl : ∀ i : Nat, i < n → 97 ≤ h (a + i) ∧ h (a + i) ≤ 122) : pkW (wLs h a n) < 2 ^ 40 := by
  have := pkW_lt _ (wLs_all hl)
  rw [wLs_len] at this
  exact Nat.lt_of_lt_of_le this (Nat.pow_le_pow_right (by omega) (by omega))
section RDS
variable {M : QM} {h : Int → Int} {r b t s : Nat} {l : List Int} {a nu w : Int} {d : Nat} {x : QP}
theorem uX8_at (hT : TP M t s l) (hh : ∀ i : Int, 0 ≤ i → tpH l i = h i) {i : Int} (h0 : 0 ≤ i) (h1 : i < 100000) : q_T (d + 1) iX8_at [qr t, qi i] M x = x (some (qi (h i))) M := by
  have e := hh i h0
  unfold tpH at e
  have := fun P hP => sX8_at (d := d) hT (i := i) (by omega) (by omega) (P := P) hP
  rw [e] at this
  exact T_eq this x
theorem vX5_sign {c : Int} (hR : RD M r b a nu w) (hT : TP M t s l) (hh : ∀ i : Int, 0 ≤ i → tpH l i = h i) (hb : ∀ i, -2147483648 ≤ h i ∧ h i < 2147483648) (h0 : 0 ≤ a) (h1 : a < 1000) (c0 : 0 ≤ c) (c1 : c < 1000) : ∃ M', q_C (d + 2) iX5_readSign [qr r, qr t, qi c] M (some (qi (bI (h a = c)))) M' ∧ RD M' r b (if h a = c then a + 1 else a) nu w ∧ q_fr (fun x => x = r) M M' ∧ q_qt M M' := by
  obtain ⟨k, f0, f1, f2, f3⟩ := id hR
  have kt := hT.1
  obtain ⟨b1, b2⟩ := hb a
  have ha := fun x : QP => uX8_at (d := d) (x := x) hT hh h0 (by omega)
  by_cases g : h a = c
  · rw [bI_pos g, if_pos g]
    refine ⟨_, C_of (fun P => ?_), hR.w1 (a + 1), q_fr.wr rfl, q_qt.wr⟩
    rw [eX5_readSign]
    simp (disch := first | assumption | exact bI_lo | exact bI_hi | exact bI_01 | (show (List.map q_wd _).sum ≤ 8; with_unfolding_all exact Nat.le_of_ble_eq_true rfl) | omega | (simp only [q_kd_wr]; first | assumption | omega)) only [kX5_readSign_0, kX5_readSign_1, kX5_readSign_2, kX5_readSign_5E, kX5_readSign_8, kX5_readSign_9, kX5_readSign_12, kX5_readSign_13, kX5_readSign_14, kX5_readSign_15i, kX5_readSign_15r, kX5_readSign_16, kX5_readSign_19, kX5_readSign_20, kX5_readSign_21, kX5_readSign_24, kX5_readSign_25, q_cut_i, q_cut_r, q_cut_l, q_cut_n, q_psh_n, q_psh_s, bI_eq0, ite_not, ↓if_pos, ↓if_neg, ↓ite_bI_t, ↓ite_bI_f, f1, ha]
  · rw [bI_neg g, if_neg g]
    refine ⟨M, C_of (fun P => ?_), hR, q_fr.rf, q_qt.rf⟩
    rw [eX5_readSign]
    simp (disch := first | assumption | exact bI_lo | exact bI_hi | exact bI_01 | (show (List.map q_wd _).sum ≤ 8; with_unfolding_all exact Nat.le_of_ble_eq_true rfl) | omega | (simp only [q_kd_wr]; first | assumption | omega)) only [kX5_readSign_0, kX5_readSign_1, kX5_readSign_2, kX5_readSign_5E, kX5_readSign_8, kX5_readSign_9, kX5_readSign_12, kX5_readSign_13, kX5_readSign_14, kX5_readSign_15i, kX5_readSign_15r, kX5_readSign_16, kX5_readSign_19, kX5_readSign_20, kX5_readSign_21, kX5_readSign_24, kX5_readSign_25, q_cut_i, q_cut_r, q_cut_l, q_cut_n, q_psh_n, q_psh_s, bI_eq0, ite_not, ↓if_pos, ↓if_neg, ↓ite_bI_t, ↓ite_bI_f, f1, ha]
theorem vX5_kind (hR : RD M r b a nu w) (hT : TP M t s l) (hh : ∀ i : Int, 0 ≤ i → tpH l i = h i) (hb : ∀ i, -1000 ≤ h i ∧ h i < 1000) (h0 : 0 ≤ a) (h1 : a < 1000) : ∃ M', q_C (d + 2) iX5_readKind [qr r, qr t] M (some (qi (bI (48 ≤ h a ∧ h a ≤ 51)))) M' ∧ RD M' r b (if 48 ≤ h a ∧ h a ≤ 51 then a + 1 else a) (h a - 48) w ∧ q_fr (fun x => x = r) M M' ∧ q_qt M M' := by
  obtain ⟨k, f0, f1, f2, f3⟩ := id hR
  have kt := hT.1
  obtain ⟨b1, b2⟩ := hb a
  have ha := fun x : QP => uX8_at (d := d) (x := x) hT hh h0 (by omega)
  obtain ⟨k', f0', f1', f2', f3'⟩ := hR.w2 (h a - 48)
  by_cases g : 48 ≤ h a ∧ h a ≤ 51
  · rw [bI_pos g, if_pos g]
    refine ⟨_, C_of (fun P => ?_), (hR.w2 (h a - 48)).w1 (a + 1), (q_fr.wr (A := fun x => x = r) rfl).tr (q_fr.wr rfl), q_qt.wr.tr q_qt.wr⟩
    rw [eX5_readKind]
    simp (disch := first | assumption | exact bI_lo | exact bI_hi | exact bI_01 | (show (List.map q_wd _).sum ≤ 8; with_unfolding_all exact Nat.le_of_ble_eq_true rfl) | omega | (simp only [q_kd_wr]; first | assumption | omega)) only [kX5_readKind_0, kX5_readKind_1, kX5_readKind_2, kX5_readKind_3, kX5_readKind_6E, kX5_readKind_9, kX5_readKind_11, kX5_readKind_12, kX5_readKind_15, kX5_readKind_16, kX5_readKind_19, kX5_readKind_22, kX5_readKind_23, kX5_readKind_26, kX5_readKind_27, kX5_readKind_30, kX5_readKind_31, kX5_readKind_32, kX5_readKind_33i, kX5_readKind_33r, kX5_readKind_34, kX5_readKind_37, kX5_readKind_38, kX5_readKind_39, kX5_readKind_42, kX5_readKind_43, q_cut_i, q_cut_r, q_cut_l, q_cut_n, q_psh_n, q_psh_s, bI_eq0, ite_not, ↓if_pos, ↓if_neg, ↓ite_bI_t, ↓ite_bI_f, f1, ha, f2', f1']
  · rw [bI_neg g, if_neg g]
    refine ⟨_, C_of (fun P => ?_), hR.w2 (h a - 48), q_fr.wr rfl, q_qt.wr⟩
    rw [eX5_readKind]
    by_cases g2 : h a - 48 < 0
    · simp (disch := first | assumption | exact bI_lo | exact bI_hi | exact bI_01 | (show (List.map q_wd _).sum ≤ 8; with_unfolding_all exact Nat.le_of_ble_eq_true rfl) | omega | (simp only [q_kd_wr]; first | assumption | omega)) only [kX5_readKind_0, kX5_readKind_1, kX5_readKind_2, kX5_readKind_3, kX5_readKind_6E, kX5_readKind_9, kX5_readKind_11, kX5_readKind_12, kX5_readKind_15, kX5_readKind_16, kX5_readKind_19, kX5_readKind_22, kX5_readKind_23, kX5_readKind_26, kX5_readKind_27, kX5_readKind_30, kX5_readKind_31, kX5_readKind_32, kX5_readKind_33i, kX5_readKind_33r, kX5_readKind_34, kX5_readKind_37, kX5_readKind_38, kX5_readKind_39, kX5_readKind_42, kX5_readKind_43, q_cut_i, q_cut_r, q_cut_l, q_cut_n, q_psh_n, q_psh_s, bI_eq0, ite_not, ↓if_pos, ↓if_neg, ↓ite_bI_t, ↓ite_bI_f, f1, ha, f2', f1']
    · simp (disch := first | assumption | exact bI_lo | exact bI_hi | exact bI_01 | (show (List.map q_wd _).sum ≤ 8; with_unfolding_all exact Nat.le_of_ble_eq_true rfl) | omega | (simp only [q_kd_wr]; first | assumption | omega)) only [kX5_readKind_0, kX5_readKind_1, kX5_readKind_2, kX5_readKind_3, kX5_readKind_6E, kX5_readKind_9, kX5_readKind_11, kX5_readKind_12, kX5_readKind_15, kX5_readKind_16, kX5_readKind_19, kX5_readKind_22, kX5_readKind_23, kX5_readKind_26, kX5_readKind_27, kX5_readKind_30, kX5_readKind_31, kX5_readKind_32, kX5_readKind_33i, kX5_readKind_33r, kX5_readKind_34, kX5_readKind_37, kX5_readKind_38, kX5_readKind_39, kX5_readKind_42, kX5_readKind_43, q_cut_i, q_cut_r, q_cut_l, q_cut_n, q_psh_n, q_psh_s, bI_eq0, ite_not, ↓if_pos, ↓if_neg, ↓ite_bI_t, ↓ite_bI_f, f1, ha, f2', f1']
theorem vX5_num (hw : q_wf M) (hR : RD M r b a nu w) (hT : TP M t s l) (hh : ∀ i : Int, 0 ≤ i → tpH l i = h i) (hb : ∀ i, -1000 ≤ h i ∧ h i < 1000) (h0 : 0 ≤ a) (h1 : a < 900) : ∃ M', q_C (d + 2) iX5_readNumber [qr r, qr t] M (some (qi (bI (48 ≤ h a ∧ h a ≤ 57)))) M' ∧ RD M' r b (dRun h 4 a 0).1 (dRun h 4 a 0).2 w ∧ q_fr (fun x => x = r) M M' ∧ q_qt M M' := by
  have loop : ∀ (m k : Nat) (A : QM) (a' v : Int), k + m = 4 → RD A r b a' v w → q_fr (fun x => x = r) M A → q_qt M A → 0 ≤ a' → a' ≤ 900 + (k : Int) → dRun h 4 a 0 = dRun h m a' v → (k = 0 → a' = a) → (0 < k → 48 ≤ h a ∧ h a ≤ 57) → ∃ B, (∀ P, Rr (q_C (d + 1)) mX5_readNumber (7, [some (qr r), some (qr t), some (qi k)], [], A) P = P (some (qi (bI (48 ≤ h a ∧ h a ≤ 57)))) B) ∧ RD B r b (dRun h 4 a 0).1 (dRun h 4 a 0).2 w ∧ q_fr (fun x => x = r) M B ∧ q_qt M B := by
    intro m
    induction m with
    | zero =>
      intro k A a' v hm hA hf hq g0 g1 hd e0 e1
      have ek : k = 4 := by omega
      subst ek
      have gp := e1 (by omega)
      refine ⟨A, fun P => ?_, by rw [hd]; exact hA, hf, hq⟩
      rw [bI_pos gp, kX5_readNumber_7]
      simp (disch := first | assumption | exact bI_lo | exact bI_hi | exact bI_01 | (show (List.map q_wd _).sum ≤ 8; with_unfolding_all exact Nat.le_of_ble_eq_true rfl) | omega) only [kX5_readNumber_8, kX5_readNumber_9, kX5_readNumber_12, kX5_readNumber_13, kX5_readNumber_14, kX5_readNumber_17E, kX5_readNumber_20, kX5_readNumber_22, kX5_readNumber_25, kX5_readNumber_26, kX5_readNumber_27, kX5_readNumber_30E, kX5_readNumber_33, kX5_readNumber_35, kX5_readNumber_38, kX5_readNumber_39, kX5_readNumber_41, kX5_readNumber_42, kX5_readNumber_45, kX5_readNumber_46, kX5_readNumber_47, kX5_readNumber_48, kX5_readNumber_51E, kX5_readNumber_54, kX5_readNumber_55, kX5_readNumber_57, kX5_readNumber_58, kX5_readNumber_61, kX5_readNumber_62i, kX5_readNumber_62r, kX5_readNumber_63, kX5_readNumber_66, kX5_readNumber_67, kX5_readNumber_68, kX5_readNumber_71, kX5_readNumber_74, kX5_readNumber_77, kX5_readNumber_78, kX5_readNumber_81, kX5_readNumber_82, kX5_readNumber_85, kX5_readNumber_86, q_cut_i, q_cut_r, q_cut_l, q_cut_n, q_psh_n, q_psh_s, bI_eq0, ite_not, ↓if_pos, ↓if_neg, ↓ite_bI_t, ↓ite_bI_f]
    | succ m ih =>
      intro k A a' v hm hA hf hq g0 g1 hd e0 e1
      have hTA : TP A t s l := TP_fr hw hT hf (fun z => q_neK hT.1 hR.1 (by simp) z) (fun z => q_neK hT.2.2.2.1 hR.1 (by simp) z)
      obtain ⟨k', f0, f1, f2, f3⟩ := id hA
      have kt := hTA.1
      obtain ⟨b1, b2⟩ := hb a'
      have ha := fun x : QP => uX8_at (d := d) (x := x) hTA hh g0 (by omega)
      have hd' : dRun h (m + 1) a' v = if 48 ≤ h a' ∧ h a' ≤ 57 then dRun h m (a' + 1) (10 * v + h a' - 48) else (a', v) := by rw [dRun]
      rw [hd'] at hd
      by_cases g : 48 ≤ h a' ∧ h a' ≤ 57
      · rw [if_pos g] at hd
        obtain ⟨B, q1, q2⟩ := ih (k + 1) (q_wr (q_wr A r 2 (qi (10 * v + h a' - 48))) r 1 (qi (a' + 1))) (a' + 1) (10 * v + h a' - 48) (by omega) ((hA.w2 _).w1 _) ((hf.tr (q_fr.wr rfl)).tr (q_fr.wr rfl)) ((hq.tr q_qt.wr).tr q_qt.wr) (by omega) (by omega) hd (by omega) (fun _ => by
          by_cases k0 : k = 0
          · rw [e0 k0] at g; exact g
          · exact e1 (by omega))
        refine ⟨B, fun P => ?_, q2⟩
        have q1' := q1 P
        rw [show ((k + 1 : Nat) : Int) = (k : Int) + 1 by omega] at q1'
        obtain ⟨y0, y1, y2, y3, y4⟩ := hA.w2 (10 * v + h a' - 48)
        rw [kX5_readNumber_7]
        simp (disch := first | assumption | exact bI_lo | exact bI_hi | exact bI_01 | (show (List.map q_wd _).sum ≤ 8; with_unfolding_all exact Nat.le_of_ble_eq_true rfl) | omega | (simp only [q_kd_wr]; first | assumption | omega)) only [kX5_readNumber_8, kX5_readNumber_9, kX5_readNumber_12, kX5_readNumber_13, kX5_readNumber_14, kX5_readNumber_17E, kX5_readNumber_20, kX5_readNumber_22, kX5_readNumber_25, kX5_readNumber_26, kX5_readNumber_27, kX5_readNumber_30E, kX5_readNumber_33, kX5_readNumber_35, kX5_readNumber_38, kX5_readNumber_39, kX5_readNumber_41, kX5_readNumber_42, kX5_readNumber_45, kX5_readNumber_46, kX5_readNumber_47, kX5_readNumber_48, kX5_readNumber_51E, kX5_readNumber_54, kX5_readNumber_55, kX5_readNumber_57, kX5_readNumber_58, kX5_readNumber_61, kX5_readNumber_62i, kX5_readNumber_62r, kX5_readNumber_63, kX5_readNumber_66, kX5_readNumber_67, kX5_readNumber_68, kX5_readNumber_71, kX5_readNumber_74, q_cut_i, q_cut_r, q_cut_l, q_cut_n, q_psh_n, q_psh_s, bI_eq0, ite_not, ↓if_pos, ↓if_neg, ↓ite_bI_t, ↓ite_bI_f, f1, f2, ha, y2]
        exact q1'
      · rw [if_neg g] at hd
        refine ⟨A, fun P => ?_, by rw [hd]; exact hA, hf, hq⟩
        rw [kX5_readNumber_7]
        by_cases k0 : k = 0
        · have ea := e0 k0
          rw [ea] at g
          rw [bI_neg g]
          rw [ea] at ha b1 b2 f1
          subst k0
          by_cases g2 : h a < 48
          · simp (disch := first | assumption | exact bI_lo | exact bI_hi | exact bI_01 | (show (List.map q_wd _).sum ≤ 8; with_unfolding_all exact Nat.le_of_ble_eq_true rfl) | omega | (simp only [q_kd_wr]; first | assumption | omega)) only [kX5_readNumber_8, kX5_readNumber_9, kX5_readNumber_12, kX5_readNumber_13, kX5_readNumber_14, kX5_readNumber_17E, kX5_readNumber_20, kX5_readNumber_22, kX5_readNumber_25, kX5_readNumber_26, kX5_readNumber_27, kX5_readNumber_30E, kX5_readNumber_33, kX5_readNumber_35, kX5_readNumber_38, kX5_readNumber_39, kX5_readNumber_41, kX5_readNumber_42, kX5_readNumber_45, kX5_readNumber_46, kX5_readNumber_47, kX5_readNumber_48, kX5_readNumber_51E, kX5_readNumber_54, kX5_readNumber_55, kX5_readNumber_57, kX5_readNumber_58, kX5_readNumber_61, kX5_readNumber_62i, kX5_readNumber_62r, kX5_readNumber_63, kX5_readNumber_66, kX5_readNumber_67, kX5_readNumber_68, kX5_readNumber_71, kX5_readNumber_74, kX5_readNumber_77, kX5_readNumber_78, kX5_readNumber_81, kX5_readNumber_82, kX5_readNumber_85, kX5_readNumber_86, q_cut_i, q_cut_r, q_cut_l, q_cut_n, q_psh_n, q_psh_s, bI_eq0, ite_not, ↓if_pos, ↓if_neg, ↓ite_bI_t, ↓ite_bI_f, f1, f2, ha]
          · simp (disch := first | assumption | exact bI_lo | exact bI_hi | exact bI_01 | (show (List.map q_wd _).sum ≤ 8; with_unfolding_all exact Nat.le_of_ble_eq_true rfl) | omega | (simp only [q_kd_wr]; first | assumption | omega)) only [kX5_readNumber_8, kX5_readNumber_9, kX5_readNumber_12, kX5_readNumber_13, kX5_readNumber_14, kX5_readNumber_17E, kX5_readNumber_20, kX5_readNumber_22, kX5_readNumber_25, kX5_readNumber_26, kX5_readNumber_27, kX5_readNumber_30E, kX5_readNumber_33, kX5_readNumber_35, kX5_readNumber_38, kX5_readNumber_39, kX5_readNumber_41, kX5_readNumber_42, kX5_readNumber_45, kX5_readNumber_46, kX5_readNumber_47, kX5_readNumber_48, kX5_readNumber_51E, kX5_readNumber_54, kX5_readNumber_55, kX5_readNumber_57, kX5_readNumber_58, kX5_readNumber_61, kX5_readNumber_62i, kX5_readNumber_62r, kX5_readNumber_63, kX5_readNumber_66, kX5_readNumber_67, kX5_readNumber_68, kX5_readNumber_71, kX5_readNumber_74, kX5_readNumber_77, kX5_readNumber_78, kX5_readNumber_81, kX5_readNumber_82, kX5_readNumber_85, kX5_readNumber_86, q_cut_i, q_cut_r, q_cut_l, q_cut_n, q_psh_n, q_psh_s, bI_eq0, ite_not, ↓if_pos, ↓if_neg, ↓ite_bI_t, ↓ite_bI_f, f1, f2, ha]
        · rw [bI_pos (e1 (by omega))]
          by_cases g2 : h a' < 48
          · simp (disch := first | assumption | exact bI_lo | exact bI_hi | exact bI_01 | (show (List.map q_wd _).sum ≤ 8; with_unfolding_all exact Nat.le_of_ble_eq_true rfl) | omega | (simp only [q_kd_wr]; first | assumption | omega)) only [kX5_readNumber_8, kX5_readNumber_9, kX5_readNumber_12, kX5_readNumber_13, kX5_readNumber_14, kX5_readNumber_17E, kX5_readNumber_20, kX5_readNumber_22, kX5_readNumber_25, kX5_readNumber_26, kX5_readNumber_27, kX5_readNumber_30E, kX5_readNumber_33, kX5_readNumber_35, kX5_readNumber_38, kX5_readNumber_39, kX5_readNumber_41, kX5_readNumber_42, kX5_readNumber_45, kX5_readNumber_46, kX5_readNumber_47, kX5_readNumber_48, kX5_readNumber_51E, kX5_readNumber_54, kX5_readNumber_55, kX5_readNumber_57, kX5_readNumber_58, kX5_readNumber_61, kX5_readNumber_62i, kX5_readNumber_62r, kX5_readNumber_63, kX5_readNumber_66, kX5_readNumber_67, kX5_readNumber_68, kX5_readNumber_71, kX5_readNumber_74, kX5_readNumber_77, kX5_readNumber_78, kX5_readNumber_81, kX5_readNumber_82, kX5_readNumber_85, kX5_readNumber_86, q_cut_i, q_cut_r, q_cut_l, q_cut_n, q_psh_n, q_psh_s, bI_eq0, ite_not, ↓if_pos, ↓if_neg, ↓ite_bI_t, ↓ite_bI_f, f1, f2, ha]
          · simp (disch := first | assumption | exact bI_lo | exact bI_hi | exact bI_01 | (show (List.map q_wd _).sum ≤ 8; with_unfolding_all exact Nat.le_of_ble_eq_true rfl) | omega | (simp only [q_kd_wr]; first | assumption | omega)) only [kX5_readNumber_8, kX5_readNumber_9, kX5_readNumber_12, kX5_readNumber_13, kX5_readNumber_14, kX5_readNumber_17E, kX5_readNumber_20, kX5_readNumber_22, kX5_readNumber_25, kX5_readNumber_26, kX5_readNumber_27, kX5_readNumber_30E, kX5_readNumber_33, kX5_readNumber_35, kX5_readNumber_38, kX5_readNumber_39, kX5_readNumber_41, kX5_readNumber_42, kX5_readNumber_45, kX5_readNumber_46, kX5_readNumber_47, kX5_readNumber_48, kX5_readNumber_51E, kX5_readNumber_54, kX5_readNumber_55, kX5_readNumber_57, kX5_readNumber_58, kX5_readNumber_61, kX5_readNumber_62i, kX5_readNumber_62r, kX5_readNumber_63, kX5_readNumber_66, kX5_readNumber_67, kX5_readNumber_68, kX5_readNumber_71, kX5_readNumber_74, kX5_readNumber_77, kX5_readNumber_78, kX5_readNumber_81, kX5_readNumber_82, kX5_readNumber_85, kX5_readNumber_86, q_cut_i, q_cut_r, q_cut_l, q_cut_n, q_psh_n, q_psh_s, bI_eq0, ite_not, ↓if_pos, ↓if_neg, ↓ite_bI_t, ↓ite_bI_f, f1, f2, ha]
  obtain ⟨B, q1, q2⟩ := loop 4 0 (q_wr M r 2 (qi 0)) a 0 (by omega) (hR.w2 0) (q_fr.wr rfl) q_qt.wr h0 (by omega) rfl (fun _ => rfl) (fun z => by omega)
  refine ⟨B, C_of (fun P => ?_), q2⟩
  have q1' := q1 P
  have k := hR.1
  rw [eX5_readNumber]
  simp (disch := first | assumption | exact bI_lo | exact bI_hi | exact bI_01 | (show (List.map q_wd _).sum ≤ 8; with_unfolding_all exact Nat.le_of_ble_eq_true rfl) | omega) only [kX5_readNumber_0, kX5_readNumber_1, kX5_readNumber_2, kX5_readNumber_5, kX5_readNumber_6, q_cut_i, q_cut_r, q_cut_l, q_cut_n, q_psh_n, q_psh_s, bI_eq0, ite_not]
  exact q1'
theorem uX10_isLetter {c : Int} (h1 : -2147483648 ≤ c) (h2 : c < 2147483648) : q_T (d + 1) iX10_isLetter [qi c] M x = x (some (qi (if 97 ≤ c ∧ c ≤ 122 then 1 else 0))) M := T_eq (fun P hP => sX10_isLetter h1 h2 hP) x
theorem uX10_with {w k c : Nat} (hw : w < 2 ^ (5 * k)) (hk : k < 8) (hc : c < 32) : q_T (d + 1) iX10_with [ql w, qi k, qi c] M x = x (some (ql (w + c * 2 ^ (5 * k) : Nat))) M := T_eq (fun P hP => sX10_with hw hk hc hP) x
theorem vX5_word (hw : q_wf M) (hR : RD M r b a nu 0) (hT : TP M t s l) (hh : ∀ i : Int, 0 ≤ i → tpH l i = h i) (hb : ∀ i, -1000 ≤ h i ∧ h i < 1000) (h0 : 0 ≤ a) (h1 : a < 900) : ∃ M', q_C (d + 2) iX5_readWord [qr r, qr t] M (some (qi (bI (97 ≤ h a ∧ h a ≤ 122)))) M' ∧ RD M' r b (a + (min (wCnt h 9 a) 8 : Nat)) nu (pkW (wLs h a (min (wCnt h 9 a) 8)) : Nat) ∧ q_fr (fun x => x = r) M M' ∧ q_qt M M' := by
  have loop : ∀ (m k : Nat) (A : QM), k + m = 8 → RD A r b (a + k) nu (pkW (wLs h a k) : Nat) → q_fr (fun x => x = r) M A → q_qt M A → wCnt h 9 a = k + wCnt h (m + 1) (a + k) → (∀ i : Nat, i < k → 97 ≤ h (a + i) ∧ h (a + i) ≤ 122) → ∃ B, (∀ P, Rr (q_C (d + 1)) mX5_readWord (2, [some (qr r), some (qr t), some (qi k)], [], A) P = P (some (qi (bI (97 ≤ h a ∧ h a ≤ 122)))) B) ∧ RD B r b (a + (min (wCnt h 9 a) 8 : Nat)) nu (pkW (wLs h a (min (wCnt h 9 a) 8)) : Nat) ∧ q_fr (fun x => x = r) M B ∧ q_qt M B := by
    intro m
    induction m with
    | zero =>
      intro k A hm hA hf hq hc hl
      have ek : k = 8 := by omega
      have em : min (wCnt h 9 a) 8 = k := by omega
      have gp := hl 0 (by omega)
      rw [show a + ((0 : Nat) : Int) = a by omega] at gp
      refine ⟨A, fun P => ?_, by rw [em]; exact hA, hf, hq⟩
      subst ek
      rw [bI_pos gp, kX5_readWord_2]
      simp (disch := first | assumption | exact bI_lo | exact bI_hi | exact bI_01 | (show (List.map q_wd _).sum ≤ 8; with_unfolding_all exact Nat.le_of_ble_eq_true rfl) | omega) only [kX5_readWord_3, kX5_readWord_5, kX5_readWord_8, kX5_readWord_9, kX5_readWord_10, kX5_readWord_13E, kX5_readWord_16E, kX5_readWord_19, kX5_readWord_22, kX5_readWord_23, kX5_readWord_24, kX5_readWord_27, kX5_readWord_28, kX5_readWord_29, kX5_readWord_30, kX5_readWord_33E, kX5_readWord_36, kX5_readWord_38, kX5_readWord_39, kX5_readWord_40, kX5_readWord_41E, kX5_readWord_44, kX5_readWord_47, kX5_readWord_48i, kX5_readWord_48r, kX5_readWord_49, kX5_readWord_52, kX5_readWord_53, kX5_readWord_54, kX5_readWord_57, kX5_readWord_60, kX5_readWord_63, kX5_readWord_64, kX5_readWord_67, kX5_readWord_68, kX5_readWord_71, kX5_readWord_72, q_cut_i, q_cut_r, q_cut_l, q_cut_n, q_psh_n, q_psh_s, bI_eq0, ite_not, ↓if_pos, ↓if_neg, ↓ite_bI_t, ↓ite_bI_f]
    | succ m ih =>
      intro k A hm hA hf hq hc hl
      have hTA : TP A t s l := TP_fr hw hT hf (fun z => q_neK hT.1 hR.1 (by simp) z) (fun z => q_neK hT.2.2.2.1 hR.1 (by simp) z)
      obtain ⟨k', f0, f1, f2, f3⟩ := id hA
      have kt := hTA.1
      obtain ⟨b1, b2⟩ := hb (a + k)
      have ha := fun x : QP => uX8_at (d := d) (x := x) hTA hh (i := a + k) (by omega) (by omega)
      have hlt := fun x : QP => uX10_isLetter (d := d) (M := A) (x := x) (c := h (a + k)) (by omega) (by omega)
      have hc' : wCnt h (m + 1 + 1) (a + k) = if 97 ≤ h (a + k) ∧ h (a + k) ≤ 122 then wCnt h (m + 1) (a + k + 1) + 1 else 0 := by rw [wCnt]
      rw [hc'] at hc
      by_cases g : 97 ≤ h (a + k) ∧ h (a + k) ≤ 122
      · rw [if_pos g] at hc
        rw [if_pos g] at hlt
        have hwl := pkW_lt _ (wLs_all hl)
        rw [wLs_len] at hwl
        have wi := fun x : QP => uX10_with (d := d) (M := A) (x := x) (w := pkW (wLs h a k)) (k := k) (c := (h (a + k) - 96).toNat) hwl (by omega) (by omega)
        rw [show (((h (a + k) - 96).toNat : Nat) : Int) = h (a + k) - 97 + 1 by omega] at wi
        have hs := pkW_snoc (wLs h a k) (h (a + k))
        rw [wLs_len, ← wLs_s] at hs
        rw [← hs] at wi
        have hA2 : RD (q_wr (q_wr A r 3 (ql (pkW (wLs h a (k + 1)) : Nat))) r 1 (qi (a + k + 1))) r b (a + (k + 1 : Nat)) nu (pkW (wLs h a (k + 1)) : Nat) := by
          rw [show a + ((k + 1 : Nat) : Int) = a + k + 1 by omega]
          exact (hA.w3 _).w1 _
        obtain ⟨B, q1, q2⟩ := ih (k + 1) _ (by omega) hA2 ((hf.tr (q_fr.wr rfl)).tr (q_fr.wr rfl)) ((hq.tr q_qt.wr).tr q_qt.wr) (by rw [show a + ((k + 1 : Nat) : Int) = a + k + 1 by omega]; omega) (fun i hi => by
          by_cases e : i = k
          · subst e; exact g
          · exact hl i (by omega))
        refine ⟨B, fun P => ?_, q2⟩
        have q1' := q1 P
        rw [show ((k + 1 : Nat) : Int) = (k : Int) + 1 by omega] at q1'
        obtain ⟨y0, y1, y2, y3, y4⟩ := hA.w3 (pkW (wLs h a (k + 1)) : Nat)
        rw [kX5_readWord_2]
        simp (disch := first | assumption | exact bI_lo | exact bI_hi | exact bI_01 | (show (List.map q_wd _).sum ≤ 8; with_unfolding_all exact Nat.le_of_ble_eq_true rfl) | omega | (simp only [q_kd_wr]; first | assumption | omega)) only [kX5_readWord_3, kX5_readWord_5, kX5_readWord_8, kX5_readWord_9, kX5_readWord_10, kX5_readWord_13E, kX5_readWord_16E, kX5_readWord_19, kX5_readWord_22, kX5_readWord_23, kX5_readWord_24, kX5_readWord_27, kX5_readWord_28, kX5_readWord_29, kX5_readWord_30, kX5_readWord_33E, kX5_readWord_36, kX5_readWord_38, kX5_readWord_39, kX5_readWord_40, kX5_readWord_41E, kX5_readWord_44, kX5_readWord_47, kX5_readWord_48i, kX5_readWord_48r, kX5_readWord_49, kX5_readWord_52, kX5_readWord_53, kX5_readWord_54, kX5_readWord_57, kX5_readWord_60, q_cut_i, q_cut_r, q_cut_l, q_cut_n, q_psh_n, q_psh_s, bI_eq0, ite_not, ↓if_pos, ↓if_neg, ↓ite_bI_t, ↓ite_bI_f, f1, f3, ha, hlt, wi, y2]
        exact q1'
      · rw [if_neg g] at hc
        rw [if_neg g] at hlt
        have em : min (wCnt h 9 a) 8 = k := by omega
        refine ⟨A, fun P => ?_, by rw [em]; exact hA, hf, hq⟩
        rw [kX5_readWord_2]
        by_cases k0 : k = 0
        · have gn : ¬ (97 ≤ h a ∧ h a ≤ 122) := by
            rw [k0, show a + ((0 : Nat) : Int) = a by omega] at g; exact g
          subst k0
          rw [bI_neg gn]
          simp (disch := first | assumption | exact bI_lo | exact bI_hi | exact bI_01 | (show (List.map q_wd _).sum ≤ 8; with_unfolding_all exact Nat.le_of_ble_eq_true rfl) | omega | (simp only [q_kd_wr]; first | assumption | omega)) only [kX5_readWord_3, kX5_readWord_5, kX5_readWord_8, kX5_readWord_9, kX5_readWord_10, kX5_readWord_13E, kX5_readWord_16E, kX5_readWord_19, kX5_readWord_22, kX5_readWord_23, kX5_readWord_24, kX5_readWord_27, kX5_readWord_28, kX5_readWord_29, kX5_readWord_30, kX5_readWord_33E, kX5_readWord_36, kX5_readWord_38, kX5_readWord_39, kX5_readWord_40, kX5_readWord_41E, kX5_readWord_44, kX5_readWord_47, kX5_readWord_48i, kX5_readWord_48r, kX5_readWord_49, kX5_readWord_52, kX5_readWord_53, kX5_readWord_54, kX5_readWord_57, kX5_readWord_60, kX5_readWord_63, kX5_readWord_64, kX5_readWord_67, kX5_readWord_68, kX5_readWord_71, kX5_readWord_72, q_cut_i, q_cut_r, q_cut_l, q_cut_n, q_psh_n, q_psh_s, bI_eq0, ite_not, ↓if_pos, ↓if_neg, ↓ite_bI_t, ↓ite_bI_f, f1, f3, ha, hlt]
        · have gp := hl 0 (by omega)
          rw [show a + ((0 : Nat) : Int) = a by omega] at gp
          rw [bI_pos gp]
          simp (disch := first | assumption | exact bI_lo | exact bI_hi | exact bI_01 | (show (List.map q_wd _).sum ≤ 8; with_unfolding_all exact Nat.le_of_ble_eq_true rfl) | omega | (simp only [q_kd_wr]; first | assumption | omega)) only [kX5_readWord_3, kX5_readWord_5, kX5_readWord_8, kX5_readWord_9, kX5_readWord_10, kX5_readWord_13E, kX5_readWord_16E, kX5_readWord_19, kX5_readWord_22, kX5_readWord_23, kX5_readWord_24, kX5_readWord_27, kX5_readWord_28, kX5_readWord_29, kX5_readWord_30, kX5_readWord_33E, kX5_readWord_36, kX5_readWord_38, kX5_readWord_39, kX5_readWord_40, kX5_readWord_41E, kX5_readWord_44, kX5_readWord_47, kX5_readWord_48i, kX5_readWord_48r, kX5_readWord_49, kX5_readWord_52, kX5_readWord_53, kX5_readWord_54, kX5_readWord_57, kX5_readWord_60, kX5_readWord_63, kX5_readWord_64, kX5_readWord_67, kX5_readWord_68, kX5_readWord_71, kX5_readWord_72, q_cut_i, q_cut_r, q_cut_l, q_cut_n, q_psh_n, q_psh_s, bI_eq0, ite_not, ↓if_pos, ↓if_neg, ↓ite_bI_t, ↓ite_bI_f, f1, f3, ha, hlt]
  have hR0 : RD M r b (a + (0 : Nat)) nu (pkW (wLs h a 0) : Nat) := by
    rw [show a + ((0 : Nat) : Int) = a by omega]; exact hR
  obtain ⟨B, q1, q2⟩ := loop 8 0 M (by omega) hR0 q_fr.rf q_qt.rf (by rw [show a + ((0 : Nat) : Int) = a by omega]; show wCnt h 9 a = 0 + wCnt h 9 a; omega) (fun i hi => by omega)
  refine ⟨B, C_of (fun P => ?_), q2⟩
  have q1' := q1 P
  rw [eX5_readWord]
  simp (disch := first | assumption | exact bI_lo | exact bI_hi | exact bI_01 | (show (List.map q_wd _).sum ≤ 8; with_unfolding_all exact Nat.le_of_ble_eq_true rfl) | omega) only [kX5_readWord_0, kX5_readWord_1, q_cut_i, q_cut_r, q_cut_l, q_cut_n, q_psh_n, q_psh_s, bI_eq0, ite_not]
  exact q1'
end RDS
