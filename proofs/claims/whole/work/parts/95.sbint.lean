
/-! StringBuilder: numbers; the constants -/
/-- what the JDK has made before -/
def CST (M : QM) : Prop := q_kd M (q_gs M 2) = (8, 100) ∧ q_kd M (q_gs M 3) = (8, 100) ∧ q_kd M (q_gs M 5) = (8, 9) ∧ (∀ j : Nat, j < 100 → q_fv M (q_gs M 2) j = qi (48 + (j % 10 : Nat))) ∧ (∀ j : Nat, j < 100 → q_fv M (q_gs M 3) j = qi (48 + (j / 10 : Nat))) ∧ ∀ j : Nat, j < 9 → q_fv M (q_gs M 5) j = qi (rLt j)
theorem CST_fr {A : Nat → Prop} {M M' : QM} (hw : q_wf M) (h : CST M) (hf : q_fr A M M') (h8 : ∀ a, (q_kd M a).1 = 8 → ¬ A a) : CST M' := by
  obtain ⟨k2, k3, k5, v2, v3, v5⟩ := h
  have l2 : q_gs M 2 < q_top M := hw.lt (by rw [k2]; simp)
  have l3 : q_gs M 3 < q_top M := hw.lt (by rw [k3]; simp)
  have l5 : q_gs M 5 < q_top M := hw.lt (by rw [k5]; simp)
  unfold CST
  rw [hf.2.1, hf.2.2.1 _ l2, hf.2.2.1 _ l3, hf.2.2.1 _ l5]
  refine ⟨k2, k3, k5, fun j hj => ?_, fun j hj => ?_, fun j hj => ?_⟩
  · rw [hf.2.2.2 _ l2 (h8 _ (by rw [k2]))]; exact v2 j hj
  · rw [hf.2.2.2 _ l3 (h8 _ (by rw [k3]))]; exact v3 j hj
  · rw [hf.2.2.2 _ l5 (h8 _ (by rw [k5]))]; exact v5 j hj
def CSTe (M : QM) (e : Nat) : Prop := CST M ∧ (q_kd M e).1 ≠ 8
theorem CSTe.wr {M : QM} {e k : Nat} {v : CV} (h : CSTe M e) : CSTe (q_wr M e k v) e := by
  obtain ⟨⟨k2, k3, k5, v2, v3, v5⟩, ke⟩ := h
  have n2 : q_gs M 2 ≠ e := fun z => ke (by rw [← z, k2])
  have n3 : q_gs M 3 ≠ e := fun z => ke (by rw [← z, k3])
  have n5 : q_gs M 5 ≠ e := fun z => ke (by rw [← z, k5])
  exact ⟨⟨k2, k3, k5, fun j hj => by rw [q_gs_wr, q_fv_wrE, if_neg (fun z => n2 z.1)]; exact v2 j hj, fun j hj => by rw [q_gs_wr, q_fv_wrE, if_neg (fun z => n3 z.1)]; exact v3 j hj, fun j hj => by rw [q_gs_wr, q_fv_wrE, if_neg (fun z => n5 z.1)]; exact v5 j hj⟩, ke⟩
theorem CSTo (e : Nat) {M : QM} {z : Int} (h : CSTe M e) (h0 : 0 ≤ z) (h1 : z < 100) : q_fv M (q_gs M 2) z.toNat = qi (48 + z % 10) := by
  rw [h.1.2.2.2.1 z.toNat (by omega)]
  exact congrArg qi (by omega)
theorem CSTt (e : Nat) {M : QM} {z : Int} (h : CSTe M e) (h0 : 0 ≤ z) (h1 : z < 100) : q_fv M (q_gs M 3) z.toNat = qi (48 + z / 10) := by
  rw [h.1.2.2.2.2.1 z.toNat (by omega)]
  exact congrArg qi (by omega)
theorem y_i2bz {c : Int} (h0 : 0 ≤ c) (h1 : c ≤ 127) : q_i2b c = c := (y_byte h0 h1).1
theorem dgs1 {v : Int} (h : v < 10) : dgs 4 v = [48 + v % 10] := by rw [dgs, if_neg (by omega)]
theorem dgs2 {v : Int} (h0 : 10 ≤ v) (h : v < 100) : dgs 4 v = [48 + v / 10 % 10, 48 + v % 10] := by rw [dgs, if_pos (by omega), dgs, if_neg (by omega)]; rfl
theorem dgs3 {v : Int} (h0 : 100 ≤ v) (h : v < 1000) : dgs 4 v = [48 + v / 10 / 10 % 10, 48 + v / 10 % 10, 48 + v % 10] := by rw [dgs, if_pos (by omega), dgs, if_pos (by omega), dgs, if_neg (by omega)]; rfl
theorem dgs4 {v : Int} (h0 : 1000 ≤ v) (h : v < 10000) : dgs 4 v = [48 + v / 10 / 10 / 10 % 10, 48 + v / 10 / 10 % 10, 48 + v / 10 % 10, 48 + v % 10] := by rw [dgs, if_pos (by omega), dgs, if_pos (by omega), dgs, if_pos (by omega), dgs, if_neg (by omega)]; rfl
section NUM
variable {M : QM} {d : Nat} {x : QP}
theorem uJ6_size {v : Int} (h0 : 0 ≤ v) (h1 : v < 10000) : q_T (d + 1) iJ6_stringSize_0f7a4 [qi v] M x = x (some (qi (dgs 4 v).length)) M := by
  rw [eJ6_stringSize_0f7a4]
  by_cases g1 : v < 10
  · rw [dgs1 g1]
    simp (disch := first | assumption | exact bI_lo | exact bI_hi | exact bI_01 | (show (List.map q_wd _).sum ≤ 8; with_unfolding_all exact Nat.le_of_ble_eq_true rfl) | omega) only [kJ6_stringSize_0f7a4_0, kJ6_stringSize_0f7a4_1, kJ6_stringSize_0f7a4_2, kJ6_stringSize_0f7a4_3, kJ6_stringSize_0f7a4_6, kJ6_stringSize_0f7a4_7, kJ6_stringSize_0f7a4_8, kJ6_stringSize_0f7a4_9, kJ6_stringSize_0f7a4_10, kJ6_stringSize_0f7a4_11, kJ6_stringSize_0f7a4_13, kJ6_stringSize_0f7a4_14, kJ6_stringSize_0f7a4_15, kJ6_stringSize_0f7a4_16, kJ6_stringSize_0f7a4_17, kJ6_stringSize_0f7a4_19, kJ6_stringSize_0f7a4_22, kJ6_stringSize_0f7a4_23, kJ6_stringSize_0f7a4_24, kJ6_stringSize_0f7a4_27, kJ6_stringSize_0f7a4_28, kJ6_stringSize_0f7a4_29, kJ6_stringSize_0f7a4_30, kJ6_stringSize_0f7a4_31, kJ6_stringSize_0f7a4_33, kJ6_stringSize_0f7a4_34, kJ6_stringSize_0f7a4_35, kJ6_stringSize_0f7a4_36, kJ6_stringSize_0f7a4_39, kJ6_stringSize_0f7a4_42, kJ6_stringSize_0f7a4_44, kJ6_stringSize_0f7a4_45, kJ6_stringSize_0f7a4_46, q_cut_i, q_cut_r, q_cut_l, q_cut_n, q_psh_n, q_psh_s, bI_eq0, ite_not, ↓if_pos, ↓if_neg, ↓ite_bI_t, ↓ite_bI_f]
    rfl
  · by_cases g2 : v < 100
    · rw [dgs2 (by omega) g2]
      simp (disch := first | assumption | exact bI_lo | exact bI_hi | exact bI_01 | (show (List.map q_wd _).sum ≤ 8; with_unfolding_all exact Nat.le_of_ble_eq_true rfl) | omega) only [kJ6_stringSize_0f7a4_0, kJ6_stringSize_0f7a4_1, kJ6_stringSize_0f7a4_2, kJ6_stringSize_0f7a4_3, kJ6_stringSize_0f7a4_6, kJ6_stringSize_0f7a4_7, kJ6_stringSize_0f7a4_8, kJ6_stringSize_0f7a4_9, kJ6_stringSize_0f7a4_10, kJ6_stringSize_0f7a4_11, kJ6_stringSize_0f7a4_13, kJ6_stringSize_0f7a4_14, kJ6_stringSize_0f7a4_15, kJ6_stringSize_0f7a4_16, kJ6_stringSize_0f7a4_17, kJ6_stringSize_0f7a4_19, kJ6_stringSize_0f7a4_22, kJ6_stringSize_0f7a4_23, kJ6_stringSize_0f7a4_24, kJ6_stringSize_0f7a4_27, kJ6_stringSize_0f7a4_28, kJ6_stringSize_0f7a4_29, kJ6_stringSize_0f7a4_30, kJ6_stringSize_0f7a4_31, kJ6_stringSize_0f7a4_33, kJ6_stringSize_0f7a4_34, kJ6_stringSize_0f7a4_35, kJ6_stringSize_0f7a4_36, kJ6_stringSize_0f7a4_39, kJ6_stringSize_0f7a4_42, kJ6_stringSize_0f7a4_44, kJ6_stringSize_0f7a4_45, kJ6_stringSize_0f7a4_46, q_cut_i, q_cut_r, q_cut_l, q_cut_n, q_psh_n, q_psh_s, bI_eq0, ite_not, ↓if_pos, ↓if_neg, ↓ite_bI_t, ↓ite_bI_f]
      rfl
    · by_cases g3 : v < 1000
      · rw [dgs3 (by omega) g3]
        simp (disch := first | assumption | exact bI_lo | exact bI_hi | exact bI_01 | (show (List.map q_wd _).sum ≤ 8; with_unfolding_all exact Nat.le_of_ble_eq_true rfl) | omega) only [kJ6_stringSize_0f7a4_0, kJ6_stringSize_0f7a4_1, kJ6_stringSize_0f7a4_2, kJ6_stringSize_0f7a4_3, kJ6_stringSize_0f7a4_6, kJ6_stringSize_0f7a4_7, kJ6_stringSize_0f7a4_8, kJ6_stringSize_0f7a4_9, kJ6_stringSize_0f7a4_10, kJ6_stringSize_0f7a4_11, kJ6_stringSize_0f7a4_13, kJ6_stringSize_0f7a4_14, kJ6_stringSize_0f7a4_15, kJ6_stringSize_0f7a4_16, kJ6_stringSize_0f7a4_17, kJ6_stringSize_0f7a4_19, kJ6_stringSize_0f7a4_22, kJ6_stringSize_0f7a4_23, kJ6_stringSize_0f7a4_24, kJ6_stringSize_0f7a4_27, kJ6_stringSize_0f7a4_28, kJ6_stringSize_0f7a4_29, kJ6_stringSize_0f7a4_30, kJ6_stringSize_0f7a4_31, kJ6_stringSize_0f7a4_33, kJ6_stringSize_0f7a4_34, kJ6_stringSize_0f7a4_35, kJ6_stringSize_0f7a4_36, kJ6_stringSize_0f7a4_39, kJ6_stringSize_0f7a4_42, kJ6_stringSize_0f7a4_44, kJ6_stringSize_0f7a4_45, kJ6_stringSize_0f7a4_46, q_cut_i, q_cut_r, q_cut_l, q_cut_n, q_psh_n, q_psh_s, bI_eq0, ite_not, ↓if_pos, ↓if_neg, ↓ite_bI_t, ↓ite_bI_f]
        rfl
      · rw [dgs4 (by omega) h1]
        simp (disch := first | assumption | exact bI_lo | exact bI_hi | exact bI_01 | (show (List.map q_wd _).sum ≤ 8; with_unfolding_all exact Nat.le_of_ble_eq_true rfl) | omega) only [kJ6_stringSize_0f7a4_0, kJ6_stringSize_0f7a4_1, kJ6_stringSize_0f7a4_2, kJ6_stringSize_0f7a4_3, kJ6_stringSize_0f7a4_6, kJ6_stringSize_0f7a4_7, kJ6_stringSize_0f7a4_8, kJ6_stringSize_0f7a4_9, kJ6_stringSize_0f7a4_10, kJ6_stringSize_0f7a4_11, kJ6_stringSize_0f7a4_13, kJ6_stringSize_0f7a4_14, kJ6_stringSize_0f7a4_15, kJ6_stringSize_0f7a4_16, kJ6_stringSize_0f7a4_17, kJ6_stringSize_0f7a4_19, kJ6_stringSize_0f7a4_22, kJ6_stringSize_0f7a4_23, kJ6_stringSize_0f7a4_24, kJ6_stringSize_0f7a4_27, kJ6_stringSize_0f7a4_28, kJ6_stringSize_0f7a4_29, kJ6_stringSize_0f7a4_30, kJ6_stringSize_0f7a4_31, kJ6_stringSize_0f7a4_33, kJ6_stringSize_0f7a4_34, kJ6_stringSize_0f7a4_35, kJ6_stringSize_0f7a4_36, kJ6_stringSize_0f7a4_39, kJ6_stringSize_0f7a4_42, kJ6_stringSize_0f7a4_44, kJ6_stringSize_0f7a4_45, kJ6_stringSize_0f7a4_46, q_cut_i, q_cut_r, q_cut_l, q_cut_n, q_psh_n, q_psh_s, bI_eq0, ite_not, ↓if_pos, ↓if_neg, ↓ite_bI_t, ↓ite_bI_f]
        rfl
theorem vJ6_chars {v : Int} {e cap n : Nat} (h0 : 0 ≤ v) (h1 : v < 10000) (hC : CSTe M e) (hk : q_kd M e = (4, cap)) (hn : n + (dgs 4 v).length ≤ cap) (hc : cap ≤ 100000) : ∃ M', q_C (d + 1) iJ6_getChars_ba4f3 [qi v, qi ((n : Int) + (dgs 4 v).length), qr e] M (some (qi n)) M' ∧ q_fr (fun x => x = e) M M' ∧ q_qt M M' ∧ ∀ j, q_fv M' e j = if n ≤ j ∧ j < n + (dgs 4 v).length then qi ((dgs 4 v).getD (j - n) 0) else q_fv M e j := by
  have k2a : (q_kd M (q_gs M 2)).1 = 4 ∨ (q_kd M (q_gs M 2)).1 = 8 := Or.inr (by rw [hC.1.1])
  have k2b : ((q_kd M (q_gs M 2)).2 : Int) = 100 := by rw [hC.1.1]; rfl
  have k3a : (q_kd M (q_gs M 3)).1 = 4 ∨ (q_kd M (q_gs M 3)).1 = 8 := Or.inr (by rw [hC.1.2.1])
  have k3b : ((q_kd M (q_gs M 3)).2 : Int) = 100 := by rw [hC.1.2.1]; rfl
  have ke1 : (q_kd M e).1 = 4 := by rw [hk]
  have ke2 : ((q_kd M e).2 : Int) = cap := by rw [hk]
  have dv := y_div100 h0 (by omega)
  have yh : ¬ Int32.ofInt 100 = 0 := y_hun
  by_cases g1 : v < 10
  · rw [dgs1 g1] at hn ⊢
    simp only [List.length_cons, List.length_nil] at hn ⊢
    have e1 : ((n : Int) + ((0 + 1 : Nat) : Int) + -1).toNat = n := by omega
    refine ⟨q_wr M e n (qi (48 + v % 10)), C_of (fun P => ?_), q_fr.wr rfl, q_qt.wr, fun j => ?_⟩
    · rw [eJ6_getChars_ba4f3]
      simp (disch := first | assumption | exact bI_lo | exact bI_hi | exact bI_01 | (show (List.map q_wd _).sum ≤ 8; with_unfolding_all exact Nat.le_of_ble_eq_true rfl) | omega | (simp only [q_kd_wr, q_gs_wr]; first | assumption | omega) | exact CSTe.wr hC | exact CSTe.wr (CSTe.wr hC) | exact CSTe.wr (CSTe.wr (CSTe.wr hC))) only [kJ6_getChars_ba4f3_0, kJ6_getChars_ba4f3_1, kJ6_getChars_ba4f3_3, kJ6_getChars_ba4f3_4, kJ6_getChars_ba4f3_7, kJ6_getChars_ba4f3_8, kJ6_getChars_ba4f3_11, kJ6_getChars_ba4f3_12, kJ6_getChars_ba4f3_14, kJ6_getChars_ba4f3_16, kJ6_getChars_ba4f3_19, kJ6_getChars_ba4f3_20, kJ6_getChars_ba4f3_21, kJ6_getChars_ba4f3_22, kJ6_getChars_ba4f3_23, kJ6_getChars_ba4f3_25, kJ6_getChars_ba4f3_28, kJ6_getChars_ba4f3_29, kJ6_getChars_ba4f3_31, kJ6_getChars_ba4f3_32, kJ6_getChars_ba4f3_33, kJ6_getChars_ba4f3_34, kJ6_getChars_ba4f3_36, kJ6_getChars_ba4f3_37, kJ6_getChars_ba4f3_38, kJ6_getChars_ba4f3_39, kJ6_getChars_ba4f3_41, kJ6_getChars_ba4f3_42, kJ6_getChars_ba4f3_43, kJ6_getChars_ba4f3_44, kJ6_getChars_ba4f3_47, kJ6_getChars_ba4f3_49, kJ6_getChars_ba4f3_52, kJ6_getChars_ba4f3_54, kJ6_getChars_ba4f3_55, kJ6_getChars_ba4f3_56, kJ6_getChars_ba4f3_57, kJ6_getChars_ba4f3_60, kJ6_getChars_ba4f3_62, kJ6_getChars_ba4f3_65, kJ6_getChars_ba4f3_67, kJ6_getChars_ba4f3_68, kJ6_getChars_ba4f3_69, kJ6_getChars_ba4f3_72, kJ6_getChars_ba4f3_73, kJ6_getChars_ba4f3_76, kJ6_getChars_ba4f3_78, kJ6_getChars_ba4f3_81, kJ6_getChars_ba4f3_82, kJ6_getChars_ba4f3_83, kJ6_getChars_ba4f3_84, kJ6_getChars_ba4f3_85, kJ6_getChars_ba4f3_86, kJ6_getChars_ba4f3_88, kJ6_getChars_ba4f3_91, kJ6_getChars_ba4f3_92, kJ6_getChars_ba4f3_95, kJ6_getChars_ba4f3_97, kJ6_getChars_ba4f3_100, kJ6_getChars_ba4f3_101, kJ6_getChars_ba4f3_102, kJ6_getChars_ba4f3_103, kJ6_getChars_ba4f3_104, kJ6_getChars_ba4f3_106, kJ6_getChars_ba4f3_109, kJ6_getChars_ba4f3_110, kJ6_getChars_ba4f3_113, kJ6_getChars_ba4f3_115, kJ6_getChars_ba4f3_117, kJ6_getChars_ba4f3_118, kJ6_getChars_ba4f3_120, q_cut_i, q_cut_r, q_cut_l, q_cut_n, q_psh_n, q_psh_s, bI_eq0, ite_not, ↓if_pos, ↓if_neg, ↓ite_bI_t, ↓ite_bI_f, CSTo e, CSTt e, y_i2bz, e1, Int.neg_neg]
      rw [show (n : Int) + ((0 + 1 : Nat) : Int) + -1 = n by omega]
    · rw [q_fv_wrE]
      by_cases gj : j = n
      · subst gj
        rw [if_pos ⟨rfl, rfl⟩, if_pos ⟨by omega, by omega⟩, Nat.sub_self]; rfl
      · rw [if_neg (fun z => gj z.2), if_neg (by omega)]
  · by_cases g2 : v < 100
    · rw [dgs2 (by omega) g2] at hn ⊢
      simp only [List.length_cons, List.length_nil] at hn ⊢
      have e1 : ((n : Int) + ((0 + 1 + 1 : Nat) : Int) + -1).toNat = n + 1 := by omega
      have e2 : ((n : Int) + ((0 + 1 + 1 : Nat) : Int) + -1 + -1).toNat = n := by omega
      refine ⟨q_wr (q_wr M e (n + 1) (qi (48 + v % 10))) e n (qi (48 + v / 10)), C_of (fun P => ?_), (q_fr.wr (A := fun x => x = e) rfl).tr (q_fr.wr rfl), q_qt.wr.tr q_qt.wr, fun j => ?_⟩
      · rw [eJ6_getChars_ba4f3]
        simp (disch := first | assumption | exact bI_lo | exact bI_hi | exact bI_01 | (show (List.map q_wd _).sum ≤ 8; with_unfolding_all exact Nat.le_of_ble_eq_true rfl) | omega | (simp only [q_kd_wr, q_gs_wr]; first | assumption | omega) | exact CSTe.wr hC | exact CSTe.wr (CSTe.wr hC) | exact CSTe.wr (CSTe.wr (CSTe.wr hC))) only [kJ6_getChars_ba4f3_0, kJ6_getChars_ba4f3_1, kJ6_getChars_ba4f3_3, kJ6_getChars_ba4f3_4, kJ6_getChars_ba4f3_7, kJ6_getChars_ba4f3_8, kJ6_getChars_ba4f3_11, kJ6_getChars_ba4f3_12, kJ6_getChars_ba4f3_14, kJ6_getChars_ba4f3_16, kJ6_getChars_ba4f3_19, kJ6_getChars_ba4f3_20, kJ6_getChars_ba4f3_21, kJ6_getChars_ba4f3_22, kJ6_getChars_ba4f3_23, kJ6_getChars_ba4f3_25, kJ6_getChars_ba4f3_28, kJ6_getChars_ba4f3_29, kJ6_getChars_ba4f3_31, kJ6_getChars_ba4f3_32, kJ6_getChars_ba4f3_33, kJ6_getChars_ba4f3_34, kJ6_getChars_ba4f3_36, kJ6_getChars_ba4f3_37, kJ6_getChars_ba4f3_38, kJ6_getChars_ba4f3_39, kJ6_getChars_ba4f3_41, kJ6_getChars_ba4f3_42, kJ6_getChars_ba4f3_43, kJ6_getChars_ba4f3_44, kJ6_getChars_ba4f3_47, kJ6_getChars_ba4f3_49, kJ6_getChars_ba4f3_52, kJ6_getChars_ba4f3_54, kJ6_getChars_ba4f3_55, kJ6_getChars_ba4f3_56, kJ6_getChars_ba4f3_57, kJ6_getChars_ba4f3_60, kJ6_getChars_ba4f3_62, kJ6_getChars_ba4f3_65, kJ6_getChars_ba4f3_67, kJ6_getChars_ba4f3_68, kJ6_getChars_ba4f3_69, kJ6_getChars_ba4f3_72, kJ6_getChars_ba4f3_73, kJ6_getChars_ba4f3_76, kJ6_getChars_ba4f3_78, kJ6_getChars_ba4f3_81, kJ6_getChars_ba4f3_82, kJ6_getChars_ba4f3_83, kJ6_getChars_ba4f3_84, kJ6_getChars_ba4f3_85, kJ6_getChars_ba4f3_86, kJ6_getChars_ba4f3_88, kJ6_getChars_ba4f3_91, kJ6_getChars_ba4f3_92, kJ6_getChars_ba4f3_95, kJ6_getChars_ba4f3_97, kJ6_getChars_ba4f3_100, kJ6_getChars_ba4f3_101, kJ6_getChars_ba4f3_102, kJ6_getChars_ba4f3_103, kJ6_getChars_ba4f3_104, kJ6_getChars_ba4f3_106, kJ6_getChars_ba4f3_109, kJ6_getChars_ba4f3_110, kJ6_getChars_ba4f3_113, kJ6_getChars_ba4f3_115, kJ6_getChars_ba4f3_117, kJ6_getChars_ba4f3_118, kJ6_getChars_ba4f3_120, q_cut_i, q_cut_r, q_cut_l, q_cut_n, q_psh_n, q_psh_s, bI_eq0, ite_not, ↓if_pos, ↓if_neg, ↓ite_bI_t, ↓ite_bI_f, CSTo e, CSTt e, y_i2bz, e1, e2, Int.neg_neg]
        rw [show (n : Int) + ((0 + 1 + 1 : Nat) : Int) + -1 + -1 = n by omega]
      · rw [q_fv_wrE, q_fv_wrE]
        by_cases gj : j = n
        · subst gj
          rw [if_pos ⟨rfl, rfl⟩, if_pos ⟨by omega, by omega⟩, Nat.sub_self]
          exact congrArg qi (show 48 + v / 10 = 48 + v / 10 % 10 by omega)
        · rw [if_neg (fun z => gj z.2)]
          by_cases gk : j = n + 1
          · subst gk
            rw [if_pos ⟨rfl, rfl⟩, if_pos ⟨by omega, by omega⟩, Nat.add_sub_cancel_left]; rfl
          · rw [if_neg (fun z => gk z.2), if_neg (by omega)]
    · by_cases g3 : v < 1000
      · rw [dgs3 (by omega) g3] at hn ⊢
        simp only [List.length_cons, List.length_nil] at hn ⊢
        have e1 : ((n : Int) + ((0 + 1 + 1 + 1 : Nat) : Int) + -1).toNat = n + 2 := by omega
        have e2 : ((n : Int) + ((0 + 1 + 1 + 1 : Nat) : Int) + -1 + -1).toNat = n + 1 := by omega
        have e3 : ((n : Int) + ((0 + 1 + 1 + 1 : Nat) : Int) + -1 + -1 + -1).toNat = n := by omega
        have er : -(v / 100) * 100 - -v = v % 100 := by omega
        refine ⟨q_wr (q_wr (q_wr M e (n + 2) (qi (48 + v % 100 % 10))) e (n + 1) (qi (48 + v % 100 / 10))) e n (qi (48 + v / 100 % 10)), C_of (fun P => ?_), ((q_fr.wr (A := fun x => x = e) rfl).tr (q_fr.wr rfl)).tr (q_fr.wr rfl), (q_qt.wr.tr q_qt.wr).tr q_qt.wr, fun j => ?_⟩
        · rw [eJ6_getChars_ba4f3]
          simp (disch := first | assumption | exact bI_lo | exact bI_hi | exact bI_01 | (show (List.map q_wd _).sum ≤ 8; with_unfolding_all exact Nat.le_of_ble_eq_true rfl) | omega | (simp only [q_kd_wr, q_gs_wr]; first | assumption | omega) | exact CSTe.wr hC | exact CSTe.wr (CSTe.wr hC) | exact CSTe.wr (CSTe.wr (CSTe.wr hC))) only [kJ6_getChars_ba4f3_0, kJ6_getChars_ba4f3_1, kJ6_getChars_ba4f3_3, kJ6_getChars_ba4f3_4, kJ6_getChars_ba4f3_7, kJ6_getChars_ba4f3_8, kJ6_getChars_ba4f3_11, kJ6_getChars_ba4f3_12, kJ6_getChars_ba4f3_14, kJ6_getChars_ba4f3_16, kJ6_getChars_ba4f3_19, kJ6_getChars_ba4f3_20, kJ6_getChars_ba4f3_21, kJ6_getChars_ba4f3_22, kJ6_getChars_ba4f3_23, kJ6_getChars_ba4f3_25, kJ6_getChars_ba4f3_28, kJ6_getChars_ba4f3_29, kJ6_getChars_ba4f3_31, kJ6_getChars_ba4f3_32, kJ6_getChars_ba4f3_33, kJ6_getChars_ba4f3_34, kJ6_getChars_ba4f3_36, kJ6_getChars_ba4f3_37, kJ6_getChars_ba4f3_38, kJ6_getChars_ba4f3_39, kJ6_getChars_ba4f3_41, kJ6_getChars_ba4f3_42, kJ6_getChars_ba4f3_43, kJ6_getChars_ba4f3_44, kJ6_getChars_ba4f3_47, kJ6_getChars_ba4f3_49, kJ6_getChars_ba4f3_52, kJ6_getChars_ba4f3_54, kJ6_getChars_ba4f3_55, kJ6_getChars_ba4f3_56, kJ6_getChars_ba4f3_57, kJ6_getChars_ba4f3_60, kJ6_getChars_ba4f3_62, kJ6_getChars_ba4f3_65, kJ6_getChars_ba4f3_67, kJ6_getChars_ba4f3_68, kJ6_getChars_ba4f3_69, kJ6_getChars_ba4f3_72, kJ6_getChars_ba4f3_73, kJ6_getChars_ba4f3_76, kJ6_getChars_ba4f3_78, kJ6_getChars_ba4f3_81, kJ6_getChars_ba4f3_82, kJ6_getChars_ba4f3_83, kJ6_getChars_ba4f3_84, kJ6_getChars_ba4f3_85, kJ6_getChars_ba4f3_86, kJ6_getChars_ba4f3_88, kJ6_getChars_ba4f3_91, kJ6_getChars_ba4f3_92, kJ6_getChars_ba4f3_95, kJ6_getChars_ba4f3_97, kJ6_getChars_ba4f3_100, kJ6_getChars_ba4f3_101, kJ6_getChars_ba4f3_102, kJ6_getChars_ba4f3_103, kJ6_getChars_ba4f3_104, kJ6_getChars_ba4f3_106, kJ6_getChars_ba4f3_109, kJ6_getChars_ba4f3_110, kJ6_getChars_ba4f3_113, kJ6_getChars_ba4f3_115, kJ6_getChars_ba4f3_117, kJ6_getChars_ba4f3_118, kJ6_getChars_ba4f3_120, q_cut_i, q_cut_r, q_cut_l, q_cut_n, q_psh_n, q_psh_s, bI_eq0, ite_not, ↓if_pos, ↓if_neg, ↓ite_bI_t, ↓ite_bI_f, dv, er, CSTo e, CSTt e, y_i2bz, e1, e2, e3, Int.neg_neg]
          rw [show (n : Int) + ((0 + 1 + 1 + 1 : Nat) : Int) + -1 + -1 + -1 = n by omega]
        · rw [q_fv_wrE, q_fv_wrE, q_fv_wrE]
          by_cases gj : j = n
          · subst gj
            rw [if_pos ⟨rfl, rfl⟩, if_pos ⟨by omega, by omega⟩, Nat.sub_self]
            exact congrArg qi (show 48 + v / 100 % 10 = 48 + v / 10 / 10 % 10 by omega)
          · rw [if_neg (fun z => gj z.2)]
            by_cases gk : j = n + 1
            · subst gk
              rw [if_pos ⟨rfl, rfl⟩, if_pos ⟨by omega, by omega⟩, Nat.add_sub_cancel_left]
              exact congrArg qi (show 48 + v % 100 / 10 = 48 + v / 10 % 10 by omega)
            · rw [if_neg (fun z => gk z.2)]
              by_cases gl : j = n + 2
              · subst gl
                rw [if_pos ⟨rfl, rfl⟩, if_pos ⟨by omega, by omega⟩, Nat.add_sub_cancel_left]
                exact congrArg qi (show 48 + v % 100 % 10 = 48 + v % 10 by omega)
              · rw [if_neg (fun z => gl z.2), if_neg (by omega)]
      · rw [dgs4 (by omega) h1] at hn ⊢
        simp only [List.length_cons, List.length_nil] at hn ⊢
        have e1 : ((n : Int) + ((0 + 1 + 1 + 1 + 1 : Nat) : Int) + -1).toNat = n + 3 := by omega
        have e2 : ((n : Int) + ((0 + 1 + 1 + 1 + 1 : Nat) : Int) + -1 + -1).toNat = n + 2 := by omega
        have e3 : ((n : Int) + ((0 + 1 + 1 + 1 + 1 : Nat) : Int) + -1 + -1 + -1).toNat = n + 1 := by omega
        have e4 : ((n : Int) + ((0 + 1 + 1 + 1 + 1 : Nat) : Int) + -1 + -1 + -1 + -1).toNat = n := by omega
        have er : -(v / 100) * 100 - -v = v % 100 := by omega
        refine ⟨q_wr (q_wr (q_wr (q_wr M e (n + 3) (qi (48 + v % 100 % 10))) e (n + 2) (qi (48 + v % 100 / 10))) e (n + 1) (qi (48 + v / 100 % 10))) e n (qi (48 + v / 100 / 10)), C_of (fun P => ?_), (((q_fr.wr (A := fun x => x = e) rfl).tr (q_fr.wr rfl)).tr (q_fr.wr rfl)).tr (q_fr.wr rfl), ((q_qt.wr.tr q_qt.wr).tr q_qt.wr).tr q_qt.wr, fun j => ?_⟩
        · rw [eJ6_getChars_ba4f3]
          simp (disch := first | assumption | exact bI_lo | exact bI_hi | exact bI_01 | (show (List.map q_wd _).sum ≤ 8; with_unfolding_all exact Nat.le_of_ble_eq_true rfl) | omega | (simp only [q_kd_wr, q_gs_wr]; first | assumption | omega) | exact CSTe.wr hC | exact CSTe.wr (CSTe.wr hC) | exact CSTe.wr (CSTe.wr (CSTe.wr hC))) only [kJ6_getChars_ba4f3_0, kJ6_getChars_ba4f3_1, kJ6_getChars_ba4f3_3, kJ6_getChars_ba4f3_4, kJ6_getChars_ba4f3_7, kJ6_getChars_ba4f3_8, kJ6_getChars_ba4f3_11, kJ6_getChars_ba4f3_12, kJ6_getChars_ba4f3_14, kJ6_getChars_ba4f3_16, kJ6_getChars_ba4f3_19, kJ6_getChars_ba4f3_20, kJ6_getChars_ba4f3_21, kJ6_getChars_ba4f3_22, kJ6_getChars_ba4f3_23, kJ6_getChars_ba4f3_25, kJ6_getChars_ba4f3_28, kJ6_getChars_ba4f3_29, kJ6_getChars_ba4f3_31, kJ6_getChars_ba4f3_32, kJ6_getChars_ba4f3_33, kJ6_getChars_ba4f3_34, kJ6_getChars_ba4f3_36, kJ6_getChars_ba4f3_37, kJ6_getChars_ba4f3_38, kJ6_getChars_ba4f3_39, kJ6_getChars_ba4f3_41, kJ6_getChars_ba4f3_42, kJ6_getChars_ba4f3_43, kJ6_getChars_ba4f3_44, kJ6_getChars_ba4f3_47, kJ6_getChars_ba4f3_49, kJ6_getChars_ba4f3_52, kJ6_getChars_ba4f3_54, kJ6_getChars_ba4f3_55, kJ6_getChars_ba4f3_56, kJ6_getChars_ba4f3_57, kJ6_getChars_ba4f3_60, kJ6_getChars_ba4f3_62, kJ6_getChars_ba4f3_65, kJ6_getChars_ba4f3_67, kJ6_getChars_ba4f3_68, kJ6_getChars_ba4f3_69, kJ6_getChars_ba4f3_72, kJ6_getChars_ba4f3_73, kJ6_getChars_ba4f3_76, kJ6_getChars_ba4f3_78, kJ6_getChars_ba4f3_81, kJ6_getChars_ba4f3_82, kJ6_getChars_ba4f3_83, kJ6_getChars_ba4f3_84, kJ6_getChars_ba4f3_85, kJ6_getChars_ba4f3_86, kJ6_getChars_ba4f3_88, kJ6_getChars_ba4f3_91, kJ6_getChars_ba4f3_92, kJ6_getChars_ba4f3_95, kJ6_getChars_ba4f3_97, kJ6_getChars_ba4f3_100, kJ6_getChars_ba4f3_101, kJ6_getChars_ba4f3_102, kJ6_getChars_ba4f3_103, kJ6_getChars_ba4f3_104, kJ6_getChars_ba4f3_106, kJ6_getChars_ba4f3_109, kJ6_getChars_ba4f3_110, kJ6_getChars_ba4f3_113, kJ6_getChars_ba4f3_115, kJ6_getChars_ba4f3_117, kJ6_getChars_ba4f3_118, kJ6_getChars_ba4f3_120, q_cut_i, q_cut_r, q_cut_l, q_cut_n, q_psh_n, q_psh_s, bI_eq0, ite_not, ↓if_pos, ↓if_neg, ↓ite_bI_t, ↓ite_bI_f, dv, er, CSTo e, CSTt e, y_i2bz, e1, e2, e3, e4, Int.neg_neg]
          rw [show (n : Int) + ((0 + 1 + 1 + 1 + 1 : Nat) : Int) + -1 + -1 + -1 + -1 = n by omega]
        · rw [q_fv_wrE, q_fv_wrE, q_fv_wrE, q_fv_wrE]
          by_cases gj : j = n
          · subst gj
            rw [if_pos ⟨rfl, rfl⟩, if_pos ⟨by omega, by omega⟩, Nat.sub_self]
            exact congrArg qi (show 48 + v / 100 / 10 = 48 + v / 10 / 10 / 10 % 10 by omega)
          · rw [if_neg (fun z => gj z.2)]
            by_cases gm : j = n + 1
            · subst gm
              rw [if_pos ⟨rfl, rfl⟩, if_pos ⟨by omega, by omega⟩, Nat.add_sub_cancel_left]
              exact congrArg qi (show 48 + v / 100 % 10 = 48 + v / 10 / 10 % 10 by omega)
            · rw [if_neg (fun z => gm z.2)]
              by_cases gk : j = n + 2
              · subst gk
                rw [if_pos ⟨rfl, rfl⟩, if_pos ⟨by omega, by omega⟩, Nat.add_sub_cancel_left]
                exact congrArg qi (show 48 + v % 100 / 10 = 48 + v / 10 % 10 by omega)
              · rw [if_neg (fun z => gk z.2)]
                by_cases gl : j = n + 3
                · subst gl
                  rw [if_pos ⟨rfl, rfl⟩, if_pos ⟨by omega, by omega⟩, Nat.add_sub_cancel_left]
                  exact congrArg qi (show 48 + v % 100 % 10 = 48 + v % 10 by omega)
                · rw [if_neg (fun z => gl z.2), if_neg (by omega)]
end NUM
theorem dgs_127 : ∀ (k : Nat) (v : Int), ∀ c ∈ dgs k v, 0 ≤ c ∧ c ≤ 127
  | 0, v => by simp [dgs]
  | k + 1, v => by
    have := dgs_127 k (v / 10)
    intro c hc
    rw [dgs] at hc
    split at hc
    · rw [List.mem_append] at hc
      rcases hc with hc | hc
      · exact this c hc
      · simp at hc; omega
    · simp at hc; omega
section SBI
variable {M : QM} {a e cap : Nat} {L : List Int} {d : Nat} {x : QP}
theorem vSB_i {v : Int} (h : SBm M a e cap L) (hw : q_wf M) (hC : CST M) (hl : L.length < 390) (h0 : 0 ≤ v) (h1 : v < 10000) : ∃ M' e' cap', q_C (d + 5) iJ4_append_bf812 [qr a, qi v] M (some (qr a)) M' ∧ SBm M' a e' cap' (L ++ dgs 4 v) ∧ q_fr (fun x => x = a ∨ x = e) M M' ∧ q_wf M' ∧ q_gr M M' cap cap' ∧ (e' = e ∨ q_top M ≤ e') := by
  have hlc := h.2.2.2.2.2.1
  have dl := dgs_len 4 v
  obtain ⟨M1, e1, cap1, r1, S1, l1, p1, w1, g1, d1⟩ := vSB_ens (d := d) (n := L.length + (dgs 4 v).length) h hw (by omega) (by omega)
  have ae := SBm_ae S1
  have k0 := h.1
  have f3 := h.2.2.2.1
  obtain ⟨k, y0, y1, y3, ke, hl1, c1, c2, hv, hz⟩ := id S1
  have k1 : (q_kd M a).1 = 1 := by rw [k0]
  have hC1 : CST M1 := CST_fr hw hC p1 (fun b hb z => by rw [z, k0] at hb; simp at hb)
  obtain ⟨M2, r2, f2, q2, v2⟩ := vJ6_chars (d := d + 2) (M := M1) (e := e1) (cap := cap1) (n := L.length) h0 h1 ⟨hC1, by rw [ke]; show (4 : Nat) ≠ 8; decide⟩ ke l1 (by omega)
  have al : a < q_top M1 := w1.lt (by rw [k]; simp)
  have va : ∀ j, q_fv M2 a j = q_fv M1 a j := f2.2.2.2 a al ae
  have ka : q_kd M2 a = (1, 14) := by rw [q2.1, k]
  refine ⟨q_wr M2 a 3 (qi ((L.length : Int) + (dgs 4 v).length)), e1, cap1, C_of (fun P => ?_), ⟨ka, q_fwo (by decide) (by rw [va, y0]), q_fwo (by decide) (by rw [va, y1]), ?_, ?_, ?_, c1, c2, fun i w hw' => ?_, fun i hi => ?_⟩, ?_, (w1.qt q2).wr, ?_, d1⟩
  · have r1' : q_C (d + 3) iJ5_ensureCapacityInternal_d00df [qr a, qi ((L.length : Int) + (dgs 4 v).length)] M none M1 := by
      rw [show (L.length : Int) + (dgs 4 v).length = ((L.length + (dgs 4 v).length : Nat) : Int) by omega]; exact r1
    have r : ∀ x : QP, q_T (d + 4) iJ5_append_c97b9 [qr a, qi v] M x = x (some (qr a)) (q_wr M2 a 3 (qi ((L.length : Int) + (dgs 4 v).length))) := fun x => by
      rw [eJ5_append_c97b9]
      simp (disch := first | assumption | exact bI_lo | exact bI_hi | exact bI_01 | (show (List.map q_wd _).sum ≤ 8; with_unfolding_all exact Nat.le_of_ble_eq_true rfl) | omega | (simp only [q_kd_wr]; first | assumption | omega)) only [kJ5_append_c97b9_0, kJ5_append_c97b9_1, kJ5_append_c97b9_4, kJ5_append_c97b9_5, kJ5_append_c97b9_6, kJ5_append_c97b9_7E, kJ5_append_c97b9_10, kJ5_append_c97b9_11, kJ5_append_c97b9_12, kJ5_append_c97b9_13, kJ5_append_c97b9_14E, kJ5_append_c97b9_17, kJ5_append_c97b9_18E, kJ5_append_c97b9_21, kJ5_append_c97b9_24, kJ5_append_c97b9_25, kJ5_append_c97b9_26, kJ5_append_c97b9_27, kJ5_append_c97b9_30E, kJ5_append_c97b9_33i, kJ5_append_c97b9_33r, kJ5_append_c97b9_34, kJ5_append_c97b9_37, kJ5_append_c97b9_38, kJ5_append_c97b9_39, kJ5_append_c97b9_40, kJ5_append_c97b9_41, kJ5_append_c97b9_47i, kJ5_append_c97b9_47r, kJ5_append_c97b9_48, kJ5_append_c97b9_49, kJ5_append_c97b9_50, kJ5_append_c97b9_53, kJ5_append_c97b9_54, q_cut_i, q_cut_r, q_cut_l, q_cut_n, q_psh_n, q_psh_s, bI_eq0, ite_not, ↓if_pos, ↓if_neg, ↓ite_bI_t, ↓ite_bI_f, f3, uJ6_size h0 h1, T_of r1', uSB_lat S1, y0, T_of r2]
    rw [eJ4_append_bf812]
    simp (disch := first | assumption | exact bI_lo | exact bI_hi | exact bI_01 | (show (List.map q_wd _).sum ≤ 8; with_unfolding_all exact Nat.le_of_ble_eq_true rfl) | omega) only [kJ4_append_bf812_0, kJ4_append_bf812_1, kJ4_append_bf812_2E, kJ4_append_bf812_5i, kJ4_append_bf812_5r, kJ4_append_bf812_6, kJ4_append_bf812_7, q_cut_i, q_cut_r, q_cut_l, q_cut_n, q_psh_n, q_psh_s, bI_eq0, ite_not, r]
  · rw [q_fws, List.length_append]; rfl
  · rw [q_kd_wr, q2.1, ke]
  · rw [List.length_append]; omega
  · rw [q_fv_wrE, if_neg (fun z => ae z.1.symm), v2]
    by_cases g : i < L.length
    · rw [if_neg (by omega)]
      rw [List.getElem?_append_left g] at hw'
      exact hv i w hw'
    · by_cases gi : i < L.length + (dgs 4 v).length
      · rw [if_pos ⟨by omega, gi⟩]
        rw [List.getElem?_append_right (by omega)] at hw'
        rw [List.getD_eq_getElem?_getD, hw']
        exact ⟨rfl, dgs_127 4 v w (List.mem_of_getElem? hw')⟩
      · rw [List.getElem?_eq_none (by rw [List.length_append]; omega)] at hw'
        simp at hw'
  · rw [q_fv_wrE, if_neg (fun z => ae z.1.symm), v2]
    split
    · rename_i gi
      have hm := List.getElem?_eq_getElem (l := dgs 4 v) (i := i - L.length) (by omega)
      have hb := dgs_127 4 v _ (List.mem_of_getElem? hm)
      rw [List.getD_eq_getElem?_getD, hm]
      exact ⟨_, rfl, by show _ ≤ _; have := hb.1; simp only [Option.getD_some]; omega, by simp only [Option.getD_some]; exact hb.2⟩
    · exact hz i hi
  · refine (p1.wk (fun x _ z => Or.inl z)).tr2 ((f2.wk (fun x _ z => Or.inr z)).tr (q_fr.wr (A := fun x => x = a ∨ x = e1) (Or.inl rfl))) (fun x hx z => ?_)
    rcases z with z | z
    · exact Or.inl z
    · rcases d1 with z2 | z2
      · exact Or.inr (z.trans z2)
      · omega
  · exact g1.tr (q_gr.rf (q2.tr q_qt.wr))
end SBI
