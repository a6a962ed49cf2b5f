
/-! the calls on filters -/
section FCL
variable {M : QM} {g cN cT c : Nat → Nat} {e1 c1 e2 c2 : Nat} {L1 L2 : List Nat} {C : CWs} {J J2 : List Od} {ms : List Int} {hs lr hc : Int} {d : Nat} {x : QP}
def cFtN (C : CWs) (s v : Int) : Int := if s < 0 ∨ 5 ≤ s then -1 else if v < 0 ∨ 10000 ≤ v then -2 else if 8 ≤ (cFO C).length then -4 else 0
theorem uX12_filterN {s v : Int} (h : CRI M g cN cT c e1 c1 L1 e2 c2 L2 C J J2 ms hs lr hc) (hs' : q_i32 s) (hv : q_i32 v) (hn : cFtN C s v ≠ 0) : q_T (d + 2) iX12_filter [qr (g 0), qi s, qi v] M x = x (some (qi (cFtN C s v))) M := by
  obtain ⟨hg, hw, hk, h0, hR, hM, hC, hJ, hJ2, hd⟩ := h
  obtain ⟨k0, r0, r1, r2, r3, r4, r5, r6, r7, r8, r9, r10, r11, r12, r13⟩ := id hR
  obtain ⟨s1, s2⟩ := hs'
  obtain ⟨v1, v2⟩ := hv
  have kw := hC.1.1.1
  have f0 := hC.1.2.1
  have k18 := hC.2.1.1
  have l8 := hC.2.1.2.2.2.2.2.1
  rw [eX12_filter]
  unfold cFtN at hn ⊢
  by_cases g1 : s < 0
  · rw [if_pos (Or.inl g1)]
    simp (disch := first | assumption | exact bI_lo | exact bI_hi | exact bI_01 | (show (List.map q_wd _).sum ≤ 8; with_unfolding_all exact Nat.le_of_ble_eq_true rfl) | omega) only [kX12_filter_0, kX12_filter_1, kX12_filter_4, kX12_filter_5, kX12_filter_6, kX12_filter_9, kX12_filter_10, kX12_filter_11, kX12_filter_12, kX12_filter_15, kX12_filter_16, kX12_filter_19, kX12_filter_22, kX12_filter_24, kX12_filter_25, kX12_filter_26, kX12_filter_29, kX12_filter_32E, kX12_filter_35, kX12_filter_37, kX12_filter_40, kX12_filter_42, kX12_filter_43, kX12_filter_44, kX12_filter_47i, kX12_filter_47r, kX12_filter_48, kX12_filter_50, kX12_filter_51, kX12_filter_52, kX12_filter_53, kX12_filter_54E, kX12_filter_57E, kX12_filter_60, q_cut_i, q_cut_r, q_cut_l, q_cut_n, q_psh_n, q_psh_s, bI_eq0, ite_not, ↓if_pos, ↓if_neg, ↓ite_bI_t, ↓ite_bI_f]
  · by_cases g2 : 5 ≤ s
    · rw [if_pos (Or.inr g2)]
      simp (disch := first | assumption | exact bI_lo | exact bI_hi | exact bI_01 | (show (List.map q_wd _).sum ≤ 8; with_unfolding_all exact Nat.le_of_ble_eq_true rfl) | omega) only [kX12_filter_0, kX12_filter_1, kX12_filter_4, kX12_filter_5, kX12_filter_6, kX12_filter_9, kX12_filter_10, kX12_filter_11, kX12_filter_12, kX12_filter_15, kX12_filter_16, kX12_filter_19, kX12_filter_22, kX12_filter_24, kX12_filter_25, kX12_filter_26, kX12_filter_29, kX12_filter_32E, kX12_filter_35, kX12_filter_37, kX12_filter_40, kX12_filter_42, kX12_filter_43, kX12_filter_44, kX12_filter_47i, kX12_filter_47r, kX12_filter_48, kX12_filter_50, kX12_filter_51, kX12_filter_52, kX12_filter_53, kX12_filter_54E, kX12_filter_57E, kX12_filter_60, q_cut_i, q_cut_r, q_cut_l, q_cut_n, q_psh_n, q_psh_s, bI_eq0, ite_not, ↓if_pos, ↓if_neg, ↓ite_bI_t, ↓ite_bI_f]
    · rw [if_neg (by omega)] at hn ⊢
      by_cases g3 : v < 0
      · rw [if_pos (Or.inl g3)]
        simp (disch := first | assumption | exact bI_lo | exact bI_hi | exact bI_01 | (show (List.map q_wd _).sum ≤ 8; with_unfolding_all exact Nat.le_of_ble_eq_true rfl) | omega) only [kX12_filter_0, kX12_filter_1, kX12_filter_4, kX12_filter_5, kX12_filter_6, kX12_filter_9, kX12_filter_10, kX12_filter_11, kX12_filter_12, kX12_filter_15, kX12_filter_16, kX12_filter_19, kX12_filter_22, kX12_filter_24, kX12_filter_25, kX12_filter_26, kX12_filter_29, kX12_filter_32E, kX12_filter_35, kX12_filter_37, kX12_filter_40, kX12_filter_42, kX12_filter_43, kX12_filter_44, kX12_filter_47i, kX12_filter_47r, kX12_filter_48, kX12_filter_50, kX12_filter_51, kX12_filter_52, kX12_filter_53, kX12_filter_54E, kX12_filter_57E, kX12_filter_60, q_cut_i, q_cut_r, q_cut_l, q_cut_n, q_psh_n, q_psh_s, bI_eq0, ite_not, ↓if_pos, ↓if_neg, ↓ite_bI_t, ↓ite_bI_f]
      · by_cases g4 : 10000 ≤ v
        · rw [if_pos (Or.inr g4)]
          simp (disch := first | assumption | exact bI_lo | exact bI_hi | exact bI_01 | (show (List.map q_wd _).sum ≤ 8; with_unfolding_all exact Nat.le_of_ble_eq_true rfl) | omega) only [kX12_filter_0, kX12_filter_1, kX12_filter_4, kX12_filter_5, kX12_filter_6, kX12_filter_9, kX12_filter_10, kX12_filter_11, kX12_filter_12, kX12_filter_15, kX12_filter_16, kX12_filter_19, kX12_filter_22, kX12_filter_24, kX12_filter_25, kX12_filter_26, kX12_filter_29, kX12_filter_32E, kX12_filter_35, kX12_filter_37, kX12_filter_40, kX12_filter_42, kX12_filter_43, kX12_filter_44, kX12_filter_47i, kX12_filter_47r, kX12_filter_48, kX12_filter_50, kX12_filter_51, kX12_filter_52, kX12_filter_53, kX12_filter_54E, kX12_filter_57E, kX12_filter_60, q_cut_i, q_cut_r, q_cut_l, q_cut_n, q_psh_n, q_psh_s, bI_eq0, ite_not, ↓if_pos, ↓if_neg, ↓ite_bI_t, ↓ite_bI_f]
        · rw [if_neg (by omega)] at hn ⊢
          by_cases g5 : 8 ≤ (cFO C).length
          · rw [if_pos g5]
            simp (disch := first | assumption | exact bI_lo | exact bI_hi | exact bI_01 | (show (List.map q_wd _).sum ≤ 8; with_unfolding_all exact Nat.le_of_ble_eq_true rfl) | omega) only [kX12_filter_0, kX12_filter_1, kX12_filter_4, kX12_filter_5, kX12_filter_6, kX12_filter_9, kX12_filter_10, kX12_filter_11, kX12_filter_12, kX12_filter_15, kX12_filter_16, kX12_filter_19, kX12_filter_22, kX12_filter_24, kX12_filter_25, kX12_filter_26, kX12_filter_29, kX12_filter_32E, kX12_filter_35, kX12_filter_37, kX12_filter_40, kX12_filter_42, kX12_filter_43, kX12_filter_44, kX12_filter_47i, kX12_filter_47r, kX12_filter_48, kX12_filter_50, kX12_filter_51, kX12_filter_52, kX12_filter_53, kX12_filter_54E, kX12_filter_57E, kX12_filter_60, q_cut_i, q_cut_r, q_cut_l, q_cut_n, q_psh_n, q_psh_s, bI_eq0, ite_not, ↓if_pos, ↓if_neg, ↓ite_bI_t, ↓ite_bI_f, r2, f0, uX0_size hC.2.1]
          · rw [if_neg g5] at hn
            exact absurd rfl hn
theorem vX12_filterY {s v : Int} (h : CRI M g cN cT c e1 c1 L1 e2 c2 L2 C J J2 ms hs lr hc) (hs' : q_i32 s) (hv : q_i32 v) (hn : cFtN C s v = 0) (hB : CB C) (hJl : J.length < 512) : ∃ M', q_C (d + 8) iX12_filter [qr (g 0), qi s, qi v] M (some (qi (tlA C (6, s, v, 0, 0)))) M' ∧ tOut M M' g cN cT c e1 c1 e2 c2 L2 C J J2 ms hs lr hc (6, s, v, 0, 0) := by
  unfold cFtN at hn
  have a1 : ¬ (s < 0 ∨ 5 ≤ s) := fun z => by rw [if_pos z] at hn; omega
  rw [if_neg a1] at hn
  have a2 : ¬ (v < 0 ∨ 10000 ≤ v) := fun z => by rw [if_pos z] at hn; omega
  rw [if_neg a2] at hn
  have a3 : ¬ 8 ≤ (cFO C).length := fun z => by rw [if_pos z] at hn; omega
  obtain ⟨M1, M', r1, r2', k1, k2, r3'⟩ := tellNew (d := d) (q := (6, s, v, 0, 0)) h ⟨(show q_i32 6 from ⟨by omega, by omega⟩), hs', hv, (show q_i32 0 from ⟨by omega, by omega⟩), Int.le_refl 0, z40⟩ hB hJl (fun z => Or.inr (Or.inl ⟨rfl, by omega⟩))
  have r1' : q_C (d + 7) iX3_init [qr (q_top M), qi 6, qi s, qi v, qi 0, ql 0] (q_al M (1, 3) 5 (fun k => q_dv (tyX3 k))) none M1 := r1
  refine ⟨M', C_of (fun P => ?_), r3'⟩
  obtain ⟨hg, hw, hk, h0, hR, hM, hC, hJ, hJ2, hd⟩ := h
  obtain ⟨k0, r0, r1, r2, r3, r4, r5, r6, r7, r8, r9, r10, r11, r12, r13⟩ := id hR
  obtain ⟨s1, s2⟩ := hs'
  obtain ⟨v1, v2⟩ := hv
  have kw := hC.1.1.1
  have f0 := hC.1.2.1
  have k18 := hC.2.1.1
  rw [eX12_filter]
  simp (disch := first | assumption | exact bI_lo | exact bI_hi | exact bI_01 | (show (List.map q_wd _).sum ≤ 8; with_unfolding_all exact Nat.le_of_ble_eq_true rfl) | omega) only [kX12_filter_0, kX12_filter_1, kX12_filter_4, kX12_filter_5, kX12_filter_6, kX12_filter_9, kX12_filter_10, kX12_filter_11, kX12_filter_12, kX12_filter_15, kX12_filter_16, kX12_filter_19, kX12_filter_22, kX12_filter_24, kX12_filter_25, kX12_filter_26, kX12_filter_29, kX12_filter_32E, kX12_filter_35, kX12_filter_37, kX12_filter_40, kX12_filter_42, kX12_filter_43, kX12_filter_44, kX12_filter_47i, kX12_filter_47r, kX12_filter_48, kX12_filter_50, kX12_filter_51, kX12_filter_52, kX12_filter_53, kX12_filter_54E, kX12_filter_57E, kX12_filter_60, q_cut_i, q_cut_r, q_cut_l, q_cut_n, q_psh_n, q_psh_s, bI_eq0, ite_not, ↓if_pos, ↓if_neg, ↓ite_bI_t, ↓ite_bI_f, r2, f0, uX0_size hC.2.1, T_of r1', T_of r2']
def cJnN (C : CWs) (w a b : Int) : Int := if w < 0 ∨ 2 < w ∨ ¬ (0 ≤ a ∧ a < (cFO C).length) then -1 else if w < 2 ∧ ¬ (0 ≤ b ∧ b < (cFO C).length) then -1 else if 8 ≤ (cFO C).length then -4 else 0
theorem uX12_joinN {w a b : Int} (h : CRI M g cN cT c e1 c1 L1 e2 c2 L2 C J J2 ms hs lr hc) (hw' : q_i32 w) (ha : q_i32 a) (hb : q_i32 b) (hn : cJnN C w a b ≠ 0) : q_T (d + 2) iX12_join [qr (g 0), qi w, qi a, qi b] M x = x (some (qi (cJnN C w a b))) M := by
  obtain ⟨hg, hw, hk, h0, hR, hM, hC, hJ, hJ2, hd⟩ := h
  obtain ⟨k0, r0, r1, r2, r3, r4, r5, r6, r7, r8, r9, r10, r11, r12, r13⟩ := id hR
  obtain ⟨s1, s2⟩ := hw'
  obtain ⟨a1, a2⟩ := ha
  obtain ⟨b1, b2⟩ := hb
  have kw := hC.1.1.1
  have f0 := hC.1.2.1
  have k18 := hC.2.1.1
  have l8 := hC.2.1.2.2.2.2.2.1
  rw [eX12_join]
  unfold cJnN at hn ⊢
  by_cases g1 : w < 0
  · rw [if_pos (Or.inl g1)]
    simp (disch := first | assumption | exact bI_lo | exact bI_hi | exact bI_01 | (show (List.map q_wd _).sum ≤ 8; with_unfolding_all exact Nat.le_of_ble_eq_true rfl) | omega) only [kX12_join_0, kX12_join_1, kX12_join_4, kX12_join_5, kX12_join_6, kX12_join_9, kX12_join_10, kX12_join_13, kX12_join_16, kX12_join_17E, kX12_join_20, kX12_join_23, kX12_join_24, kX12_join_25, kX12_join_26, kX12_join_27, kX12_join_30, kX12_join_31, kX12_join_34, kX12_join_37, kX12_join_38E, kX12_join_41, kX12_join_44, kX12_join_45, kX12_join_46, kX12_join_47, kX12_join_50, kX12_join_53E, kX12_join_56, kX12_join_58, kX12_join_61, kX12_join_63, kX12_join_64, kX12_join_65, kX12_join_68i, kX12_join_68r, kX12_join_69, kX12_join_71, kX12_join_72, kX12_join_73, kX12_join_74, kX12_join_75E, kX12_join_78E, kX12_join_81, q_cut_i, q_cut_r, q_cut_l, q_cut_n, q_psh_n, q_psh_s, bI_eq0, ite_not, ↓if_pos, ↓if_neg, ↓ite_bI_t, ↓ite_bI_f]
  · by_cases g2 : 2 < w
    · rw [if_pos (Or.inr (Or.inl g2))]
      simp (disch := first | assumption | exact bI_lo | exact bI_hi | exact bI_01 | (show (List.map q_wd _).sum ≤ 8; with_unfolding_all exact Nat.le_of_ble_eq_true rfl) | omega) only [kX12_join_0, kX12_join_1, kX12_join_4, kX12_join_5, kX12_join_6, kX12_join_9, kX12_join_10, kX12_join_13, kX12_join_16, kX12_join_17E, kX12_join_20, kX12_join_23, kX12_join_24, kX12_join_25, kX12_join_26, kX12_join_27, kX12_join_30, kX12_join_31, kX12_join_34, kX12_join_37, kX12_join_38E, kX12_join_41, kX12_join_44, kX12_join_45, kX12_join_46, kX12_join_47, kX12_join_50, kX12_join_53E, kX12_join_56, kX12_join_58, kX12_join_61, kX12_join_63, kX12_join_64, kX12_join_65, kX12_join_68i, kX12_join_68r, kX12_join_69, kX12_join_71, kX12_join_72, kX12_join_73, kX12_join_74, kX12_join_75E, kX12_join_78E, kX12_join_81, q_cut_i, q_cut_r, q_cut_l, q_cut_n, q_psh_n, q_psh_s, bI_eq0, ite_not, ↓if_pos, ↓if_neg, ↓ite_bI_t, ↓ite_bI_f]
    · by_cases g3 : 0 ≤ a ∧ a < (cFO C).length
      · rw [if_neg (by omega)] at hn ⊢
        by_cases g4 : w < 2
        · by_cases g5 : 0 ≤ b ∧ b < (cFO C).length
          · rw [if_neg (by omega)] at hn ⊢
            by_cases g6 : 8 ≤ (cFO C).length
            · rw [if_pos g6]
              simp (disch := first | assumption | exact bI_lo | exact bI_hi | exact bI_01 | (show (List.map q_wd _).sum ≤ 8; with_unfolding_all exact Nat.le_of_ble_eq_true rfl) | omega) only [kX12_join_0, kX12_join_1, kX12_join_4, kX12_join_5, kX12_join_6, kX12_join_9, kX12_join_10, kX12_join_13, kX12_join_16, kX12_join_17E, kX12_join_20, kX12_join_23, kX12_join_24, kX12_join_25, kX12_join_26, kX12_join_27, kX12_join_30, kX12_join_31, kX12_join_34, kX12_join_37, kX12_join_38E, kX12_join_41, kX12_join_44, kX12_join_45, kX12_join_46, kX12_join_47, kX12_join_50, kX12_join_53E, kX12_join_56, kX12_join_58, kX12_join_61, kX12_join_63, kX12_join_64, kX12_join_65, kX12_join_68i, kX12_join_68r, kX12_join_69, kX12_join_71, kX12_join_72, kX12_join_73, kX12_join_74, kX12_join_75E, kX12_join_78E, kX12_join_81, q_cut_i, q_cut_r, q_cut_l, q_cut_n, q_psh_n, q_psh_s, bI_eq0, ite_not, ↓if_pos, ↓if_neg, ↓ite_bI_t, ↓ite_bI_f, r2, f0, uX0_has hC.2.1, uX0_size hC.2.1]
            · rw [if_neg g6] at hn
              exact absurd rfl hn
          · rw [if_pos ⟨g4, g5⟩]
            simp (disch := first | assumption | exact bI_lo | exact bI_hi | exact bI_01 | (show (List.map q_wd _).sum ≤ 8; with_unfolding_all exact Nat.le_of_ble_eq_true rfl) | omega) only [kX12_join_0, kX12_join_1, kX12_join_4, kX12_join_5, kX12_join_6, kX12_join_9, kX12_join_10, kX12_join_13, kX12_join_16, kX12_join_17E, kX12_join_20, kX12_join_23, kX12_join_24, kX12_join_25, kX12_join_26, kX12_join_27, kX12_join_30, kX12_join_31, kX12_join_34, kX12_join_37, kX12_join_38E, kX12_join_41, kX12_join_44, kX12_join_45, kX12_join_46, kX12_join_47, kX12_join_50, kX12_join_53E, kX12_join_56, kX12_join_58, kX12_join_61, kX12_join_63, kX12_join_64, kX12_join_65, kX12_join_68i, kX12_join_68r, kX12_join_69, kX12_join_71, kX12_join_72, kX12_join_73, kX12_join_74, kX12_join_75E, kX12_join_78E, kX12_join_81, q_cut_i, q_cut_r, q_cut_l, q_cut_n, q_psh_n, q_psh_s, bI_eq0, ite_not, ↓if_pos, ↓if_neg, ↓ite_bI_t, ↓ite_bI_f, r2, f0, uX0_has hC.2.1]
        · rw [if_neg (by omega)] at hn ⊢
          by_cases g6 : 8 ≤ (cFO C).length
          · rw [if_pos g6]
            simp (disch := first | assumption | exact bI_lo | exact bI_hi | exact bI_01 | (show (List.map q_wd _).sum ≤ 8; with_unfolding_all exact Nat.le_of_ble_eq_true rfl) | omega) only [kX12_join_0, kX12_join_1, kX12_join_4, kX12_join_5, kX12_join_6, kX12_join_9, kX12_join_10, kX12_join_13, kX12_join_16, kX12_join_17E, kX12_join_20, kX12_join_23, kX12_join_24, kX12_join_25, kX12_join_26, kX12_join_27, kX12_join_30, kX12_join_31, kX12_join_34, kX12_join_37, kX12_join_38E, kX12_join_41, kX12_join_44, kX12_join_45, kX12_join_46, kX12_join_47, kX12_join_50, kX12_join_53E, kX12_join_56, kX12_join_58, kX12_join_61, kX12_join_63, kX12_join_64, kX12_join_65, kX12_join_68i, kX12_join_68r, kX12_join_69, kX12_join_71, kX12_join_72, kX12_join_73, kX12_join_74, kX12_join_75E, kX12_join_78E, kX12_join_81, q_cut_i, q_cut_r, q_cut_l, q_cut_n, q_psh_n, q_psh_s, bI_eq0, ite_not, ↓if_pos, ↓if_neg, ↓ite_bI_t, ↓ite_bI_f, r2, f0, uX0_has hC.2.1, uX0_size hC.2.1]
          · rw [if_neg g6] at hn
            exact absurd rfl hn
      · rw [if_pos (Or.inr (Or.inr g3))]
        simp (disch := first | assumption | exact bI_lo | exact bI_hi | exact bI_01 | (show (List.map q_wd _).sum ≤ 8; with_unfolding_all exact Nat.le_of_ble_eq_true rfl) | omega) only [kX12_join_0, kX12_join_1, kX12_join_4, kX12_join_5, kX12_join_6, kX12_join_9, kX12_join_10, kX12_join_13, kX12_join_16, kX12_join_17E, kX12_join_20, kX12_join_23, kX12_join_24, kX12_join_25, kX12_join_26, kX12_join_27, kX12_join_30, kX12_join_31, kX12_join_34, kX12_join_37, kX12_join_38E, kX12_join_41, kX12_join_44, kX12_join_45, kX12_join_46, kX12_join_47, kX12_join_50, kX12_join_53E, kX12_join_56, kX12_join_58, kX12_join_61, kX12_join_63, kX12_join_64, kX12_join_65, kX12_join_68i, kX12_join_68r, kX12_join_69, kX12_join_71, kX12_join_72, kX12_join_73, kX12_join_74, kX12_join_75E, kX12_join_78E, kX12_join_81, q_cut_i, q_cut_r, q_cut_l, q_cut_n, q_psh_n, q_psh_s, bI_eq0, ite_not, ↓if_pos, ↓if_neg, ↓ite_bI_t, ↓ite_bI_f, r2, f0, uX0_has hC.2.1]
theorem vX12_joinY {w a b : Int} (h : CRI M g cN cT c e1 c1 L1 e2 c2 L2 C J J2 ms hs lr hc) (hw' : q_i32 w) (ha : q_i32 a) (hb : q_i32 b) (hn : cJnN C w a b = 0) (hB : CB C) (hJl : J.length < 512) : ∃ M', q_C (d + 8) iX12_join [qr (g 0), qi w, qi a, qi b] M (some (qi (tlA C (7, a, b, w, 0)))) M' ∧ tOut M M' g cN cT c e1 c1 e2 c2 L2 C J J2 ms hs lr hc (7, a, b, w, 0) := by
  unfold cJnN at hn
  have n1 : ¬ (w < 0 ∨ 2 < w ∨ ¬ (0 ≤ a ∧ a < (cFO C).length)) := fun z => by rw [if_pos z] at hn; omega
  rw [if_neg n1] at hn
  have n2 : ¬ (w < 2 ∧ ¬ (0 ≤ b ∧ b < (cFO C).length)) := fun z => by rw [if_pos z] at hn; omega
  rw [if_neg n2] at hn
  have n3 : ¬ 8 ≤ (cFO C).length := fun z => by rw [if_pos z] at hn; omega
  have m1 : 0 ≤ w ∧ w ≤ 2 := by omega
  have m2 : 0 ≤ a ∧ a < (cFO C).length := by omega
  obtain ⟨M1, M', r1, r2', k1, k2, r3'⟩ := tellNew (d := d) (q := (7, a, b, w, 0)) h ⟨(show q_i32 7 from ⟨by omega, by omega⟩), ha, hb, hw', Int.le_refl 0, z40⟩ hB hJl (fun z => Or.inr (Or.inr (Or.inl ⟨rfl, by omega, m1, m2⟩)))
  have r1' : q_C (d + 7) iX3_init [qr (q_top M), qi 7, qi a, qi b, qi w, ql 0] (q_al M (1, 3) 5 (fun k => q_dv (tyX3 k))) none M1 := r1
  refine ⟨M', C_of (fun P => ?_), r3'⟩
  obtain ⟨hg, hw, hk, h0, hR, hM, hC, hJ, hJ2, hd⟩ := h
  obtain ⟨k0, r0, r1, r2, r3, r4, r5, r6, r7, r8, r9, r10, r11, r12, r13⟩ := id hR
  obtain ⟨s1, s2⟩ := hw'
  obtain ⟨a1, a2⟩ := ha
  obtain ⟨b1, b2⟩ := hb
  have kw := hC.1.1.1
  have f0 := hC.1.2.1
  have k18 := hC.2.1.1
  rw [eX12_join]
  by_cases g4 : w < 2
  · have m3 : 0 ≤ b ∧ b < (cFO C).length := by omega
    simp (disch := first | assumption | exact bI_lo | exact bI_hi | exact bI_01 | (show (List.map q_wd _).sum ≤ 8; with_unfolding_all exact Nat.le_of_ble_eq_true rfl) | omega) only [kX12_join_0, kX12_join_1, kX12_join_4, kX12_join_5, kX12_join_6, kX12_join_9, kX12_join_10, kX12_join_13, kX12_join_16, kX12_join_17E, kX12_join_20, kX12_join_23, kX12_join_24, kX12_join_25, kX12_join_26, kX12_join_27, kX12_join_30, kX12_join_31, kX12_join_34, kX12_join_37, kX12_join_38E, kX12_join_41, kX12_join_44, kX12_join_45, kX12_join_46, kX12_join_47, kX12_join_50, kX12_join_53E, kX12_join_56, kX12_join_58, kX12_join_61, kX12_join_63, kX12_join_64, kX12_join_65, kX12_join_68i, kX12_join_68r, kX12_join_69, kX12_join_71, kX12_join_72, kX12_join_73, kX12_join_74, kX12_join_75E, kX12_join_78E, kX12_join_81, q_cut_i, q_cut_r, q_cut_l, q_cut_n, q_psh_n, q_psh_s, bI_eq0, ite_not, ↓if_pos, ↓if_neg, ↓ite_bI_t, ↓ite_bI_f, r2, f0, uX0_has hC.2.1, uX0_size hC.2.1, T_of r1', T_of r2']
  · simp (disch := first | assumption | exact bI_lo | exact bI_hi | exact bI_01 | (show (List.map q_wd _).sum ≤ 8; with_unfolding_all exact Nat.le_of_ble_eq_true rfl) | omega) only [kX12_join_0, kX12_join_1, kX12_join_4, kX12_join_5, kX12_join_6, kX12_join_9, kX12_join_10, kX12_join_13, kX12_join_16, kX12_join_17E, kX12_join_20, kX12_join_23, kX12_join_24, kX12_join_25, kX12_join_26, kX12_join_27, kX12_join_30, kX12_join_31, kX12_join_34, kX12_join_37, kX12_join_38E, kX12_join_41, kX12_join_44, kX12_join_45, kX12_join_46, kX12_join_47, kX12_join_50, kX12_join_53E, kX12_join_56, kX12_join_58, kX12_join_61, kX12_join_63, kX12_join_64, kX12_join_65, kX12_join_68i, kX12_join_68r, kX12_join_69, kX12_join_71, kX12_join_72, kX12_join_73, kX12_join_74, kX12_join_75E, kX12_join_78E, kX12_join_81, q_cut_i, q_cut_r, q_cut_l, q_cut_n, q_psh_n, q_psh_s, bI_eq0, ite_not, ↓if_pos, ↓if_neg, ↓ite_bI_t, ↓ite_bI_f, r2, f0, uX0_has hC.2.1, uX0_size hC.2.1, T_of r1', T_of r2']
theorem uX12_dropN {a : Int} (h : CRI M g cN cT c e1 c1 L1 e2 c2 L2 C J J2 ms hs lr hc) (ha : q_i32 a) (hn : ¬ (0 ≤ a ∧ a < (cFO C).length)) : q_T (d + 2) iX12_drop [qr (g 0), qi a] M x = x (some (qi (-1))) M := by
  obtain ⟨hg, hw, hk, h0, hR, hM, hC, hJ, hJ2, hd⟩ := h
  obtain ⟨k0, r0, r1, r2, r3, r4, r5, r6, r7, r8, r9, r10, r11, r12, r13⟩ := id hR
  obtain ⟨a1, a2⟩ := ha
  have kw := hC.1.1.1
  have f0 := hC.1.2.1
  have k18 := hC.2.1.1
  rw [eX12_drop]
  simp (disch := first | assumption | exact bI_lo | exact bI_hi | exact bI_01 | (show (List.map q_wd _).sum ≤ 8; with_unfolding_all exact Nat.le_of_ble_eq_true rfl) | omega) only [kX12_drop_0, kX12_drop_1, kX12_drop_4, kX12_drop_7, kX12_drop_8E, kX12_drop_11, kX12_drop_14, kX12_drop_15, kX12_drop_16, kX12_drop_17, kX12_drop_20i, kX12_drop_20r, kX12_drop_21, kX12_drop_23, kX12_drop_24, kX12_drop_25, kX12_drop_26, kX12_drop_27E, kX12_drop_30E, kX12_drop_33, q_cut_i, q_cut_r, q_cut_l, q_cut_n, q_psh_n, q_psh_s, bI_eq0, ite_not, ↓if_pos, ↓if_neg, ↓ite_bI_t, ↓ite_bI_f, r2, f0, uX0_has hC.2.1]
theorem vX12_dropY {a : Int} (h : CRI M g cN cT c e1 c1 L1 e2 c2 L2 C J J2 ms hs lr hc) (ha : q_i32 a) (hn : 0 ≤ a ∧ a < (cFO C).length) (hB : CB C) (hJl : J.length < 512) : ∃ M', q_C (d + 8) iX12_drop [qr (g 0), qi a] M (some (qi (tlA C (8, a, 0, 0, 0)))) M' ∧ tOut M M' g cN cT c e1 c1 e2 c2 L2 C J J2 ms hs lr hc (8, a, 0, 0, 0) := by
  obtain ⟨M1, M', r1, r2', k1, k2, r3'⟩ := tellNew (d := d) (q := (8, a, 0, 0, 0)) h ⟨(show q_i32 8 from ⟨by omega, by omega⟩), ha, (show q_i32 0 from ⟨by omega, by omega⟩), (show q_i32 0 from ⟨by omega, by omega⟩), Int.le_refl 0, z40⟩ hB hJl (fun z => Or.inr (Or.inr (Or.inr ⟨rfl, hn⟩)))
  have r1' : q_C (d + 7) iX3_init [qr (q_top M), qi 8, qi a, qi 0, qi 0, ql 0] (q_al M (1, 3) 5 (fun k => q_dv (tyX3 k))) none M1 := r1
  refine ⟨M', C_of (fun P => ?_), r3'⟩
  obtain ⟨hg, hw, hk, h0, hR, hM, hC, hJ, hJ2, hd⟩ := h
  obtain ⟨k0, r0, r1, r2, r3, r4, r5, r6, r7, r8, r9, r10, r11, r12, r13⟩ := id hR
  obtain ⟨a1, a2⟩ := ha
  have kw := hC.1.1.1
  have f0 := hC.1.2.1
  have k18 := hC.2.1.1
  rw [eX12_drop]
  simp (disch := first | assumption | exact bI_lo | exact bI_hi | exact bI_01 | (show (List.map q_wd _).sum ≤ 8; with_unfolding_all exact Nat.le_of_ble_eq_true rfl) | omega) only [kX12_drop_0, kX12_drop_1, kX12_drop_4, kX12_drop_7, kX12_drop_8E, kX12_drop_11, kX12_drop_14, kX12_drop_15, kX12_drop_16, kX12_drop_17, kX12_drop_20i, kX12_drop_20r, kX12_drop_21, kX12_drop_23, kX12_drop_24, kX12_drop_25, kX12_drop_26, kX12_drop_27E, kX12_drop_30E, kX12_drop_33, q_cut_i, q_cut_r, q_cut_l, q_cut_n, q_psh_n, q_psh_s, bI_eq0, ite_not, ↓if_pos, ↓if_neg, ↓ite_bI_t, ↓ite_bI_f, r2, f0, uX0_has hC.2.1, T_of r1', T_of r2']
def cFsN (C : CWs) (a y : Int) : Int := if ¬ (0 ≤ a ∧ a < (cFO C).length) then -1 else if ¬ (0 ≤ y ∧ y < 10000) then -2 else 0
theorem uX12_fitsN {a y : Int} (h : CRI M g cN cT c e1 c1 L1 e2 c2 L2 C J J2 ms hs lr hc) (ha : q_i32 a) (hy : q_i32 y) (hn : cFsN C a y ≠ 0) : q_T (d + 2) iX12_fits [qr (g 0), qi a, qi y] M x = x (some (qi (cFsN C a y))) M := by
  obtain ⟨hg, hw, hk, h0, hR, hM, hC, hJ, hJ2, hd⟩ := h
  obtain ⟨k0, r0, r1, r2, r3, r4, r5, r6, r7, r8, r9, r10, r11, r12, r13⟩ := id hR
  obtain ⟨a1, a2⟩ := ha
  obtain ⟨y1, y2⟩ := hy
  have kw := hC.1.1.1
  have f0 := hC.1.2.1
  have k18 := hC.2.1.1
  rw [eX12_fits]
  unfold cFsN at hn ⊢
  by_cases g1 : 0 ≤ a ∧ a < (cFO C).length
  · rw [if_neg (fun z => z g1)] at hn ⊢
    by_cases g2 : 0 ≤ y ∧ y < 10000
    · rw [if_neg (fun z => z g2)] at hn
      exact absurd rfl hn
    · rw [if_pos g2]
      simp (disch := first | assumption | exact bI_lo | exact bI_hi | exact bI_01 | (show (List.map q_wd _).sum ≤ 8; with_unfolding_all exact Nat.le_of_ble_eq_true rfl) | omega) only [kX12_fits_0, kX12_fits_1, kX12_fits_4, kX12_fits_7, kX12_fits_8E, kX12_fits_11, kX12_fits_14, kX12_fits_15, kX12_fits_16, kX12_fits_17E, kX12_fits_20, kX12_fits_23, kX12_fits_25, kX12_fits_26, kX12_fits_27, kX12_fits_30, kX12_fits_33, kX12_fits_34, kX12_fits_35, kX12_fits_36, kX12_fits_39E, kX12_fits_42, q_cut_i, q_cut_r, q_cut_l, q_cut_n, q_psh_n, q_psh_s, bI_eq0, ite_not, ↓if_pos, ↓if_neg, ↓ite_bI_t, ↓ite_bI_f, r2, f0, uX0_has hC.2.1, uX12_isDay]
  · rw [if_pos g1]
    simp (disch := first | assumption | exact bI_lo | exact bI_hi | exact bI_01 | (show (List.map q_wd _).sum ≤ 8; with_unfolding_all exact Nat.le_of_ble_eq_true rfl) | omega) only [kX12_fits_0, kX12_fits_1, kX12_fits_4, kX12_fits_7, kX12_fits_8E, kX12_fits_11, kX12_fits_14, kX12_fits_15, kX12_fits_16, kX12_fits_17E, kX12_fits_20, kX12_fits_23, kX12_fits_25, kX12_fits_26, kX12_fits_27, kX12_fits_30, kX12_fits_33, kX12_fits_34, kX12_fits_35, kX12_fits_36, kX12_fits_39E, kX12_fits_42, q_cut_i, q_cut_r, q_cut_l, q_cut_n, q_psh_n, q_psh_s, bI_eq0, ite_not, ↓if_pos, ↓if_neg, ↓ite_bI_t, ↓ite_bI_f, r2, f0, uX0_has hC.2.1]
theorem vX12_fitsY {f w : Nat} {y : Int} (h : CRI M g cN cT c e1 c1 L1 e2 c2 L2 C J J2 ms hs lr hc) (ho : fOk (cFN C)) (hf : (cFO C)[f]? = some w) (hy : 0 ≤ y ∧ y < 10000) : ∃ M', q_C (d + 7) iX12_fits [qr (g 0), qi f, qi y] M (some (qi (bSet (nV (cW C) (cn C) y (cFN C) (w + 1) w) (cn C) : Nat))) M' ∧ CRI M' g cN cT c e1 c1 L1 e2 c2 L2 C J J2 ms hs lr hc ∧ GF (fun s => s = 22) M M' g g ∧ q_qt M M' := by
  have fl : f < (cFO C).length := by
    rcases Nat.lt_or_ge f (cFO C).length with z | z
    · exact z
    · rw [List.getElem?_eq_none z] at hf; simp at hf
  obtain ⟨hg, hw, hk, h0, hR, hM, hC, hJ, hJ2, hd⟩ := h
  have l8 := hC.2.1.2.2.2.2.2.1
  obtain ⟨M', t1, t2, t3, t4, t5⟩ := vX0_setOn (d := d) hg hw hC.2.1 hC.1 ho hf (by omega : -2147483648 ≤ y) (by omega)
  refine ⟨M', C_of (fun P => ?_), ⟨t4.2.2.2.1, t4.2.2.2.2, gK_fr hg hk t4.1, ?_, RO_ss hR (t4.ss hg) (by omega) (fun _ _ => rfl), MK_ss hM (t4.ss hg) (by omega), ⟨t3, t2, hC.2.2⟩, JR_gf hg hw hk t4.1 (by omega) (by omega) hJ, JR_gf hg hw hk t4.1 (by omega) (by omega) hJ2, hd⟩, t4, t5⟩
  · obtain ⟨k0, r0, r1, r2, r3, r4, r5, r6, r7, r8, r9, r10, r11, r12, r13⟩ := id hR
    have kw := hC.1.1.1
    have f0 := hC.1.2.1
    have k18 := hC.2.1.1
    rw [eX12_fits]
    simp (disch := first | assumption | exact bI_lo | exact bI_hi | exact bI_01 | (show (List.map q_wd _).sum ≤ 8; with_unfolding_all exact Nat.le_of_ble_eq_true rfl) | omega) only [kX12_fits_0, kX12_fits_1, kX12_fits_4, kX12_fits_7, kX12_fits_8E, kX12_fits_11, kX12_fits_14, kX12_fits_15, kX12_fits_16, kX12_fits_17E, kX12_fits_20, kX12_fits_23, kX12_fits_25, kX12_fits_26, kX12_fits_27, kX12_fits_30, kX12_fits_33, kX12_fits_34, kX12_fits_35, kX12_fits_36, kX12_fits_39E, kX12_fits_42, q_cut_i, q_cut_r, q_cut_l, q_cut_n, q_psh_n, q_psh_s, bI_eq0, ite_not, ↓if_pos, ↓if_neg, ↓ite_bI_t, ↓ite_bI_f, r2, f0, uX0_has hC.2.1, uX12_isDay, T_of t1]
  · rw [t4.1.2.1, t5.1, h0]
end FCL
