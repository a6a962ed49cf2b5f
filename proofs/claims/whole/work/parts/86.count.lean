
/-! what feed refuses, count, sought -/
section CNT
variable {M : QM} {g cN cT c : Nat → Nat} {e1 c1 e2 c2 : Nat} {L1 L2 : List Nat} {C : CWs} {J J2 : List Od} {ms : List Int} {hs lr hc : Int} {d : Nat} {x : QP}
def cCo (C : CWs) (l ms : List Int) (what : Int) : Int := if what = 0 then cn C else if what = 1 then (cFO C).length else if what = 2 then l.length else if what = 3 then ms.length else if what = 4 then cmg C else if what = 5 then csp C else -1
theorem uX12_count {l : List Int} {what : Int} (h : CRI M g cN cT c e1 c1 L1 e2 c2 L2 C J J2 ms hs lr hc) (hT : TP M (g 1) (g 2) l) (hw : q_i32 what) : q_T (d + 2) iX12_count [qr (g 0), qi what] M x = x (some (qi (cCo C l ms what))) M := by
  obtain ⟨hg, hw', hk, h0, hR, hM, hC, hJ, hJ2, hd⟩ := h
  obtain ⟨k0, r0, r1, r2, r3, r4, r5, r6, r7, r8, r9, r10, r11, r12, r13⟩ := id hR
  obtain ⟨w1, w2⟩ := hw
  have kw := hC.1.1.1
  have f0 := hC.1.2.1
  have f1 := hC.1.2.2.1
  have f2 := hC.1.2.2.2
  have k18 := hC.2.1.1
  have k1 := hT.1
  have sz := fun x : QP => uX11_size (d := d) (x := x) hC.1.1
  rw [eX12_count]
  unfold cCo
  by_cases s0 : what = 0
  · rw [if_pos s0]
    simp (disch := first | assumption | exact bI_lo | exact bI_hi | exact bI_01 | (show (List.map q_wd _).sum ≤ 8; with_unfolding_all exact Nat.le_of_ble_eq_true rfl) | omega) only [kX12_count_0, kX12_count_1, kX12_count_40, kX12_count_41, kX12_count_44E, kX12_count_47, kX12_count_48, kX12_count_49, kX12_count_52, kX12_count_55E, kX12_count_58, kX12_count_59, kX12_count_60, kX12_count_63E, kX12_count_66, kX12_count_67, kX12_count_68, kX12_count_71, kX12_count_72, kX12_count_73, kX12_count_76, kX12_count_79, kX12_count_80, kX12_count_81, kX12_count_84, kX12_count_87, kX12_count_88, kX12_count_89, q_cut_i, q_cut_r, q_cut_l, q_cut_n, q_psh_n, q_psh_s, bI_eq0, ite_not, ↓if_pos, ↓if_neg, ↓ite_bI_t, ↓ite_bI_f, r2, sz]
  · rw [if_neg s0]
    by_cases s1 : what = 1
    · rw [if_pos s1]
      simp (disch := first | assumption | exact bI_lo | exact bI_hi | exact bI_01 | (show (List.map q_wd _).sum ≤ 8; with_unfolding_all exact Nat.le_of_ble_eq_true rfl) | omega) only [kX12_count_0, kX12_count_1, kX12_count_40, kX12_count_41, kX12_count_44E, kX12_count_47, kX12_count_48, kX12_count_49, kX12_count_52, kX12_count_55E, kX12_count_58, kX12_count_59, kX12_count_60, kX12_count_63E, kX12_count_66, kX12_count_67, kX12_count_68, kX12_count_71, kX12_count_72, kX12_count_73, kX12_count_76, kX12_count_79, kX12_count_80, kX12_count_81, kX12_count_84, kX12_count_87, kX12_count_88, kX12_count_89, q_cut_i, q_cut_r, q_cut_l, q_cut_n, q_psh_n, q_psh_s, bI_eq0, ite_not, ↓if_pos, ↓if_neg, ↓ite_bI_t, ↓ite_bI_f, r2, f0, uX0_size hC.2.1]
    · rw [if_neg s1]
      by_cases s2 : what = 2
      · rw [if_pos s2]
        simp (disch := first | assumption | exact bI_lo | exact bI_hi | exact bI_01 | (show (List.map q_wd _).sum ≤ 8; with_unfolding_all exact Nat.le_of_ble_eq_true rfl) | omega) only [kX12_count_0, kX12_count_1, kX12_count_40, kX12_count_41, kX12_count_44E, kX12_count_47, kX12_count_48, kX12_count_49, kX12_count_52, kX12_count_55E, kX12_count_58, kX12_count_59, kX12_count_60, kX12_count_63E, kX12_count_66, kX12_count_67, kX12_count_68, kX12_count_71, kX12_count_72, kX12_count_73, kX12_count_76, kX12_count_79, kX12_count_80, kX12_count_81, kX12_count_84, kX12_count_87, kX12_count_88, kX12_count_89, q_cut_i, q_cut_r, q_cut_l, q_cut_n, q_psh_n, q_psh_s, bI_eq0, ite_not, ↓if_pos, ↓if_neg, ↓ite_bI_t, ↓ite_bI_f, r0, uX8_length hT]
      · rw [if_neg s2]
        by_cases s3 : what = 3
        · rw [if_pos s3]
          simp (disch := first | assumption | exact bI_lo | exact bI_hi | exact bI_01 | (show (List.map q_wd _).sum ≤ 8; with_unfolding_all exact Nat.le_of_ble_eq_true rfl) | omega) only [kX12_count_0, kX12_count_1, kX12_count_40, kX12_count_41, kX12_count_44E, kX12_count_47, kX12_count_48, kX12_count_49, kX12_count_52, kX12_count_55E, kX12_count_58, kX12_count_59, kX12_count_60, kX12_count_63E, kX12_count_66, kX12_count_67, kX12_count_68, kX12_count_71, kX12_count_72, kX12_count_73, kX12_count_76, kX12_count_79, kX12_count_80, kX12_count_81, kX12_count_84, kX12_count_87, kX12_count_88, kX12_count_89, q_cut_i, q_cut_r, q_cut_l, q_cut_n, q_psh_n, q_psh_s, bI_eq0, ite_not, ↓if_pos, ↓if_neg, ↓ite_bI_t, ↓ite_bI_f, r10]
        · rw [if_neg s3]
          by_cases s4 : what = 4
          · rw [if_pos s4]
            simp (disch := first | assumption | exact bI_lo | exact bI_hi | exact bI_01 | (show (List.map q_wd _).sum ≤ 8; with_unfolding_all exact Nat.le_of_ble_eq_true rfl) | omega) only [kX12_count_0, kX12_count_1, kX12_count_40, kX12_count_41, kX12_count_44E, kX12_count_47, kX12_count_48, kX12_count_49, kX12_count_52, kX12_count_55E, kX12_count_58, kX12_count_59, kX12_count_60, kX12_count_63E, kX12_count_66, kX12_count_67, kX12_count_68, kX12_count_71, kX12_count_72, kX12_count_73, kX12_count_76, kX12_count_79, kX12_count_80, kX12_count_81, kX12_count_84, kX12_count_87, kX12_count_88, kX12_count_89, q_cut_i, q_cut_r, q_cut_l, q_cut_n, q_psh_n, q_psh_s, bI_eq0, ite_not, ↓if_pos, ↓if_neg, ↓ite_bI_t, ↓ite_bI_f, r2, f1]
          · rw [if_neg s4]
            by_cases s5 : what = 5
            · rw [if_pos s5]
              simp (disch := first | assumption | exact bI_lo | exact bI_hi | exact bI_01 | (show (List.map q_wd _).sum ≤ 8; with_unfolding_all exact Nat.le_of_ble_eq_true rfl) | omega) only [kX12_count_0, kX12_count_1, kX12_count_40, kX12_count_41, kX12_count_44E, kX12_count_47, kX12_count_48, kX12_count_49, kX12_count_52, kX12_count_55E, kX12_count_58, kX12_count_59, kX12_count_60, kX12_count_63E, kX12_count_66, kX12_count_67, kX12_count_68, kX12_count_71, kX12_count_72, kX12_count_73, kX12_count_76, kX12_count_79, kX12_count_80, kX12_count_81, kX12_count_84, kX12_count_87, kX12_count_88, kX12_count_89, q_cut_i, q_cut_r, q_cut_l, q_cut_n, q_psh_n, q_psh_s, bI_eq0, ite_not, ↓if_pos, ↓if_neg, ↓ite_bI_t, ↓ite_bI_f, r2, f2]
            · rw [if_neg s5]
              simp (disch := first | assumption | exact bI_lo | exact bI_hi | exact bI_01 | (show (List.map q_wd _).sum ≤ 8; with_unfolding_all exact Nat.le_of_ble_eq_true rfl) | omega) only [kX12_count_0, kX12_count_1, kX12_count_40, kX12_count_41, kX12_count_44E, kX12_count_47, kX12_count_48, kX12_count_49, kX12_count_52, kX12_count_55E, kX12_count_58, kX12_count_59, kX12_count_60, kX12_count_63E, kX12_count_66, kX12_count_67, kX12_count_68, kX12_count_71, kX12_count_72, kX12_count_73, kX12_count_76, kX12_count_79, kX12_count_80, kX12_count_81, kX12_count_84, kX12_count_87, kX12_count_88, kX12_count_89, q_cut_i, q_cut_r, q_cut_l, q_cut_n, q_psh_n, q_psh_s, bI_eq0, ite_not, ↓if_pos, ↓if_neg, ↓ite_bI_t, ↓ite_bI_f]
theorem uX12_feedN {l : List Int} {n a b b2 e f : Int} (h : CRI M g cN cT c e1 c1 L1 e2 c2 L2 C J J2 ms hs lr hc) (hT : TP M (g 1) (g 2) l) (h1 : q_i32 n) (h2 : q_i32 a) (h3 : q_i32 b) (h4 : q_i32 b2) (h5 : q_i32 e) (h6 : q_i32 f) (hn : fdN l n a b b2 e f ≠ 0) : q_T (d + 2) iX12_feed [qr (g 0), qi n, qi a, qi b, qi b2, qi e, qi f] M x = x (some (qi (fdN l n a b b2 e f))) M := by
  obtain ⟨hg, hw', hk, h0, hR, hM, hC, hJ, hJ2, hd⟩ := h
  obtain ⟨k0, r0, r1, r2, r3, r4, r5, r6, r7, r8, r9, r10, r11, r12, r13⟩ := id hR
  obtain ⟨y1, y2⟩ := h1
  obtain ⟨y3, y4⟩ := h2
  obtain ⟨y5, y6⟩ := h3
  obtain ⟨y7, y8⟩ := h4
  obtain ⟨y9, z0⟩ := h5
  obtain ⟨z1, z2⟩ := h6
  have k1 := hT.1
  have l80 := hT.2.2.2.2.1
  rw [eX12_feed]
  unfold fdN at hn ⊢
  by_cases g1 : n < 1
  · rw [if_pos (Or.inl g1)]
    simp (disch := first | assumption | exact bI_lo | exact bI_hi | exact bI_01 | (show (List.map q_wd _).sum ≤ 8; with_unfolding_all exact Nat.le_of_ble_eq_true rfl) | omega) only [kX12_feed_0, kX12_feed_1, kX12_feed_2, kX12_feed_5, kX12_feed_6, kX12_feed_7, kX12_feed_10, kX12_feed_12, kX12_feed_13, kX12_feed_14E, kX12_feed_17, kX12_feed_20, kX12_feed_21E, kX12_feed_24, kX12_feed_27, kX12_feed_29E, kX12_feed_32, kX12_feed_35, kX12_feed_37E, kX12_feed_40, kX12_feed_43, kX12_feed_45E, kX12_feed_48, kX12_feed_51, kX12_feed_53, kX12_feed_54, kX12_feed_55, kX12_feed_58E, kX12_feed_61, kX12_feed_62, kX12_feed_63, kX12_feed_65, kX12_feed_68, kX12_feed_70, kX12_feed_71, kX12_feed_72, kX12_feed_75, kX12_feed_76E, kX12_feed_79, kX12_feed_80, kX12_feed_81, kX12_feed_84, kX12_feed_85, kX12_feed_88, kX12_feed_89E, kX12_feed_92, kX12_feed_93, kX12_feed_94, kX12_feed_97, kX12_feed_98, kX12_feed_101, kX12_feed_103E, kX12_feed_106, kX12_feed_107, kX12_feed_108, kX12_feed_111, kX12_feed_112, kX12_feed_115, kX12_feed_117E, kX12_feed_120, kX12_feed_121, kX12_feed_122, kX12_feed_125, kX12_feed_126, kX12_feed_129, kX12_feed_131E, kX12_feed_134, kX12_feed_135, kX12_feed_138E, kX12_feed_141, q_cut_i, q_cut_r, q_cut_l, q_cut_n, q_psh_n, q_psh_s, bI_eq0, ite_not, ↓if_pos, ↓if_neg, ↓ite_bI_t, ↓ite_bI_f]
  · by_cases g2 : 5 < n
    · rw [if_pos (Or.inr g2)]
      simp (disch := first | assumption | exact bI_lo | exact bI_hi | exact bI_01 | (show (List.map q_wd _).sum ≤ 8; with_unfolding_all exact Nat.le_of_ble_eq_true rfl) | omega) only [kX12_feed_0, kX12_feed_1, kX12_feed_2, kX12_feed_5, kX12_feed_6, kX12_feed_7, kX12_feed_10, kX12_feed_12, kX12_feed_13, kX12_feed_14E, kX12_feed_17, kX12_feed_20, kX12_feed_21E, kX12_feed_24, kX12_feed_27, kX12_feed_29E, kX12_feed_32, kX12_feed_35, kX12_feed_37E, kX12_feed_40, kX12_feed_43, kX12_feed_45E, kX12_feed_48, kX12_feed_51, kX12_feed_53, kX12_feed_54, kX12_feed_55, kX12_feed_58E, kX12_feed_61, kX12_feed_62, kX12_feed_63, kX12_feed_65, kX12_feed_68, kX12_feed_70, kX12_feed_71, kX12_feed_72, kX12_feed_75, kX12_feed_76E, kX12_feed_79, kX12_feed_80, kX12_feed_81, kX12_feed_84, kX12_feed_85, kX12_feed_88, kX12_feed_89E, kX12_feed_92, kX12_feed_93, kX12_feed_94, kX12_feed_97, kX12_feed_98, kX12_feed_101, kX12_feed_103E, kX12_feed_106, kX12_feed_107, kX12_feed_108, kX12_feed_111, kX12_feed_112, kX12_feed_115, kX12_feed_117E, kX12_feed_120, kX12_feed_121, kX12_feed_122, kX12_feed_125, kX12_feed_126, kX12_feed_129, kX12_feed_131E, kX12_feed_134, kX12_feed_135, kX12_feed_138E, kX12_feed_141, q_cut_i, q_cut_r, q_cut_l, q_cut_n, q_psh_n, q_psh_s, bI_eq0, ite_not, ↓if_pos, ↓if_neg, ↓ite_bI_t, ↓ite_bI_f]
    · rw [if_neg (by omega)] at hn ⊢
      by_cases a1 : 0 ≤ a ∧ a ≤ 127
      · by_cases a2 : 0 ≤ b ∧ b ≤ 127
        · by_cases a3 : 0 ≤ b2 ∧ b2 ≤ 127
          · by_cases a4 : 0 ≤ e ∧ e ≤ 127
            · by_cases a5 : 0 ≤ f ∧ f ≤ 127
              · rw [if_neg (fun z => z ⟨a1, a2, a3, a4, a5⟩)] at hn ⊢
                by_cases g3 : 80 < l.length + n
                · rw [if_pos g3]
                  simp (disch := first | assumption | exact bI_lo | exact bI_hi | exact bI_01 | (show (List.map q_wd _).sum ≤ 8; with_unfolding_all exact Nat.le_of_ble_eq_true rfl) | omega) only [kX12_feed_0, kX12_feed_1, kX12_feed_2, kX12_feed_5, kX12_feed_6, kX12_feed_7, kX12_feed_10, kX12_feed_12, kX12_feed_13, kX12_feed_14E, kX12_feed_17, kX12_feed_20, kX12_feed_21E, kX12_feed_24, kX12_feed_27, kX12_feed_29E, kX12_feed_32, kX12_feed_35, kX12_feed_37E, kX12_feed_40, kX12_feed_43, kX12_feed_45E, kX12_feed_48, kX12_feed_51, kX12_feed_53, kX12_feed_54, kX12_feed_55, kX12_feed_58E, kX12_feed_61, kX12_feed_62, kX12_feed_63, kX12_feed_65, kX12_feed_68, kX12_feed_70, kX12_feed_71, kX12_feed_72, kX12_feed_75, kX12_feed_76E, kX12_feed_79, kX12_feed_80, kX12_feed_81, kX12_feed_84, kX12_feed_85, kX12_feed_88, kX12_feed_89E, kX12_feed_92, kX12_feed_93, kX12_feed_94, kX12_feed_97, kX12_feed_98, kX12_feed_101, kX12_feed_103E, kX12_feed_106, kX12_feed_107, kX12_feed_108, kX12_feed_111, kX12_feed_112, kX12_feed_115, kX12_feed_117E, kX12_feed_120, kX12_feed_121, kX12_feed_122, kX12_feed_125, kX12_feed_126, kX12_feed_129, kX12_feed_131E, kX12_feed_134, kX12_feed_135, kX12_feed_138E, kX12_feed_141, q_cut_i, q_cut_r, q_cut_l, q_cut_n, q_psh_n, q_psh_s, bI_eq0, ite_not, ↓if_pos, ↓if_neg, ↓ite_bI_t, ↓ite_bI_f, uX12_isByte, r0, uX8_length hT]
                · rw [if_neg g3] at hn
                  exact absurd rfl hn
              · rw [if_pos (fun z => a5 z.2.2.2.2)]
                simp (disch := first | assumption | exact bI_lo | exact bI_hi | exact bI_01 | (show (List.map q_wd _).sum ≤ 8; with_unfolding_all exact Nat.le_of_ble_eq_true rfl) | omega) only [kX12_feed_0, kX12_feed_1, kX12_feed_2, kX12_feed_5, kX12_feed_6, kX12_feed_7, kX12_feed_10, kX12_feed_12, kX12_feed_13, kX12_feed_14E, kX12_feed_17, kX12_feed_20, kX12_feed_21E, kX12_feed_24, kX12_feed_27, kX12_feed_29E, kX12_feed_32, kX12_feed_35, kX12_feed_37E, kX12_feed_40, kX12_feed_43, kX12_feed_45E, kX12_feed_48, kX12_feed_51, kX12_feed_53, kX12_feed_54, kX12_feed_55, kX12_feed_58E, kX12_feed_61, kX12_feed_62, kX12_feed_63, kX12_feed_65, kX12_feed_68, kX12_feed_70, kX12_feed_71, kX12_feed_72, kX12_feed_75, kX12_feed_76E, kX12_feed_79, kX12_feed_80, kX12_feed_81, kX12_feed_84, kX12_feed_85, kX12_feed_88, kX12_feed_89E, kX12_feed_92, kX12_feed_93, kX12_feed_94, kX12_feed_97, kX12_feed_98, kX12_feed_101, kX12_feed_103E, kX12_feed_106, kX12_feed_107, kX12_feed_108, kX12_feed_111, kX12_feed_112, kX12_feed_115, kX12_feed_117E, kX12_feed_120, kX12_feed_121, kX12_feed_122, kX12_feed_125, kX12_feed_126, kX12_feed_129, kX12_feed_131E, kX12_feed_134, kX12_feed_135, kX12_feed_138E, kX12_feed_141, q_cut_i, q_cut_r, q_cut_l, q_cut_n, q_psh_n, q_psh_s, bI_eq0, ite_not, ↓if_pos, ↓if_neg, ↓ite_bI_t, ↓ite_bI_f, uX12_isByte]
            · rw [if_pos (fun z => a4 z.2.2.2.1)]
              simp (disch := first | assumption | exact bI_lo | exact bI_hi | exact bI_01 | (show (List.map q_wd _).sum ≤ 8; with_unfolding_all exact Nat.le_of_ble_eq_true rfl) | omega) only [kX12_feed_0, kX12_feed_1, kX12_feed_2, kX12_feed_5, kX12_feed_6, kX12_feed_7, kX12_feed_10, kX12_feed_12, kX12_feed_13, kX12_feed_14E, kX12_feed_17, kX12_feed_20, kX12_feed_21E, kX12_feed_24, kX12_feed_27, kX12_feed_29E, kX12_feed_32, kX12_feed_35, kX12_feed_37E, kX12_feed_40, kX12_feed_43, kX12_feed_45E, kX12_feed_48, kX12_feed_51, kX12_feed_53, kX12_feed_54, kX12_feed_55, kX12_feed_58E, kX12_feed_61, kX12_feed_62, kX12_feed_63, kX12_feed_65, kX12_feed_68, kX12_feed_70, kX12_feed_71, kX12_feed_72, kX12_feed_75, kX12_feed_76E, kX12_feed_79, kX12_feed_80, kX12_feed_81, kX12_feed_84, kX12_feed_85, kX12_feed_88, kX12_feed_89E, kX12_feed_92, kX12_feed_93, kX12_feed_94, kX12_feed_97, kX12_feed_98, kX12_feed_101, kX12_feed_103E, kX12_feed_106, kX12_feed_107, kX12_feed_108, kX12_feed_111, kX12_feed_112, kX12_feed_115, kX12_feed_117E, kX12_feed_120, kX12_feed_121, kX12_feed_122, kX12_feed_125, kX12_feed_126, kX12_feed_129, kX12_feed_131E, kX12_feed_134, kX12_feed_135, kX12_feed_138E, kX12_feed_141, q_cut_i, q_cut_r, q_cut_l, q_cut_n, q_psh_n, q_psh_s, bI_eq0, ite_not, ↓if_pos, ↓if_neg, ↓ite_bI_t, ↓ite_bI_f, uX12_isByte]
          · rw [if_pos (fun z => a3 z.2.2.1)]
            simp (disch := first | assumption | exact bI_lo | exact bI_hi | exact bI_01 | (show (List.map q_wd _).sum ≤ 8; with_unfolding_all exact Nat.le_of_ble_eq_true rfl) | omega) only [kX12_feed_0, kX12_feed_1, kX12_feed_2, kX12_feed_5, kX12_feed_6, kX12_feed_7, kX12_feed_10, kX12_feed_12, kX12_feed_13, kX12_feed_14E, kX12_feed_17, kX12_feed_20, kX12_feed_21E, kX12_feed_24, kX12_feed_27, kX12_feed_29E, kX12_feed_32, kX12_feed_35, kX12_feed_37E, kX12_feed_40, kX12_feed_43, kX12_feed_45E, kX12_feed_48, kX12_feed_51, kX12_feed_53, kX12_feed_54, kX12_feed_55, kX12_feed_58E, kX12_feed_61, kX12_feed_62, kX12_feed_63, kX12_feed_65, kX12_feed_68, kX12_feed_70, kX12_feed_71, kX12_feed_72, kX12_feed_75, kX12_feed_76E, kX12_feed_79, kX12_feed_80, kX12_feed_81, kX12_feed_84, kX12_feed_85, kX12_feed_88, kX12_feed_89E, kX12_feed_92, kX12_feed_93, kX12_feed_94, kX12_feed_97, kX12_feed_98, kX12_feed_101, kX12_feed_103E, kX12_feed_106, kX12_feed_107, kX12_feed_108, kX12_feed_111, kX12_feed_112, kX12_feed_115, kX12_feed_117E, kX12_feed_120, kX12_feed_121, kX12_feed_122, kX12_feed_125, kX12_feed_126, kX12_feed_129, kX12_feed_131E, kX12_feed_134, kX12_feed_135, kX12_feed_138E, kX12_feed_141, q_cut_i, q_cut_r, q_cut_l, q_cut_n, q_psh_n, q_psh_s, bI_eq0, ite_not, ↓if_pos, ↓if_neg, ↓ite_bI_t, ↓ite_bI_f, uX12_isByte]
        · rw [if_pos (fun z => a2 z.2.1)]
          simp (disch := first | assumption | exact bI_lo | exact bI_hi | exact bI_01 | (show (List.map q_wd _).sum ≤ 8; with_unfolding_all exact Nat.le_of_ble_eq_true rfl) | omega) only [kX12_feed_0, kX12_feed_1, kX12_feed_2, kX12_feed_5, kX12_feed_6, kX12_feed_7, kX12_feed_10, kX12_feed_12, kX12_feed_13, kX12_feed_14E, kX12_feed_17, kX12_feed_20, kX12_feed_21E, kX12_feed_24, kX12_feed_27, kX12_feed_29E, kX12_feed_32, kX12_feed_35, kX12_feed_37E, kX12_feed_40, kX12_feed_43, kX12_feed_45E, kX12_feed_48, kX12_feed_51, kX12_feed_53, kX12_feed_54, kX12_feed_55, kX12_feed_58E, kX12_feed_61, kX12_feed_62, kX12_feed_63, kX12_feed_65, kX12_feed_68, kX12_feed_70, kX12_feed_71, kX12_feed_72, kX12_feed_75, kX12_feed_76E, kX12_feed_79, kX12_feed_80, kX12_feed_81, kX12_feed_84, kX12_feed_85, kX12_feed_88, kX12_feed_89E, kX12_feed_92, kX12_feed_93, kX12_feed_94, kX12_feed_97, kX12_feed_98, kX12_feed_101, kX12_feed_103E, kX12_feed_106, kX12_feed_107, kX12_feed_108, kX12_feed_111, kX12_feed_112, kX12_feed_115, kX12_feed_117E, kX12_feed_120, kX12_feed_121, kX12_feed_122, kX12_feed_125, kX12_feed_126, kX12_feed_129, kX12_feed_131E, kX12_feed_134, kX12_feed_135, kX12_feed_138E, kX12_feed_141, q_cut_i, q_cut_r, q_cut_l, q_cut_n, q_psh_n, q_psh_s, bI_eq0, ite_not, ↓if_pos, ↓if_neg, ↓ite_bI_t, ↓ite_bI_f, uX12_isByte]
      · rw [if_pos (fun z => a1 z.1)]
        simp (disch := first | assumption | exact bI_lo | exact bI_hi | exact bI_01 | (show (List.map q_wd _).sum ≤ 8; with_unfolding_all exact Nat.le_of_ble_eq_true rfl) | omega) only [kX12_feed_0, kX12_feed_1, kX12_feed_2, kX12_feed_5, kX12_feed_6, kX12_feed_7, kX12_feed_10, kX12_feed_12, kX12_feed_13, kX12_feed_14E, kX12_feed_17, kX12_feed_20, kX12_feed_21E, kX12_feed_24, kX12_feed_27, kX12_feed_29E, kX12_feed_32, kX12_feed_35, kX12_feed_37E, kX12_feed_40, kX12_feed_43, kX12_feed_45E, kX12_feed_48, kX12_feed_51, kX12_feed_53, kX12_feed_54, kX12_feed_55, kX12_feed_58E, kX12_feed_61, kX12_feed_62, kX12_feed_63, kX12_feed_65, kX12_feed_68, kX12_feed_70, kX12_feed_71, kX12_feed_72, kX12_feed_75, kX12_feed_76E, kX12_feed_79, kX12_feed_80, kX12_feed_81, kX12_feed_84, kX12_feed_85, kX12_feed_88, kX12_feed_89E, kX12_feed_92, kX12_feed_93, kX12_feed_94, kX12_feed_97, kX12_feed_98, kX12_feed_101, kX12_feed_103E, kX12_feed_106, kX12_feed_107, kX12_feed_108, kX12_feed_111, kX12_feed_112, kX12_feed_115, kX12_feed_117E, kX12_feed_120, kX12_feed_121, kX12_feed_122, kX12_feed_125, kX12_feed_126, kX12_feed_129, kX12_feed_131E, kX12_feed_134, kX12_feed_135, kX12_feed_138E, kX12_feed_141, q_cut_i, q_cut_r, q_cut_l, q_cut_n, q_psh_n, q_psh_s, bI_eq0, ite_not, ↓if_pos, ↓if_neg, ↓ite_bI_t, ↓ite_bI_f, uX12_isByte]
/-- hits -/
def HT (M : QM) (g : Nat → Nat) (hl : List Nat) : Prop := q_kd M (g 15) = (2, 20) ∧ hl.length ≤ 20 ∧ (∀ (i v : Nat), hl[i]? = some v → q_fv M (g 15) i = qi v) ∧ ∀ i, i < 20 → ∃ z, q_fv M (g 15) i = qi z
def cSo (hl : List Nat) (i : Int) : Int := if i < 0 then -1 else if i < hl.length then (hl.getD i.toNat 0 : Nat) else -5
theorem uX12_sought {hl : List Nat} {i : Int} (hR : RO M g hs lr hc hl.length) (hH : HT M g hl) (hi : q_i32 i) : q_T (d + 1) iX12_sought [qr (g 0), qi i] M x = x (some (qi (cSo hl i))) M := by
  obtain ⟨k0, r0, r1, r2, r3, r4, r5, r6, r7, r8, r9, r10, r11, r12, r13⟩ := id hR
  obtain ⟨i1, i2⟩ := hi
  obtain ⟨m0, m1, m2, m3⟩ := hH
  have b2 : 2 ≤ (q_kd M (g 15)).1 := by rw [m0]; exact Nat.le_refl 2
  have b9 : (q_kd M (g 15)).1 ≤ 9 := by rw [m0]; exact Nat.le_of_ble_eq_true rfl
  have b5 : (q_kd M (g 15)).1 = 2 := by rw [m0]
  have e5 : ((q_kd M (g 15)).2 : Int) = 20 := by rw [m0]; rfl
  rw [eX12_sought]
  unfold cSo
  by_cases g1 : i < 0
  · rw [if_pos g1]
    simp (disch := first | assumption | exact bI_lo | exact bI_hi | exact bI_01 | (show (List.map q_wd _).sum ≤ 8; with_unfolding_all exact Nat.le_of_ble_eq_true rfl) | omega) only [kX12_sought_0, kX12_sought_1, kX12_sought_4, kX12_sought_5, kX12_sought_6, kX12_sought_7, kX12_sought_8, kX12_sought_11, kX12_sought_14, kX12_sought_15, kX12_sought_16, kX12_sought_19, kX12_sought_20, kX12_sought_23, kX12_sought_24, kX12_sought_27, kX12_sought_28, kX12_sought_29, kX12_sought_32, kX12_sought_34, q_cut_i, q_cut_r, q_cut_l, q_cut_n, q_psh_n, q_psh_s, bI_eq0, ite_not, ↓if_pos, ↓if_neg, ↓ite_bI_t, ↓ite_bI_f]
  · rw [if_neg g1]
    by_cases g2 : i < hl.length
    · rw [if_pos g2]
      have hv : hl[i.toNat]? = some (hl.getD i.toNat 0) := by
        rw [List.getElem?_eq_getElem (by omega), List.getD_eq_getElem?_getD, List.getElem?_eq_getElem (by omega)]; rfl
      have v0 := m2 _ _ hv
      simp (disch := first | assumption | exact bI_lo | exact bI_hi | exact bI_01 | (show (List.map q_wd _).sum ≤ 8; with_unfolding_all exact Nat.le_of_ble_eq_true rfl) | omega) only [kX12_sought_0, kX12_sought_1, kX12_sought_4, kX12_sought_5, kX12_sought_6, kX12_sought_7, kX12_sought_8, kX12_sought_11, kX12_sought_14, kX12_sought_15, kX12_sought_16, kX12_sought_19, kX12_sought_20, kX12_sought_23, kX12_sought_24, kX12_sought_27, kX12_sought_28, kX12_sought_29, kX12_sought_32, kX12_sought_34, q_cut_i, q_cut_r, q_cut_l, q_cut_n, q_psh_n, q_psh_s, bI_eq0, ite_not, ↓if_pos, ↓if_neg, ↓ite_bI_t, ↓ite_bI_f, r13, r12, e5, v0]
    · rw [if_neg g2]
      simp (disch := first | assumption | exact bI_lo | exact bI_hi | exact bI_01 | (show (List.map q_wd _).sum ≤ 8; with_unfolding_all exact Nat.le_of_ble_eq_true rfl) | omega) only [kX12_sought_0, kX12_sought_1, kX12_sought_4, kX12_sought_5, kX12_sought_6, kX12_sought_7, kX12_sought_8, kX12_sought_11, kX12_sought_14, kX12_sought_15, kX12_sought_16, kX12_sought_19, kX12_sought_20, kX12_sought_23, kX12_sought_24, kX12_sought_27, kX12_sought_28, kX12_sought_29, kX12_sought_32, kX12_sought_34, q_cut_i, q_cut_r, q_cut_l, q_cut_n, q_psh_n, q_psh_s, bI_eq0, ite_not, ↓if_pos, ↓if_neg, ↓ite_bI_t, ↓ite_bI_f, r13, r12, e5]
end CNT
