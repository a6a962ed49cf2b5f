/-! the reference's methods: a command, whole -/
set_option maxHeartbeats 4000000 in
theorem tX13_command {d m : Nat} {S : RS} {M : QM} {x : QP} {B cm : Int} (hK : RK m M) (hR : RG S) (h6 : S 0 6 < 0) (h5 : 0 ≤ S 0 5 ∧ S 0 5 ≤ S 0 4) (h4 : S 0 4 ≤ 80) (h11 : S 0 11 = cm) (hc0 : 0 ≤ cm) (hc1 : cm < 79) (hB : B = 13 * cm) (hx : cPost m M B cm S x (pCmd (rHr (S 2) (S 0 4)) (S 0 5))) : q_T (d + 4) iX13_command [qr m] (ov m S M) x := by
  have hh := rHr_R hR (S 0 4) (S 0 5)
  obtain ⟨a, ha⟩ : ∃ a, a = S 0 5 := ⟨_, rfl⟩
  obtain ⟨c, hc⟩ : ∃ c, c = rHr (S 2) (S 0 4) a := ⟨_, rfl⟩
  rw [← ha] at hx hh h5
  rw [← hc] at hh
  unfold pCmd at hx
  rw [← hc] at hx
  have hhere : ∀ z : QP, q_T (d + 3) iX13_here [qr m] (ov m S M) z = z (some (qi c)) (ov m S M) := fun z => by
    rw [tX13_here hK hR (by omega) h4, ← ha, ← hc]
  rw [eX13_command]
  by_cases g : c = 102 ∨ c = 114 ∨ c = 109 ∨ c = 115 ∨ c = 103 ∨ c = 99
  · rw [if_neg (fun h => h g)] at hx
    have ha1 : a < S 0 4 := rHr_lt (l := S 2) (by omega)
    have st : ∀ z : QP, Rr (q_C (d + 3)) mX13_command (0, [some (qr m), none, none, none], [], ov m S M) z = Rr (q_C (d + 3)) mX13_command (54, [some (qr m), some (qi B), some (qi c), none], [], ov m S M) z := by
      intro z
      rcases g with g | g | g | g | g | g <;> simp (disch := first | assumption | exact RK0 hK | exact RK1a hK | exact RK2a hK | exact RK3a hK | exact RK4a hK | exact RK5a hK | exact RK6a hK | exact RK7a hK | exact RGl hR | exact RGh hR | exact bI_lo | exact bI_hi | exact bI_01 | (show (List.map q_wd _).sum ≤ 8; with_unfolding_all exact Nat.le_of_ble_eq_true rfl) | (refine RK1c hK ?_; omega) | (refine RK2c hK ?_; omega) | (refine RK3c hK ?_; omega) | (refine RK4c hK ?_; omega) | (refine RK5c hK ?_; omega) | (refine RK6c hK ?_; omega) | (refine RK7c hK ?_; omega) | omega) only [kX13_command_0, kX13_command_2, kX13_command_3, kX13_command_6, kX13_command_7, kX13_command_8, kX13_command_9E, kX13_command_12, kX13_command_13, kX13_command_14, kX13_command_16, kX13_command_19, kX13_command_20, kX13_command_22, kX13_command_25, kX13_command_26, kX13_command_28, kX13_command_31, kX13_command_32, kX13_command_34, kX13_command_37, kX13_command_38, kX13_command_40, kX13_command_43, kX13_command_44, kX13_command_46, q_cut_i, q_cut_r, q_cut_l, q_cut_n, q_kd_ov, ov_f0, ov_f1, ov_f2, ov_f3, ov_f4, ov_f5, ov_f6, ov_f7, ov_f8, ov_f9, ov_f10, ov_f11, ov_f12, ov_f13, ov_f14, ov_f15, ov_f16, ov_r, ov_w, ov_w1, ov_w2, ov_w4, ov_w5, ov_w6, ov_w7, ov_w9, ov_w11, ov_w13, ov_w16, up_s, up_k, up_j, up_up, q_psh_n, q_psh_s, bI_eq0, ite_not, ↓if_pos, ↓if_neg, ↓ite_bI_t, ↓ite_bI_f, hhere, h11, ← hB]
    rw [st]
    obtain ⟨T, hT⟩ : ∃ T, T = up (up (up (up (up S 0 5 (a + 1)) 4 B c) 4 (B + 1) 0) 4 (B + 2) 0) 0 9 0 := ⟨_, rfl⟩
    have hs : rSc B S T := by
      rw [hT]
      exact rSc_0 (rSc_4 (rSc_4 (rSc_4 (rSc_0 (rSc.rf hR) (by omega) (by omega) (by omega)) (by omega) (by omega) (by omega)) (by omega) (by omega) (by omega)) (by omega) (by omega) (by omega)) (by omega) (by omega) (by omega)
    have t5 : T 0 5 = a + 1 := by rw [hT, up_j (by omega), up_k (by omega), up_k (by omega), up_k (by omega), up_s]
    have t6 : T 0 6 = S 0 6 := by rw [hT, up_j (by omega), up_k (by omega), up_k (by omega), up_k (by omega), up_j (by omega)]
    have t9 : T 0 9 = 0 := by rw [hT, up_s]
    have t11 : T 0 11 = cm := by rw [hT, up_j (by omega), up_k (by omega), up_k (by omega), up_k (by omega), up_j (by omega), h11]
    have q0 : T 4 B = c := by rw [hT, up_k (by omega), up_j (by omega), up_j (by omega), up_s]
    have q2 : T 4 (B + 2) = 0 := by rw [hT, up_k (by omega), up_s]
    have hA : cAt B cm S T (a + 1) := ⟨hs, t6, h6, t5, by omega, by omega, h4, t9, t11, hc0, hc1, hB⟩
    have hp := hA.pt
    have s5 : S 0 5 = a := ha.symm
    by_cases g1 : c = 102
    · rw [if_pos g1] at hx
      by_cases g2 : 48 ≤ rHr (S 2) (S 0 4) (a + 1) ∧ rHr (S 2) (S 0 4) (a + 1) ≤ 51
      · rw [if_neg (fun h => h g2)] at hx
        have ha2 : a + 1 < S 0 4 := rHr_lt (l := S 2) (by omega)
        have hA2 := (hA.mv (a' := a + 1 + 1) (by omega) (by omega)).up4 (j := B + 1) (v := rHr (S 2) (S 0 4) (a + 1) - 48) (by omega) (by omega) (by omega)
        rw [show a + 1 + 1 = a + 2 by omega] at hA2
        have hsg : ∀ z : QP, q_T (d + 3) iX13_sign [qr m, qi 48, qi 51] (ov m T M) z = z (some (qi (rHr (S 2) (S 0 4) (a + 1)))) (ov m (up T 0 5 (a + 2)) M) := by
          intro z
          obtain ⟨pR, p2, p4, p5, p6, p8, p9⟩ := hp
          rw [tX13_signY hK pR p6 (by omega) (by omega) (by omega) (by omega) (by omega) (by omega) (by rw [p2, p4, p5]; exact g2.1) (by rw [p2, p4, p5]; exact g2.2), p2, p4, p5, show a + 1 + 1 = a + 2 by omega]
        have fin := (cmdS (d := d) hK hA2 (c := c) (f := rHr (S 2) (S 0 4) (a + 1) - 48) (by rw [up_j (by omega), up_k (by omega), q0]) up_s (by rw [up_j (by omega), up_k (by omega), q2]) hh hx).1 g1
        simp (disch := first | assumption | exact RK0 hK | exact RK1a hK | exact RK2a hK | exact RK3a hK | exact RK4a hK | exact RK5a hK | exact RK6a hK | exact RK7a hK | exact RGl hR | exact RGh hR | exact bI_lo | exact bI_hi | exact bI_01 | (show (List.map q_wd _).sum ≤ 8; with_unfolding_all exact Nat.le_of_ble_eq_true rfl) | (refine RK1c hK ?_; omega) | (refine RK2c hK ?_; omega) | (refine RK3c hK ?_; omega) | (refine RK4c hK ?_; omega) | (refine RK5c hK ?_; omega) | (refine RK6c hK ?_; omega) | (refine RK7c hK ?_; omega) | omega) only [kX13_command_54, kX13_command_55i, kX13_command_55r, kX13_command_56, kX13_command_59, kX13_command_60, kX13_command_61, kX13_command_64, kX13_command_65, kX13_command_68, kX13_command_69, kX13_command_70, kX13_command_71, kX13_command_72, kX13_command_75, kX13_command_76, kX13_command_77, kX13_command_78, kX13_command_79, kX13_command_80, kX13_command_81, kX13_command_84, kX13_command_85, kX13_command_86, kX13_command_87, kX13_command_88, kX13_command_89, kX13_command_90, kX13_command_91, kX13_command_94, kX13_command_95, kX13_command_97, kX13_command_100, kX13_command_101, kX13_command_104, kX13_command_105, kX13_command_106, kX13_command_107, kX13_command_108, kX13_command_110, kX13_command_112E, kX13_command_115, kX13_command_117, kX13_command_118, q_cut_i, q_cut_r, q_cut_l, q_cut_n, q_kd_ov, ov_f0, ov_f1, ov_f2, ov_f3, ov_f4, ov_f5, ov_f6, ov_f7, ov_f8, ov_f9, ov_f10, ov_f11, ov_f12, ov_f13, ov_f14, ov_f15, ov_f16, ov_r, ov_w, ov_w1, ov_w2, ov_w4, ov_w5, ov_w6, ov_w7, ov_w9, ov_w11, ov_w13, ov_w16, up_s, up_k, up_j, up_up, q_psh_n, q_psh_s, bI_eq0, ite_not, ↓if_pos, ↓if_neg, ↓ite_bI_t, ↓ite_bI_f, s5]
        rw [← hT]
        simp (disch := first | assumption | exact RK0 hK | exact RK1a hK | exact RK2a hK | exact RK3a hK | exact RK4a hK | exact RK5a hK | exact RK6a hK | exact RK7a hK | exact RGl hR | exact RGh hR | exact bI_lo | exact bI_hi | exact bI_01 | (show (List.map q_wd _).sum ≤ 8; with_unfolding_all exact Nat.le_of_ble_eq_true rfl) | (refine RK1c hK ?_; omega) | (refine RK2c hK ?_; omega) | (refine RK3c hK ?_; omega) | (refine RK4c hK ?_; omega) | (refine RK5c hK ?_; omega) | (refine RK6c hK ?_; omega) | (refine RK7c hK ?_; omega) | omega) only [kX13_command_107, kX13_command_108, kX13_command_110, kX13_command_112E, kX13_command_115, kX13_command_117, kX13_command_118, q_cut_i, q_cut_r, q_cut_l, q_cut_n, q_kd_ov, ov_f0, ov_f1, ov_f2, ov_f3, ov_f4, ov_f5, ov_f6, ov_f7, ov_f8, ov_f9, ov_f10, ov_f11, ov_f12, ov_f13, ov_f14, ov_f15, ov_f16, ov_r, ov_w, ov_w1, ov_w2, ov_w4, ov_w5, ov_w6, ov_w7, ov_w9, ov_w11, ov_w13, ov_w16, up_s, up_k, up_j, up_up, q_psh_n, q_psh_s, bI_eq0, ite_not, ↓if_pos, ↓if_neg, ↓ite_bI_t, ↓ite_bI_f, hsg]
        exact fin
      · rw [if_pos g2] at hx
        have hsg : ∀ z : QP, q_T (d + 3) iX13_sign [qr m, qi 48, qi 51] (ov m T M) z = z (some (qi 0)) (ov m (up T 0 6 (a + 1)) M) := by
          intro z
          obtain ⟨pR, p2, p4, p5, p6, p8, p9⟩ := hp
          rw [tX13_signN hK pR p6 (by omega) (by omega) (by omega) (by omega) (by omega) (by omega) (by rw [p2, p4, p5]; exact g2), p5]
        have fin := (cErrS (d := d) (c := c) hK (rSc_4 (rSc_0 (j := 6) (v := a + 1) hs (by omega) (by omega) (by omega)) (j := B + 1) (v := 0 - 48) (by omega) (by omega) (by omega)) (by rw [up_k (by omega), up_s]) (by omega) (by rw [up_k (by omega), up_j (by omega)]; omega) (by rw [up_k (by omega), up_j (by omega), t11]) ⟨hc0, hc1, hB⟩ hh hx).1
        simp (disch := first | assumption | exact RK0 hK | exact RK1a hK | exact RK2a hK | exact RK3a hK | exact RK4a hK | exact RK5a hK | exact RK6a hK | exact RK7a hK | exact RGl hR | exact RGh hR | exact bI_lo | exact bI_hi | exact bI_01 | (show (List.map q_wd _).sum ≤ 8; with_unfolding_all exact Nat.le_of_ble_eq_true rfl) | (refine RK1c hK ?_; omega) | (refine RK2c hK ?_; omega) | (refine RK3c hK ?_; omega) | (refine RK4c hK ?_; omega) | (refine RK5c hK ?_; omega) | (refine RK6c hK ?_; omega) | (refine RK7c hK ?_; omega) | omega) only [kX13_command_54, kX13_command_55i, kX13_command_55r, kX13_command_56, kX13_command_59, kX13_command_60, kX13_command_61, kX13_command_64, kX13_command_65, kX13_command_68, kX13_command_69, kX13_command_70, kX13_command_71, kX13_command_72, kX13_command_75, kX13_command_76, kX13_command_77, kX13_command_78, kX13_command_79, kX13_command_80, kX13_command_81, kX13_command_84, kX13_command_85, kX13_command_86, kX13_command_87, kX13_command_88, kX13_command_89, kX13_command_90, kX13_command_91, kX13_command_94, kX13_command_95, kX13_command_97, kX13_command_100, kX13_command_101, kX13_command_104, kX13_command_105, kX13_command_106, kX13_command_107, kX13_command_108, kX13_command_110, kX13_command_112E, kX13_command_115, kX13_command_117, kX13_command_118, q_cut_i, q_cut_r, q_cut_l, q_cut_n, q_kd_ov, ov_f0, ov_f1, ov_f2, ov_f3, ov_f4, ov_f5, ov_f6, ov_f7, ov_f8, ov_f9, ov_f10, ov_f11, ov_f12, ov_f13, ov_f14, ov_f15, ov_f16, ov_r, ov_w, ov_w1, ov_w2, ov_w4, ov_w5, ov_w6, ov_w7, ov_w9, ov_w11, ov_w13, ov_w16, up_s, up_k, up_j, up_up, q_psh_n, q_psh_s, bI_eq0, ite_not, ↓if_pos, ↓if_neg, ↓ite_bI_t, ↓ite_bI_f, s5]
        rw [← hT]
        simp (disch := first | assumption | exact RK0 hK | exact RK1a hK | exact RK2a hK | exact RK3a hK | exact RK4a hK | exact RK5a hK | exact RK6a hK | exact RK7a hK | exact RGl hR | exact RGh hR | exact bI_lo | exact bI_hi | exact bI_01 | (show (List.map q_wd _).sum ≤ 8; with_unfolding_all exact Nat.le_of_ble_eq_true rfl) | (refine RK1c hK ?_; omega) | (refine RK2c hK ?_; omega) | (refine RK3c hK ?_; omega) | (refine RK4c hK ?_; omega) | (refine RK5c hK ?_; omega) | (refine RK6c hK ?_; omega) | (refine RK7c hK ?_; omega) | omega) only [kX13_command_107, kX13_command_108, kX13_command_110, kX13_command_112E, kX13_command_115, kX13_command_117, kX13_command_118, q_cut_i, q_cut_r, q_cut_l, q_cut_n, q_kd_ov, ov_f0, ov_f1, ov_f2, ov_f3, ov_f4, ov_f5, ov_f6, ov_f7, ov_f8, ov_f9, ov_f10, ov_f11, ov_f12, ov_f13, ov_f14, ov_f15, ov_f16, ov_r, ov_w, ov_w1, ov_w2, ov_w4, ov_w5, ov_w6, ov_w7, ov_w9, ov_w11, ov_w13, ov_w16, up_s, up_k, up_j, up_up, q_psh_n, q_psh_s, bI_eq0, ite_not, ↓if_pos, ↓if_neg, ↓ite_bI_t, ↓ite_bI_f, hsg]
        exact fin
    · rw [if_neg g1] at hx
      by_cases g2 : 48 ≤ rHr (S 2) (S 0 4) (a + 1) ∧ rHr (S 2) (S 0 4) (a + 1) ≤ 57
      · rw [if_neg (fun h => h g2)] at hx
        have ha2 : a + 1 < S 0 4 := rHr_lt (l := S 2) (by omega)
        have d1 := dRun_a (rHr (S 2) (S 0 4)) 4 (a + 1) 0
        have d2 := dRun_n (l := S 2) (n := S 0 4) 4 (a + 1) 0 (by omega)
        have d3 := dRun_4 (rHr (S 2) (S 0 4)) (a + 1)
        have hA2 := (hA.mv (a' := (dRun (rHr (S 2) (S 0 4)) 4 (a + 1) 0).1) (by omega) d2).up4 (j := B + 1) (v := (dRun (rHr (S 2) (S 0 4)) 4 (a + 1) 0).2) (by omega) (by omega) (by omega)
        have fin := (cmdS (d := d) hK hA2 (c := c) (f := (dRun (rHr (S 2) (S 0 4)) 4 (a + 1) 0).2) (by rw [up_j (by omega), up_k (by omega), q0]) up_s (by rw [up_j (by omega), up_k (by omega), q2]) hh hx).2 g1
        simp (disch := first | assumption | exact RK0 hK | exact RK1a hK | exact RK2a hK | exact RK3a hK | exact RK4a hK | exact RK5a hK | exact RK6a hK | exact RK7a hK | exact RGl hR | exact RGh hR | exact bI_lo | exact bI_hi | exact bI_01 | (show (List.map q_wd _).sum ≤ 8; with_unfolding_all exact Nat.le_of_ble_eq_true rfl) | (refine RK1c hK ?_; omega) | (refine RK2c hK ?_; omega) | (refine RK3c hK ?_; omega) | (refine RK4c hK ?_; omega) | (refine RK5c hK ?_; omega) | (refine RK6c hK ?_; omega) | (refine RK7c hK ?_; omega) | omega) only [kX13_command_54, kX13_command_55i, kX13_command_55r, kX13_command_56, kX13_command_59, kX13_command_60, kX13_command_61, kX13_command_64, kX13_command_65, kX13_command_68, kX13_command_69, kX13_command_70, kX13_command_71, kX13_command_72, kX13_command_75, kX13_command_76, kX13_command_77, kX13_command_78, kX13_command_79, kX13_command_80, kX13_command_81, kX13_command_84, kX13_command_85, kX13_command_86, kX13_command_87, kX13_command_88, kX13_command_89, kX13_command_90, kX13_command_91, kX13_command_94, kX13_command_95, kX13_command_97, kX13_command_100, kX13_command_101, kX13_command_104, kX13_command_105, kX13_command_106, kX13_command_140, kX13_command_141, kX13_command_144, kX13_command_145, q_cut_i, q_cut_r, q_cut_l, q_cut_n, q_kd_ov, ov_f0, ov_f1, ov_f2, ov_f3, ov_f4, ov_f5, ov_f6, ov_f7, ov_f8, ov_f9, ov_f10, ov_f11, ov_f12, ov_f13, ov_f14, ov_f15, ov_f16, ov_r, ov_w, ov_w1, ov_w2, ov_w4, ov_w5, ov_w6, ov_w7, ov_w9, ov_w11, ov_w13, ov_w16, up_s, up_k, up_j, up_up, q_psh_n, q_psh_s, bI_eq0, ite_not, ↓if_pos, ↓if_neg, ↓ite_bI_t, ↓ite_bI_f, s5]
        rw [← hT]
        simp (disch := first | assumption | exact RK0 hK | exact RK1a hK | exact RK2a hK | exact RK3a hK | exact RK4a hK | exact RK5a hK | exact RK6a hK | exact RK7a hK | exact RGl hR | exact RGh hR | exact bI_lo | exact bI_hi | exact bI_01 | (show (List.map q_wd _).sum ≤ 8; with_unfolding_all exact Nat.le_of_ble_eq_true rfl) | (refine RK1c hK ?_; omega) | (refine RK2c hK ?_; omega) | (refine RK3c hK ?_; omega) | (refine RK4c hK ?_; omega) | (refine RK5c hK ?_; omega) | (refine RK6c hK ?_; omega) | (refine RK7c hK ?_; omega) | omega) only [kX13_command_94, kX13_command_95, kX13_command_97, kX13_command_100, kX13_command_101, kX13_command_104, kX13_command_105, kX13_command_106, kX13_command_140, kX13_command_141, kX13_command_144, kX13_command_145, kX13_command_146, kX13_command_147, kX13_command_148E, kX13_command_151, q_cut_i, q_cut_r, q_cut_l, q_cut_n, q_kd_ov, ov_f0, ov_f1, ov_f2, ov_f3, ov_f4, ov_f5, ov_f6, ov_f7, ov_f8, ov_f9, ov_f10, ov_f11, ov_f12, ov_f13, ov_f14, ov_f15, ov_f16, ov_r, ov_w, ov_w1, ov_w2, ov_w4, ov_w5, ov_w6, ov_w7, ov_w9, ov_w11, ov_w13, ov_w16, up_s, up_k, up_j, up_up, q_psh_n, q_psh_s, bI_eq0, ite_not, ↓if_pos, ↓if_neg, ↓ite_bI_t, ↓ite_bI_f, uNumY hK hp]
        exact fin
      · rw [if_pos g2] at hx
        have fin := (cErrS (d := d) (c := c) hK (rSc_4 (rSc_0 (j := 6) (v := a + 1) hs (by omega) (by omega) (by omega)) (j := B + 1) (v := -48) (by omega) (by omega) (by omega)) (by rw [up_k (by omega), up_s]) (by omega) (by rw [up_k (by omega), up_j (by omega)]; omega) (by rw [up_k (by omega), up_j (by omega), t11]) ⟨hc0, hc1, hB⟩ hh hx).2
        simp (disch := first | assumption | exact RK0 hK | exact RK1a hK | exact RK2a hK | exact RK3a hK | exact RK4a hK | exact RK5a hK | exact RK6a hK | exact RK7a hK | exact RGl hR | exact RGh hR | exact bI_lo | exact bI_hi | exact bI_01 | (show (List.map q_wd _).sum ≤ 8; with_unfolding_all exact Nat.le_of_ble_eq_true rfl) | (refine RK1c hK ?_; omega) | (refine RK2c hK ?_; omega) | (refine RK3c hK ?_; omega) | (refine RK4c hK ?_; omega) | (refine RK5c hK ?_; omega) | (refine RK6c hK ?_; omega) | (refine RK7c hK ?_; omega) | omega) only [kX13_command_54, kX13_command_55i, kX13_command_55r, kX13_command_56, kX13_command_59, kX13_command_60, kX13_command_61, kX13_command_64, kX13_command_65, kX13_command_68, kX13_command_69, kX13_command_70, kX13_command_71, kX13_command_72, kX13_command_75, kX13_command_76, kX13_command_77, kX13_command_78, kX13_command_79, kX13_command_80, kX13_command_81, kX13_command_84, kX13_command_85, kX13_command_86, kX13_command_87, kX13_command_88, kX13_command_89, kX13_command_90, kX13_command_91, kX13_command_94, kX13_command_95, kX13_command_97, kX13_command_100, kX13_command_101, kX13_command_104, kX13_command_105, kX13_command_106, kX13_command_140, kX13_command_141, kX13_command_144, kX13_command_145, q_cut_i, q_cut_r, q_cut_l, q_cut_n, q_kd_ov, ov_f0, ov_f1, ov_f2, ov_f3, ov_f4, ov_f5, ov_f6, ov_f7, ov_f8, ov_f9, ov_f10, ov_f11, ov_f12, ov_f13, ov_f14, ov_f15, ov_f16, ov_r, ov_w, ov_w1, ov_w2, ov_w4, ov_w5, ov_w6, ov_w7, ov_w9, ov_w11, ov_w13, ov_w16, up_s, up_k, up_j, up_up, q_psh_n, q_psh_s, bI_eq0, ite_not, ↓if_pos, ↓if_neg, ↓ite_bI_t, ↓ite_bI_f, s5]
        rw [← hT]
        simp (disch := first | assumption | exact RK0 hK | exact RK1a hK | exact RK2a hK | exact RK3a hK | exact RK4a hK | exact RK5a hK | exact RK6a hK | exact RK7a hK | exact RGl hR | exact RGh hR | exact bI_lo | exact bI_hi | exact bI_01 | (show (List.map q_wd _).sum ≤ 8; with_unfolding_all exact Nat.le_of_ble_eq_true rfl) | (refine RK1c hK ?_; omega) | (refine RK2c hK ?_; omega) | (refine RK3c hK ?_; omega) | (refine RK4c hK ?_; omega) | (refine RK5c hK ?_; omega) | (refine RK6c hK ?_; omega) | (refine RK7c hK ?_; omega) | omega) only [kX13_command_94, kX13_command_95, kX13_command_97, kX13_command_100, kX13_command_101, kX13_command_104, kX13_command_105, kX13_command_106, kX13_command_140, kX13_command_141, kX13_command_144, kX13_command_145, kX13_command_146, kX13_command_147, kX13_command_148E, kX13_command_151, q_cut_i, q_cut_r, q_cut_l, q_cut_n, q_kd_ov, ov_f0, ov_f1, ov_f2, ov_f3, ov_f4, ov_f5, ov_f6, ov_f7, ov_f8, ov_f9, ov_f10, ov_f11, ov_f12, ov_f13, ov_f14, ov_f15, ov_f16, ov_r, ov_w, ov_w1, ov_w2, ov_w4, ov_w5, ov_w6, ov_w7, ov_w9, ov_w11, ov_w13, ov_w16, up_s, up_k, up_j, up_up, q_psh_n, q_psh_s, bI_eq0, ite_not, ↓if_pos, ↓if_neg, ↓ite_bI_t, ↓ite_bI_f, uNumN hK hp]
        exact fin
  · rw [if_pos g] at hx
    have hF := fun z : QP => tX13_failsN (d := d + 2) (x := z) hK hR h6
    simp (disch := first | assumption | exact RK0 hK | exact RK1a hK | exact RK2a hK | exact RK3a hK | exact RK4a hK | exact RK5a hK | exact RK6a hK | exact RK7a hK | exact RGl hR | exact RGh hR | exact bI_lo | exact bI_hi | exact bI_01 | (show (List.map q_wd _).sum ≤ 8; with_unfolding_all exact Nat.le_of_ble_eq_true rfl) | (refine RK1c hK ?_; omega) | (refine RK2c hK ?_; omega) | (refine RK3c hK ?_; omega) | (refine RK4c hK ?_; omega) | (refine RK5c hK ?_; omega) | (refine RK6c hK ?_; omega) | (refine RK7c hK ?_; omega) | omega) only [kX13_command_0, kX13_command_2, kX13_command_3, kX13_command_6, kX13_command_7, kX13_command_8, kX13_command_9E, kX13_command_12, kX13_command_13, kX13_command_14, kX13_command_16, kX13_command_19, kX13_command_20, kX13_command_22, kX13_command_25, kX13_command_26, kX13_command_28, kX13_command_31, kX13_command_32, kX13_command_34, kX13_command_37, kX13_command_38, kX13_command_40, kX13_command_43, kX13_command_44, kX13_command_46, kX13_command_49, kX13_command_50E, kX13_command_53, q_cut_i, q_cut_r, q_cut_l, q_cut_n, q_kd_ov, ov_f0, ov_f1, ov_f2, ov_f3, ov_f4, ov_f5, ov_f6, ov_f7, ov_f8, ov_f9, ov_f10, ov_f11, ov_f12, ov_f13, ov_f14, ov_f15, ov_f16, ov_r, ov_w, ov_w1, ov_w2, ov_w4, ov_w5, ov_w6, ov_w7, ov_w9, ov_w11, ov_w13, ov_w16, up_s, up_k, up_j, up_up, q_psh_n, q_psh_s, bI_eq0, ite_not, ↓if_pos, ↓if_neg, ↓ite_bI_t, ↓ite_bI_f, hhere, h11, hF]
    rw [← ha]
    exact hx _ (rSc_0 (rSc.rf hR) (by omega) (by omega) (by omega)) up_s
/-- a command's word put back -/
def rDn (S : RS) (B : Int) : Nat → RS
  | 0 => S
  | i + 1 => up (rDn S B i) 3 i (S 4 (B + 5 + i))
theorem rDn_k {S : RS} {B : Int} {k : Nat} (h : k ≠ 3) : ∀ i : Nat, rDn S B i k = S k
  | 0 => rfl
  | i + 1 => by rw [rDn, up_k h, rDn_k h i]
theorem rDn_i {S : RS} {B : Int} {t : Nat} : ∀ i : Nat, t < i → rDn S B i 3 t = S 4 (B + 5 + t)
  | 0, h => by omega
  | i + 1, h => by
    rw [rDn]
    by_cases e : t = i
    · rw [e, up_s]
    · rw [up_j (by omega), rDn_i i (by omega)]
theorem RG_rDn {S : RS} (hR : RG S) {B : Int} : ∀ i : Nat, RG (rDn S B i)
  | 0 => hR
  | i + 1 => RG_up (RG_rDn hR i) (hR 4 _).1 (hR 4 _).2
def rDw (S : RS) (B : Int) : RS := rDn (up S 0 9 (S 4 (B + 4))) B (S 4 (B + 4)).toNat
theorem rDw_k {S : RS} {B : Int} {k : Nat} (h : k ≠ 3) (h0 : k ≠ 0) : rDw S B k = S k := by
  unfold rDw
  rw [rDn_k h, up_k h0]
theorem rDw_0 {S : RS} {B j : Int} (h : j ≠ 9) : rDw S B 0 j = S 0 j := by
  unfold rDw
  rw [rDn_k (by omega), up_j h]
theorem rDw_9 {S : RS} {B : Int} : rDw S B 0 9 = S 4 (B + 4) := by
  unfold rDw
  rw [rDn_k (by omega), up_s]
theorem rDw_3 {S : RS} {B : Int} {t : Nat} (h : (t : Int) < S 4 (B + 4)) : rDw S B 3 t = S 4 (B + 5 + t) := by
  unfold rDw
  rw [rDn_i _ (by omega), up_k (by omega)]
theorem RG_rDw {S : RS} (hR : RG S) {B : Int} : RG (rDw S B) := RG_rDn (RG_up hR (hR 4 _).1 (hR 4 _).2) _
theorem doesW {d m : Nat} {S : RS} {M : QM} {x : QP} (hK : RK m M) (hR : RG S) {B : Int} {w : Nat} (hB : 0 ≤ B ∧ B < 1027) (hw : S 4 (B + 4) = w) (hw2 : w ≤ 8) : q_T (d + 1) iX13_does [qr m, qi B] (ov m S M) x = Rr (q_C d) mX13_does (82, [some (qr m), some (qi B), some (qi (S 4 (B + 1))), some (qi (S 4 (B + 2))), some (qi (S 4 (B + 3))), some (qi w)], [qi (S 4 B)], ov m (rDw S B) M) x := by
  have ew : rDw S B = rDn (up S 0 9 w) B w := by unfold rDw; rw [hw]; rfl
  rw [ew]
  obtain ⟨T, hT⟩ : ∃ T, T = up S 0 9 w := ⟨_, rfl⟩
  have t4 : T 4 = S 4 := by rw [hT, up_k (by omega)]
  have t9 : T 0 9 = w := by rw [hT, up_s]
  have loop : ∀ n1 k : Nat, k + n1 = w → Rr (q_C d) mX13_does (43, [some (qr m), some (qi B), some (qi (S 4 (B + 1))), some (qi (S 4 (B + 2))), some (qi (S 4 (B + 3))), some (qi k)], [], ov m (rDn T B k) M) x = Rr (q_C d) mX13_does (82, [some (qr m), some (qi B), some (qi (S 4 (B + 1))), some (qi (S 4 (B + 2))), some (qi (S 4 (B + 3))), some (qi w)], [qi (S 4 B)], ov m (rDn T B w) M) x := by
    intro n1
    induction n1 with
    | zero =>
      intro k hk
      have e : k = w := by omega
      subst e
      have k0 : rDn T B k 0 = T 0 := rDn_k (by omega) k
      have k4 : rDn T B k 4 = S 4 := by rw [rDn_k (by omega) k, t4]
      rw [kX13_does_43]
      simp (disch := first | assumption | exact RK0 hK | exact RK1a hK | exact RK2a hK | exact RK3a hK | exact RK4a hK | exact RK5a hK | exact RK6a hK | exact RK7a hK | exact RGl hR | exact RGh hR | exact bI_lo | exact bI_hi | exact bI_01 | (show (List.map q_wd _).sum ≤ 8; with_unfolding_all exact Nat.le_of_ble_eq_true rfl) | (refine RK1c hK ?_; omega) | (refine RK2c hK ?_; omega) | (refine RK3c hK ?_; omega) | (refine RK4c hK ?_; omega) | (refine RK5c hK ?_; omega) | (refine RK6c hK ?_; omega) | (refine RK7c hK ?_; omega) | omega) only [kX13_does_45, kX13_does_46, kX13_does_49, kX13_does_52, kX13_does_53, kX13_does_56, kX13_does_58, kX13_does_59, kX13_does_62, kX13_does_63, kX13_does_64, kX13_does_65, kX13_does_67, kX13_does_68, kX13_does_69, kX13_does_70, kX13_does_73, kX13_does_76, kX13_does_77, kX13_does_80, kX13_does_81, q_cut_i, q_cut_r, q_cut_l, q_cut_n, q_kd_ov, ov_f0, ov_f1, ov_f2, ov_f3, ov_f4, ov_f5, ov_f6, ov_f7, ov_f8, ov_f9, ov_f10, ov_f11, ov_f12, ov_f13, ov_f14, ov_f15, ov_f16, ov_r, ov_w, ov_w1, ov_w2, ov_w4, ov_w5, ov_w6, ov_w7, ov_w9, ov_w11, ov_w13, ov_w16, up_s, up_k, up_j, up_up, q_psh_n, q_psh_s, bI_eq0, ite_not, ↓if_pos, ↓if_neg, ↓ite_bI_t, ↓ite_bI_f, k0, t9, k4]
    | succ n1 ih =>
      intro k hk
      have ih' := ih (k + 1) (by omega)
      have k0 : rDn T B k 0 = T 0 := rDn_k (by omega) k
      have k4 : rDn T B k 4 = S 4 := by rw [rDn_k (by omega) k, t4]
      rw [rDn, t4] at ih'
      rw [kX13_does_43]
      simp (disch := first | assumption | exact RK0 hK | exact RK1a hK | exact RK2a hK | exact RK3a hK | exact RK4a hK | exact RK5a hK | exact RK6a hK | exact RK7a hK | exact RGl hR | exact RGh hR | exact bI_lo | exact bI_hi | exact bI_01 | (show (List.map q_wd _).sum ≤ 8; with_unfolding_all exact Nat.le_of_ble_eq_true rfl) | (refine RK1c hK ?_; omega) | (refine RK2c hK ?_; omega) | (refine RK3c hK ?_; omega) | (refine RK4c hK ?_; omega) | (refine RK5c hK ?_; omega) | (refine RK6c hK ?_; omega) | (refine RK7c hK ?_; omega) | omega) only [kX13_does_45, kX13_does_46, kX13_does_49, kX13_does_52, kX13_does_53, kX13_does_56, kX13_does_58, kX13_does_59, kX13_does_62, kX13_does_63, kX13_does_64, kX13_does_65, kX13_does_67, kX13_does_68, kX13_does_69, kX13_does_70, kX13_does_73, q_cut_i, q_cut_r, q_cut_l, q_cut_n, q_kd_ov, ov_f0, ov_f1, ov_f2, ov_f3, ov_f4, ov_f5, ov_f6, ov_f7, ov_f8, ov_f9, ov_f10, ov_f11, ov_f12, ov_f13, ov_f14, ov_f15, ov_f16, ov_r, ov_w, ov_w1, ov_w2, ov_w4, ov_w5, ov_w6, ov_w7, ov_w9, ov_w11, ov_w13, ov_w16, up_s, up_k, up_j, up_up, q_psh_n, q_psh_s, bI_eq0, ite_not, ↓if_pos, ↓if_neg, ↓ite_bI_t, ↓ite_bI_f, k0, t9, k4]
      exact ih'
  rw [eX13_does]
  simp (disch := first | assumption | exact RK0 hK | exact RK1a hK | exact RK2a hK | exact RK3a hK | exact RK4a hK | exact RK5a hK | exact RK6a hK | exact RK7a hK | exact RGl hR | exact RGh hR | exact bI_lo | exact bI_hi | exact bI_01 | (show (List.map q_wd _).sum ≤ 8; with_unfolding_all exact Nat.le_of_ble_eq_true rfl) | (refine RK1c hK ?_; omega) | (refine RK2c hK ?_; omega) | (refine RK3c hK ?_; omega) | (refine RK4c hK ?_; omega) | (refine RK5c hK ?_; omega) | (refine RK6c hK ?_; omega) | (refine RK7c hK ?_; omega) | omega) only [kX13_does_0, kX13_does_1, kX13_does_4, kX13_does_5, kX13_does_6, kX13_does_7, kX13_does_8, kX13_does_9, kX13_does_10, kX13_does_13, kX13_does_14, kX13_does_15, kX13_does_16, kX13_does_17, kX13_does_18, kX13_does_19, kX13_does_22, kX13_does_23, kX13_does_24, kX13_does_25, kX13_does_26, kX13_does_28, kX13_does_29, kX13_does_30, kX13_does_33, kX13_does_34, kX13_does_35, kX13_does_36, kX13_does_37, kX13_does_40, kX13_does_41, q_cut_i, q_cut_r, q_cut_l, q_cut_n, q_kd_ov, ov_f0, ov_f1, ov_f2, ov_f3, ov_f4, ov_f5, ov_f6, ov_f7, ov_f8, ov_f9, ov_f10, ov_f11, ov_f12, ov_f13, ov_f14, ov_f15, ov_f16, ov_r, ov_w, ov_w1, ov_w2, ov_w4, ov_w5, ov_w6, ov_w7, ov_w9, ov_w11, ov_w13, ov_w16, up_s, up_k, up_j, up_up, q_psh_n, q_psh_s, bI_eq0, ite_not, ↓if_pos, ↓if_neg, ↓ite_bI_t, ↓ite_bI_f, hw]
  rw [← hT]
  exact loop w 0 (by omega)
