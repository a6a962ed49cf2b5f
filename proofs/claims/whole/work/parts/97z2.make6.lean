
/-! what is made: the register's making runs -/
theorem kxx {A A' : QM} {t a b n : Nat} {kd : Nat × Nat} (h : MKF t A A' a b) (hk : q_kd A n = kd) (hn : kd ≠ (0, 0)) (hw : q_wf A) : q_kd A' n = kd := by rw [h.kd (hw.lt (by rw [hk]; exact hn)), hk]
theorem vS_end {A : QM} {t : Nat} (hw : q_wf A) (kt : q_kd A t = (1, 12)) : ∃ A9, MKF t A A9 2 26 ∧ q_wr (q_wr (q_al (q_wr (q_wr (q_wr (q_al (q_wr A t 8 (qi 0)) (2, 6) 6 (fun _ => qi 0)) t 9 (qr (q_top A))) t 10 (qi 0)) t 11 (qi (-5))) (2, 20) 20 (fun _ => qi 0)) t 12 (qr (q_top A + 1))) t 13 (qi 0) = A9 ∧ (∀ j, j < 8 → q_fv A9 t j = q_fv A t j) ∧ (q_fv A9 t 8 = qi 0 ∧ q_fv A9 t 9 = qr (q_top A) ∧ q_fv A9 t 10 = qi 0 ∧ q_fv A9 t 11 = qi (-5) ∧ q_fv A9 t 12 = qr (q_top A + 1) ∧ q_fv A9 t 13 = qi 0) ∧ (q_kd A9 (q_top A) = (2, 6) ∧ ∀ i, q_fv A9 (q_top A) i = qi 0) ∧ (q_kd A9 (q_top A + 1) = (2, 20) ∧ ∀ i, q_fv A9 (q_top A + 1) i = qi 0) := by
  have ht := hw.lt (a := t) (by rw [kt]; simp)
  obtain ⟨A9, hA9⟩ : ∃ A9, q_wr (q_wr (q_al (q_wr (q_wr (q_wr (q_al (q_wr A t 8 (qi 0)) (2, 6) 6 (fun _ => qi 0)) t 9 (qr (q_top A))) t 10 (qi 0)) t 11 (qi (-5))) (2, 20) 20 (fun _ => qi 0)) t 12 (qr (q_top A + 1))) t 13 (qi 0) = A9 := ⟨_, rfl⟩
  refine ⟨A9, ?_, hA9, fun j hj => ?_, ?_, ⟨?_, fun i => ?_⟩, ⟨?_, fun i => ?_⟩⟩
  · rw [← hA9]; exact ((MKF.rf hw).wr.al.wr.wr.wr.al.wr.wr).cg (by omega) (by omega)
  · rw [← hA9]
    refine q_fwo (by omega) (q_fwo (by omega) (fval (by simp only [q_top_wr, q_top_al]; omega) (q_fwo (by omega) (q_fwo (by omega) (q_fwo (by omega) (fval (by simp only [q_top_wr]; omega) (q_fwo (by omega) rfl)))))))
  · rw [← hA9]
    refine ⟨?_, ?_, ?_, ?_, ?_, ?_⟩
    · refine q_fwo (by decide) (q_fwo (by decide) (fval (by simp only [q_top_wr, q_top_al]; omega) (q_fwo (by decide) (q_fwo (by decide) (q_fwo (by decide) (fval (by simp only [q_top_wr]; omega) q_fws))))))
    · refine q_fwo (by decide) (q_fwo (by decide) (fval (by simp only [q_top_wr, q_top_al]; omega) (q_fwo (by decide) (q_fwo (by decide) q_fws))))
    · refine q_fwo (by decide) (q_fwo (by decide) (fval (by simp only [q_top_wr, q_top_al]; omega) (q_fwo (by decide) q_fws)))
    · refine q_fwo (by decide) (q_fwo (by decide) (fval (by simp only [q_top_wr, q_top_al]; omega) q_fws))
    · exact q_fwo (by decide) q_fws
    · exact q_fws
  · rw [← hA9]
    have e : q_top A = q_top (q_wr A t 8 (qi 0)) := by rw [q_top_wr]
    exact kdw (kdw (kdal (kdw (kdw (kdw (kdt e)))) (by simp only [q_top_wr, q_top_al]; omega)))
  · rw [← hA9]
    have e : q_top A = q_top (q_wr A t 8 (qi 0)) := by rw [q_top_wr]
    refine fvo (by omega) (fvo (by omega) (fval (by simp only [q_top_wr, q_top_al]; omega) (fvo (by omega) (fvo (by omega) (fvo (by omega) (fvt e))))))
  · rw [← hA9]
    have e : q_top A + 1 = q_top (q_wr (q_wr (q_wr (q_al (q_wr A t 8 (qi 0)) (2, 6) 6 (fun _ => qi 0)) t 9 (qr (q_top A))) t 10 (qi 0)) t 11 (qi (-5))) := by simp only [q_top_wr, q_top_al]
    exact kdw (kdw (kdt e))
  · rw [← hA9]
    have e : q_top A + 1 = q_top (q_wr (q_wr (q_wr (q_al (q_wr A t 8 (qi 0)) (2, 6) 6 (fun _ => qi 0)) t 9 (qr (q_top A))) t 10 (qi 0)) t 11 (qi (-5))) := by simp only [q_top_wr, q_top_al]
    exact fvo (by omega) (fvo (by omega) (fvt e))
section MK6
variable {M : QM} {t d : Nat}
theorem vX12_init (hk : q_kd M t = (1, 12)) (hw : q_wf M) (h9 : q_kd M (q_gs M 0) = (9, 0)) : ∃ Mf, q_C (d + 5) iX12_init [qr t] M none Mf ∧ CRI Mf (gI0 t (q_top M)) (fun _ => 4) (fun _ => 4) (fun _ => 8) (q_gs M 0) 0 [] (q_gs M 0) 0 [] (C0 (fun _ => W00)) [] [] [] 0 (-5) 0 ∧ TP Mf (q_top M) (q_top M + 1) [] ∧ RD Mf (q_top M + 2) (q_top M + 3) 0 0 0 ∧ JR Mf (q_top M + 3) (q_gs M 0) 0 [] [] ∧ SPm Mf (q_top M + 232) (q_top M + 233) (fun _ => 0) ∧ TL Mf (q_top M + 234) (q_top M + 235) (q_top M + 236) 4 [] ∧ SBm Mf (q_top M + 237) (q_top M + 238) 16 [] ∧ HT Mf (gI0 t (q_top M)) [] ∧ MKF t M Mf 243 2374 := by
  have ht := hw.lt (a := t) (by rw [hk]; simp)
  have gl : q_gs M 0 < q_top M := hw.lt (by rw [h9]; simp)
  obtain ⟨T, hT⟩ : ∃ T, T = q_top M := ⟨_, rfl⟩
  obtain ⟨G, hG⟩ : ∃ G, G = q_gs M 0 := ⟨_, rfl⟩
  rw [← hT] at gl ht ⊢
  rw [← hG] at gl h9 ⊢
  obtain ⟨B1, D1, A1, b1, r1, a1, kb1, kd1, m1, f1, n1, x1⟩ := vS_X8 (d := d) (t := t) hw hk
  have p1 : q_top A1 = T + 2 := by rw [m1.2.2.1, hT]
  have g1 : q_gs A1 0 = G := by rw [m1.1.2.1, hG]
  rw [← hT] at r1 a1 f1 x1
  obtain ⟨B2, D2, A2, b2, r2, a2, kb2, kd2, m2, f2, n2, x2, y2⟩ := vS_X5 (d := d) (t := t) m1.2.1 (kxx m1 hk (by simp) hw) (by rw [g1]; exact kxx m1 h9 (by simp) hw)
  have p2 : q_top A2 = T + 4 := by rw [m2.2.2.1, p1]
  have g2 : q_gs A2 0 = G := by rw [m2.1.2.1, g1]
  rw [p1] at r2 a2 f2 x2 y2
  rw [g1] at y2
  have m02 := (m1.tr m2).cg (k' := 4) (s' := 89) (by omega) (by omega)
  obtain ⟨B3, D3, A3, b3, r3, a3, kb3, kd3, m3, f3, n3, W3, FL3, PK3, PP3⟩ := vS_X11 (d := d) (t := t) m2.2.1 (kxx m02 hk (by simp) hw)
  have p3 : q_top A3 = T + 232 := by rw [m3.2.2.1, p2]
  have g3 : q_gs A3 0 = G := by rw [m3.1.2.1, g2]
  rw [p2] at r3 a3 f3 W3 FL3 PK3 PP3
  have m03 := (m02.tr m3).cg (k' := 232) (s' := 2301) (by omega) (by omega)
  obtain ⟨B4, D4, A4, b4, r4, a4, kb4, kd4, m4, f4, n4, x4⟩ := vS_X7 (d := d) (t := t) m3.2.1 (kxx m03 hk (by simp) hw)
  have p4 : q_top A4 = T + 234 := by rw [m4.2.2.1, p3]
  have g4 : q_gs A4 0 = G := by rw [m4.1.2.1, g3]
  rw [p3] at r4 a4 f4 x4
  have m04 := (m03.tr m4).cg (k' := 234) (s' := 2311) (by omega) (by omega)
  obtain ⟨B5, D5, A5, b5, r5, a5, kb5, kd5, m5, f5, n5, x5⟩ := vS_X9 (d := d) (t := t) m4.2.1 (kxx m04 hk (by simp) hw)
  have p5 : q_top A5 = T + 237 := by rw [m5.2.2.1, p4]
  have g5 : q_gs A5 0 = G := by rw [m5.1.2.1, g4]
  rw [p4] at r5 a5 f5 x5
  have m05 := (m04.tr m5).cg (k' := 237) (s' := 2322) (by omega) (by omega)
  obtain ⟨B6, D6, A6, b6, r6, a6, kb6, kd6, m6, f6, n6, x6⟩ := vS_J4 (d := d) (t := t) m5.2.1 (kxx m05 hk (by simp) hw)
  have p6 : q_top A6 = T + 239 := by rw [m6.2.2.1, p5]
  have g6 : q_gs A6 0 = G := by rw [m6.1.2.1, g5]
  rw [p5] at r6 a6 f6 x6
  have m06 := (m05.tr m6).cg (k' := 239) (s' := 2342) (by omega) (by omega)
  obtain ⟨B7, D7, A7, b7, r7, a7, kb7, kd7, m7, f7, n7, x7⟩ := vS_A6 (d := d) (t := t) m6.2.1 (kxx m06 hk (by simp) hw) (by rw [g6]; exact kxx m06 h9 (by simp) hw)
  have p7 : q_top A7 = T + 240 := by rw [m7.2.2.1, p6]
  have g7 : q_gs A7 0 = G := by rw [m7.1.2.1, g6]
  rw [p6] at r7 a7 f7 x7
  rw [g6] at x7
  have m07 := (m06.tr m7).cg (k' := 240) (s' := 2345) (by omega) (by omega)
  obtain ⟨B8, D8, A8, b8, r8, a8, kb8, kd8, m8, f8, n8, x8⟩ := vS_A7 (d := d) (t := t) m7.2.1 (kxx m07 hk (by simp) hw) (by rw [g7]; exact kxx m07 h9 (by simp) hw)
  have p8 : q_top A8 = T + 241 := by rw [m8.2.2.1, p7]
  have g8 : q_gs A8 0 = G := by rw [m8.1.2.1, g7]
  rw [p7] at r8 a8 f8 x8
  rw [g7] at x8
  have m08 := (m07.tr m8).cg (k' := 241) (s' := 2348) (by omega) (by omega)
  have k8 : q_kd A8 t = (1, 12) := kxx m08 hk (by simp) hw
  obtain ⟨A9, st9, e9, w9, v9, kM, kH⟩ := vS_end (A := A8) (t := t) m8.2.1 k8
  rw [p8] at e9 v9 kM kH
  have g9 : q_gs A9 0 = G := by rw [st9.1.2.1, g8]
  have m09 : MKF t M A9 243 2374 := (m08.tr st9).cg (by omega) (by omega)
  -- from each on
  have e8 := st9
  have e7 := m8.tr e8
  have e6 := m7.tr e7
  have e5 := m6.tr e6
  have e4 := m5.tr e5
  have e3 := m4.tr e4
  have e2 := m3.tr e3
  have e1 := m2.tr e2
  have F1 : q_fv A9 t 0 = qr T := by rw [w9 0 (by decide), n8 0 (by decide), n7 0 (by decide), n6 0 (by decide), n5 0 (by decide), n4 0 (by decide), n3 0 (by decide), n2 0 (by decide), f1]
  have F2 : q_fv A9 t 1 = qr (T + 2) := by rw [w9 1 (by decide), n8 1 (by decide), n7 1 (by decide), n6 1 (by decide), n5 1 (by decide), n4 1 (by decide), n3 1 (by decide), f2]
  have F3 : q_fv A9 t 2 = qr (T + 4) := by rw [w9 2 (by decide), n8 2 (by decide), n7 2 (by decide), n6 2 (by decide), n5 2 (by decide), n4 2 (by decide), f3]
  have F4 : q_fv A9 t 3 = qr (T + 232) := by rw [w9 3 (by decide), n8 3 (by decide), n7 3 (by decide), n6 3 (by decide), n5 3 (by decide), f4]
  have F5 : q_fv A9 t 4 = qr (T + 234) := by rw [w9 4 (by decide), n8 4 (by decide), n7 4 (by decide), n6 4 (by decide), f5]
  have F6 : q_fv A9 t 5 = qr (T + 237) := by rw [w9 5 (by decide), n8 5 (by decide), n7 5 (by decide), f6]
  have F7 : q_fv A9 t 6 = qr (T + 239) := by rw [w9 6 (by decide), n8 6 (by decide), f7]
  have F8 : q_fv A9 t 7 = qr (T + 240) := by rw [w9 7 (by decide), f8]
  have t1 : ¬ T = t := by omega
  have X1 : TP A9 T (T + 1) [] := TP_fr m1.2.1 x1 e1.1 t1 (by omega)
  have X2 : RD A9 (T + 2) (T + 3) 0 0 0 := RD.fr m2.2.1 x2 e2.1 (by omega)
  have jr : ∀ {A : QM} {a k s : Nat}, q_wf A → q_kd A t = (1, 12) → JR A a G 0 [] [] → MKF t A A9 k s → ¬ a = t → JR A9 a G 0 [] [] := fun w kk J m ha => JR_fr w J m.1 ha (fun hc => absurd hc (by omega)) (fun b hb z => by rw [z, kk] at hb; simp at hb)
  have Y2 : JR A9 (T + 3) G 0 [] [] := jr m2.2.1 (kxx m02 hk (by simp) hw) y2 e2 (by omega)
  have X4 : SPm A9 (T + 232) (T + 233) (fun _ => 0) := SPm_fr m4.2.1 x4 e4.1 (by omega) (by omega)
  have X5 : TL A9 (T + 234) (T + 235) (T + 236) 4 [] := TL_fr m5.2.1 x5 e5.1 (by omega) (by omega) (by omega)
  have X6 : SBm A9 (T + 237) (T + 238) 16 [] := SBm_fr m6.2.1 x6 e6.1 (by omega) (by omega)
  have X7 : JR A9 (T + 239) G 0 [] [] := jr m7.2.1 (kxx m07 hk (by simp) hw) x7 e7 (by omega)
  have X8 : JR A9 (T + 240) G 0 [] [] := jr m8.2.1 k8 x8 e8 (by omega)
  have sm3 : ∀ b, T + 4 ≤ b → b < T + 232 → Sm A3 A9 b := fun b h1 h2 => e3.sm (by rw [p3]; exact h2) (by omega)
  have s4 := sm3 (T + 4) (by omega) (by omega)
  have s11 := sm3 (T + 11) (by omega) (by omega)
  obtain ⟨W1, W2, W4, W5, W6, W7⟩ := W3
  have hE := vX12_asm (A := A9) (t := t) (T := T) (by rw [m09.2.2.1, hT]) ht m09.2.1 (by rw [g9]; exact kxx m09 (hG ▸ h9) (by simp) hw) (kxx m09 hk (by simp) hw) F1 F2 F3 F4 F5 F6 F7 F8 v9 X1 X2 (by rw [g9]; exact Y2) X4 X5 X6 (by rw [g9]; exact X7) (by rw [g9]; exact X8) ⟨by rw [s4.1, W1], by rw [s4.2, W2], by rw [s4.2, W4], by rw [s4.2, W5], by rw [s4.2, W6], by rw [s4.2, W7]⟩
    (fun g c q1 q2 q3 q4 => by
      obtain ⟨z1, z2, z3, z4, z5, z6, z7, z8, z9, z10, z11, z12⟩ := FL3 g c (by rw [q1]) (fun k hk => by rw [q2 k hk]) (by rw [q3]) q4
      have s18 : Sm A3 A9 (g 18) := sm3 _ (by omega) (by omega)
      have s23 : Sm A3 A9 (g 23) := sm3 _ (by omega) (by omega)
      have s19 : ∀ k, k < 4 → Sm A3 A9 (g (19 + k)) := fun k hk => by rw [q2 k hk]; exact sm3 _ (by omega) (by omega)
      refine ⟨by rw [s18.1, z1], by rw [s18.2, z2], by rw [s18.2, z3], by rw [s18.2, z4], by rw [s23.1, z5], z6, fun k hk => ?_, fun k hk i q hq => by simp at hq, fun i hi => by rw [s23.2]; exact z9 i hi, fun i v hv => by simp at hv, fun v hv => by simp at hv, fun q hq => by simp at hq⟩
      obtain ⟨y1, y2, y3, y4, y5, y6⟩ := z7 k hk
      exact ⟨by rw [s18.2, y1], by rw [(s19 k hk).1, y2], y3, y4, y5, fun i hi => by rw [(s19 k hk).2]; exact y6 i hi⟩)
    (by rw [s11.1]; exact PK3)
    (fun i hi => by
      obtain ⟨q1, q2⟩ := PP3 i hi
      exact ⟨by rw [s11.2]; exact q1, fun a ha => PLr_sm (q2 a ha) (fun k hk => sm3 _ (by rw [ha k hk]; omega) (by rw [ha k hk]; omega)) (fun _ _ => rfl)⟩)
    kM kH
  rw [g9] at hE
  refine ⟨A9, C_of (fun P => ?_), hE.1, X1, X2, Y2, X4, X5, X6, hE.2, m09⟩
  have kk : ∀ (A : QM) (k s : Nat), MKF t M A k s → q_kd A t = (1, 12) := fun A k s h => kxx h hk (by simp) hw
  have k1 := kk A1 _ _ m1
  have k2 := kk A2 _ _ m02
  have k3 := kk A3 _ _ m03
  have k4 := kk A4 _ _ m04
  have k5 := kk A5 _ _ m05
  have k6 := kk A6 _ _ m06
  have k7 := kk A7 _ _ m07
  rw [eX12_init]
  simp (disch := first | assumption | exact bI_lo | exact bI_hi | exact bI_01 | (show (List.map q_wd _).sum ≤ 8; with_unfolding_all exact Nat.le_of_ble_eq_true rfl) | omega | (repeat' (first | assumption | refine kdw ?_ | refine kdal ?_ ?_ | ((try simp only [q_top_wr, q_top_al]); omega)))) only [kX12_init_0, kX12_init_1, kX12_init_4, kX12_init_5, kX12_init_8i, kX12_init_8r, kX12_init_9E, kX12_init_12, q_cut_i, q_cut_r, q_cut_l, q_cut_n, q_psh_n, q_psh_s, bI_eq0, ite_not, b1, ← hT, T_of r1, a1]
  simp (disch := first | assumption | exact bI_lo | exact bI_hi | exact bI_01 | (show (List.map q_wd _).sum ≤ 8; with_unfolding_all exact Nat.le_of_ble_eq_true rfl) | omega | (repeat' (first | assumption | refine kdw ?_ | refine kdal ?_ ?_ | ((try simp only [q_top_wr, q_top_al]); omega)))) only [kX12_init_15, kX12_init_16, kX12_init_19i, kX12_init_19r, kX12_init_20E, kX12_init_23, q_cut_i, q_cut_r, q_cut_l, q_cut_n, q_psh_n, q_psh_s, bI_eq0, ite_not, b2, p1, T_of r2, a2]
  simp (disch := first | assumption | exact bI_lo | exact bI_hi | exact bI_01 | (show (List.map q_wd _).sum ≤ 8; with_unfolding_all exact Nat.le_of_ble_eq_true rfl) | omega | (repeat' (first | assumption | refine kdw ?_ | refine kdal ?_ ?_ | ((try simp only [q_top_wr, q_top_al]); omega)))) only [kX12_init_26, kX12_init_27, kX12_init_30i, kX12_init_30r, kX12_init_31E, kX12_init_34, q_cut_i, q_cut_r, q_cut_l, q_cut_n, q_psh_n, q_psh_s, bI_eq0, ite_not, b3, p2, T_of r3, a3]
  simp (disch := first | assumption | exact bI_lo | exact bI_hi | exact bI_01 | (show (List.map q_wd _).sum ≤ 8; with_unfolding_all exact Nat.le_of_ble_eq_true rfl) | omega | (repeat' (first | assumption | refine kdw ?_ | refine kdal ?_ ?_ | ((try simp only [q_top_wr, q_top_al]); omega)))) only [kX12_init_37, kX12_init_38, kX12_init_41i, kX12_init_41r, kX12_init_42E, kX12_init_45, q_cut_i, q_cut_r, q_cut_l, q_cut_n, q_psh_n, q_psh_s, bI_eq0, ite_not, b4, p3, T_of r4, a4]
  simp (disch := first | assumption | exact bI_lo | exact bI_hi | exact bI_01 | (show (List.map q_wd _).sum ≤ 8; with_unfolding_all exact Nat.le_of_ble_eq_true rfl) | omega | (repeat' (first | assumption | refine kdw ?_ | refine kdal ?_ ?_ | ((try simp only [q_top_wr, q_top_al]); omega)))) only [kX12_init_48, kX12_init_49, kX12_init_52i, kX12_init_52r, kX12_init_53E, kX12_init_56, q_cut_i, q_cut_r, q_cut_l, q_cut_n, q_psh_n, q_psh_s, bI_eq0, ite_not, b5, p4, T_of r5, a5]
  simp (disch := first | assumption | exact bI_lo | exact bI_hi | exact bI_01 | (show (List.map q_wd _).sum ≤ 8; with_unfolding_all exact Nat.le_of_ble_eq_true rfl) | omega | (repeat' (first | assumption | refine kdw ?_ | refine kdal ?_ ?_ | ((try simp only [q_top_wr, q_top_al]); omega)))) only [kX12_init_59, kX12_init_60, kX12_init_63i, kX12_init_63r, kX12_init_64E, kX12_init_67, q_cut_i, q_cut_r, q_cut_l, q_cut_n, q_psh_n, q_psh_s, bI_eq0, ite_not, b6, p5, T_of r6, a6]
  simp (disch := first | assumption | exact bI_lo | exact bI_hi | exact bI_01 | (show (List.map q_wd _).sum ≤ 8; with_unfolding_all exact Nat.le_of_ble_eq_true rfl) | omega | (repeat' (first | assumption | refine kdw ?_ | refine kdal ?_ ?_ | ((try simp only [q_top_wr, q_top_al]); omega)))) only [kX12_init_70, kX12_init_71, kX12_init_74i, kX12_init_74r, kX12_init_75E, kX12_init_78, q_cut_i, q_cut_r, q_cut_l, q_cut_n, q_psh_n, q_psh_s, bI_eq0, ite_not, b7, p6, T_of r7, a7]
  simp (disch := first | assumption | exact bI_lo | exact bI_hi | exact bI_01 | (show (List.map q_wd _).sum ≤ 8; with_unfolding_all exact Nat.le_of_ble_eq_true rfl) | omega | (repeat' (first | assumption | refine kdw ?_ | refine kdal ?_ ?_ | ((try simp only [q_top_wr, q_top_al]); omega)))) only [kX12_init_81, kX12_init_82, kX12_init_85i, kX12_init_85r, kX12_init_86E, kX12_init_89, q_cut_i, q_cut_r, q_cut_l, q_cut_n, q_psh_n, q_psh_s, bI_eq0, ite_not, b8, p7, T_of r8, a8]
  simp (disch := first | assumption | exact bI_lo | exact bI_hi | exact bI_01 | (show (List.map q_wd _).sum ≤ 8; with_unfolding_all exact Nat.le_of_ble_eq_true rfl) | omega | (repeat' (first | assumption | refine kdw ?_ | refine kdal ?_ ?_ | ((try simp only [q_top_wr, q_top_al]); omega)))) only [kX12_init_92, kX12_init_93, kX12_init_94, kX12_init_97, kX12_init_98, kX12_init_100, kX12_init_102, kX12_init_105, kX12_init_106, kX12_init_107, kX12_init_110, kX12_init_111, kX12_init_113, kX12_init_116, kX12_init_117, kX12_init_119, kX12_init_121, kX12_init_124, kX12_init_125, kX12_init_126, kX12_init_129, q_cut_i, q_cut_r, q_cut_l, q_cut_n, q_psh_n, q_psh_s, bI_eq0, ite_not, i6N, i20N, p8]
  rw [← e9]
  simp only [q_top_wr, q_top_al, p8]
end MK6
