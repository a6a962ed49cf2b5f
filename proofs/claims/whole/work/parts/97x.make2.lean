
/-! what is made: reader, filters, places, world -/
theorem MKF.rf {t : Nat} {M : QM} (hw : q_wf M) : MKF t M M 0 0 := ⟨q_fr.rf, hw, rfl, rfl, rfl⟩
theorem MKF.al {t : Nat} {M A : QM} {k s n : Nat} {kd : Nat × Nat} {f : Nat → CV} (h : MKF t M A k s) : MKF t M (q_al A kd n f) (k + 1) (s + n) := by
  obtain ⟨h1, h2, h3, h4, h5⟩ := h
  refine ⟨h1.tr q_fr.al, h2.al, by rw [q_top_al]; omega, ?_, ?_⟩
  · show q_nc A + 1 = _; omega
  · show q_ns A + n = _; omega
theorem MKF.wr {t : Nat} {M A : QM} {k s j : Nat} {v : CV} (h : MKF t M A k s) : MKF t M (q_wr A t j v) k s := by
  obtain ⟨h1, h2, h3, h4, h5⟩ := h
  exact ⟨h1.tr (q_fr.wr rfl), h2.wr, h3, h4, h5⟩
theorem MKF.sub {t u : Nat} {M A B : QM} {k s k2 s2 : Nat} (h : MKF t M A k s) (h' : MKF u A B k2 s2) (hu : q_top M ≤ u) : MKF t M B (k + k2) (s + s2) := by
  obtain ⟨h1, h2, h3, h4, h5⟩ := h
  obtain ⟨g1, g2, g3, g4, g5⟩ := h'
  refine ⟨h1.tr2 g1 (fun x hx z => by omega), g2, by omega, by omega, by omega⟩
theorem MKF.sm {t : Nat} {M A : QM} {k s : Nat} (h : MKF t M A k s) {b : Nat} (hb : b < q_top M) (hn : b ≠ t) : Sm M A b := ⟨h.kd hb, fun j => h.fv hb hn⟩
section MK2
variable {M : QM} {t d : Nat}
theorem vX5_init (hk : q_kd M t = (1, 5)) (hw : q_wf M) (h9 : q_kd M (q_gs M 0) = (9, 0)) : ∃ M', q_C (d + 4) iX5_init [qr t] M none M' ∧ RD M' t (q_top M) 0 0 0 ∧ JR M' (q_top M) (q_gs M 0) 0 [] [] ∧ MKF t M M' 1 3 := by
  have ht := hw.lt (a := t) (by rw [hk]; simp)
  have gl : q_gs M 0 < q_top M := hw.lt (by rw [h9]; simp)
  obtain ⟨M1, hM1⟩ : ∃ M1, q_al M (1, 15) 3 (fun k => q_dv (tyJx4a65c k)) = M1 := ⟨_, rfl⟩
  have m1 : MKF t M M1 1 3 := by rw [← hM1]; exact (MKF.rf hw).al
  have k1 : q_kd M1 (q_top M) = (1, 15) := by rw [← hM1]; exact kdt rfl
  have v1 : q_fv M1 (q_top M) 2 = qi 0 := by rw [← hM1]; exact fvt rfl
  have g1 : q_gs M1 = q_gs M := by rw [← hM1]; rfl
  have h91 : q_kd M1 (q_gs M1 0) = (9, 0) := by rw [g1, m1.kd gl, h9]
  obtain ⟨M2, t2, J2, m2⟩ := vAL_init (d := d) k1 m1.2.1 v1 h91
  rw [g1] at J2
  have m12 := m1.sub m2 (Nat.le_refl _)
  have kt2 : q_kd M2 t = (1, 5) := by rw [m12.kd ht, hk]
  have kt1 : q_kd M1 t = (1, 5) := by rw [m1.kd ht, hk]
  obtain ⟨M3, hM3⟩ : ∃ M3, q_wr (q_wr (q_wr (q_wr M2 t 0 (qr (q_top M))) t 1 (qi 0)) t 2 (qi 0)) t 3 (ql 0) = M3 := ⟨_, rfl⟩
  have m13 : MKF t M M3 (1 + 0) (3 + 0) := by rw [← hM3]; exact m12.wr.wr.wr.wr
  have m23 : MKF t M2 M3 0 0 := by rw [← hM3]; exact (MKF.rf m2.2.1).wr.wr.wr.wr
  refine ⟨M3, C_of (fun P => ?_), ⟨by rw [m13.kd ht, hk], ?_, ?_, ?_, ?_⟩, JR_fr m2.2.1 J2 m23.1 (by omega) (fun hc => absurd hc (by omega)) (fun b hb z => by rw [z, kt2] at hb; simp at hb), m13⟩
  · rw [eX5_init]
    simp (disch := first | assumption | exact bI_lo | exact bI_hi | exact bI_01 | (show (List.map q_wd _).sum ≤ 8; with_unfolding_all exact Nat.le_of_ble_eq_true rfl) | omega | (repeat' (first | assumption | refine kdw ?_ | refine kdal ?_ ?_ | ((try simp only [q_top_wr, q_top_al]); omega)))) only [kX5_init_0, kX5_init_1, kX5_init_4, kX5_init_5, kX5_init_8i, kX5_init_8r, kX5_init_9E, kX5_init_12, kX5_init_15, kX5_init_16, kX5_init_17, kX5_init_20, kX5_init_21, kX5_init_22, kX5_init_25, kX5_init_26, kX5_init_27, kX5_init_30, q_cut_i, q_cut_r, q_cut_l, q_cut_n, q_psh_n, q_psh_s, bI_eq0, ite_not, hM1, T_of t2]
    rw [hM3]
  · rw [← hM3]; (repeat' (first | exact q_fws | assumption | exact fvt rfl | refine q_fwo (by decide) ?_ | refine fvo (by omega) ?_ | refine fval (by (try simp only [q_top_wr, q_top_al]); omega) ?_))
  · rw [← hM3]; (repeat' (first | exact q_fws | assumption | exact fvt rfl | refine q_fwo (by decide) ?_ | refine fvo (by omega) ?_ | refine fval (by (try simp only [q_top_wr, q_top_al]); omega) ?_))
  · rw [← hM3]; (repeat' (first | exact q_fws | assumption | exact fvt rfl | refine q_fwo (by decide) ?_ | refine fvo (by omega) ?_ | refine fval (by (try simp only [q_top_wr, q_top_al]); omega) ?_))
  · rw [← hM3]; (repeat' (first | exact q_fws | assumption | exact fvt rfl | refine q_fwo (by decide) ?_ | refine fvo (by omega) ?_ | refine fval (by (try simp only [q_top_wr, q_top_al]); omega) ?_))
theorem vX0_init (hk : q_kd M t = (1, 0)) (hw : q_wf M) : ∃ M', q_C (d + 1) iX0_init [qr t] M none M' ∧ (∀ g c : Nat → Nat, g 18 = t → (∀ k, k < 4 → g (19 + k) = q_top M + k) → g 23 = q_top M + 4 → (∀ k, k < 4 → c k = 8) → FLm M' g c [] []) ∧ MKF t M M' 5 40 := by
  have ht := hw.lt (a := t) (by rw [hk]; simp)
  obtain ⟨M', hM'⟩ : ∃ M', q_wr (q_wr (q_al (q_wr (q_wr (q_al (q_wr (q_al (q_wr (q_al (q_wr (q_al M (2, 8) 8 (fun _ => qi 0)) t 0 (qr (q_top M))) (2, 8) 8 (fun _ => qi 0)) t 1 (qr (q_top M + 1))) (2, 8) 8 (fun _ => qi 0)) t 2 (qr (q_top M + 2))) (2, 8) 8 (fun _ => qi 0)) t 3 (qr (q_top M + 3))) t 4 (qi 0)) (2, 8) 8 (fun _ => qi 0)) t 5 (qr (q_top M + 4))) t 6 (qi 0) = M' := ⟨_, rfl⟩
  have m : MKF t M M' 5 40 := by rw [← hM']; exact (MKF.rf hw).al.wr.al.wr.al.wr.al.wr.wr.al.wr.wr
  refine ⟨M', C_of (fun P => ?_), fun g c e18 e19 e23 hc => ?_, m⟩
  · rw [eX0_init]
    simp (disch := first | assumption | exact bI_lo | exact bI_hi | exact bI_01 | (show (List.map q_wd _).sum ≤ 8; with_unfolding_all exact Nat.le_of_ble_eq_true rfl) | omega | (repeat' (first | assumption | refine kdw ?_ | refine kdal ?_ ?_ | ((try simp only [q_top_wr, q_top_al]); omega)))) only [kX0_init_0, kX0_init_1, kX0_init_4, kX0_init_5, kX0_init_7, kX0_init_9, kX0_init_12, kX0_init_13, kX0_init_15, kX0_init_17, kX0_init_20, kX0_init_21, kX0_init_23, kX0_init_25, kX0_init_28, kX0_init_29, kX0_init_31, kX0_init_33, kX0_init_36, kX0_init_37, kX0_init_38, kX0_init_41, kX0_init_42, kX0_init_44, kX0_init_46, kX0_init_49, kX0_init_50, kX0_init_51, kX0_init_54, q_cut_i, q_cut_r, q_cut_l, q_cut_n, q_psh_n, q_psh_s, bI_eq0, ite_not, i8N]
    rw [← hM']; rfl
  · have ar : ∀ k, k < 4 → q_kd M' (q_top M + k) = (2, 8) ∧ q_fv M' t k = qr (q_top M + k) ∧ ∀ i, q_fv M' (q_top M + k) i = qi 0 := fun k hk4 => by
      have hh : k = 0 ∨ k = 1 ∨ k = 2 ∨ k = 3 := by omega
      rw [← hM']
      rcases hh with rfl | rfl | rfl | rfl
      · refine ⟨?_, ?_, fun i => ?_⟩
        · (repeat' (first | assumption | exact kdt rfl | refine kdw ?_ | refine kdal ?_ (by (try simp only [q_top_wr, q_top_al]); omega)))
        · (repeat' (first | exact q_fws | assumption | exact fvt rfl | refine q_fwo (by decide) ?_ | refine fvo (by omega) ?_ | refine fval (by (try simp only [q_top_wr, q_top_al]); omega) ?_))
        · (repeat' (first | exact q_fws | assumption | exact fvt rfl | refine q_fwo (by decide) ?_ | refine fvo (by omega) ?_ | refine fval (by (try simp only [q_top_wr, q_top_al]); omega) ?_))
      · refine ⟨?_, ?_, fun i => ?_⟩
        · (repeat' (first | assumption | exact kdt rfl | refine kdw ?_ | refine kdal ?_ (by (try simp only [q_top_wr, q_top_al]); omega)))
        · (repeat' (first | exact q_fws | assumption | exact fvt rfl | refine q_fwo (by decide) ?_ | refine fvo (by omega) ?_ | refine fval (by (try simp only [q_top_wr, q_top_al]); omega) ?_))
        · (repeat' (first | exact q_fws | assumption | exact fvt rfl | refine q_fwo (by decide) ?_ | refine fvo (by omega) ?_ | refine fval (by (try simp only [q_top_wr, q_top_al]); omega) ?_))
      · refine ⟨?_, ?_, fun i => ?_⟩
        · (repeat' (first | assumption | exact kdt rfl | refine kdw ?_ | refine kdal ?_ (by (try simp only [q_top_wr, q_top_al]); omega)))
        · (repeat' (first | exact q_fws | assumption | exact fvt rfl | refine q_fwo (by decide) ?_ | refine fvo (by omega) ?_ | refine fval (by (try simp only [q_top_wr, q_top_al]); omega) ?_))
        · (repeat' (first | exact q_fws | assumption | exact fvt rfl | refine q_fwo (by decide) ?_ | refine fvo (by omega) ?_ | refine fval (by (try simp only [q_top_wr, q_top_al]); omega) ?_))
      · refine ⟨?_, ?_, fun i => ?_⟩
        · (repeat' (first | assumption | exact kdt rfl | refine kdw ?_ | refine kdal ?_ (by (try simp only [q_top_wr, q_top_al]); omega)))
        · (repeat' (first | exact q_fws | assumption | exact fvt rfl | refine q_fwo (by decide) ?_ | refine fvo (by omega) ?_ | refine fval (by (try simp only [q_top_wr, q_top_al]); omega) ?_))
        · (repeat' (first | exact q_fws | assumption | exact fvt rfl | refine q_fwo (by decide) ?_ | refine fvo (by omega) ?_ | refine fval (by (try simp only [q_top_wr, q_top_al]); omega) ?_))
    unfold FLm
    rw [e18, e23]
    refine ⟨by rw [m.kd ht, hk], ?_, ?_, ?_, ?_, by simp, fun k hk4 => ?_, fun k hk3 i q hq => by simp at hq, fun i hi => ⟨0, ?_⟩, fun i v hv => by simp at hv, fun v hv => by simp at hv, fun q hq => by simp at hq⟩
    · rw [← hM']; (repeat' (first | exact q_fws | assumption | exact fvt rfl | refine q_fwo (by decide) ?_ | refine fvo (by omega) ?_ | refine fval (by (try simp only [q_top_wr, q_top_al]); omega) ?_))
    · rw [← hM']; (repeat' (first | exact q_fws | assumption | exact fvt rfl | refine q_fwo (by decide) ?_ | refine fvo (by omega) ?_ | refine fval (by (try simp only [q_top_wr, q_top_al]); omega) ?_))
    · rw [← hM']; (repeat' (first | exact q_fws | assumption | exact fvt rfl | refine q_fwo (by decide) ?_ | refine fvo (by omega) ?_ | refine fval (by (try simp only [q_top_wr, q_top_al]); omega) ?_))
    · rw [← hM']; (repeat' (first | assumption | exact kdt rfl | refine kdw ?_ | refine kdal ?_ (by (try simp only [q_top_wr, q_top_al]); omega)))
    · obtain ⟨x1, x2, x3⟩ := ar k hk4
      rw [e19 k hk4, hc k hk4]
      exact ⟨x2, x1, by simp, by omega, by omega, fun i _ => ⟨0, x3 i⟩⟩
    · rw [← hM']; (repeat' (first | exact q_fws | assumption | exact fvt rfl | refine q_fwo (by decide) ?_ | refine fvo (by omega) ?_ | refine fval (by (try simp only [q_top_wr, q_top_al]); omega) ?_))
def W00 : Pl := ((0, 0, -5, -5, 0, 0), [], [], [])
theorem vX4_init (hk : q_kd M t = (1, 4)) (hw : q_wf M) : ∃ M', q_C (d + 2) iX4_init [qr t] M none M' ∧ (∀ a : Nat → Nat, a 0 = t → (∀ k, k < 10 → a (k + 1) = q_top M + k) → PLr M' a 4 4 W00) ∧ MKF t M M' 10 98 := by
  have ht := hw.lt (a := t) (by rw [hk]; simp)
  obtain ⟨M1, hM1⟩ : ∃ M1, q_wr (q_wr (q_wr (q_wr (q_wr (q_wr M t 0 (qi 0)) t 1 (qi 0)) t 2 (qi (-5))) t 3 (qi (-5))) t 4 (qi 0)) t 5 (qi 0) = M1 := ⟨_, rfl⟩
  have m1 : MKF t M M1 0 0 := by rw [← hM1]; exact (MKF.rf hw).wr.wr.wr.wr.wr.wr
  have p1 : q_top M1 = q_top M := by have := m1.2.2.1; omega
  obtain ⟨M2, hM2⟩ : ∃ M2, q_al M1 (1, 2) 3 (fun k => q_dv (tyX2 k)) = M2 := ⟨_, rfl⟩
  have m2 : MKF t M M2 1 3 := by rw [← hM2]; exact m1.al
  have k2 : q_kd M2 (q_top M) = (1, 2) := by rw [← hM2]; exact kdt p1.symm
  obtain ⟨M3, t3, N3, m3⟩ := vX2_init (d := d) k2 m2.2.1
  have a3 := m2.sub m3 (Nat.le_refl _)
  have p2 := m2.2.2.1
  rw [p2] at N3
  obtain ⟨M4, hM4⟩ : ∃ M4, q_wr M3 t 6 (qr (q_top M)) = M4 := ⟨_, rfl⟩
  have m4 : MKF t M M4 3 11 := by rw [← hM4]; exact a3.wr
  have p4 := m4.2.2.1
  obtain ⟨M5, hM5⟩ : ∃ M5, q_al M4 (1, 9) 3 (fun k => q_dv (tyX9 k)) = M5 := ⟨_, rfl⟩
  have m5 : MKF t M M5 4 14 := by rw [← hM5]; exact m4.al
  have k5 : q_kd M5 (q_top M + 3) = (1, 9) := by rw [← hM5]; exact kdt p4.symm
  obtain ⟨M6, t6, T6, m6⟩ := vX9_init (d := d) k5 m5.2.1
  have a6 := m5.sub m6 (by omega)
  have p5 := m5.2.2.1
  rw [p5] at T6
  obtain ⟨M7, hM7⟩ : ∃ M7, q_wr M6 t 7 (qr (q_top M + 3)) = M7 := ⟨_, rfl⟩
  have m7 : MKF t M M7 6 22 := by rw [← hM7]; exact a6.wr
  have p7 := m7.2.2.1
  obtain ⟨M8, hM8⟩ : ∃ M8, q_al M7 (1, 1) 4 (fun k => q_dv (tyX1 k)) = M8 := ⟨_, rfl⟩
  have m8 : MKF t M M8 7 26 := by rw [← hM8]; exact m7.al
  have k8 : q_kd M8 (q_top M + 6) = (1, 1) := by rw [← hM8]; exact kdt p7.symm
  obtain ⟨M9, t9, H9, m9⟩ := vX1_init (d := d) k8 m8.2.1
  have a9 := m8.sub m9 (by omega)
  have p8 := m8.2.2.1
  rw [p8] at H9
  obtain ⟨M', hM'⟩ : ∃ M', q_wr M9 t 8 (qr (q_top M + 6)) = M' := ⟨_, rfl⟩
  have m' : MKF t M M' 10 98 := by rw [← hM']; exact a9.wr
  have p3 := a3.2.2.1
  have p6 := a6.2.2.1
  have p9 := a9.2.2.1
  -- from each on to the end
  have e9 : MKF t M9 M' 0 0 := by rw [← hM']; exact (MKF.rf a9.2.1).wr
  have e6 : MKF t M6 M' (0 + 1 + 3) (0 + 4 + 72) := by
    have x : MKF t M6 M8 (0 + 1) (0 + 4) := by rw [← hM8, ← hM7]; exact (MKF.rf a6.2.1).wr.al
    rw [← hM']
    exact (x.sub m9 (by omega)).wr
  have e3 : MKF t M3 M' (0 + 1 + 2 + 1 + 3) (0 + 3 + 8 + 4 + 72) := by
    have x : MKF t M3 M5 (0 + 1) (0 + 3) := by rw [← hM5, ← hM4]; exact (MKF.rf a3.2.1).wr.al
    have y := x.sub m6 (by omega)
    have z : MKF t M3 M8 (0 + 1 + 2 + 1) (0 + 3 + 8 + 4) := by rw [← hM8, ← hM7]; exact y.wr.al
    rw [← hM']
    exact (z.sub m9 (by omega)).wr
  have l7 : q_top M ≤ q_top M7 := by omega
  have kt2 : q_kd M2 t = (1, 4) := by rw [m2.kd ht, hk]
  have kt1 : q_kd M1 t = (1, 4) := by rw [m1.kd ht, hk]
  have kt3 : q_kd M3 t = (1, 4) := by rw [a3.kd ht, hk]
  have kt4 : q_kd M4 t = (1, 4) := by rw [m4.kd ht, hk]
  have kt6 : q_kd M6 t = (1, 4) := by rw [a6.kd ht, hk]
  have kt7 : q_kd M7 t = (1, 4) := by rw [m7.kd ht, hk]
  have kt9 : q_kd M9 t = (1, 4) := by rw [a9.kd ht, hk]
  have n0 : Sm M3 M' (q_top M) := e3.sm (by omega) (by omega)
  have n1 : Sm M3 M' (q_top M + 1) := e3.sm (by omega) (by omega)
  have n2 : Sm M3 M' (q_top M + 2) := e3.sm (by omega) (by omega)
  have n3 : Sm M6 M' (q_top M + 3) := e6.sm (by omega) (by omega)
  have n4 : Sm M6 M' (q_top M + 4) := e6.sm (by omega) (by omega)
  have n5 : Sm M6 M' (q_top M + 5) := e6.sm (by omega) (by omega)
  have n6 : Sm M9 M' (q_top M + 6) := e9.sm (by omega) (by omega)
  have n7 : Sm M9 M' (q_top M + 7) := e9.sm (by omega) (by omega)
  have n8 : Sm M9 M' (q_top M + 8) := e9.sm (by omega) (by omega)
  have n9 : Sm M9 M' (q_top M + 9) := e9.sm (by omega) (by omega)
  simp only [Nat.add_assoc, Nat.reduceAdd] at N3 T6 H9
  refine ⟨M', C_of (fun P => ?_), fun a e0 ek => ?_, m'⟩
  · rw [eX4_init]
    simp (disch := first | assumption | exact bI_lo | exact bI_hi | exact bI_01 | (show (List.map q_wd _).sum ≤ 8; with_unfolding_all exact Nat.le_of_ble_eq_true rfl) | omega | (repeat' (first | assumption | refine kdw ?_ | refine kdal ?_ ?_ | ((try simp only [q_top_wr, q_top_al]); omega)))) only [kX4_init_0, kX4_init_1, kX4_init_4, kX4_init_5, kX4_init_6, kX4_init_9, kX4_init_10, kX4_init_11, kX4_init_14, kX4_init_15, kX4_init_17, kX4_init_20, kX4_init_21, kX4_init_23, kX4_init_26, kX4_init_27, kX4_init_28, kX4_init_31, kX4_init_32, kX4_init_33, kX4_init_36, q_cut_i, q_cut_r, q_cut_l, q_cut_n, q_psh_n, q_psh_s, bI_eq0, ite_not, hM1]
    simp (disch := first | assumption | exact bI_lo | exact bI_hi | exact bI_01 | (show (List.map q_wd _).sum ≤ 8; with_unfolding_all exact Nat.le_of_ble_eq_true rfl) | omega | (repeat' (first | assumption | refine kdw ?_ | refine kdal ?_ ?_ | ((try simp only [q_top_wr, q_top_al]); omega)))) only [kX4_init_37, kX4_init_40i, kX4_init_40r, kX4_init_41E, kX4_init_44, kX4_init_47, q_cut_i, q_cut_r, q_cut_l, q_cut_n, q_psh_n, q_psh_s, bI_eq0, ite_not, hM2, p1, T_of t3, hM4]
    simp (disch := first | assumption | exact bI_lo | exact bI_hi | exact bI_01 | (show (List.map q_wd _).sum ≤ 8; with_unfolding_all exact Nat.le_of_ble_eq_true rfl) | omega | (repeat' (first | assumption | refine kdw ?_ | refine kdal ?_ ?_ | ((try simp only [q_top_wr, q_top_al]); omega)))) only [kX4_init_48, kX4_init_51i, kX4_init_51r, kX4_init_52E, kX4_init_55, kX4_init_58, q_cut_i, q_cut_r, q_cut_l, q_cut_n, q_psh_n, q_psh_s, bI_eq0, ite_not, hM5, p4, T_of t6, hM7]
    simp (disch := first | assumption | exact bI_lo | exact bI_hi | exact bI_01 | (show (List.map q_wd _).sum ≤ 8; with_unfolding_all exact Nat.le_of_ble_eq_true rfl) | omega | (repeat' (first | assumption | refine kdw ?_ | refine kdal ?_ ?_ | ((try simp only [q_top_wr, q_top_al]); omega)))) only [kX4_init_59, kX4_init_62i, kX4_init_62r, kX4_init_63E, kX4_init_66, kX4_init_69, q_cut_i, q_cut_r, q_cut_l, q_cut_n, q_psh_n, q_psh_s, bI_eq0, ite_not, hM8, p7, T_of t9, hM']
  · have v : ∀ (j : Nat) (c : CV), j ≠ 6 → j ≠ 7 → j ≠ 8 → q_fv M1 t j = c → q_fv M' t j = c := fun j c h6 h7 h8 hc => by
      have x3 : q_fv M3 t j = c := by
        have : q_fv M3 t j = q_fv M2 t j := m3.fv (by omega) (by omega)
        rw [this, ← hM2]; exact fval (by omega) hc
      have x6 : q_fv M6 t j = c := by
        have : q_fv M6 t j = q_fv M5 t j := m6.fv (by omega) (by omega)
        rw [this, ← hM5, ← hM4]
        refine fval (by rw [q_top_wr]; omega) (q_fwo h6 x3)
      have x9 : q_fv M9 t j = c := by
        have : q_fv M9 t j = q_fv M8 t j := m9.fv (by omega) (by omega)
        rw [this, ← hM8, ← hM7]
        refine fval (by rw [q_top_wr]; omega) (q_fwo h7 x6)
      rw [← hM']
      exact q_fwo h8 x9
    have v6 : q_fv M' t 6 = qr (q_top M) := by
      have x6 : q_fv M6 t 6 = qr (q_top M) := by
        have : q_fv M6 t 6 = q_fv M5 t 6 := m6.fv (by omega) (by omega)
        rw [this, ← hM5, ← hM4]
        exact fval (by rw [q_top_wr]; omega) q_fws
      have x9 : q_fv M9 t 6 = qr (q_top M) := by
        have : q_fv M9 t 6 = q_fv M8 t 6 := m9.fv (by omega) (by omega)
        rw [this, ← hM8, ← hM7]
        exact fval (by rw [q_top_wr]; omega) (q_fwo (by decide) x6)
      rw [← hM']
      exact q_fwo (by decide) x9
    have v7 : q_fv M' t 7 = qr (q_top M + 3) := by
      have x9 : q_fv M9 t 7 = qr (q_top M + 3) := by
        have : q_fv M9 t 7 = q_fv M8 t 7 := m9.fv (by omega) (by omega)
        rw [this, ← hM8, ← hM7]
        exact fval (by rw [q_top_wr]; omega) q_fws
      rw [← hM']
      exact q_fwo (by decide) x9
    have v8 : q_fv M' t 8 = qr (q_top M + 6) := by rw [← hM']; exact q_fws
    have E := fun k hk => ek k hk
    have a1 : a 1 = q_top M := E 0 (by omega)
    have a2 : a 2 = q_top M + 1 := E 1 (by omega)
    have a3' : a 3 = q_top M + 2 := E 2 (by omega)
    have a4 : a 4 = q_top M + 3 := E 3 (by omega)
    have a5 : a 5 = q_top M + 4 := E 4 (by omega)
    have a6' : a 6 = q_top M + 5 := E 5 (by omega)
    have a7 : a 7 = q_top M + 6 := E 6 (by omega)
    have a8 : a 8 = q_top M + 7 := E 7 (by omega)
    have a9' : a 9 = q_top M + 8 := E 8 (by omega)
    have a10 : a 10 = q_top M + 9 := E 9 (by omega)
    unfold PLr
    rw [e0, a1, a2, a3', a4, a5, a6', a7, a8, a9', a10]
    refine ⟨⟨by rw [m'.kd ht, hk], ?_, ?_, ?_, ?_, ?_, ?_⟩, v6, v7, v8, NM_sm N3 n0 n1 n2, TL_sm T6 n3 n4 n5, HI_sm H9 n6 n7 n8 n9, ?_⟩
    · refine v 0 _ (by decide) (by decide) (by decide) ?_; rw [← hM1]; (repeat' (first | exact q_fws | assumption | exact fvt rfl | refine q_fwo (by decide) ?_ | refine fvo (by omega) ?_ | refine fval (by (try simp only [q_top_wr, q_top_al]); omega) ?_))
    · refine v 1 _ (by decide) (by decide) (by decide) ?_; rw [← hM1]; (repeat' (first | exact q_fws | assumption | exact fvt rfl | refine q_fwo (by decide) ?_ | refine fvo (by omega) ?_ | refine fval (by (try simp only [q_top_wr, q_top_al]); omega) ?_))
    · refine v 2 _ (by decide) (by decide) (by decide) ?_; rw [← hM1]; (repeat' (first | exact q_fws | assumption | exact fvt rfl | refine q_fwo (by decide) ?_ | refine fvo (by omega) ?_ | refine fval (by (try simp only [q_top_wr, q_top_al]); omega) ?_))
    · refine v 3 _ (by decide) (by decide) (by decide) ?_; rw [← hM1]; (repeat' (first | exact q_fws | assumption | exact fvt rfl | refine q_fwo (by decide) ?_ | refine fvo (by omega) ?_ | refine fval (by (try simp only [q_top_wr, q_top_al]); omega) ?_))
    · refine v 4 _ (by decide) (by decide) (by decide) ?_; rw [← hM1]; (repeat' (first | exact q_fws | assumption | exact fvt rfl | refine q_fwo (by decide) ?_ | refine fvo (by omega) ?_ | refine fval (by (try simp only [q_top_wr, q_top_al]); omega) ?_))
    · refine v 5 _ (by decide) (by decide) (by decide) ?_; rw [← hM1]; (repeat' (first | exact q_fws | assumption | exact fvt rfl | refine q_fwo (by decide) ?_ | refine fvo (by omega) ?_ | refine fval (by (try simp only [q_top_wr, q_top_al]); omega) ?_))
    · unfold plOk W00
      exact ⟨⟨by decide, by decide⟩, ⟨by decide, by decide⟩, ⟨by decide, by decide⟩, ⟨by decide, by decide⟩, ⟨by decide, by decide⟩, ⟨by decide, by decide⟩, List.Pairwise.nil, fun q hq => by cases hq⟩
end MK2
