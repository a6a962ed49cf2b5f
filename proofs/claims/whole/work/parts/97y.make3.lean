
/-! what is made: the world -/
theorem MKF.wru {t u : Nat} {M A : QM} {k s j : Nat} {v : CV} (h : MKF t M A k s) (hu : q_top M ≤ u) : MKF t M (q_wr A u j v) k s := by
  obtain ⟨h1, h2, h3, h4, h5⟩ := h
  exact ⟨h1.tr2 (q_fr.wr (A := fun x => x = u) rfl) (fun x hx z => by omega), h2.wr, h3, h4, h5⟩
theorem MKF.cg {t : Nat} {M A : QM} {k s k' s' : Nat} (h : MKF t M A k s) (e1 : k = k') (e2 : s = s') : MKF t M A k' s' := by subst e1; subst e2; exact h
section MK3
variable {M : QM} {t d : Nat}
theorem vX11_init (hk : q_kd M t = (1, 11)) (hw : q_wf M) : ∃ M', q_C (d + 3) iX11_init [qr t] M none M' ∧ (q_kd M' t = (1, 11) ∧ q_fv M' t 0 = qr (q_top M) ∧ q_fv M' t 1 = qi 0 ∧ q_fv M' t 2 = qi 0 ∧ q_fv M' t 3 = qr (q_top M + 6) ∧ q_fv M' t 4 = qi 0) ∧ (∀ g c : Nat → Nat, g 18 = q_top M → (∀ k, k < 4 → g (19 + k) = q_top M + 1 + k) → g 23 = q_top M + 5 → (∀ k, k < 4 → c k = 8) → FLm M' g c [] []) ∧ q_kd M' (q_top M + 6) = (6, 20) ∧ (∀ i, i < 20 → q_fv M' (q_top M + 6) i = qr (q_top M + 7 + 11 * i) ∧ ∀ a : Nat → Nat, (∀ k, k < 11 → a k = q_top M + 7 + 11 * i + k) → PLr M' a 4 4 W00) ∧ MKF t M M' 227 2207 := by
  have ht := hw.lt (a := t) (by rw [hk]; simp)
  obtain ⟨T, hT⟩ : ∃ T, T = q_top M := ⟨_, rfl⟩
  obtain ⟨M1, hM1⟩ : ∃ M1, q_al M (1, 0) 7 (fun k => q_dv (tyX0 k)) = M1 := ⟨_, rfl⟩
  have m1 : MKF t M M1 1 7 := by rw [← hM1]; exact (MKF.rf hw).al
  have k1 : q_kd M1 T = (1, 0) := by rw [← hM1]; exact kdt hT
  have p1 : q_top M1 = T + 1 := by rw [m1.2.2.1, hT]
  obtain ⟨M2, t2, F2, m2⟩ := vX0_init (d := d + 1) k1 m1.2.1
  rw [p1] at F2
  have a2 : MKF t M M2 6 47 := m1.sub m2 (by omega)
  obtain ⟨M3, hM3⟩ : ∃ M3, q_wr (q_wr (q_wr M2 t 0 (qr T)) t 1 (qi 0)) t 2 (qi 0) = M3 := ⟨_, rfl⟩
  have m3 : MKF t M M3 6 47 := by rw [← hM3]; exact a2.wr.wr.wr
  have e23 : MKF t M2 M3 0 0 := by rw [← hM3]; exact (MKF.rf a2.2.1).wr.wr.wr
  have p3 : q_top M3 = T + 6 := by rw [m3.2.2.1, hT]
  have p2 : q_top M2 = T + 6 := by rw [a2.2.2.1, hT]
  obtain ⟨M4, hM4⟩ : ∃ M4, q_al M3 (6, 20) 20 (fun _ => qn) = M4 := ⟨_, rfl⟩
  have k4 : q_kd M4 (T + 6) = (6, 20) := by rw [← hM4]; exact kdt p3.symm
  have e34 : MKF t M3 M4 (0 + 1) (0 + 20) := by rw [← hM4]; exact (MKF.rf m3.2.1).al
  obtain ⟨M5, hM5⟩ : ∃ M5, q_wr (q_wr M4 t 3 (qr (T + 6))) t 4 (qi 0) = M5 := ⟨_, rfl⟩
  have e35 : MKF t M3 M5 (0 + 1) (0 + 20) := by rw [← hM5]; exact e34.wr.wr
  have k5 : q_kd M5 (T + 6) = (6, 20) := by rw [← hM5]; exact k4
  have tl3 : t < q_top M3 := by omega
  have kt5 : q_kd M5 t = (1, 11) := by rw [e35.kd tl3, m3.kd ht, hk]
  have v5 : q_fv M5 t 0 = qr T ∧ q_fv M5 t 1 = qi 0 ∧ q_fv M5 t 2 = qi 0 ∧ q_fv M5 t 3 = qr (T + 6) ∧ q_fv M5 t 4 = qi 0 := by
    rw [← hM5, ← hM4]
    refine ⟨?_, ?_, ?_, ?_, ?_⟩
    · refine q_fwo (by decide) (q_fwo (by decide) (fval (by omega) ?_)); rw [← hM3]; (repeat' (first | exact q_fws | assumption | exact fvt rfl | refine q_fwo (by decide) ?_ | refine fvo (by omega) ?_ | refine fval (by (try simp only [q_top_wr, q_top_al]); omega) ?_))
    · refine q_fwo (by decide) (q_fwo (by decide) (fval (by omega) ?_)); rw [← hM3]; (repeat' (first | exact q_fws | assumption | exact fvt rfl | refine q_fwo (by decide) ?_ | refine fvo (by omega) ?_ | refine fval (by (try simp only [q_top_wr, q_top_al]); omega) ?_))
    · refine q_fwo (by decide) (q_fwo (by decide) (fval (by omega) ?_)); rw [← hM3]; (repeat' (first | exact q_fws | assumption | exact fvt rfl | refine q_fwo (by decide) ?_ | refine fvo (by omega) ?_ | refine fval (by (try simp only [q_top_wr, q_top_al]); omega) ?_))
    · exact q_fwo (by decide) q_fws
    · exact q_fws
  have loop : ∀ (m i : Nat) (A : QM), i + m = 20 → MKF t M3 A (1 + 11 * i) (20 + 107 * i) → q_kd A (T + 6) = (6, 20) → (∀ j, q_fv A t j = q_fv M5 t j) → (∀ i', i' < i → q_fv A (T + 6) i' = qr (T + 7 + 11 * i') ∧ ∀ a : Nat → Nat, (∀ k, k < 11 → a k = T + 7 + 11 * i' + k) → PLr A a 4 4 W00) → ∃ B, (∀ P, Rr (q_C (d + 2)) mX11_init (41, [some (qr t), some (qi i)], [], A) P = P none B) ∧ MKF t M3 B 221 2160 ∧ q_kd B (T + 6) = (6, 20) ∧ (∀ j, q_fv B t j = q_fv M5 t j) ∧ (∀ i', i' < 20 → q_fv B (T + 6) i' = qr (T + 7 + 11 * i') ∧ ∀ a : Nat → Nat, (∀ k, k < 11 → a k = T + 7 + 11 * i' + k) → PLr B a 4 4 W00) := by
    intro m
    induction m with
    | zero =>
      intro i A hm hA kP hv hp
      have ei : i = 20 := by omega
      subst ei
      refine ⟨A, fun P => ?_, hA, kP, hv, hp⟩
      rw [kX11_init_41]
      simp (disch := first | assumption | exact bI_lo | exact bI_hi | exact bI_01 | (show (List.map q_wd _).sum ≤ 8; with_unfolding_all exact Nat.le_of_ble_eq_true rfl) | omega) only [kX11_init_42, kX11_init_44, kX11_init_66, q_cut_i, q_cut_r, q_cut_l, q_cut_n, q_psh_n, q_psh_s, bI_eq0, ite_not, ↓if_pos, ↓if_neg, ↓ite_bI_t, ↓ite_bI_f]
    | succ m ih =>
      intro i A hm hA kP hv hp
      have kA : q_kd A t = (1, 11) := by rw [hA.kd tl3, m3.kd ht, hk]
      have pA : q_top A = T + 7 + 11 * i := by rw [hA.2.2.1, p3]; omega
      obtain ⟨A1, hA1⟩ : ∃ A1, q_al A (1, 4) 9 (fun k => q_dv (tyX4 k)) = A1 := ⟨_, rfl⟩
      have x1 : MKF (T + 6) A A1 1 9 := by rw [← hA1]; exact (MKF.rf hA.2.1).al
      have kA1 : q_kd A1 (T + 7 + 11 * i) = (1, 4) := by rw [← hA1]; exact kdt pA.symm
      have pA1 : q_top A1 = T + 7 + 11 * i + 1 := by rw [x1.2.2.1, pA]
      obtain ⟨A2, t2', F2', x2⟩ := vX4_init (d := d) kA1 x1.2.1
      have x12 : MKF (T + 6) A A2 11 107 := x1.sub x2 (by omega)
      obtain ⟨A3, hA3⟩ : ∃ A3, q_wr A2 (T + 6) i (qr (T + 7 + 11 * i)) = A3 := ⟨_, rfl⟩
      have x13 : MKF (T + 6) A A3 11 107 := by rw [← hA3]; exact x12.wr
      have y1 : MKF t M3 A1 (1 + 11 * i + 1) (20 + 107 * i + 9) := by rw [← hA1]; exact hA.al
      have y2 : MKF t M3 A2 (1 + 11 * (i + 1)) (20 + 107 * (i + 1)) := (y1.sub x2 (by omega)).cg (by omega) (by omega)
      have y3 : MKF t M3 A3 (1 + 11 * (i + 1)) (20 + 107 * (i + 1)) := by rw [← hA3]; exact y2.wru (by omega)
      have kP1 : q_kd A1 (T + 6) = (6, 20) := by rw [x1.kd (by omega), kP]
      have kP2 : q_kd A2 (T + 6) = (6, 20) := by rw [x12.kd (by omega), kP]
      have kt2 : q_kd A2 t = (1, 11) := by rw [x12.kd (by omega), kA]
      have kt1 : q_kd A1 t = (1, 11) := by rw [x1.kd (by omega), kA]
      have kpl : q_kd A2 (T + 7 + 11 * i) = (1, 4) := by
        have := x2.kd (b := T + 7 + 11 * i) (by omega)
        rw [this, kA1]
      have kP21 : (q_kd A2 (T + 6)).1 = 6 := by rw [kP2]
      have kP22 : ((q_kd A2 (T + 6)).2 : Int) = 20 := by rw [kP2]; rfl
      obtain ⟨B, q1, q2⟩ := ih (i + 1) A3 (by omega) y3 (by rw [x13.kd (by omega), kP]) (fun j => by
        have := x13.fv (b := t) (j := j) (by omega) (by omega)
        rw [this, hv j]) (fun i' hi' => by
        by_cases e : i' = i
        · subst e
          refine ⟨by rw [← hA3]; exact q_fws, fun a ha => ?_⟩
          have P2 := F2' a (by rw [ha 0 (by omega)]; omega) (fun k hk => by rw [ha (k + 1) (by omega), pA1]; omega)
          refine PLr_sm P2 (fun k hk => ?_) (fun _ _ => rfl)
          rw [← hA3]
          refine ⟨rfl, fun j => ?_⟩
          rw [q_fv_wrE, if_neg (fun z => by have := ha k hk; omega)]
        · obtain ⟨h1, h2⟩ := hp i' (by omega)
          refine ⟨?_, fun a ha => PLr_sm (h2 a ha) (fun k hk => x13.sm (by rw [ha k hk]; omega) (by rw [ha k hk]; omega)) (fun _ _ => rfl)⟩
          rw [← hA3, q_fv_wrE, if_neg (fun z => e z.2)]
          have : q_fv A2 (T + 6) i' = q_fv A1 (T + 6) i' := x2.fv (by omega) (by omega)
          rw [this, ← hA1]
          exact fval (by omega) h1)
      refine ⟨B, fun P => ?_, q2⟩
      have q1' := q1 P
      rw [show ((i + 1 : Nat) : Int) = (i : Int) + 1 by omega] at q1'
      have v3 : q_fv A t 3 = qr (T + 6) := by rw [hv 3]; exact v5.2.2.2.1
      rw [kX11_init_41]
      simp (disch := first | assumption | exact bI_lo | exact bI_hi | exact bI_01 | (show (List.map q_wd _).sum ≤ 8; with_unfolding_all exact Nat.le_of_ble_eq_true rfl) | omega) only [kX11_init_42, kX11_init_44, kX11_init_47, kX11_init_48, kX11_init_51, kX11_init_52, kX11_init_55i, kX11_init_55r, kX11_init_56E, kX11_init_595, kX11_init_596, kX11_init_59n, kX11_init_60, kX11_init_63, q_cut_i, q_cut_r, q_cut_l, q_cut_n, q_psh_n, q_psh_s, bI_eq0, ite_not, ↓if_pos, ↓if_neg, ↓ite_bI_t, ↓ite_bI_f, v3, hA1, pA, T_of t2', q_toN, hA3]
      exact q1'
  have hw5 : q_wf M5 := e35.2.1
  obtain ⟨B, q1, q2, q3, q4, q5⟩ := loop 20 0 M5 (by omega) (e35.cg (by omega) (by omega)) k5 (fun _ => rfl) (fun i' hi' => by omega)
  have mB : MKF t M B 227 2207 := by
    obtain ⟨x1, x2, x3, x4, x5⟩ := q2
    obtain ⟨y1, y2, y3, y4, y5⟩ := m3
    exact ⟨y1.tr x1, x2, by omega, by omega, by omega⟩
  have e2B : MKF t M2 B 221 2160 := by
    obtain ⟨x1, x2, x3, x4, x5⟩ := q2
    obtain ⟨y1, y2, y3, y4, y5⟩ := e23
    exact ⟨y1.tr x1, x2, by omega, by omega, by omega⟩
  rw [← hT]
  have kt1 : q_kd M1 t = (1, 11) := by rw [m1.kd ht, hk]
  have kt2 : q_kd M2 t = (1, 11) := by rw [a2.kd ht, hk]
  have kt3 : q_kd M3 t = (1, 11) := by rw [m3.kd ht, hk]
  have kt4 : q_kd M4 t = (1, 11) := by rw [e34.kd tl3, kt3]
  refine ⟨B, C_of (fun P => ?_), ⟨by rw [mB.kd ht, hk], by rw [q4, v5.1], by rw [q4, v5.2.1], by rw [q4, v5.2.2.1], by rw [q4, v5.2.2.2.1], by rw [q4, v5.2.2.2.2]⟩, fun g c e18 e19 e23' hc => ?_, q3, q5, mB⟩
  · have q1' := q1 P
    rw [eX11_init]
    simp (disch := first | assumption | exact bI_lo | exact bI_hi | exact bI_01 | (show (List.map q_wd _).sum ≤ 8; with_unfolding_all exact Nat.le_of_ble_eq_true rfl) | omega | (repeat' (first | assumption | refine kdw ?_ | refine kdal ?_ ?_ | ((try simp only [q_top_wr, q_top_al]); omega)))) only [kX11_init_0, kX11_init_1, kX11_init_4, kX11_init_5, kX11_init_8i, kX11_init_8r, kX11_init_9E, kX11_init_12, kX11_init_15, kX11_init_16, kX11_init_17, kX11_init_20, kX11_init_21, kX11_init_22, q_cut_i, q_cut_r, q_cut_l, q_cut_n, q_psh_n, q_psh_s, bI_eq0, ite_not, hM1, ← hT, T_of t2, hM3]
    simp (disch := first | assumption | exact bI_lo | exact bI_hi | exact bI_01 | (show (List.map q_wd _).sum ≤ 8; with_unfolding_all exact Nat.le_of_ble_eq_true rfl) | omega | (repeat' (first | assumption | refine kdw ?_ | refine kdal ?_ ?_ | ((try simp only [q_top_wr, q_top_al]); omega)))) only [kX11_init_25, kX11_init_26, kX11_init_28, kX11_init_31, kX11_init_34, kX11_init_35, kX11_init_36, kX11_init_39, kX11_init_40, q_cut_i, q_cut_r, q_cut_l, q_cut_n, q_psh_n, q_psh_s, bI_eq0, ite_not, i20N, hM4, p3, hM5]
    exact q1'
  · have F := F2 g c e18 (fun k hk => by rw [e19 k hk]) (by rw [e23']) hc
    obtain ⟨f1, f2, f3, f4, f5, f6, f7, f8, f9, f10, f11, f12⟩ := F
    have s18 : Sm M2 B (g 18) := e2B.sm (by omega) (by omega)
    have s23 : Sm M2 B (g 23) := e2B.sm (by omega) (by omega)
    have s19 : ∀ k, k < 4 → Sm M2 B (g (19 + k)) := fun k hk => by rw [e19 k hk]; exact e2B.sm (by omega) (by omega)
    refine ⟨by rw [s18.1, f1], by rw [s18.2, f2], by rw [s18.2, f3], by rw [s18.2, f4], by rw [s23.1, f5], f6, fun k hk => ?_, fun k hk i q hq => by simp at hq, fun i hi => by rw [s23.2]; exact f9 i hi, fun i v hv => by simp at hv, fun v hv => by simp at hv, fun q hq => by simp at hq⟩
    obtain ⟨z1, z2, z3, z4, z5, z6⟩ := f7 k hk
    exact ⟨by rw [s18.2, z1], by rw [(s19 k hk).1, z2], z3, z4, z5, fun i hi => by rw [(s19 k hk).2]; exact z6 i hi⟩
end MK3
