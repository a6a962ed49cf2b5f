
/-! what is made: the small things -/
theorem kdw {M : QM} {t a j : Nat} {v : CV} {k : Nat × Nat} (h : q_kd M t = k) : q_kd (q_wr M a j v) t = k := h
theorem kdal {M : QM} {t n : Nat} {kd k : Nat × Nat} {f : Nat → CV} (h : q_kd M t = k) (hl : t < q_top M) : q_kd (q_al M kd n f) t = k := by rw [q_kd_al, if_neg (by omega), h]
theorem kdt {M : QM} {b n : Nat} {kd : Nat × Nat} {f : Nat → CV} (h : b = q_top M) : q_kd (q_al M kd n f) b = kd := by rw [q_kd_al, if_pos h]
theorem fvo {M : QM} {a b j k : Nat} {v v' : CV} (hn : b ≠ a) (h : q_fv M b j = v) : q_fv (q_wr M a k v') b j = v := by rw [q_fv_wrE, if_neg (fun z => hn z.1), h]
theorem fval {M : QM} {b j n : Nat} {kd : Nat × Nat} {f : Nat → CV} {v : CV} (hl : b < q_top M) (h : q_fv M b j = v) : q_fv (q_al M kd n f) b j = v := by rw [q_fv_al, if_neg (by omega), h]
theorem fvt {M : QM} {b j n : Nat} {kd : Nat × Nat} {f : Nat → CV} (h : b = q_top M) : q_fv (q_al M kd n f) b j = f j := by rw [q_fv_al, if_pos h]
/-- k cells and s slots made at the top, only t was written -/
def MKF (t : Nat) (M M' : QM) (k s : Nat) : Prop := q_fr (fun x => x = t) M M' ∧ q_wf M' ∧ q_top M' = q_top M + k ∧ q_ct M M' k s
theorem MKF.fv {t : Nat} {M M' : QM} {k s : Nat} (h : MKF t M M' k s) {b j : Nat} (hb : b < q_top M) (hn : b ≠ t) : q_fv M' b j = q_fv M b j := h.1.2.2.2 b hb hn j
theorem MKF.kd {t : Nat} {M M' : QM} {k s : Nat} (h : MKF t M M' k s) {b : Nat} (hb : b < q_top M) : q_kd M' b = q_kd M b := h.1.2.2.1 b hb
section MK1
variable {M : QM} {t d : Nat}
theorem i4N : (4 : Int).toNat = 4 := rfl
theorem i24N : (24 : Int).toNat = 24 := rfl
theorem i8N : (8 : Int).toNat = 8 := rfl
theorem i9N : (9 : Int).toNat = 9 := rfl
theorem i16N : (16 : Int).toNat = 16 := rfl
theorem i20N : (20 : Int).toNat = 20 := rfl
theorem i6N : (6 : Int).toNat = 6 := rfl
theorem vX9_init (hk : q_kd M t = (1, 9)) (hw : q_wf M) : ∃ M', q_C (d + 1) iX9_init [qr t] M none M' ∧ TL M' t (q_top M) (q_top M + 1) 4 [] ∧ MKF t M M' 2 8 := by
  have ht := hw.lt (a := t) (by rw [hk]; simp)
  refine ⟨q_wr (q_wr (q_al (q_wr (q_al M (2, 4) 4 (fun _ => qi 0)) t 0 (qr (q_top M))) (2, 4) 4 (fun _ => qi 0)) t 1 (qr (q_top M + 1))) t 2 (qi 0), C_of (fun P => ?_), ⟨?_, ?_, ?_, ?_, ?_, ?_, by simp, by omega, by omega, by omega, fun i h => by simp at h, fun i hi => ⟨⟨0, ?_⟩, ⟨0, ?_⟩⟩⟩, ⟨?_, hw.al.wr.al.wr.wr, rfl, ⟨rfl, by show q_ns M + 4 + 4 = _; omega⟩⟩⟩
  · rw [eX9_init]
    simp (disch := first | assumption | exact bI_lo | exact bI_hi | exact bI_01 | (show (List.map q_wd _).sum ≤ 8; with_unfolding_all exact Nat.le_of_ble_eq_true rfl) | omega | (repeat' (first | assumption | refine kdw ?_ | refine kdal ?_ ?_ | ((try simp only [q_top_wr, q_top_al]); omega)))) only [kX9_init_0, kX9_init_1, kX9_init_4, kX9_init_5, kX9_init_6, kX9_init_8, kX9_init_11, kX9_init_12, kX9_init_13, kX9_init_15, kX9_init_18, kX9_init_19, kX9_init_20, kX9_init_23, q_cut_i, q_cut_r, q_cut_l, q_cut_n, q_psh_n, q_psh_s, bI_eq0, ite_not, i4N]
    rfl
  · (repeat' (first | assumption | exact kdt rfl | refine kdw ?_ | refine kdal ?_ (by (try simp only [q_top_wr, q_top_al]); omega)))
  · (repeat' (first | exact q_fws | assumption | exact fvt rfl | refine q_fwo (by decide) ?_ | refine fvo (by omega) ?_ | refine fval (by (try simp only [q_top_wr, q_top_al]); omega) ?_))
  · (repeat' (first | exact q_fws | assumption | exact fvt rfl | refine q_fwo (by decide) ?_ | refine fvo (by omega) ?_ | refine fval (by (try simp only [q_top_wr, q_top_al]); omega) ?_))
  · (repeat' (first | exact q_fws | assumption | exact fvt rfl | refine q_fwo (by decide) ?_ | refine fvo (by omega) ?_ | refine fval (by (try simp only [q_top_wr, q_top_al]); omega) ?_))
  · (repeat' (first | assumption | exact kdt rfl | refine kdw ?_ | refine kdal ?_ (by (try simp only [q_top_wr, q_top_al]); omega)))
  · (repeat' (first | assumption | exact kdt rfl | refine kdw ?_ | refine kdal ?_ (by (try simp only [q_top_wr, q_top_al]); omega)))
  · (repeat' (first | exact q_fws | assumption | exact fvt rfl | refine q_fwo (by decide) ?_ | refine fvo (by omega) ?_ | refine fval (by (try simp only [q_top_wr, q_top_al]); omega) ?_))
  · (repeat' (first | exact q_fws | assumption | exact fvt rfl | refine q_fwo (by decide) ?_ | refine fvo (by omega) ?_ | refine fval (by (try simp only [q_top_wr, q_top_al]); omega) ?_))
  · exact ((((q_fr.al (A := fun x => x = t)).tr (q_fr.wr rfl)).tr q_fr.al).tr (q_fr.wr rfl)).tr (q_fr.wr rfl)
theorem vX2_init (hk : q_kd M t = (1, 2)) (hw : q_wf M) : ∃ M', q_C (d + 1) iX2_init [qr t] M none M' ∧ NM M' t (q_top M) (q_top M + 1) 4 [] ∧ MKF t M M' 2 8 := by
  have ht := hw.lt (a := t) (by rw [hk]; simp)
  refine ⟨q_wr (q_wr (q_al (q_wr (q_al M (2, 4) 4 (fun _ => qi 0)) t 0 (qr (q_top M))) (3, 4) 4 (fun _ => ql 0)) t 1 (qr (q_top M + 1))) t 2 (qi 0), C_of (fun P => ?_), ⟨?_, ?_, ?_, ?_, ?_, ?_, by simp, by omega, by omega, fun i h => by simp at h, fun i hi => ⟨⟨0, ?_⟩, ⟨0, ?_⟩⟩⟩, ⟨?_, hw.al.wr.al.wr.wr, rfl, ⟨rfl, by show q_ns M + 4 + 4 = _; omega⟩⟩⟩
  · rw [eX2_init]
    simp (disch := first | assumption | exact bI_lo | exact bI_hi | exact bI_01 | (show (List.map q_wd _).sum ≤ 8; with_unfolding_all exact Nat.le_of_ble_eq_true rfl) | omega | (repeat' (first | assumption | refine kdw ?_ | refine kdal ?_ ?_ | ((try simp only [q_top_wr, q_top_al]); omega)))) only [kX2_init_0, kX2_init_1, kX2_init_4, kX2_init_5, kX2_init_6, kX2_init_8, kX2_init_11, kX2_init_12, kX2_init_13, kX2_init_15, kX2_init_18, kX2_init_19, kX2_init_20, kX2_init_23, q_cut_i, q_cut_r, q_cut_l, q_cut_n, q_psh_n, q_psh_s, bI_eq0, ite_not, i4N]
    rfl
  · (repeat' (first | assumption | exact kdt rfl | refine kdw ?_ | refine kdal ?_ (by (try simp only [q_top_wr, q_top_al]); omega)))
  · (repeat' (first | exact q_fws | assumption | exact fvt rfl | refine q_fwo (by decide) ?_ | refine fvo (by omega) ?_ | refine fval (by (try simp only [q_top_wr, q_top_al]); omega) ?_))
  · (repeat' (first | exact q_fws | assumption | exact fvt rfl | refine q_fwo (by decide) ?_ | refine fvo (by omega) ?_ | refine fval (by (try simp only [q_top_wr, q_top_al]); omega) ?_))
  · (repeat' (first | exact q_fws | assumption | exact fvt rfl | refine q_fwo (by decide) ?_ | refine fvo (by omega) ?_ | refine fval (by (try simp only [q_top_wr, q_top_al]); omega) ?_))
  · (repeat' (first | assumption | exact kdt rfl | refine kdw ?_ | refine kdal ?_ (by (try simp only [q_top_wr, q_top_al]); omega)))
  · (repeat' (first | assumption | exact kdt rfl | refine kdw ?_ | refine kdal ?_ (by (try simp only [q_top_wr, q_top_al]); omega)))
  · (repeat' (first | exact q_fws | assumption | exact fvt rfl | refine q_fwo (by decide) ?_ | refine fvo (by omega) ?_ | refine fval (by (try simp only [q_top_wr, q_top_al]); omega) ?_))
  · (repeat' (first | exact q_fws | assumption | exact fvt rfl | refine q_fwo (by decide) ?_ | refine fvo (by omega) ?_ | refine fval (by (try simp only [q_top_wr, q_top_al]); omega) ?_))
  · exact ((((q_fr.al (A := fun x => x = t)).tr (q_fr.wr rfl)).tr q_fr.al).tr (q_fr.wr rfl)).tr (q_fr.wr rfl)
theorem vX1_init (hk : q_kd M t = (1, 1)) (hw : q_wf M) : ∃ M', q_C (d + 1) iX1_init [qr t] M none M' ∧ HI M' t (q_top M) (q_top M + 1) (q_top M + 2) [] ∧ MKF t M M' 3 72 := by
  have ht := hw.lt (a := t) (by rw [hk]; simp)
  refine ⟨q_wr (q_wr (q_al (q_wr (q_al (q_wr (q_al M (2, 24) 24 (fun _ => qi 0)) t 0 (qr (q_top M))) (2, 24) 24 (fun _ => qi 0)) t 1 (qr (q_top M + 1))) (2, 24) 24 (fun _ => qi 0)) t 2 (qr (q_top M + 2))) t 3 (qi 0), C_of (fun P => ?_), ⟨?_, ?_, ?_, ?_, ?_, ?_, ?_, ?_, by omega, by omega, by omega, by simp, fun i h => by simp at h, fun i h => by simp at h, fun i hi => ⟨⟨0, ?_⟩, ⟨0, ?_⟩, ⟨0, ?_⟩⟩⟩, ⟨?_, hw.al.wr.al.wr.al.wr.wr, rfl, ⟨rfl, by show q_ns M + 24 + 24 + 24 = _; omega⟩⟩⟩
  · rw [eX1_init]
    simp (disch := first | assumption | exact bI_lo | exact bI_hi | exact bI_01 | (show (List.map q_wd _).sum ≤ 8; with_unfolding_all exact Nat.le_of_ble_eq_true rfl) | omega | (repeat' (first | assumption | refine kdw ?_ | refine kdal ?_ ?_ | ((try simp only [q_top_wr, q_top_al]); omega)))) only [kX1_init_0, kX1_init_1, kX1_init_4, kX1_init_5, kX1_init_7, kX1_init_9, kX1_init_12, kX1_init_13, kX1_init_15, kX1_init_17, kX1_init_20, kX1_init_21, kX1_init_23, kX1_init_25, kX1_init_28, kX1_init_29, kX1_init_30, kX1_init_33, q_cut_i, q_cut_r, q_cut_l, q_cut_n, q_psh_n, q_psh_s, bI_eq0, ite_not, i24N]
    rfl
  · (repeat' (first | assumption | exact kdt rfl | refine kdw ?_ | refine kdal ?_ (by (try simp only [q_top_wr, q_top_al]); omega)))
  · (repeat' (first | exact q_fws | assumption | exact fvt rfl | refine q_fwo (by decide) ?_ | refine fvo (by omega) ?_ | refine fval (by (try simp only [q_top_wr, q_top_al]); omega) ?_))
  · (repeat' (first | exact q_fws | assumption | exact fvt rfl | refine q_fwo (by decide) ?_ | refine fvo (by omega) ?_ | refine fval (by (try simp only [q_top_wr, q_top_al]); omega) ?_))
  · (repeat' (first | exact q_fws | assumption | exact fvt rfl | refine q_fwo (by decide) ?_ | refine fvo (by omega) ?_ | refine fval (by (try simp only [q_top_wr, q_top_al]); omega) ?_))
  · (repeat' (first | exact q_fws | assumption | exact fvt rfl | refine q_fwo (by decide) ?_ | refine fvo (by omega) ?_ | refine fval (by (try simp only [q_top_wr, q_top_al]); omega) ?_))
  · (repeat' (first | assumption | exact kdt rfl | refine kdw ?_ | refine kdal ?_ (by (try simp only [q_top_wr, q_top_al]); omega)))
  · (repeat' (first | assumption | exact kdt rfl | refine kdw ?_ | refine kdal ?_ (by (try simp only [q_top_wr, q_top_al]); omega)))
  · (repeat' (first | assumption | exact kdt rfl | refine kdw ?_ | refine kdal ?_ (by (try simp only [q_top_wr, q_top_al]); omega)))
  · (repeat' (first | exact q_fws | assumption | exact fvt rfl | refine q_fwo (by decide) ?_ | refine fvo (by omega) ?_ | refine fval (by (try simp only [q_top_wr, q_top_al]); omega) ?_))
  · (repeat' (first | exact q_fws | assumption | exact fvt rfl | refine q_fwo (by decide) ?_ | refine fvo (by omega) ?_ | refine fval (by (try simp only [q_top_wr, q_top_al]); omega) ?_))
  · (repeat' (first | exact q_fws | assumption | exact fvt rfl | refine q_fwo (by decide) ?_ | refine fvo (by omega) ?_ | refine fval (by (try simp only [q_top_wr, q_top_al]); omega) ?_))
  · exact ((((((q_fr.al (A := fun x => x = t)).tr (q_fr.wr rfl)).tr q_fr.al).tr (q_fr.wr rfl)).tr q_fr.al).tr (q_fr.wr rfl)).tr (q_fr.wr rfl)
theorem vX7_init (hk : q_kd M t = (1, 7)) (hw : q_wf M) : ∃ M', q_C (d + 1) iX7_init [qr t] M none M' ∧ SPm M' t (q_top M) (fun _ => 0) ∧ MKF t M M' 1 9 := by
  have ht := hw.lt (a := t) (by rw [hk]; simp)
  refine ⟨q_wr (q_al M (2, 9) 9 (fun _ => qi 0)) t 0 (qr (q_top M)), C_of (fun P => ?_), ⟨?_, ?_, ?_, fun j hj => ?_⟩, ⟨?_, hw.al.wr, rfl, ⟨rfl, rfl⟩⟩⟩
  · rw [eX7_init]
    simp (disch := first | assumption | exact bI_lo | exact bI_hi | exact bI_01 | (show (List.map q_wd _).sum ≤ 8; with_unfolding_all exact Nat.le_of_ble_eq_true rfl) | omega | (repeat' (first | assumption | refine kdw ?_ | refine kdal ?_ ?_ | ((try simp only [q_top_wr, q_top_al]); omega)))) only [kX7_init_0, kX7_init_1, kX7_init_4, kX7_init_5, kX7_init_7, kX7_init_9, kX7_init_12, q_cut_i, q_cut_r, q_cut_l, q_cut_n, q_psh_n, q_psh_s, bI_eq0, ite_not, i9N]
  · (repeat' (first | assumption | exact kdt rfl | refine kdw ?_ | refine kdal ?_ (by (try simp only [q_top_wr, q_top_al]); omega)))
  · (repeat' (first | exact q_fws | assumption | exact fvt rfl | refine q_fwo (by decide) ?_ | refine fvo (by omega) ?_ | refine fval (by (try simp only [q_top_wr, q_top_al]); omega) ?_))
  · (repeat' (first | assumption | exact kdt rfl | refine kdw ?_ | refine kdal ?_ (by (try simp only [q_top_wr, q_top_al]); omega)))
  · (repeat' (first | exact q_fws | assumption | exact fvt rfl | refine q_fwo (by decide) ?_ | refine fvo (by omega) ?_ | refine fval (by (try simp only [q_top_wr, q_top_al]); omega) ?_))
  · exact (q_fr.al (A := fun x => x = t)).tr (q_fr.wr rfl)
theorem vX8_init (hk : q_kd M t = (1, 8)) (hw : q_wf M) : ∃ M', q_C (d + 1) iX8_init [qr t] M none M' ∧ TP M' t (q_top M) [] ∧ MKF t M M' 1 80 := by
  obtain ⟨v, M', h1, rfl, h2, h3⟩ := sX8_init (d := d) hk hw (P := fun v M' => v = none ∧ TP M' t (q_top M) [] ∧ MKF t M M' 1 80) (fun M' a1 a2 a3 a4 a5 => ⟨rfl, a1, a2, a3, a4, a5⟩)
  exact ⟨M', h1, h2, h3⟩
theorem vAL_init (hk : q_kd M t = (1, 15)) (hw : q_wf M) (h2 : q_fv M t 2 = qi 0) (h0 : q_kd M (q_gs M 0) = (9, 0)) : ∃ M', q_C (d + 3) iJx4a65c_init_da8c8 [qr t] M none M' ∧ JR M' t (q_gs M 0) 0 [] [] ∧ MKF t M M' 0 0 := by
  have ht := hw.lt (a := t) (by rw [hk]; simp)
  have k1 : (q_kd M t).1 = 1 := by rw [hk]
  have r1 : ∀ x : QP, q_T (d + 1) iJxa1e45_init_da8c8 [qr t] M x = x none M := fun x => by
    rw [eJxa1e45_init_da8c8]
    simp (disch := first | assumption | exact bI_lo | exact bI_hi | exact bI_01 | (show (List.map q_wd _).sum ≤ 8; with_unfolding_all exact Nat.le_of_ble_eq_true rfl) | omega | (repeat' (first | assumption | refine kdw ?_ | refine kdal ?_ ?_ | ((try simp only [q_top_wr, q_top_al]); omega)))) only [kJxa1e45_init_da8c8_0, kJxa1e45_init_da8c8_1, kJxa1e45_init_da8c8_4, q_cut_i, q_cut_r, q_cut_l, q_cut_n, q_psh_n, q_psh_s, bI_eq0, ite_not]
  have r2 : ∀ x : QP, q_T (d + 2) iJxc12de_init_da8c8 [qr t] M x = x none (q_wr M t 0 (qi 0)) := fun x => by
    rw [eJxc12de_init_da8c8]
    simp (disch := first | assumption | exact bI_lo | exact bI_hi | exact bI_01 | (show (List.map q_wd _).sum ≤ 8; with_unfolding_all exact Nat.le_of_ble_eq_true rfl) | omega | (repeat' (first | assumption | refine kdw ?_ | refine kdal ?_ ?_ | ((try simp only [q_top_wr, q_top_al]); omega)))) only [kJxc12de_init_da8c8_0, kJxc12de_init_da8c8_1E, kJxc12de_init_da8c8_4, kJxc12de_init_da8c8_5, kJxc12de_init_da8c8_6, kJxc12de_init_da8c8_9, q_cut_i, q_cut_r, q_cut_l, q_cut_n, q_psh_n, q_psh_s, bI_eq0, ite_not, r1]
  refine ⟨q_wr (q_wr M t 0 (qi 0)) t 1 (qr (q_gs M 0)), C_of (fun P => ?_), ⟨⟨hk, ⟨0, ?_⟩, ?_, ?_, h0, by simp, by omega, fun i v h => by simp at h, fun i hi => by omega, ⟨fun _ => rfl, fun _ => rfl⟩⟩, rfl, fun i v q h => by simp at h⟩, ⟨(q_fr.wr (A := fun x => x = t) rfl).tr (q_fr.wr rfl), hw.wr.wr, rfl, ⟨rfl, rfl⟩⟩⟩
  · rw [eJx4a65c_init_da8c8]
    simp (disch := first | assumption | exact bI_lo | exact bI_hi | exact bI_01 | (show (List.map q_wd _).sum ≤ 8; with_unfolding_all exact Nat.le_of_ble_eq_true rfl) | omega | (repeat' (first | assumption | refine kdw ?_ | refine kdal ?_ ?_ | ((try simp only [q_top_wr, q_top_al]); omega)))) only [kJx4a65c_init_da8c8_0, kJx4a65c_init_da8c8_1E, kJx4a65c_init_da8c8_4, kJx4a65c_init_da8c8_5, kJx4a65c_init_da8c8_8, kJx4a65c_init_da8c8_11, q_cut_i, q_cut_r, q_cut_l, q_cut_n, q_psh_n, q_psh_s, bI_eq0, ite_not, r2]
    rfl
  · exact q_fwo (by decide) q_fws
  · exact q_fws
  · exact q_fwo (by decide) (q_fwo (by decide) h2)
theorem vJ4_init (hk : q_kd M t = (1, 14)) (hw : q_wf M) (h3 : q_fv M t 3 = qi 0) : ∃ M', q_C (d + 2) iJ4_init_da8c8 [qr t] M none M' ∧ SBm M' t (q_top M) 16 [] ∧ MKF t M M' 1 16 := by
  have ht := hw.lt (a := t) (by rw [hk]; simp)
  have k1 : (q_kd M t).1 = 1 := by rw [hk]
  have r1 : ∀ x : QP, q_T (d + 1) iJ5_init_d00df [qr t, qi 16] M x = x none (q_wr (q_wr (q_al M (4, 16) 16 (fun _ => qi 0)) t 0 (qr (q_top M))) t 1 (qi 0)) := fun x => by
    rw [eJ5_init_d00df]
    simp (disch := first | assumption | exact bI_lo | exact bI_hi | exact bI_01 | (show (List.map q_wd _).sum ≤ 8; with_unfolding_all exact Nat.le_of_ble_eq_true rfl) | omega | (repeat' (first | assumption | refine kdw ?_ | refine kdal ?_ ?_ | ((try simp only [q_top_wr, q_top_al]); omega)))) only [kJ5_init_d00df_0, kJ5_init_d00df_1, kJ5_init_d00df_4, kJ5_init_d00df_7, kJ5_init_d00df_10, kJ5_init_d00df_11, kJ5_init_d00df_12, kJ5_init_d00df_14, kJ5_init_d00df_17, kJ5_init_d00df_18, kJ5_init_d00df_19, kJ5_init_d00df_22, kJ5_init_d00df_25, kJ5_init_d00df_26, kJ5_init_d00df_30, kJ5_init_d00df_33, kJ5_init_d00df_34, kJ5_init_d00df_35, kJ5_init_d00df_38, q_cut_i, q_cut_r, q_cut_l, q_cut_n, q_psh_n, q_psh_s, bI_eq0, ite_not, ↓if_pos, ↓if_neg, ↓ite_bI_t, ↓ite_bI_f, i16N]
  refine ⟨q_wr (q_wr (q_al M (4, 16) 16 (fun _ => qi 0)) t 0 (qr (q_top M))) t 1 (qi 0), C_of (fun P => ?_), ⟨?_, ?_, ?_, ?_, ?_, by simp, by omega, by omega, fun i v h => by simp at h, fun i hi => ⟨0, ?_, by omega, by omega⟩⟩, ⟨?_, hw.al.wr.wr, rfl, ⟨rfl, rfl⟩⟩⟩
  · rw [eJ4_init_da8c8]
    simp (disch := first | assumption | exact bI_lo | exact bI_hi | exact bI_01 | (show (List.map q_wd _).sum ≤ 8; with_unfolding_all exact Nat.le_of_ble_eq_true rfl) | omega | (repeat' (first | assumption | refine kdw ?_ | refine kdal ?_ ?_ | ((try simp only [q_top_wr, q_top_al]); omega)))) only [kJ4_init_da8c8_0, kJ4_init_da8c8_1, kJ4_init_da8c8_3E, kJ4_init_da8c8_6, q_cut_i, q_cut_r, q_cut_l, q_cut_n, q_psh_n, q_psh_s, bI_eq0, ite_not, r1]
  · (repeat' (first | assumption | exact kdt rfl | refine kdw ?_ | refine kdal ?_ (by (try simp only [q_top_wr, q_top_al]); omega)))
  · (repeat' (first | exact q_fws | assumption | exact fvt rfl | refine q_fwo (by decide) ?_ | refine fvo (by omega) ?_ | refine fval (by (try simp only [q_top_wr, q_top_al]); omega) ?_))
  · (repeat' (first | exact q_fws | assumption | exact fvt rfl | refine q_fwo (by decide) ?_ | refine fvo (by omega) ?_ | refine fval (by (try simp only [q_top_wr, q_top_al]); omega) ?_))
  · simp only [q_fv_wrE, q_fv_al, q_top_wr, q_top_al]
    rw [if_neg (by omega), if_neg (by omega), if_neg (by omega), h3]; rfl
  · (repeat' (first | assumption | exact kdt rfl | refine kdw ?_ | refine kdal ?_ (by (try simp only [q_top_wr, q_top_al]); omega)))
  · (repeat' (first | exact q_fws | assumption | exact fvt rfl | refine q_fwo (by decide) ?_ | refine fvo (by omega) ?_ | refine fval (by (try simp only [q_top_wr, q_top_al]); omega) ?_))
  · exact ((q_fr.al (A := fun x => x = t)).tr (q_fr.wr rfl)).tr (q_fr.wr rfl)
end MK1
