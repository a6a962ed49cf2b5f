
/-! StringBuilder -/
theorem y_b128 : ∀ n : Nat, n < 128 → q_i2b (n : Int) = n ∧ q_and (n : Int) 255 = n ∧ q_i2c (n : Int) = n := by decide +kernel
theorem y_byte {c : Int} (h0 : 0 ≤ c) (h1 : c ≤ 127) : q_i2b c = c ∧ q_and c 255 = c ∧ q_i2c c = c := by
  have := y_b128 c.toNat (by omega)
  rw [show ((c.toNat : Nat) : Int) = c by omega] at this
  exact this
theorem y_sh0a : ∀ a : Nat, a < 64 → ∀ b : Nat, b < 32 → q_shr ((32 * a + b : Nat) : Int) 0 = ((32 * a + b : Nat) : Int) ∧ q_shl ((32 * a + b : Nat) : Int) 0 = ((32 * a + b : Nat) : Int) := by decide +kernel
theorem y_sh0 (n : Nat) (h : n < 2048) : q_shr (n : Int) 0 = n ∧ q_shl (n : Int) 0 = n := by
  have := y_sh0a (n / 32) (by omega) (n % 32) (by omega)
  rw [show 32 * (n / 32) + n % 32 = n by omega] at this
  exact this
theorem y_sh2 : q_shl 2 0 = 2 := by decide +kernel
theorem y_hun : ¬ Int32.ofInt 100 = 0 := by decide
theorem y_div100 {v : Int} (h0 : 0 ≤ v) (h1 : v < 2147483648) : q_div (-v) 100 = -(v / 100) := by
  rw [q_div, Int32.toInt_div_of_ne_right _ _ (by decide), Int32.toInt_ofInt_of_le (by omega) (by omega), Int32.toInt_ofInt_of_le (by omega) (by omega), Int.neg_tdiv, Int.tdiv_eq_ediv_of_nonneg h0]
theorem uJ8_nl {p gr pf : Nat} (h0 : 0 < p + max gr pf) (h1 : p + max gr pf ≤ 100000) {d : Nat} {M : QM} {x : QP} : q_T (d + 1) iJ8_newLength_cabcc [qi p, qi gr, qi pf] M x = x (some (qi (p + max gr pf : Nat))) M := by
  have e : (p : Int) + max (gr : Int) ((pf : Nat) : Int) = ((p + max gr pf : Nat) : Int) := by omega
  have e2 : max (gr : Int) ((pf : Nat) : Int) + p = ((p + max gr pf : Nat) : Int) := by omega
  rw [eJ8_newLength_cabcc]
  simp (disch := first | assumption | exact bI_lo | exact bI_hi | exact bI_01 | (show (List.map q_wd _).sum ≤ 8; with_unfolding_all exact Nat.le_of_ble_eq_true rfl) | omega) only [kJ8_newLength_cabcc_0, kJ8_newLength_cabcc_1, kJ8_newLength_cabcc_2, kJ8_newLength_cabcc_3, kJ8_newLength_cabcc_6, kJ8_newLength_cabcc_7, kJ8_newLength_cabcc_8, kJ8_newLength_cabcc_9, kJ8_newLength_cabcc_10, kJ8_newLength_cabcc_13, kJ8_newLength_cabcc_14, kJ8_newLength_cabcc_16, kJ8_newLength_cabcc_19, kJ8_newLength_cabcc_20, kJ8_newLength_cabcc_21, kJ8_newLength_cabcc_22, kJ8_newLength_cabcc_23E, kJ8_newLength_cabcc_26, q_cut_i, q_cut_r, q_cut_l, q_cut_n, q_psh_n, q_psh_s, bI_eq0, ite_not, ↓if_pos, ↓if_neg, ↓ite_bI_t, ↓ite_bI_f, e, e2]
theorem sJ7_copyOfB {d : Nat} {M : QM} {a n cap : Nat} (hk : q_kd M a = (4, cap)) (hw : q_wf M) (hcap : cap < n) (hn : n ≤ 60000) (he : ∀ i, i < cap → ∃ z, q_fv M a i = qi z ∧ -128 ≤ z ∧ z ≤ 127) : ∃ M1, q_C (d + 1) iJ7_copyOf_9075b [qr a, qi n] M (some (qr (q_top M))) M1 ∧ q_cpd M M1 a cap n 4 (qi 0) := by
  have hat := hw.lt (a := a) (by rw [hk]; simp)
  have k0 : (q_kd M a).1 = 4 := by rw [hk]
  have k02 : (q_kd M a).2 = cap := by rw [hk]
  have k1 : q_kd (q_al M (4, n) n (fun _ => qi 0)) a = (4, cap) := by rw [q_kd_al, if_neg (by omega)]; exact hk
  have k11 : (q_kd (q_al M (4, n) n (fun _ => qi 0)) a).1 = 4 := by rw [k1]
  have k12 : (q_kd (q_al M (4, n) n (fun _ => qi 0)) a).2 = cap := by rw [k1]
  have hac := q_ac2ok (z := qi 0) (by decide) hk hat (Nat.le_of_lt hcap) (fun i hi => by
    obtain ⟨z, hz, h1, h2⟩ := he i hi
    rw [hz]
    show (decide (-128 ≤ z) && decide (z ≤ 127)) = true
    rw [decide_eq_true h1, decide_eq_true h2]; rfl)
  refine ⟨_, C_of (fun P => ?_), q_cpd_ok hat⟩
  rw [eJ7_copyOf_9075b]
  simp (disch := first | assumption | omega | (simp only [q_kd_wr, q_fv_wrE, q_top_wr, q_nc_wr, q_ns_wr, q_gs_wr, q_kd_al, q_fv_al, q_top_al, q_nc_al, q_ns_al, q_gs_al, q_kd_cp, q_fv_cpE, q_top_cp, q_nc_cp, q_ns_cp, q_gs_cp]; first | done | assumption | omega)) only [kJ7_copyOf_9075b_0, kJ7_copyOf_9075b_1, kJ7_copyOf_9075b_2, kJ7_copyOf_9075b_3, kJ7_copyOf_9075b_14, kJ7_copyOf_9075b_15, kJ7_copyOf_9075b_17, kJ7_copyOf_9075b_18, kJ7_copyOf_9075b_19, kJ7_copyOf_9075b_20, kJ7_copyOf_9075b_21, kJ7_copyOf_9075b_22, kJ7_copyOf_9075b_23, kJ7_copyOf_9075b_24, q_cut_i, q_cut_r, q_cut_l, q_cut_n, if_pos, if_neg, q_toN, k02, k12]
  rw [kJ7_copyOf_9075b_25 (by omega) (by omega) (by omega) (by omega) (Nat.le_of_ble_eq_true rfl), Int.min_eq_left (by omega)]
  rw [kJ7_copyOf_9075b_28 hac (Nat.le_of_ble_eq_true rfl)]
  simp (disch := first | assumption | omega | (simp only [q_kd_wr, q_fv_wrE, q_top_wr, q_nc_wr, q_ns_wr, q_gs_wr, q_kd_al, q_fv_al, q_top_al, q_nc_al, q_ns_al, q_gs_al, q_kd_cp, q_fv_cpE, q_top_cp, q_nc_cp, q_ns_cp, q_gs_cp]; first | done | assumption | omega)) only [kJ7_copyOf_9075b_31, kJ7_copyOf_9075b_32, q_toN]
  rfl
/-- a StringBuilder of ASCII -/
def SBm (M : QM) (a e cap : Nat) (L : List Int) : Prop := q_kd M a = (1, 14) ∧ q_fv M a 0 = qr e ∧ q_fv M a 1 = qi 0 ∧ q_fv M a 3 = qi L.length ∧ q_kd M e = (4, cap) ∧ L.length ≤ cap ∧ 16 ≤ cap ∧ cap ≤ 1000 ∧ (∀ (i : Nat) (v : Int), L[i]? = some v → q_fv M e i = qi v ∧ 0 ≤ v ∧ v ≤ 127) ∧ ∀ i, i < cap → ∃ z, q_fv M e i = qi z ∧ -128 ≤ z ∧ z ≤ 127
theorem SBm_ae {M : QM} {a e cap : Nat} {L : List Int} (h : SBm M a e cap L) : a ≠ e := q_neK h.1 h.2.2.2.2.1 (by simp)
theorem SBm_fr {M M' : QM} {a e cap : Nat} {L : List Int} {A : Nat → Prop} (hw : q_wf M) (h : SBm M a e cap L) (hf : q_fr A M M') (h1 : ¬ A a) (h2 : ¬ A e) : SBm M' a e cap L := by
  obtain ⟨k, f0, f1, f3, ke, hl, c1, c2, hv, hz⟩ := h
  have al : a < q_top M := hw.lt (by rw [k]; simp)
  have el : e < q_top M := hw.lt (by rw [ke]; simp)
  have va : ∀ j, q_fv M' a j = q_fv M a j := hf.2.2.2 a al h1
  have ve : ∀ j, q_fv M' e j = q_fv M e j := hf.2.2.2 e el h2
  exact ⟨by rw [hf.2.2.1 a al, k], by rw [va, f0], by rw [va, f1], by rw [va, f3], by rw [hf.2.2.1 e el, ke], hl, c1, c2, fun i v w => by rw [ve]; exact hv i v w, fun i hi => by rw [ve]; exact hz i hi⟩
section SBS
variable {M : QM} {a e cap : Nat} {L : List Int} {d : Nat} {x : QP}
theorem uSB_lat (h : SBm M a e cap L) : q_T (d + 1) iJ5_isLatin1_aae02 [qr a] M x = x (some (qi 1)) M := by
  obtain ⟨k, f0, f1, f3, ke, hl, c1, c2, hv, hz⟩ := h
  rw [eJ5_isLatin1_aae02]
  simp (disch := first | assumption | exact bI_lo | exact bI_hi | exact bI_01 | (show (List.map q_wd _).sum ≤ 8; with_unfolding_all exact Nat.le_of_ble_eq_true rfl) | omega) only [kJ5_isLatin1_aae02_0, kJ5_isLatin1_aae02_3, kJ5_isLatin1_aae02_6, kJ5_isLatin1_aae02_7, kJ5_isLatin1_aae02_10, kJ5_isLatin1_aae02_13, kJ5_isLatin1_aae02_14, kJ5_isLatin1_aae02_17, kJ5_isLatin1_aae02_18, q_cut_i, q_cut_r, q_cut_l, q_cut_n, q_psh_n, q_psh_s, bI_eq0, ite_not, ↓if_pos, ↓if_neg, ↓ite_bI_t, ↓ite_bI_f, f1]
theorem uSB_len (h : SBm M a e cap L) : q_T (d + 2) iJ4_length_8abf5 [qr a] M x = x (some (qi L.length)) M := by
  obtain ⟨k, f0, f1, f3, ke, hl, c1, c2, hv, hz⟩ := h
  have k1 : (q_kd M a).1 = 1 := by rw [k]
  have r : ∀ x : QP, q_T (d + 1) iJ5_length_8abf5 [qr a] M x = x (some (qi L.length)) M := fun x => by
    rw [eJ5_length_8abf5]
    simp (disch := first | assumption | exact bI_lo | exact bI_hi | exact bI_01 | (show (List.map q_wd _).sum ≤ 8; with_unfolding_all exact Nat.le_of_ble_eq_true rfl) | omega) only [kJ5_length_8abf5_0, kJ5_length_8abf5_1, kJ5_length_8abf5_4, q_cut_i, q_cut_r, q_cut_l, q_cut_n, q_psh_n, q_psh_s, bI_eq0, ite_not, f3]
  rw [eJ4_length_8abf5]
  simp (disch := first | assumption | exact bI_lo | exact bI_hi | exact bI_01 | (show (List.map q_wd _).sum ≤ 8; with_unfolding_all exact Nat.le_of_ble_eq_true rfl) | omega) only [kJ4_length_8abf5_0, kJ4_length_8abf5_1E, kJ4_length_8abf5_4, q_cut_i, q_cut_r, q_cut_l, q_cut_n, q_psh_n, q_psh_s, bI_eq0, ite_not, r]
theorem uSB_at (h : SBm M a e cap L) {i : Nat} {v : Int} (hi : L[i]? = some v) : q_T (d + 4) iJ4_charAt_5068e [qr a, qi i] M x = x (some (qi v)) M := by
  obtain ⟨k, f0, f1, f3, ke, hl, c1, c2, hv, hz⟩ := h
  have k1 : (q_kd M a).1 = 1 := by rw [k]
  have il : i < L.length := by
    rcases Nat.lt_or_ge i L.length with z | z
    · exact z
    · rw [List.getElem?_eq_none z] at hi; simp at hi
  obtain ⟨v1, v2, v3⟩ := hv i v hi
  have yb := y_byte v2 v3
  have ke1 : (q_kd M e).1 = 4 ∨ (q_kd M e).1 = 8 := Or.inl (by rw [ke])
  have ke3 : 2 ≤ (q_kd M e).1 := by rw [ke]; exact Nat.le_of_ble_eq_true rfl
  have ke4 : (q_kd M e).1 ≤ 9 := by rw [ke]; exact Nat.le_of_ble_eq_true rfl
  have ke2 : ((q_kd M e).2 : Int) = cap := by rw [ke]
  have s0 := (y_sh0 cap (by omega)).1
  have em : min (L.length : Int) (cap : Int) = L.length := by omega
  have rc : ∀ x : QP, q_T (d + 2) iJ0_checkIndex_df160 [qi i, qi L.length] M x = x none M := fun x => by
    rw [eJ0_checkIndex_df160]
    by_cases g : q_gs M 4 = 0
    · simp (disch := first | assumption | exact bI_lo | exact bI_hi | exact bI_01 | (show (List.map q_wd _).sum ≤ 8; with_unfolding_all exact Nat.le_of_ble_eq_true rfl) | omega) only [kJ0_checkIndex_df160_0, kJ0_checkIndex_df160_1, kJ0_checkIndex_df160_2, kJ0_checkIndex_df160_5E, kJ0_checkIndex_df160_8i, kJ0_checkIndex_df160_8r, kJ0_checkIndex_df160_9, q_cut_i, q_cut_r, q_cut_l, q_cut_n, q_psh_n, q_psh_s, bI_eq0, ite_not, if_pos g, uJ3_check (i := i) (n := L.length) (by omega) (by omega) (by omega)]
    · simp (disch := first | assumption | exact bI_lo | exact bI_hi | exact bI_01 | (show (List.map q_wd _).sum ≤ 8; with_unfolding_all exact Nat.le_of_ble_eq_true rfl) | omega) only [kJ0_checkIndex_df160_0, kJ0_checkIndex_df160_1, kJ0_checkIndex_df160_2, kJ0_checkIndex_df160_5E, kJ0_checkIndex_df160_8i, kJ0_checkIndex_df160_8r, kJ0_checkIndex_df160_9, q_cut_i, q_cut_r, q_cut_l, q_cut_n, q_psh_n, q_psh_s, bI_eq0, ite_not, if_neg g, uJ3_check (i := i) (n := L.length) (by omega) (by omega) (by omega)]
  have r : ∀ x : QP, q_T (d + 3) iJ5_charAt_5068e [qr a, qi i] M x = x (some (qi v)) M := fun x => by
    rw [eJ5_charAt_5068e]
    simp (disch := first | assumption | exact bI_lo | exact bI_hi | exact bI_01 | (show (List.map q_wd _).sum ≤ 8; with_unfolding_all exact Nat.le_of_ble_eq_true rfl) | omega) only [kJ5_charAt_5068e_0, kJ5_charAt_5068e_1, kJ5_charAt_5068e_4, kJ5_charAt_5068e_5, kJ5_charAt_5068e_6, kJ5_charAt_5068e_9, kJ5_charAt_5068e_10, kJ5_charAt_5068e_11, kJ5_charAt_5068e_14, kJ5_charAt_5068e_15, kJ5_charAt_5068e_16, kJ5_charAt_5068e_17, kJ5_charAt_5068e_18, kJ5_charAt_5068e_21, kJ5_charAt_5068e_23, kJ5_charAt_5068e_24, kJ5_charAt_5068e_26E, kJ5_charAt_5068e_29, kJ5_charAt_5068e_30, kJ5_charAt_5068e_33, kJ5_charAt_5068e_34, kJ5_charAt_5068e_35, kJ5_charAt_5068e_36, kJ5_charAt_5068e_39, kJ5_charAt_5068e_40, kJ5_charAt_5068e_41, kJ5_charAt_5068e_42, kJ5_charAt_5068e_43, kJ5_charAt_5068e_47, q_cut_i, q_cut_r, q_cut_l, q_cut_n, q_psh_n, q_psh_s, bI_eq0, ite_not, ↓if_pos, ↓if_neg, ↓ite_bI_t, ↓ite_bI_f, f0, f1, f3, ke2, s0, em, rc, q_toN, v1, yb.2.1, yb.2.2]
  rw [eJ4_charAt_5068e]
  simp (disch := first | assumption | exact bI_lo | exact bI_hi | exact bI_01 | (show (List.map q_wd _).sum ≤ 8; with_unfolding_all exact Nat.le_of_ble_eq_true rfl) | omega) only [kJ4_charAt_5068e_0, kJ4_charAt_5068e_1, kJ4_charAt_5068e_2E, kJ4_charAt_5068e_5, q_cut_i, q_cut_r, q_cut_l, q_cut_n, q_psh_n, q_psh_s, bI_eq0, ite_not, r]
theorem uSB_set0 (h : SBm M a e cap L) (hw : q_wf M) : ∃ M', q_C (d + 3) iJ4_setLength_d00df [qr a, qi 0] M none M' ∧ SBm M' a e cap [] ∧ q_fr (fun x => x = a) M M' ∧ q_qt M M' := by
  have ae := SBm_ae h
  obtain ⟨k, f0, f1, f3, ke, hl, c1, c2, hv, hz⟩ := id h
  have k1 : (q_kd M a).1 = 1 := by rw [k]
  have ke3 : 2 ≤ (q_kd M e).1 := by rw [ke]; exact Nat.le_of_ble_eq_true rfl
  have ke4 : (q_kd M e).1 ≤ 9 := by rw [ke]; exact Nat.le_of_ble_eq_true rfl
  have ke2 : ((q_kd M e).2 : Int) = cap := by rw [ke]
  have s0 := (y_sh0 cap (by omega)).1
  have re : ∀ x : QP, q_T (d + 1) iJ5_ensureCapacityInternal_d00df [qr a, qi 0] M x = x none M := fun x => by
    rw [eJ5_ensureCapacityInternal_d00df]
    simp (disch := first | assumption | exact bI_lo | exact bI_hi | exact bI_01 | (show (List.map q_wd _).sum ≤ 8; with_unfolding_all exact Nat.le_of_ble_eq_true rfl) | omega) only [kJ5_ensureCapacityInternal_d00df_0, kJ5_ensureCapacityInternal_d00df_1, kJ5_ensureCapacityInternal_d00df_4, kJ5_ensureCapacityInternal_d00df_5, kJ5_ensureCapacityInternal_d00df_6, kJ5_ensureCapacityInternal_d00df_9, kJ5_ensureCapacityInternal_d00df_10, kJ5_ensureCapacityInternal_d00df_11, kJ5_ensureCapacityInternal_d00df_12, kJ5_ensureCapacityInternal_d00df_13, kJ5_ensureCapacityInternal_d00df_38, q_cut_i, q_cut_r, q_cut_l, q_cut_n, q_psh_n, q_psh_s, bI_eq0, ite_not, f0, f1, ke2, s0]
    rw [kJ5_ensureCapacityInternal_d00df_14 (by omega) (by omega), if_neg (by omega)]
    simp only [kJ5_ensureCapacityInternal_d00df_38]
  have nil : ∀ A : QM, q_kd A a = (1, 14) → q_fv A a 0 = qr e → q_fv A a 1 = qi 0 → q_kd A e = (4, cap) → (∀ j, q_fv A e j = q_fv M e j) → SBm (q_wr A a 3 (qi 0)) a e cap [] := fun A z0 z1 z2 z3 z4 =>
    ⟨z0, q_fwo (by decide) z1, q_fwo (by decide) z2, q_fws, z3, Nat.zero_le _, c1, c2, fun i v w => by simp at w, fun i hi => by rw [q_fv_wrE, if_neg (fun z => ae z.1.symm), z4]; exact hz i hi⟩
  by_cases g : (0 : Int) < L.length
  · refine ⟨q_wr (q_wr M a 2 (qi 1)) a 3 (qi 0), C_of (fun P => ?_), nil _ k (q_fwo (by decide) f0) (q_fwo (by decide) f1) ke (fun j => by rw [q_fv_wrE, if_neg (fun z => ae z.1.symm)]), (q_fr.wr (A := fun x => x = a) rfl).tr (q_fr.wr rfl), q_qt.wr.tr q_qt.wr⟩
    have r : ∀ x : QP, q_T (d + 2) iJ5_setLength_d00df [qr a, qi 0] M x = x none (q_wr (q_wr M a 2 (qi 1)) a 3 (qi 0)) := fun x => by
      rw [eJ5_setLength_d00df]
      simp (disch := first | assumption | exact bI_lo | exact bI_hi | exact bI_01 | (show (List.map q_wd _).sum ≤ 8; with_unfolding_all exact Nat.le_of_ble_eq_true rfl) | omega | (simp only [q_kd_wr]; first | assumption | omega)) only [kJ5_setLength_d00df_0, kJ5_setLength_d00df_1, kJ5_setLength_d00df_7i, kJ5_setLength_d00df_7r, kJ5_setLength_d00df_8, kJ5_setLength_d00df_13, kJ5_setLength_d00df_14, kJ5_setLength_d00df_15E, kJ5_setLength_d00df_18, kJ5_setLength_d00df_19, kJ5_setLength_d00df_22, kJ5_setLength_d00df_23, kJ5_setLength_d00df_26, kJ5_setLength_d00df_27E, kJ5_setLength_d00df_30, kJ5_setLength_d00df_33, kJ5_setLength_d00df_34, kJ5_setLength_d00df_37, kJ5_setLength_d00df_38, kJ5_setLength_d00df_41, kJ5_setLength_d00df_42E, kJ5_setLength_d00df_45, kJ5_setLength_d00df_48, kJ5_setLength_d00df_49, kJ5_setLength_d00df_52, kJ5_setLength_d00df_53, kJ5_setLength_d00df_56, kJ5_setLength_d00df_60, kJ5_setLength_d00df_63, kJ5_setLength_d00df_64, kJ5_setLength_d00df_67, kJ5_setLength_d00df_68, kJ5_setLength_d00df_71, kJ5_setLength_d00df_72, kJ5_setLength_d00df_73, kJ5_setLength_d00df_76, kJ5_setLength_d00df_77, kJ5_setLength_d00df_78, kJ5_setLength_d00df_81, q_cut_i, q_cut_r, q_cut_l, q_cut_n, q_psh_n, q_psh_s, bI_eq0, ite_not, ↓if_pos, ↓if_neg, ↓ite_bI_t, ↓ite_bI_f, re, f3]
    rw [eJ4_setLength_d00df]
    simp (disch := first | assumption | exact bI_lo | exact bI_hi | exact bI_01 | (show (List.map q_wd _).sum ≤ 8; with_unfolding_all exact Nat.le_of_ble_eq_true rfl) | omega) only [kJ4_setLength_d00df_0, kJ4_setLength_d00df_1, kJ4_setLength_d00df_2E, kJ4_setLength_d00df_5, q_cut_i, q_cut_r, q_cut_l, q_cut_n, q_psh_n, q_psh_s, bI_eq0, ite_not, r]
  · refine ⟨q_wr M a 3 (qi 0), C_of (fun P => ?_), nil _ k f0 f1 ke (fun j => rfl), q_fr.wr rfl, q_qt.wr⟩
    have r : ∀ x : QP, q_T (d + 2) iJ5_setLength_d00df [qr a, qi 0] M x = x none (q_wr M a 3 (qi 0)) := fun x => by
      rw [eJ5_setLength_d00df]
      simp (disch := first | assumption | exact bI_lo | exact bI_hi | exact bI_01 | (show (List.map q_wd _).sum ≤ 8; with_unfolding_all exact Nat.le_of_ble_eq_true rfl) | omega | (simp only [q_kd_wr]; first | assumption | omega)) only [kJ5_setLength_d00df_0, kJ5_setLength_d00df_1, kJ5_setLength_d00df_7i, kJ5_setLength_d00df_7r, kJ5_setLength_d00df_8, kJ5_setLength_d00df_13, kJ5_setLength_d00df_14, kJ5_setLength_d00df_15E, kJ5_setLength_d00df_18, kJ5_setLength_d00df_19, kJ5_setLength_d00df_22, kJ5_setLength_d00df_23, kJ5_setLength_d00df_26, kJ5_setLength_d00df_27E, kJ5_setLength_d00df_30, kJ5_setLength_d00df_33, kJ5_setLength_d00df_34, kJ5_setLength_d00df_37, kJ5_setLength_d00df_38, kJ5_setLength_d00df_41, kJ5_setLength_d00df_42E, kJ5_setLength_d00df_45, kJ5_setLength_d00df_48, kJ5_setLength_d00df_49, kJ5_setLength_d00df_52, kJ5_setLength_d00df_53, kJ5_setLength_d00df_56, kJ5_setLength_d00df_60, kJ5_setLength_d00df_63, kJ5_setLength_d00df_64, kJ5_setLength_d00df_67, kJ5_setLength_d00df_68, kJ5_setLength_d00df_71, kJ5_setLength_d00df_72, kJ5_setLength_d00df_73, kJ5_setLength_d00df_76, kJ5_setLength_d00df_77, kJ5_setLength_d00df_78, kJ5_setLength_d00df_81, q_cut_i, q_cut_r, q_cut_l, q_cut_n, q_psh_n, q_psh_s, bI_eq0, ite_not, ↓if_pos, ↓if_neg, ↓ite_bI_t, ↓ite_bI_f, re, f3]
    rw [eJ4_setLength_d00df]
    simp (disch := first | assumption | exact bI_lo | exact bI_hi | exact bI_01 | (show (List.map q_wd _).sum ≤ 8; with_unfolding_all exact Nat.le_of_ble_eq_true rfl) | omega) only [kJ4_setLength_d00df_0, kJ4_setLength_d00df_1, kJ4_setLength_d00df_2E, kJ4_setLength_d00df_5, q_cut_i, q_cut_r, q_cut_l, q_cut_n, q_psh_n, q_psh_s, bI_eq0, ite_not, r]
/-- room for n -/
theorem vSB_ens {n : Nat} (h : SBm M a e cap L) (hw : q_wf M) (hn : n ≤ 400) (hg : n ≤ cap + 5) : ∃ M' e' cap', q_C (d + 3) iJ5_ensureCapacityInternal_d00df [qr a, qi n] M none M' ∧ SBm M' a e' cap' L ∧ n ≤ cap' ∧ q_fr (fun x => x = a) M M' ∧ q_wf M' ∧ q_gr M M' cap cap' ∧ (e' = e ∨ q_top M ≤ e') := by
  have ae := SBm_ae h
  obtain ⟨k, f0, f1, f3, ke, hl, c1, c2, hv, hz⟩ := id h
  have k1 : (q_kd M a).1 = 1 := by rw [k]
  have ke3 : 2 ≤ (q_kd M e).1 := by rw [ke]; exact Nat.le_of_ble_eq_true rfl
  have ke4 : (q_kd M e).1 ≤ 9 := by rw [ke]; exact Nat.le_of_ble_eq_true rfl
  have ke2 : ((q_kd M e).2 : Int) = cap := by rw [ke]
  have s0 := (y_sh0 cap (by omega)).1
  have s1 := (y_sh0 n (by omega)).2
  by_cases g : n ≤ cap
  · refine ⟨M, e, cap, C_of (fun P => ?_), h, g, q_fr.rf, hw, q_gr.rf q_qt.rf, Or.inl rfl⟩
    rw [eJ5_ensureCapacityInternal_d00df]
    simp (disch := first | assumption | exact bI_lo | exact bI_hi | exact bI_01 | (show (List.map q_wd _).sum ≤ 8; with_unfolding_all exact Nat.le_of_ble_eq_true rfl) | omega) only [kJ5_ensureCapacityInternal_d00df_0, kJ5_ensureCapacityInternal_d00df_1, kJ5_ensureCapacityInternal_d00df_4, kJ5_ensureCapacityInternal_d00df_5, kJ5_ensureCapacityInternal_d00df_6, kJ5_ensureCapacityInternal_d00df_9, kJ5_ensureCapacityInternal_d00df_10, kJ5_ensureCapacityInternal_d00df_11, kJ5_ensureCapacityInternal_d00df_12, kJ5_ensureCapacityInternal_d00df_13, q_cut_i, q_cut_r, q_cut_l, q_cut_n, q_psh_n, q_psh_s, bI_eq0, ite_not, f0, f1, ke2, s0]
    rw [kJ5_ensureCapacityInternal_d00df_14 (by omega) (by omega), if_neg (by omega)]
    simp only [kJ5_ensureCapacityInternal_d00df_38]
  · obtain ⟨t, ht⟩ : ∃ t, t = cap + max (n - cap) (cap + 2) := ⟨_, rfl⟩
    have nl := fun x : QP => uJ8_nl (p := cap) (gr := n - cap) (pf := cap + 2) (by omega) (by omega) (d := d) (M := M) (x := x)
    rw [← ht] at nl
    rw [show (((n - cap : Nat) : Int)) = (n : Int) - cap by omega, show (((cap + 2 : Nat) : Int)) = (cap : Int) + 2 by omega] at nl
    have s2 := (y_sh0 t (by omega)).1
    have s3 := (y_sh0 t (by omega)).2
    have rn : ∀ x : QP, q_T (d + 2) iJ5_newCapacity_0f7a4 [qr a, qi n] M x = x (some (qi t)) M := fun x => by
      rw [eJ5_newCapacity_0f7a4]
      simp (disch := first | assumption | exact bI_lo | exact bI_hi | exact bI_01 | (show (List.map q_wd _).sum ≤ 8; with_unfolding_all exact Nat.le_of_ble_eq_true rfl) | omega) only [kJ5_newCapacity_0f7a4_0, kJ5_newCapacity_0f7a4_1, kJ5_newCapacity_0f7a4_4, kJ5_newCapacity_0f7a4_5, kJ5_newCapacity_0f7a4_6, kJ5_newCapacity_0f7a4_7, kJ5_newCapacity_0f7a4_8, kJ5_newCapacity_0f7a4_11, kJ5_newCapacity_0f7a4_12, kJ5_newCapacity_0f7a4_13, kJ5_newCapacity_0f7a4_14, kJ5_newCapacity_0f7a4_15, kJ5_newCapacity_0f7a4_16, kJ5_newCapacity_0f7a4_18, kJ5_newCapacity_0f7a4_19, kJ5_newCapacity_0f7a4_21, kJ5_newCapacity_0f7a4_22, kJ5_newCapacity_0f7a4_23, kJ5_newCapacity_0f7a4_24, kJ5_newCapacity_0f7a4_27, kJ5_newCapacity_0f7a4_28, kJ5_newCapacity_0f7a4_29E, kJ5_newCapacity_0f7a4_32, kJ5_newCapacity_0f7a4_34, kJ5_newCapacity_0f7a4_36, kJ5_newCapacity_0f7a4_38, kJ5_newCapacity_0f7a4_44i, kJ5_newCapacity_0f7a4_44r, kJ5_newCapacity_0f7a4_51, kJ5_newCapacity_0f7a4_53, kJ5_newCapacity_0f7a4_54, kJ5_newCapacity_0f7a4_57, kJ5_newCapacity_0f7a4_58, q_cut_i, q_cut_r, q_cut_l, q_cut_n, q_psh_n, q_psh_s, bI_eq0, ite_not, ↓if_pos, ↓if_neg, ↓ite_bI_t, ↓ite_bI_f, f0, f1, ke2, s1, y_sh2, nl, s2]
    obtain ⟨M1, r1, c1', c2', c3', c4', c5', c6', c7'⟩ := sJ7_copyOfB (d := d + 1) (n := t) ke hw (by omega) (by omega) hz
    have al : a < q_top M := hw.lt (by rw [k]; simp)
    have ka : q_kd M1 a = (1, 14) := by rw [c1'.2.2.1 a al, k]
    have va : ∀ j, q_fv M1 a j = q_fv M a j := c1'.2.2.2 a al not_false
    have ve : ∀ j, q_fv (q_wr M1 a 0 (qr (q_top M))) (q_top M) j = q_fv M1 (q_top M) j := fun j => by rw [q_fv_wrE, if_neg (fun z => by omega)]
    refine ⟨q_wr M1 a 0 (qr (q_top M)), q_top M, t, C_of (fun P => ?_), ⟨ka, q_fws, q_fwo (by decide) (by rw [va, f1]), q_fwo (by decide) (by rw [va, f3]), c2', by omega, by omega, by omega, fun i v w => ?_, fun i hi => ?_⟩, by omega, (c1'.wk (fun _ _ z => z.elim)).tr (q_fr.wr rfl), (c7' hw).wr, ?_, Or.inr (Nat.le_refl _)⟩
    · rw [eJ5_ensureCapacityInternal_d00df]
      simp (disch := first | assumption | exact bI_lo | exact bI_hi | exact bI_01 | (show (List.map q_wd _).sum ≤ 8; with_unfolding_all exact Nat.le_of_ble_eq_true rfl) | omega) only [kJ5_ensureCapacityInternal_d00df_0, kJ5_ensureCapacityInternal_d00df_1, kJ5_ensureCapacityInternal_d00df_4, kJ5_ensureCapacityInternal_d00df_5, kJ5_ensureCapacityInternal_d00df_6, kJ5_ensureCapacityInternal_d00df_9, kJ5_ensureCapacityInternal_d00df_10, kJ5_ensureCapacityInternal_d00df_11, kJ5_ensureCapacityInternal_d00df_12, kJ5_ensureCapacityInternal_d00df_13, q_cut_i, q_cut_r, q_cut_l, q_cut_n, q_psh_n, q_psh_s, bI_eq0, ite_not, f0, f1, ke2, s0]
      rw [kJ5_ensureCapacityInternal_d00df_14 (by omega) (by omega), if_pos (by omega)]
      simp (disch := first | assumption | exact bI_lo | exact bI_hi | exact bI_01 | (show (List.map q_wd _).sum ≤ 8; with_unfolding_all exact Nat.le_of_ble_eq_true rfl) | omega) only [kJ5_ensureCapacityInternal_d00df_17, kJ5_ensureCapacityInternal_d00df_18, kJ5_ensureCapacityInternal_d00df_19, kJ5_ensureCapacityInternal_d00df_22, kJ5_ensureCapacityInternal_d00df_23, kJ5_ensureCapacityInternal_d00df_24E, kJ5_ensureCapacityInternal_d00df_27, kJ5_ensureCapacityInternal_d00df_28, kJ5_ensureCapacityInternal_d00df_31, kJ5_ensureCapacityInternal_d00df_32E, kJ5_ensureCapacityInternal_d00df_35, kJ5_ensureCapacityInternal_d00df_38, q_cut_i, q_cut_r, q_cut_l, q_cut_n, q_psh_n, q_psh_s, bI_eq0, ite_not, f0, f1, rn, s3, T_of r1]
    · have il : i < L.length := by
        rcases Nat.lt_or_ge i L.length with z | z
        · exact z
        · rw [List.getElem?_eq_none z] at w; simp at w
      rw [ve, c4' i (by omega)]
      exact hv i v w
    · rw [ve]
      by_cases gi : i < cap
      · rw [c4' i gi]; exact hz i gi
      · rw [c5' i (by omega)]; exact ⟨0, rfl, by omega, by omega⟩
    · obtain ⟨z1, z2⟩ := c6'
      refine ⟨by omega, ?_, ?_⟩
      · rw [q_nc_wr]; omega
      · rw [q_ns_wr]; omega
theorem SBm_push {c : Int} (h : SBm M a e cap L) (hl' : L.length < cap) (h0 : 0 ≤ c) (h1 : c ≤ 127) : SBm (q_wr (q_wr M a 3 (qi ((L.length : Int) + 1))) e L.length (qi c)) a e cap (L ++ [c]) := by
  have ae := SBm_ae h
  obtain ⟨k, f0, f1, f3, ke, hl, c1, c2, hv, hz⟩ := h
  have va : ∀ j, q_fv (q_wr (q_wr M a 3 (qi ((L.length : Int) + 1))) e L.length (qi c)) a j = q_fv (q_wr M a 3 (qi ((L.length : Int) + 1))) a j := fun j => by rw [q_fv_wrE, if_neg (fun z => ae z.1)]
  have ve : ∀ j, q_fv (q_wr (q_wr M a 3 (qi ((L.length : Int) + 1))) e L.length (qi c)) e j = if j = L.length then qi c else q_fv M e j := fun j => by
    rw [q_fv_wrE]
    by_cases g : j = L.length
    · rw [if_pos ⟨rfl, g⟩, if_pos g]
    · rw [if_neg (fun z => g z.2), if_neg g, q_fv_wrE, if_neg (fun z => ae z.1.symm)]
  refine ⟨k, by rw [va]; exact q_fwo (by decide) f0, by rw [va]; exact q_fwo (by decide) f1, by rw [va, q_fws]; simp, ke, by simp; omega, c1, c2, fun i v w => ?_, fun i hi => ?_⟩
  · rw [ve]
    by_cases g : i = L.length
    · subst g
      rw [List.getElem?_append_right (Nat.le_refl _), Nat.sub_self] at w
      have : v = c := by simpa using w.symm
      rw [if_pos rfl, this]
      exact ⟨rfl, h0, h1⟩
    · rw [if_neg g]
      by_cases g2 : i < L.length
      · rw [List.getElem?_append_left g2] at w
        exact hv i v w
      · rw [List.getElem?_eq_none (by simp; omega)] at w
        simp at w
  · rw [ve]
    split
    · exact ⟨c, rfl, by omega, by omega⟩
    · exact hz i hi
theorem vSB_c {c : Int} (h : SBm M a e cap L) (hw : q_wf M) (hl : L.length < 390) (h0 : 0 ≤ c) (h1 : c ≤ 127) : ∃ M' e' cap', q_C (d + 5) iJ4_append_cf468 [qr a, qi c] M (some (qr a)) M' ∧ SBm M' a e' cap' (L ++ [c]) ∧ q_fr (fun x => x = a ∨ x = e) M M' ∧ q_wf M' ∧ q_gr M M' cap cap' ∧ (e' = e ∨ q_top M ≤ e') := by
  have hlc := h.2.2.2.2.2.1
  obtain ⟨M1, e1, cap1, r1, S1, l1, p1, w1, g1, d1⟩ := vSB_ens (d := d) (n := L.length + 1) h hw (by omega) (by omega)
  have ae := SBm_ae S1
  have S2 := SBm_push S1 (by omega) h0 h1
  have yb := y_byte h0 h1
  have k0 := h.1
  have f3 := h.2.2.2.1
  obtain ⟨k, y0, y1, y3, ke, hl1, c1, c2, hv, hz⟩ := id S1
  have ke1 : (q_kd M1 e1).1 = 4 := by rw [ke]
  have ke2 : ((q_kd M1 e1).2 : Int) = cap1 := by rw [ke]
  have k1 : (q_kd M a).1 = 1 := by rw [k0]
  refine ⟨_, e1, cap1, C_of (fun P => ?_), S2, ?_, w1.wr.wr, ?_, d1⟩
  · have rc : ∀ x : QP, q_T (d + 3) iJ1_canEncode_fc78d [qi c] M1 x = x (some (qi 1)) M1 := fun x => by
      rw [eJ1_canEncode_fc78d]
      simp (disch := first | assumption | exact bI_lo | exact bI_hi | exact bI_01 | (show (List.map q_wd _).sum ≤ 8; with_unfolding_all exact Nat.le_of_ble_eq_true rfl) | omega) only [kJ1_canEncode_fc78d_0, kJ1_canEncode_fc78d_1, kJ1_canEncode_fc78d_4, kJ1_canEncode_fc78d_7, kJ1_canEncode_fc78d_8, kJ1_canEncode_fc78d_11, kJ1_canEncode_fc78d_12, q_cut_i, q_cut_r, q_cut_l, q_cut_n, q_psh_n, q_psh_s, bI_eq0, ite_not, ↓if_pos, ↓if_neg, ↓ite_bI_t, ↓ite_bI_f]
    have r1' : q_C (d + 3) iJ5_ensureCapacityInternal_d00df [qr a, qi ((L.length : Int) + 1)] M none M1 := by
      rw [show (L.length : Int) + 1 = ((L.length + 1 : Nat) : Int) by omega]; exact r1
    have r : ∀ x : QP, q_T (d + 4) iJ5_append_3fe6f [qr a, qi c] M x = x (some (qr a)) (q_wr (q_wr M1 a 3 (qi ((L.length : Int) + 1))) e1 L.length (qi c)) := fun x => by
      rw [eJ5_append_3fe6f]
      simp (disch := first | assumption | exact bI_lo | exact bI_hi | exact bI_01 | (show (List.map q_wd _).sum ≤ 8; with_unfolding_all exact Nat.le_of_ble_eq_true rfl) | omega | (simp only [q_kd_wr]; first | assumption | omega)) only [kJ5_append_3fe6f_0, kJ5_append_3fe6f_1, kJ5_append_3fe6f_2, kJ5_append_3fe6f_5, kJ5_append_3fe6f_6, kJ5_append_3fe6f_7E, kJ5_append_3fe6f_10, kJ5_append_3fe6f_11E, kJ5_append_3fe6f_14, kJ5_append_3fe6f_17, kJ5_append_3fe6f_18E, kJ5_append_3fe6f_21, kJ5_append_3fe6f_24, kJ5_append_3fe6f_25, kJ5_append_3fe6f_28, kJ5_append_3fe6f_29i, kJ5_append_3fe6f_29r, kJ5_append_3fe6f_30, kJ5_append_3fe6f_33ii, kJ5_append_3fe6f_33ir, kJ5_append_3fe6f_33ri, kJ5_append_3fe6f_33rr, kJ5_append_3fe6f_34, kJ5_append_3fe6f_35, kJ5_append_3fe6f_36, kJ5_append_3fe6f_39, kJ5_append_3fe6f_40, kJ5_append_3fe6f_41, kJ5_append_3fe6f_42, kJ5_append_3fe6f_45, kJ5_append_3fe6f_46E, kJ5_append_3fe6f_49, kJ5_append_3fe6f_52, kJ5_append_3fe6f_53E, kJ5_append_3fe6f_56, kJ5_append_3fe6f_57, kJ5_append_3fe6f_60, kJ5_append_3fe6f_61i, kJ5_append_3fe6f_61r, kJ5_append_3fe6f_62, kJ5_append_3fe6f_65ii, kJ5_append_3fe6f_65ir, kJ5_append_3fe6f_65ri, kJ5_append_3fe6f_65rr, kJ5_append_3fe6f_66, kJ5_append_3fe6f_67, kJ5_append_3fe6f_68, kJ5_append_3fe6f_71, kJ5_append_3fe6f_75, kJ5_append_3fe6f_76, q_cut_i, q_cut_r, q_cut_l, q_cut_n, q_psh_n, q_psh_s, bI_eq0, ite_not, ↓if_pos, ↓if_neg, ↓ite_bI_t, ↓ite_bI_f, f3, T_of r1', uSB_lat S1, rc, y0, y3, ke2, q_toN, yb.1]
    rw [eJ4_append_cf468]
    simp (disch := first | assumption | exact bI_lo | exact bI_hi | exact bI_01 | (show (List.map q_wd _).sum ≤ 8; with_unfolding_all exact Nat.le_of_ble_eq_true rfl) | omega) only [kJ4_append_cf468_0, kJ4_append_cf468_1, kJ4_append_cf468_2E, kJ4_append_cf468_5i, kJ4_append_cf468_5r, kJ4_append_cf468_6, kJ4_append_cf468_7, q_cut_i, q_cut_r, q_cut_l, q_cut_n, q_psh_n, q_psh_s, bI_eq0, ite_not, r]
  · refine (p1.wk (fun x _ z => Or.inl z)).tr2 ((q_fr.wr (A := fun x => x = a ∨ x = e1) (Or.inl rfl)).tr (q_fr.wr (Or.inr rfl))) (fun x hx z => ?_)
    rcases z with z | z
    · exact Or.inl z
    · rcases d1 with z2 | z2
      · exact Or.inr (z.trans z2)
      · omega
  · exact g1.tr (q_gr.rf (q_qt.wr.tr q_qt.wr))
end SBS
