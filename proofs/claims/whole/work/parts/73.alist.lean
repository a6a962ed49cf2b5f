
/-! ArrayList -/
def ALk (cap : Nat) : Nat × Nat := (if cap = 0 then 9 else 5, cap)
theorem ALk_1 {c : Nat} (h : 0 < c) : (ALk c).1 = 5 := if_neg (by omega)
theorem ALk_e {c : Nat} (h : 0 < c) : ALk c = (5, c) := by unfold ALk; rw [if_neg (by omega)]
theorem ALk_lo (c : Nat) : 5 ≤ (ALk c).1 := by unfold ALk; show 5 ≤ (if c = 0 then 9 else 5); split <;> omega
theorem ALk_hi (c : Nat) : (ALk c).1 ≤ 9 := by unfold ALk; show (if c = 0 then 9 else 5) ≤ 9; split <;> omega
theorem ALk_n1 {a c : Nat} : (1, a) ≠ ALk c := fun h => by have := ALk_lo c; rw [← h] at this; omega
theorem ALk_n0 {c : Nat} : ALk c ≠ (0, 0) := fun h => by have := ALk_lo c; rw [h] at this; omega
def AL (M : QM) (a e cap : Nat) (L : List Nat) : Prop := q_kd M a = (1, 15) ∧ (∃ z, q_fv M a 0 = qi z) ∧ q_fv M a 1 = qr e ∧ q_fv M a 2 = qi L.length ∧ q_kd M e = ALk cap ∧ L.length ≤ cap ∧ cap ≤ 4200 ∧ (∀ (i v : Nat), L[i]? = some v → q_fv M e i = qr v ∧ q_kd M v = (1, 3)) ∧ (∀ i, i < cap → q_fv M e i = qn ∨ ∃ b, q_fv M e i = qr b ∧ q_kd M b = (1, 3)) ∧ (e = q_gs M 0 ↔ cap = 0)
theorem AL_ae {M : QM} {a e cap : Nat} {L : List Nat} (h : AL M a e cap L) : a ≠ e := q_neK h.1 h.2.2.2.2.1 ALk_n1
theorem AL_k5 {M : QM} {a e cap : Nat} {L : List Nat} (h : AL M a e cap L) (hc : 0 < cap) : q_kd M e = (5, cap) := by rw [h.2.2.2.2.1, ALk_e hc]
theorem y_shr0 : ∀ a : Nat, a < 66 → ∀ b : Nat, b < 64 → q_shr ((64 * a + b : Nat) : Int) 1 = (((64 * a + b) / 2 : Nat) : Int) := by decide +kernel
theorem y_shr (n : Nat) (h : n < 4201) : q_shr (n : Int) 1 = ((n / 2 : Nat) : Int) := by
  have := y_shr0 (n / 64) (by omega) (n % 64) (by omega)
  rw [show 64 * (n / 64) + n % 64 = n by omega] at this
  exact this
section ALS
variable {M : QM} {a e cap : Nat} {L : List Nat} {d : Nat} {x : QP}
theorem uAL_size (h : AL M a e cap L) : q_T (d + 1) iJx4a65c_size_8abf5 [qr a] M x = x (some (qi L.length)) M := by
  obtain ⟨h1, -, h2, h3, -⟩ := h
  rw [eJx4a65c_size_8abf5]
  simp (disch := first | assumption | exact bI_lo | exact bI_hi | exact bI_01 | (show (List.map q_wd _).sum ≤ 8; with_unfolding_all exact Nat.le_of_ble_eq_true rfl) | omega) only [kJx4a65c_size_8abf5_0, kJx4a65c_size_8abf5_1, kJx4a65c_size_8abf5_4, q_cut_i, q_cut_r, q_cut_l, q_cut_n, q_psh_n, q_psh_s, bI_eq0, ite_not, h3]
theorem uJ3_check {i n : Int} {r : Option Nat} (h0 : 0 ≤ i) (h1 : i < n) (h2 : n < 2147483648) : q_T (d + 1) iJ3_checkIndex_8e157 [qi i, qi n, .inr (.inr r)] M x = x (some (qi i)) M := by
  rw [eJ3_checkIndex_8e157]
  simp (disch := first | assumption | exact bI_lo | exact bI_hi | exact bI_01 | (show (List.map q_wd _).sum ≤ 8; with_unfolding_all exact Nat.le_of_ble_eq_true rfl) | omega) only [kJ3_checkIndex_8e157_0, kJ3_checkIndex_8e157_1, kJ3_checkIndex_8e157_4, kJ3_checkIndex_8e157_5, kJ3_checkIndex_8e157_6, kJ3_checkIndex_8e157_9, kJ3_checkIndex_8e157_10, kJ3_checkIndex_8e157_11, kJ3_checkIndex_8e157_16, kJ3_checkIndex_8e157_17, q_cut_i, q_cut_r, q_cut_l, q_cut_n, q_psh_n, q_psh_s, bI_eq0, ite_not, ↓if_pos, ↓if_neg, ↓ite_bI_t, ↓ite_bI_f]
theorem uJ15_check {i n : Int} (h0 : 0 ≤ i) (h1 : i < n) (h2 : n < 2147483648) : q_T (d + 2) iJ15_checkIndex_7cf53 [qi i, qi n] M x = x (some (qi i)) M := by
  rw [eJ15_checkIndex_7cf53]
  simp (disch := first | assumption | exact bI_lo | exact bI_hi | exact bI_01 | (show (List.map q_wd _).sum ≤ 8; with_unfolding_all exact Nat.le_of_ble_eq_true rfl) | omega) only [kJ15_checkIndex_7cf53_0, kJ15_checkIndex_7cf53_1, kJ15_checkIndex_7cf53_2, kJ15_checkIndex_7cf53_3E, kJ15_checkIndex_7cf53_6, q_cut_i, q_cut_r, q_cut_l, q_cut_n, q_psh_n, q_psh_s, bI_eq0, ite_not, uJ3_check h0 h1 h2]
theorem uAL_get (h : AL M a e cap L) {i v : Nat} (hi : L[i]? = some v) : q_T (d + 3) iJx4a65c_get_915e3 [qr a, qi i] M x = x (some (qr v)) M := by
  obtain ⟨h1, h0, h2, h3, h4, h5, h6, h7, h8, h9⟩ := h
  have il : i < L.length := by
    rcases Nat.lt_or_ge i L.length with z | z
    · exact z
    · rw [List.getElem?_eq_none z] at hi; simp at hi
  have v0 := (h7 i v hi).1
  have k1 : (q_kd M e).1 = 5 ∨ (q_kd M e).1 = 6 := Or.inl (by rw [h4]; exact ALk_1 (by omega))
  have k2 : ((q_kd M e).2 : Int) = cap := by rw [h4]; rfl
  have rc := fun x : QP => uJ15_check (d := d) (M := M) (x := x) (i := i) (n := L.length) (by omega) (by omega) (by omega)
  have re : ∀ x : QP, q_T (d + 2) iJx4a65c_elementData_915e3 [qr a, qi i] M x = x (some (qr v)) M := by
    intro x
    rw [eJx4a65c_elementData_915e3]
    simp (disch := first | assumption | exact bI_lo | exact bI_hi | exact bI_01 | (show (List.map q_wd _).sum ≤ 8; with_unfolding_all exact Nat.le_of_ble_eq_true rfl) | omega) only [kJx4a65c_elementData_915e3_0, kJx4a65c_elementData_915e3_1, kJx4a65c_elementData_915e3_4, kJx4a65c_elementData_915e3_5, kJx4a65c_elementData_915e3_6, q_cut_i, q_cut_r, q_cut_l, q_cut_n, q_psh_n, q_psh_s, bI_eq0, ite_not, h2, q_toN, v0]
  rw [eJx4a65c_get_915e3]
  simp (disch := first | assumption | exact bI_lo | exact bI_hi | exact bI_01 | (show (List.map q_wd _).sum ≤ 8; with_unfolding_all exact Nat.le_of_ble_eq_true rfl) | omega) only [kJx4a65c_get_915e3_0, kJx4a65c_get_915e3_1, kJx4a65c_get_915e3_2, kJx4a65c_get_915e3_5E, kJx4a65c_get_915e3_8i, kJx4a65c_get_915e3_8r, kJx4a65c_get_915e3_9, kJx4a65c_get_915e3_10, kJx4a65c_get_915e3_11E, kJx4a65c_get_915e3_14, q_cut_i, q_cut_r, q_cut_l, q_cut_n, q_psh_n, q_psh_s, bI_eq0, ite_not, h3, rc, re]
theorem uJ8_newLength {p : Nat} (h1 : 1 ≤ p) (h2 : p ≤ 4200) : q_T (d + 1) iJ8_newLength_cabcc [qi p, qi 1, qi (p / 2 : Nat)] M x = x (some (qi (p + max 1 (p / 2) : Nat))) M := by
  have e : (p : Int) + max 1 ((p / 2 : Nat) : Int) = ((p + max 1 (p / 2) : Nat) : Int) := by omega
  have e2 : max (1 : Int) ((p / 2 : Nat) : Int) + p = ((p + max 1 (p / 2) : Nat) : Int) := by omega
  rw [eJ8_newLength_cabcc]
  simp (disch := first | assumption | exact bI_lo | exact bI_hi | exact bI_01 | (show (List.map q_wd _).sum ≤ 8; with_unfolding_all exact Nat.le_of_ble_eq_true rfl) | omega) only [kJ8_newLength_cabcc_0, kJ8_newLength_cabcc_1, kJ8_newLength_cabcc_2, kJ8_newLength_cabcc_3, kJ8_newLength_cabcc_6, kJ8_newLength_cabcc_7, kJ8_newLength_cabcc_8, kJ8_newLength_cabcc_9, kJ8_newLength_cabcc_10, kJ8_newLength_cabcc_13, kJ8_newLength_cabcc_14, kJ8_newLength_cabcc_16, kJ8_newLength_cabcc_19, kJ8_newLength_cabcc_20, kJ8_newLength_cabcc_21, kJ8_newLength_cabcc_22, kJ8_newLength_cabcc_23E, kJ8_newLength_cabcc_26, q_cut_i, q_cut_r, q_cut_l, q_cut_n, q_psh_n, q_psh_s, bI_eq0, ite_not, ↓if_pos, ↓if_neg, ↓ite_bI_t, ↓ite_bI_f, e, e2]
theorem sJ7_copyOf5 {n : Nat} (hk : q_kd M e = (5, cap)) (hw : q_wf M) (hcap : cap ≤ n) (hn : n ≤ 60000) (he : ∀ i, i < cap → q_fv M e i = qn ∨ ∃ b, q_fv M e i = qr b ∧ q_kd M b = (1, 3)) : ∃ M1, q_C (d + 2) iJ7_copyOf_1904c [qr e, qi n] M (some (qr (q_top M))) M1 ∧ q_cpd M M1 e cap n 5 qn := by
  have hat : e < q_top M := hw.lt (by rw [hk]; simp)
  have k0 : (q_kd M e).1 = 5 := by rw [hk]
  have k02 : (q_kd M e).2 = cap := by rw [hk]
  have k0a : 2 ≤ (q_kd (q_al M (5, n) n (fun _ => qn)) e).1 := by rw [q_kd_al, if_neg (by omega), hk]; exact Nat.le_of_ble_eq_true rfl
  have k0b : (q_kd (q_al M (5, n) n (fun _ => qn)) e).1 ≤ 9 := by rw [q_kd_al, if_neg (by omega), hk]; exact Nat.le_of_ble_eq_true rfl
  have k0c : ((q_kd (q_al M (5, n) n (fun _ => qn)) e).2 : Int) = cap := by rw [q_kd_al, if_neg (by omega), hk]
  have hac := q_ac2ok (z := qn) (by decide : 2 ≤ 5 ∧ 5 ≤ 5) hk hat hcap (fun i hi => by
    rcases he i hi with h | ⟨b, h, hb⟩
    · rw [h]; rfl
    · rw [h]
      have : b < q_top M := hw.lt (by rw [hb]; simp)
      show decide (q_kd (q_al M (5, n) n (fun _ => qn)) b = (1, 3)) = true
      rw [q_kd_al, if_neg (by omega), hb]
      rfl)
  have hm : min ((cap : Nat) : Int) n = cap := Int.min_eq_left (by omega)
  have r : ∀ x : QP, q_T (d + 1) iJ7_copyOf_6403c [qr e, qi n, qr (q_gs M 6)] M x = x (some (qr (q_top M))) (q_cp (q_al M (5, n) n (fun _ => qn)) e 0 (q_top M) 0 cap) := by
    intro x
    rw [eJ7_copyOf_6403c]
    simp (disch := first | assumption | exact bI_lo | exact bI_hi | exact bI_01 | (show (List.map q_wd _).sum ≤ 8; with_unfolding_all exact Nat.le_of_ble_eq_true rfl) | omega) only [kJ7_copyOf_6403c_0, kJ7_copyOf_6403c_1, kJ7_copyOf_6403c_3, kJ7_copyOf_6403c_6, kJ7_copyOf_6403c_7, kJ7_copyOf_6403c_10, kJ7_copyOf_6403c_13, kJ7_copyOf_6403c_17, kJ7_copyOf_6403c_21n, kJ7_copyOf_6403c_24, kJ7_copyOf_6403c_25, kJ7_copyOf_6403c_26, kJ7_copyOf_6403c_27, kJ7_copyOf_6403c_28, kJ7_copyOf_6403c_29, kJ7_copyOf_6403c_30, kJ7_copyOf_6403c_31, q_cut_i, q_cut_r, q_cut_l, q_cut_n, q_psh_n, q_psh_s, bI_eq0, ite_not, eq_self, if_true, q_toN, k0c]
    rw [kJ7_copyOf_6403c_32 (by omega) (by omega) (by omega) (by omega) (Nat.le_of_ble_eq_true rfl), hm, kJ7_copyOf_6403c_35 hac (Nat.le_of_ble_eq_true rfl)]
    simp (disch := first | assumption | exact bI_lo | exact bI_hi | exact bI_01 | (show (List.map q_wd _).sum ≤ 8; with_unfolding_all exact Nat.le_of_ble_eq_true rfl) | omega) only [kJ7_copyOf_6403c_38, kJ7_copyOf_6403c_39, q_toN]
    rfl
  refine ⟨_, C_of (fun P => ?_), q_cpd_ok hat⟩
  rw [eJ7_copyOf_1904c]
  simp (disch := first | assumption | exact bI_lo | exact bI_hi | exact bI_01 | (show (List.map q_wd _).sum ≤ 8; with_unfolding_all exact Nat.le_of_ble_eq_true rfl) | omega) only [kJ7_copyOf_1904c_0, kJ7_copyOf_1904c_1, kJ7_copyOf_1904c_2, kJ7_copyOf_1904c_3, kJ7_copyOf_1904c_6E, kJ7_copyOf_1904c_9, q_cut_i, q_cut_r, q_cut_l, q_cut_n, q_psh_n, q_psh_s, bI_eq0, ite_not, r]
/-- after the array was laid anew -/
theorem AL_new {M1 : QM} {n t : Nat} (hw : q_wf M) (h : AL M a e cap L) (h0 : q_kd M (q_gs M 0) = (9, 0)) (hf : q_fr (fun _ => False) M M1) (ht : t = q_top M) (hk : q_kd M1 t = (5, n)) (hn : cap < n) (hn2 : n ≤ 4200) (c4 : ∀ i, i < cap → q_fv M1 t i = q_fv M e i) (c5 : ∀ i, cap ≤ i → q_fv M1 t i = qn) : AL (q_wr M1 a 1 (qr t)) a t n L := by
  subst ht
  obtain ⟨h1, h0', h2, h3, h4, h5, h6, h7, h8, h9⟩ := h
  have al : a < q_top M := hw.lt (by rw [h1]; simp)
  have gl : q_gs M 0 < q_top M := hw.lt (by rw [h0]; simp)
  have va : ∀ j, q_fv M1 a j = q_fv M a j := hf.2.2.2 a al not_false
  have kb : ∀ b, q_kd M b = (1, 3) → q_kd M1 b = (1, 3) := fun b hb => by rw [hf.2.2.1 b (hw.lt (by rw [hb]; simp)), hb]
  refine ⟨by rw [q_kd_wr, hf.2.2.1 a al, h1], ?_, q_fws, q_fwo (by decide) (by rw [va, h3]), by rw [q_kd_wr, hk, ALk_e (by omega)], by omega, hn2, fun i v hv => ?_, fun i hi => ?_, ?_⟩
  · obtain ⟨z, hz⟩ := h0'
    exact ⟨z, q_fwo (by decide) (by rw [va, hz])⟩
  · have il : i < L.length := by
      rcases Nat.lt_or_ge i L.length with z | z
      · exact z
      · rw [List.getElem?_eq_none z] at hv; simp at hv
    rw [q_fv_wrE, if_neg (by omega), c4 i (by omega)]
    exact ⟨(h7 i v hv).1, kb v (h7 i v hv).2⟩
  · rw [q_fv_wrE, if_neg (by omega)]
    by_cases g : i < cap
    · rw [c4 i g]
      rcases h8 i g with z | ⟨b, z, hb⟩
      · exact Or.inl z
      · exact Or.inr ⟨b, z, kb b hb⟩
    · exact Or.inl (c5 i (by omega))
  · rw [q_gs_wr, hf.2.1]
    omega
theorem vAL_grow (hw : q_wf M) (h : AL M a e cap L) (h0 : q_kd M (q_gs M 0) = (9, 0)) (hl : L.length = cap) (hN : cap ≤ 2000) : ∃ M' cap', q_C (d + 4) iJx4a65c_grow_d5877 [qr a] M (some (qr (q_top M))) M' ∧ AL M' a (q_top M) cap' L ∧ cap < cap' ∧ q_fr (fun x => x = a) M M' ∧ q_wf M' ∧ q_gr M M' cap cap' := by
  obtain ⟨h1, h0', h2, h3, h4, h5, h6, h7, h8, h9⟩ := id h
  have k1 : 2 ≤ (q_kd M e).1 := by rw [h4]; exact Nat.le_trans (by omega) (ALk_lo cap)
  have k2 : (q_kd M e).1 ≤ 9 := by rw [h4]; exact ALk_hi cap
  have k3 : ((q_kd M e).2 : Int) = cap := by rw [h4]; rfl
  have al : a < q_top M := hw.lt (by rw [h1]; simp)
  by_cases g : cap = 0
  · have he : e = q_gs M 0 := h9.mpr g
    subst g
    have ka : q_kd (q_al M (5, 10) 10 (fun _ => qn)) a = (1, 15) := by rw [q_kd_al, if_neg (by omega), h1]
    have hA := AL_new (M1 := q_al M (5, 10) 10 (fun _ => qn)) (n := 10) (t := q_top M) hw h h0 q_fr.al rfl (by rw [q_kd_al, if_pos rfl]) (by omega) (by omega) (fun i hi => by omega) (fun i hi => by rw [q_fv_al, if_pos rfl])
    refine ⟨_, 10, C_of (fun P => ?_), hA, by omega, q_fr.al.tr (q_fr.wr rfl), hw.al.wr, ⟨by omega, by simp only [q_nc_wr, q_nc_al]; omega, by simp only [q_ns_wr, q_ns_al]; omega⟩⟩
    rw [he] at h2 k1 k2 k3
    have em : max (10 : Int) ((L.length : Int) + 1) = 10 := by rw [hl]; rfl
    have r : ∀ x : QP, q_T (d + 3) iJx4a65c_grow_92f84 [qr a, qi ((L.length : Int) + 1)] M x = x (some (qr (q_top M))) (q_wr (q_al M (5, 10) 10 (fun _ => qn)) a 1 (qr (q_top M))) := by
      intro x
      rw [eJx4a65c_grow_92f84]
      simp (disch := first | assumption | exact bI_lo | exact bI_hi | exact bI_01 | (show (List.map q_wd _).sum ≤ 8; with_unfolding_all exact Nat.le_of_ble_eq_true rfl) | omega) only [kJx4a65c_grow_92f84_0, kJx4a65c_grow_92f84_1, kJx4a65c_grow_92f84_4, kJx4a65c_grow_92f84_5, kJx4a65c_grow_92f84_6, kJx4a65c_grow_92f84_7, kJx4a65c_grow_92f84_10, kJx4a65c_grow_92f84_11, kJx4a65c_grow_92f84_14, kJx4a65c_grow_92f84_17, kJx4a65c_grow_92f84_20, kJx4a65c_grow_92f84_21, kJx4a65c_grow_92f84_22, kJx4a65c_grow_92f84_23, kJx4a65c_grow_92f84_24, kJx4a65c_grow_92f84_25, kJx4a65c_grow_92f84_26, kJx4a65c_grow_92f84_27E, kJx4a65c_grow_92f84_30, kJx4a65c_grow_92f84_31, kJx4a65c_grow_92f84_32, kJx4a65c_grow_92f84_33, kJx4a65c_grow_92f84_36, kJx4a65c_grow_92f84_37E, kJx4a65c_grow_92f84_40ii, kJx4a65c_grow_92f84_40ir, kJx4a65c_grow_92f84_40ri, kJx4a65c_grow_92f84_40rr, kJx4a65c_grow_92f84_41, kJx4a65c_grow_92f84_44, kJx4a65c_grow_92f84_45, kJx4a65c_grow_92f84_46, kJx4a65c_grow_92f84_48, kJx4a65c_grow_92f84_49, kJx4a65c_grow_92f84_52, kJx4a65c_grow_92f84_55ii, kJx4a65c_grow_92f84_55ir, kJx4a65c_grow_92f84_55ri, kJx4a65c_grow_92f84_55rr, kJx4a65c_grow_92f84_56, kJx4a65c_grow_92f84_59, q_cut_i, q_cut_r, q_cut_l, q_cut_n, q_psh_n, q_psh_s, bI_eq0, ite_not, ↓if_pos, ↓if_neg, ↓ite_bI_t, ↓ite_bI_f, h2, k3, eq_self, if_true, em, show Int.toNat 10 = 10 from rfl]
    rw [eJx4a65c_grow_d5877]
    simp (disch := first | assumption | exact bI_lo | exact bI_hi | exact bI_01 | (show (List.map q_wd _).sum ≤ 8; with_unfolding_all exact Nat.le_of_ble_eq_true rfl) | omega) only [kJx4a65c_grow_d5877_0, kJx4a65c_grow_d5877_1, kJx4a65c_grow_d5877_2, kJx4a65c_grow_d5877_5, kJx4a65c_grow_d5877_6, kJx4a65c_grow_d5877_7E, kJx4a65c_grow_d5877_10, q_cut_i, q_cut_r, q_cut_l, q_cut_n, q_psh_n, q_psh_s, bI_eq0, ite_not, h3, r]
  · obtain ⟨n, hn⟩ : ∃ n, n = cap + max 1 (cap / 2) := ⟨_, rfl⟩
    obtain ⟨M1, r1, c1, c2, c3, c4, c5, c6, c7⟩ := sJ7_copyOf5 (d := d) (n := n) (h4.trans (ALk_e (by omega))) hw (by omega) (by omega) h8
    have hA := AL_new (M1 := M1) (n := n) (t := q_top M) hw h h0 c1 rfl c2 (by omega) (by omega) c4 c5
    have ka : q_kd M1 a = (1, 15) := by rw [c1.2.2.1 a al, h1]
    have c61 := c6.1
    have c62 := c6.2
    refine ⟨_, n, C_of (fun P => ?_), hA, by omega, (c1.wk (fun _ _ z => z.elim)).tr (q_fr.wr rfl), (c7 hw).wr, ⟨by omega, by simp only [q_nc_wr]; omega, by simp only [q_ns_wr]; omega⟩⟩
    have en : (L.length : Int) + 1 - cap = 1 := by omega
    have es := y_shr cap (by omega)
    have nl := fun x : QP => uJ8_newLength (d := d + 1) (M := M) (x := x) (p := cap) (by omega) (by omega)
    rw [← hn] at nl
    have r : ∀ x : QP, q_T (d + 3) iJx4a65c_grow_92f84 [qr a, qi ((L.length : Int) + 1)] M x = x (some (qr (q_top M))) (q_wr M1 a 1 (qr (q_top M))) := by
      intro x
      rw [eJx4a65c_grow_92f84]
      simp (disch := first | assumption | exact bI_lo | exact bI_hi | exact bI_01 | (show (List.map q_wd _).sum ≤ 8; with_unfolding_all exact Nat.le_of_ble_eq_true rfl) | omega) only [kJx4a65c_grow_92f84_0, kJx4a65c_grow_92f84_1, kJx4a65c_grow_92f84_4, kJx4a65c_grow_92f84_5, kJx4a65c_grow_92f84_6, kJx4a65c_grow_92f84_7, kJx4a65c_grow_92f84_10, kJx4a65c_grow_92f84_11, kJx4a65c_grow_92f84_14, kJx4a65c_grow_92f84_17, kJx4a65c_grow_92f84_20, kJx4a65c_grow_92f84_21, kJx4a65c_grow_92f84_22, kJx4a65c_grow_92f84_23, kJx4a65c_grow_92f84_24, kJx4a65c_grow_92f84_25, kJx4a65c_grow_92f84_26, kJx4a65c_grow_92f84_27E, kJx4a65c_grow_92f84_30, kJx4a65c_grow_92f84_31, kJx4a65c_grow_92f84_32, kJx4a65c_grow_92f84_33, kJx4a65c_grow_92f84_36, kJx4a65c_grow_92f84_37E, kJx4a65c_grow_92f84_40ii, kJx4a65c_grow_92f84_40ir, kJx4a65c_grow_92f84_40ri, kJx4a65c_grow_92f84_40rr, kJx4a65c_grow_92f84_41, kJx4a65c_grow_92f84_44, kJx4a65c_grow_92f84_45, kJx4a65c_grow_92f84_46, kJx4a65c_grow_92f84_48, kJx4a65c_grow_92f84_49, kJx4a65c_grow_92f84_52, kJx4a65c_grow_92f84_55ii, kJx4a65c_grow_92f84_55ir, kJx4a65c_grow_92f84_55ri, kJx4a65c_grow_92f84_55rr, kJx4a65c_grow_92f84_56, kJx4a65c_grow_92f84_59, q_cut_i, q_cut_r, q_cut_l, q_cut_n, q_psh_n, q_psh_s, bI_eq0, ite_not, ↓if_pos, ↓if_neg, ↓ite_bI_t, ↓ite_bI_f, h2, k3, en, es, nl, T_of r1]
    rw [eJx4a65c_grow_d5877]
    simp (disch := first | assumption | exact bI_lo | exact bI_hi | exact bI_01 | (show (List.map q_wd _).sum ≤ 8; with_unfolding_all exact Nat.le_of_ble_eq_true rfl) | omega) only [kJx4a65c_grow_d5877_0, kJx4a65c_grow_d5877_1, kJx4a65c_grow_d5877_2, kJx4a65c_grow_d5877_5, kJx4a65c_grow_d5877_6, kJx4a65c_grow_d5877_7E, kJx4a65c_grow_d5877_10, q_cut_i, q_cut_r, q_cut_l, q_cut_n, q_psh_n, q_psh_s, bI_eq0, ite_not, h3, r]
theorem AL_mod {z : Int} (h : AL M a e cap L) : AL (q_wr M a 0 (qi z)) a e cap L := by
  have ae := AL_ae h
  obtain ⟨h1, h0', h2, h3, h4, h5, h6, h7, h8, h9⟩ := h
  have o : ∀ j, q_fv (q_wr M a 0 (qi z)) e j = q_fv M e j := fun j => by rw [q_fv_wrE, if_neg (fun q => ae q.1.symm)]
  exact ⟨h1, ⟨z, q_fws⟩, q_fwo (by decide) h2, q_fwo (by decide) h3, h4, h5, h6, fun i v hv => by rw [o]; exact h7 i v hv, fun i hi => by rw [o]; exact h8 i hi, h9⟩
theorem AL_push {v : Nat} (h : AL M a e cap L) (hl : L.length < cap) (hv : q_kd M v = (1, 3)) : AL (q_wr (q_wr M e L.length (qr v)) a 2 (qi ((L.length : Int) + 1))) a e cap (L ++ [v]) := by
  have ae := AL_ae h
  obtain ⟨h1, ⟨z, hz⟩, h2, h3, h4, h5, h6, h7, h8, h9⟩ := h
  have o : ∀ j, q_fv (q_wr (q_wr M e L.length (qr v)) a 2 (qi ((L.length : Int) + 1))) e j = if j = L.length then qr v else q_fv M e j := fun j => by
    rw [q_fv_wrE, if_neg (fun q => ae q.1.symm), q_fv_wrE]
    by_cases g : j = L.length
    · rw [if_pos ⟨rfl, g⟩, if_pos g]
    · rw [if_neg (fun q => g q.2), if_neg g]
  have oa : ∀ j, j ≠ 2 → q_fv (q_wr (q_wr M e L.length (qr v)) a 2 (qi ((L.length : Int) + 1))) a j = q_fv M a j := fun j hj => by
    rw [q_fv_wrE, if_neg (fun q => hj q.2), q_fv_wrE, if_neg (fun q => ae q.1)]
  refine ⟨h1, ⟨z, by rw [oa 0 (by decide), hz]⟩, by rw [oa 1 (by decide), h2], by rw [q_fws]; simp, h4, by simp; omega, h6, fun i w hw => ?_, fun i hi => ?_, h9⟩
  · rw [o]
    by_cases g : i = L.length
    · subst g
      rw [List.getElem?_append_right (Nat.le_refl _), Nat.sub_self] at hw
      have : w = v := by simpa using hw.symm
      rw [if_pos rfl, this]
      exact ⟨rfl, hv⟩
    · rw [if_neg g]
      by_cases g2 : i < L.length
      · rw [List.getElem?_append_left g2] at hw
        exact h7 i w hw
      · rw [List.getElem?_eq_none (by simp; omega)] at hw
        simp at hw
  · rw [o]
    split
    · exact Or.inr ⟨v, rfl, hv⟩
    · exact h8 i hi
theorem vAL_add {v : Nat} (hw : q_wf M) (h : AL M a e cap L) (h0 : q_kd M (q_gs M 0) = (9, 0)) (hN : L.length ≤ 2000) (hv : q_kd M v = (1, 3)) : ∃ M' e' cap', q_C (d + 6) iJx4a65c_add_9ea2d [qr a, qr v] M (some (qi 1)) M' ∧ AL M' a e' cap' (L ++ [v]) ∧ q_fr (fun x => x = a ∨ (x = e ∧ 0 < cap)) M M' ∧ q_wf M' ∧ q_gr M M' cap cap' ∧ ((e' = e ∧ cap' = cap) ∨ q_top M ≤ e') := by
  have ae := AL_ae h
  obtain ⟨h1, ⟨z, hz⟩, h2, h3, h4, h5, h6, h7, h8, h9⟩ := id h
  obtain ⟨M0, hM0⟩ : ∃ M0, q_wr M a 0 (qi (z + 1)) = M0 := ⟨_, rfl⟩
  have h' : AL M0 a e cap L := by rw [← hM0]; exact AL_mod h
  have hw' : q_wf M0 := by rw [← hM0]; exact hw.wr
  have h0'' : q_kd M0 (q_gs M0 0) = (9, 0) := by rw [← hM0]; exact h0
  have hv' : q_kd M0 v = (1, 3) := by rw [← hM0]; exact hv
  have f0 : q_fr (fun x => x = a ∨ (x = e ∧ 0 < cap)) M M0 := by rw [← hM0]; exact q_fr.wr (Or.inl rfl)
  have t0 : q_qt M M0 := by rw [← hM0]; exact q_qt.wr
  have tp : q_top M0 = q_top M := t0.2.1
  obtain ⟨i1, ⟨z', iz⟩, i2, i3, i4, i5, i6, i7, i8, i9⟩ := id h'
  have k1 : 2 ≤ (q_kd M0 e).1 := by rw [i4]; exact Nat.le_trans (by omega) (ALk_lo cap)
  have k2 : (q_kd M0 e).1 ≤ 9 := by rw [i4]; exact ALk_hi cap
  have k3 : ((q_kd M0 e).2 : Int) = cap := by rw [i4]; rfl
  by_cases g : L.length < cap
  · have k5 : (q_kd M0 e).1 = 5 := by rw [i4]; exact ALk_1 (by omega)
    have hA := AL_push h' g hv'
    refine ⟨_, e, cap, C_of (fun P => ?_), hA, (f0.tr (q_fr.wr (Or.inr ⟨rfl, by omega⟩))).tr (q_fr.wr (Or.inl rfl)), hw'.wr.wr, q_gr.rf ((t0.tr q_qt.wr).tr q_qt.wr), Or.inl ⟨rfl, rfl⟩⟩
    have r : ∀ x : QP, q_T (d + 5) iJx4a65c_add_72be8 [qr a, qr v, qr e, qi L.length] M0 x = x none (q_wr (q_wr M0 e L.length (qr v)) a 2 (qi ((L.length : Int) + 1))) := by
      intro x
      rw [eJx4a65c_add_72be8]
      simp (disch := first | assumption | exact bI_lo | exact bI_hi | exact bI_01 | (show (List.map q_wd _).sum ≤ 8; with_unfolding_all exact Nat.le_of_ble_eq_true rfl) | omega | (simp only [q_kd_wr]; first | assumption | omega)) only [kJx4a65c_add_72be8_0, kJx4a65c_add_72be8_1, kJx4a65c_add_72be8_2, kJx4a65c_add_72be8_3, kJx4a65c_add_72be8_6, kJx4a65c_add_72be8_7E, kJx4a65c_add_72be8_10, kJx4a65c_add_72be8_11, kJx4a65c_add_72be8_12, kJx4a65c_add_72be8_13, kJx4a65c_add_72be8_145, kJx4a65c_add_72be8_146, kJx4a65c_add_72be8_14n, kJx4a65c_add_72be8_15, kJx4a65c_add_72be8_16, kJx4a65c_add_72be8_17, kJx4a65c_add_72be8_18, kJx4a65c_add_72be8_19, kJx4a65c_add_72be8_22, q_cut_i, q_cut_r, q_cut_l, q_cut_n, q_psh_n, q_psh_s, bI_eq0, ite_not, ↓if_pos, ↓if_neg, ↓ite_bI_t, ↓ite_bI_f, k3, q_toN]
    rw [eJx4a65c_add_9ea2d]
    simp (disch := first | assumption | exact bI_lo | exact bI_hi | exact bI_01 | (show (List.map q_wd _).sum ≤ 8; with_unfolding_all exact Nat.le_of_ble_eq_true rfl) | omega | (simp only [q_kd_wr]; first | assumption | omega)) only [kJx4a65c_add_9ea2d_0, kJx4a65c_add_9ea2d_1i, kJx4a65c_add_9ea2d_1r, kJx4a65c_add_9ea2d_2, kJx4a65c_add_9ea2d_5, kJx4a65c_add_9ea2d_6, kJx4a65c_add_9ea2d_7, kJx4a65c_add_9ea2d_10, kJx4a65c_add_9ea2d_11, kJx4a65c_add_9ea2d_12, kJx4a65c_add_9ea2d_13, kJx4a65c_add_9ea2d_16, kJx4a65c_add_9ea2d_17, kJx4a65c_add_9ea2d_20E, kJx4a65c_add_9ea2d_23, kJx4a65c_add_9ea2d_24, q_cut_i, q_cut_r, q_cut_l, q_cut_n, q_psh_n, q_psh_s, bI_eq0, ite_not, hz, hM0, i2, i3, r]
  · have hl : L.length = cap := by omega
    obtain ⟨M1, cap1, r1, a1, l1, f1, w1, g1⟩ := vAL_grow (d := d) hw' h' h0'' hl (by omega)
    have hv1 : q_kd M1 v = (1, 3) := by rw [f1.2.2.1 v (hw'.lt (by rw [hv']; simp)), hv']
    have hA := AL_push a1 (by omega) hv1
    have u1 := a1.1
    have u4 := a1.2.2.2.2.1
    have u5 : (q_kd M1 (q_top M0)).1 = 5 := by rw [u4]; exact ALk_1 (by omega)
    have u3 : ((q_kd M1 (q_top M0)).2 : Int) = cap1 := by rw [u4]; rfl
    refine ⟨_, q_top M0, cap1, C_of (fun P => ?_), hA, ?_, w1.wr.wr, (q_gr.rf t0).tr (g1.tr (q_gr.rf (q_qt.wr.tr q_qt.wr))), Or.inr (by omega)⟩
    · have r : ∀ x : QP, q_T (d + 5) iJx4a65c_add_72be8 [qr a, qr v, qr e, qi L.length] M0 x = x none (q_wr (q_wr M1 (q_top M0) L.length (qr v)) a 2 (qi ((L.length : Int) + 1))) := by
        intro x
        rw [eJx4a65c_add_72be8]
        simp (disch := first | assumption | exact bI_lo | exact bI_hi | exact bI_01 | (show (List.map q_wd _).sum ≤ 8; with_unfolding_all exact Nat.le_of_ble_eq_true rfl) | omega | (simp only [q_kd_wr]; first | assumption | omega)) only [kJx4a65c_add_72be8_0, kJx4a65c_add_72be8_1, kJx4a65c_add_72be8_2, kJx4a65c_add_72be8_3, kJx4a65c_add_72be8_6, kJx4a65c_add_72be8_7E, kJx4a65c_add_72be8_10, kJx4a65c_add_72be8_11, kJx4a65c_add_72be8_12, kJx4a65c_add_72be8_13, kJx4a65c_add_72be8_145, kJx4a65c_add_72be8_146, kJx4a65c_add_72be8_14n, kJx4a65c_add_72be8_15, kJx4a65c_add_72be8_16, kJx4a65c_add_72be8_17, kJx4a65c_add_72be8_18, kJx4a65c_add_72be8_19, kJx4a65c_add_72be8_22, q_cut_i, q_cut_r, q_cut_l, q_cut_n, q_psh_n, q_psh_s, bI_eq0, ite_not, ↓if_pos, ↓if_neg, ↓ite_bI_t, ↓ite_bI_f, k3, q_toN, T_of r1]
      rw [eJx4a65c_add_9ea2d]
      simp (disch := first | assumption | exact bI_lo | exact bI_hi | exact bI_01 | (show (List.map q_wd _).sum ≤ 8; with_unfolding_all exact Nat.le_of_ble_eq_true rfl) | omega | (simp only [q_kd_wr]; first | assumption | omega)) only [kJx4a65c_add_9ea2d_0, kJx4a65c_add_9ea2d_1i, kJx4a65c_add_9ea2d_1r, kJx4a65c_add_9ea2d_2, kJx4a65c_add_9ea2d_5, kJx4a65c_add_9ea2d_6, kJx4a65c_add_9ea2d_7, kJx4a65c_add_9ea2d_10, kJx4a65c_add_9ea2d_11, kJx4a65c_add_9ea2d_12, kJx4a65c_add_9ea2d_13, kJx4a65c_add_9ea2d_16, kJx4a65c_add_9ea2d_17, kJx4a65c_add_9ea2d_20E, kJx4a65c_add_9ea2d_23, kJx4a65c_add_9ea2d_24, q_cut_i, q_cut_r, q_cut_l, q_cut_n, q_psh_n, q_psh_s, bI_eq0, ite_not, hz, hM0, i2, i3, r]
    · refine (f0.tr (f1.wk (fun y _ q => Or.inl q))).tr2 ((q_fr.wr (A := fun y => y = q_top M0 ∨ y = a) (Or.inl rfl)).tr (q_fr.wr (Or.inr rfl))) (fun y hy q => ?_)
      rcases q with q | q
      · omega
      · exact Or.inl q
end ALS
