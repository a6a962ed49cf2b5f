/-! the reference's methods: renamings, moves, splits, merges, closings -/
set_option maxHeartbeats 2000000 in
theorem tX13_renameR {d m : Nat} {S : RS} {M : QM} {x : QP} (hK : RK m M) (hR : RG S) {p y : Int} {n N NP : Nat} (v0 : 0 ≤ S 0 4) (v1 : S 0 4 ≤ 80) (hb : RB S n N NP) (hNP : NP < 700) (hp : q_i32 p) (hy : q_i32 y) (hno : ¬ (oneW S = true ∧ rNoE (rOw S) p y = 0)) : q_T (d + 6) iX13_rename [qr m, qi p, qi y] (ov m S M) x = x (some (qi (-3))) (ov m (up (rOw S) 0 7 (if oneW S = true then rNoE (rOw S) p y else 9)) M) := by
  have RT := RG_rOw hR
  have T1 : rOw S 1 = S 1 := rOw_k (by omega) (by omega)
  obtain ⟨e0, hn2, e1, e2, b5, b6, b7, b8, b9, b10, b11⟩ := RB_c T1 hb
  have hf := fun (z : QP) (v : Int) => tX13_refuse (d := d + 4) (x := z) (v := v) hK RT
  have nb := rNo_b (S := rOw S) (cc := 114) (a := p) (b := 0) (y := y) (NP := NP) (n := n)
  have hno0 : rNo (rOw S) 114 p 0 y NP n = rNoE (rOw S) p y := rfl
  rw [hno0] at nb
  rw [eX13_rename]
  by_cases w : oneW S = true
  · rw [if_pos w]
    have hno' : rNoE (rOw S) p y ≠ 0 := fun h => hno ⟨w, h⟩
    have hF := fun z : QP => tX13_noEvent (d := d + 2) (x := z) hK RT (p := p) (y := y) (by omega) (by omega) hp.1 hp.2 hy.1 hy.2
    simp (disch := first | assumption | exact RK0 hK | exact RK1a hK | exact RK2a hK | exact RK3a hK | exact RK4a hK | exact RK5a hK | exact RK6a hK | exact RK7a hK | exact RGl hR | exact RGh hR | exact bI_lo | exact bI_hi | exact bI_01 | (show (List.map q_wd _).sum ≤ 8; with_unfolding_all exact Nat.le_of_ble_eq_true rfl) | (refine RK1c hK ?_; omega) | (refine RK2c hK ?_; omega) | (refine RK3c hK ?_; omega) | (refine RK4c hK ?_; omega) | (refine RK5c hK ?_; omega) | (refine RK6c hK ?_; omega) | (refine RK7c hK ?_; omega) | omega) only [kX13_rename_0, kX13_rename_1E, kX13_rename_4, kX13_rename_7, kX13_rename_8, kX13_rename_9, kX13_rename_10E, kX13_rename_13, kX13_rename_16, kX13_rename_18, kX13_rename_19, kX13_rename_20, kX13_rename_23, kX13_rename_24, kX13_rename_25E, kX13_rename_28, kX13_rename_29, kX13_rename_30E, kX13_rename_33, kX13_rename_34, kX13_rename_35, kX13_rename_36E, kX13_rename_39, q_cut_i, q_cut_r, q_cut_l, q_cut_n, q_kd_ov, ov_f0, ov_f1, ov_f2, ov_f3, ov_f4, ov_f5, ov_f6, ov_f7, ov_f8, ov_f9, ov_f10, ov_f11, ov_f12, ov_f13, ov_f14, ov_f15, ov_f16, ov_r, ov_w, ov_w1, ov_w2, ov_w4, ov_w5, ov_w6, ov_w7, ov_w9, ov_w11, ov_w13, ov_w16, up_s, up_k, up_j, up_up, q_psh_n, q_psh_s, bI_eq0, ite_not, ↓if_pos, ↓if_neg, ↓ite_bI_t, ↓ite_bI_f, tX13_isOneWord hK hR, hF, hf]
  · rw [if_neg w]
    simp (disch := first | assumption | exact RK0 hK | exact RK1a hK | exact RK2a hK | exact RK3a hK | exact RK4a hK | exact RK5a hK | exact RK6a hK | exact RK7a hK | exact RGl hR | exact RGh hR | exact bI_lo | exact bI_hi | exact bI_01 | (show (List.map q_wd _).sum ≤ 8; with_unfolding_all exact Nat.le_of_ble_eq_true rfl) | (refine RK1c hK ?_; omega) | (refine RK2c hK ?_; omega) | (refine RK3c hK ?_; omega) | (refine RK4c hK ?_; omega) | (refine RK5c hK ?_; omega) | (refine RK6c hK ?_; omega) | (refine RK7c hK ?_; omega) | omega) only [kX13_rename_0, kX13_rename_1E, kX13_rename_4, kX13_rename_7, kX13_rename_8, kX13_rename_9, kX13_rename_10E, kX13_rename_13, kX13_rename_16, kX13_rename_18, kX13_rename_19, kX13_rename_20, kX13_rename_23, kX13_rename_24, kX13_rename_25E, kX13_rename_28, kX13_rename_29, kX13_rename_30E, kX13_rename_33, kX13_rename_34, kX13_rename_35, kX13_rename_36E, kX13_rename_39, q_cut_i, q_cut_r, q_cut_l, q_cut_n, q_kd_ov, ov_f0, ov_f1, ov_f2, ov_f3, ov_f4, ov_f5, ov_f6, ov_f7, ov_f8, ov_f9, ov_f10, ov_f11, ov_f12, ov_f13, ov_f14, ov_f15, ov_f16, ov_r, ov_w, ov_w1, ov_w2, ov_w4, ov_w5, ov_w6, ov_w7, ov_w9, ov_w11, ov_w13, ov_w16, up_s, up_k, up_j, up_up, q_psh_n, q_psh_s, bI_eq0, ite_not, ↓if_pos, ↓if_neg, ↓ite_bI_t, ↓ite_bI_f, tX13_isOneWord hK hR, hf]
set_option maxHeartbeats 2000000 in
theorem tX13_renameY {d m : Nat} {S : RS} {M : QM} {x : QP} (hK : RK m M) (hR : RG S) {p y : Int} {n N NP : Nat} (v0 : 0 ≤ S 0 4) (v1 : S 0 4 ≤ 80) (c0 : 0 ≤ S 0 1 ∧ S 0 1 ≤ 6) (hb : RB S n N NP) (hN : N < 700) (hNP : NP < 700) (w : oneW S = true) (hno : rNoE (rOw S) p y = 0) : q_T (d + 6) iX13_rename [qr m, qi p, qi y] (ov m S M) x = x (some (qi (rAn (rKeep (rOw S)) 114 p 0 y N NP n))) (ov m (rOp (rKeep (rOw S)) 114 p 0 y NP n) M) := by
  have RT := RG_rOw hR
  have T1 : rOw S 1 = S 1 := rOw_k (by omega) (by omega)
  obtain ⟨e0, hn2, e1, e2, b5, b6, b7, b8, b9, b10, b11⟩ := RB_c T1 hb
  have c1 : rOw S 0 1 = S 0 1 := rOw_0 (by omega) (by omega) (by omega) (by omega)
  have hw := oneW_c w
  have fE := hno
  obtain ⟨f1, f2, f3, f4, f5⟩ := rNoE_0 fE
  have f6 := b11 p (by omega) (by omega)
  have hp : q_i32 p := ⟨by omega, by omega⟩
  have hy : q_i32 y := ⟨by omega, by omega⟩
  have RU := RG_rKeep RT (by rw [c1]; exact c0)
  have hbU : RB (rKeep (rOw S)) n N NP := RB_c2 hNP (fun j hj => rKeep_b (by rw [c1]; exact c0.1) hj) (RB_c T1 hb)
  obtain ⟨u0, -, u1, u2, u5, u6, u7, u8, u99, u10, u11⟩ := hbU
  have u9 : rKeep (rOw S) 0 9 = (S 0 4).toNat := by rw [rKeep_0 (by omega), rOw_9 w]; omega
  have hF := fun z : QP => tX13_noEvent (d := d + 2) (x := z) hK RT (p := p) (y := y) (by omega) (by omega) hp.1 hp.2 hy.1 hy.2
  have hG := fun z : QP => tX13_renames (d := d + 2) (x := z) hK RU (p := p) (y := y) u1 hN u9 (by omega) (by omega) (by omega) (u5 p (by omega) (by omega)).1
  have hKp := fun z : QP => tX13_keeps (d := d + 3) (x := z) hK RT (by rw [c1]; exact c0)
  rw [eX13_rename]
  simp (disch := first | assumption | exact RK0 hK | exact RK1a hK | exact RK2a hK | exact RK3a hK | exact RK4a hK | exact RK5a hK | exact RK6a hK | exact RK7a hK | exact RGl hR | exact RGh hR | exact bI_lo | exact bI_hi | exact bI_01 | (show (List.map q_wd _).sum ≤ 8; with_unfolding_all exact Nat.le_of_ble_eq_true rfl) | (refine RK1c hK ?_; omega) | (refine RK2c hK ?_; omega) | (refine RK3c hK ?_; omega) | (refine RK4c hK ?_; omega) | (refine RK5c hK ?_; omega) | (refine RK6c hK ?_; omega) | (refine RK7c hK ?_; omega) | omega) only [kX13_rename_0, kX13_rename_1E, kX13_rename_4, kX13_rename_7, kX13_rename_8, kX13_rename_9, kX13_rename_10E, kX13_rename_13, kX13_rename_16, kX13_rename_18, kX13_rename_19, kX13_rename_20, kX13_rename_23, kX13_rename_24, kX13_rename_25E, kX13_rename_28, kX13_rename_29, kX13_rename_30E, kX13_rename_33, kX13_rename_34, kX13_rename_35, kX13_rename_36E, kX13_rename_39, q_cut_i, q_cut_r, q_cut_l, q_cut_n, q_kd_ov, ov_f0, ov_f1, ov_f2, ov_f3, ov_f4, ov_f5, ov_f6, ov_f7, ov_f8, ov_f9, ov_f10, ov_f11, ov_f12, ov_f13, ov_f14, ov_f15, ov_f16, ov_r, ov_w, ov_w1, ov_w2, ov_w4, ov_w5, ov_w6, ov_w7, ov_w9, ov_w11, ov_w13, ov_w16, up_s, up_k, up_j, up_up, q_psh_n, q_psh_s, bI_eq0, ite_not, ↓if_pos, ↓if_neg, ↓ite_bI_t, ↓ite_bI_f, tX13_isOneWord hK hR, hF, hno, hKp, hG]
  rfl
set_option maxHeartbeats 2000000 in
theorem tX13_splitR {d m : Nat} {S : RS} {M : QM} {x : QP} (hK : RK m M) (hR : RG S) {p y : Int} {n N NP : Nat} (v0 : 0 ≤ S 0 4) (v1 : S 0 4 ≤ 80) (hb : RB S n N NP) (hNP : NP < 700) (hp : q_i32 p) (hy : q_i32 y) (hno : ¬ (oneW S = true ∧ rNoS (rOw S) p y NP = 0)) : q_T (d + 6) iX13_split [qr m, qi p, qi y] (ov m S M) x = x (some (qi (-3))) (ov m (up (rOw S) 0 7 (if oneW S = true then rNoS (rOw S) p y NP else 9)) M) := by
  have RT := RG_rOw hR
  have T1 : rOw S 1 = S 1 := rOw_k (by omega) (by omega)
  obtain ⟨e0, hn2, e1, e2, b5, b6, b7, b8, b9, b10, b11⟩ := RB_c T1 hb
  have hf := fun (z : QP) (v : Int) => tX13_refuse (d := d + 4) (x := z) (v := v) hK RT
  have nb := rNo_b (S := rOw S) (cc := 115) (a := p) (b := 0) (y := y) (NP := NP) (n := n)
  have hno0 : rNo (rOw S) 115 p 0 y NP n = rNoS (rOw S) p y NP := rfl
  rw [hno0] at nb
  rw [eX13_split]
  by_cases w : oneW S = true
  · rw [if_pos w]
    have hno' : rNoS (rOw S) p y NP ≠ 0 := fun h => hno ⟨w, h⟩
    have hF := fun z : QP => tX13_noSplit (d := d + 1) (x := z) hK RT (p := p) (y := y) e2 (Nat.le_of_lt hNP) (by omega) (by omega) hp.1 hp.2 hy.1 hy.2 (b10 p y)
    simp (disch := first | assumption | exact RK0 hK | exact RK1a hK | exact RK2a hK | exact RK3a hK | exact RK4a hK | exact RK5a hK | exact RK6a hK | exact RK7a hK | exact RGl hR | exact RGh hR | exact bI_lo | exact bI_hi | exact bI_01 | (show (List.map q_wd _).sum ≤ 8; with_unfolding_all exact Nat.le_of_ble_eq_true rfl) | (refine RK1c hK ?_; omega) | (refine RK2c hK ?_; omega) | (refine RK3c hK ?_; omega) | (refine RK4c hK ?_; omega) | (refine RK5c hK ?_; omega) | (refine RK6c hK ?_; omega) | (refine RK7c hK ?_; omega) | omega) only [kX13_split_0, kX13_split_1E, kX13_split_4, kX13_split_7, kX13_split_8, kX13_split_9, kX13_split_10E, kX13_split_13, kX13_split_16, kX13_split_18, kX13_split_19, kX13_split_20, kX13_split_23, kX13_split_24, kX13_split_25E, kX13_split_28, kX13_split_29, kX13_split_30E, kX13_split_33, kX13_split_34, kX13_split_35, kX13_split_36E, kX13_split_39, q_cut_i, q_cut_r, q_cut_l, q_cut_n, q_kd_ov, ov_f0, ov_f1, ov_f2, ov_f3, ov_f4, ov_f5, ov_f6, ov_f7, ov_f8, ov_f9, ov_f10, ov_f11, ov_f12, ov_f13, ov_f14, ov_f15, ov_f16, ov_r, ov_w, ov_w1, ov_w2, ov_w4, ov_w5, ov_w6, ov_w7, ov_w9, ov_w11, ov_w13, ov_w16, up_s, up_k, up_j, up_up, q_psh_n, q_psh_s, bI_eq0, ite_not, ↓if_pos, ↓if_neg, ↓ite_bI_t, ↓ite_bI_f, tX13_isOneWord hK hR, hF, hf]
  · rw [if_neg w]
    simp (disch := first | assumption | exact RK0 hK | exact RK1a hK | exact RK2a hK | exact RK3a hK | exact RK4a hK | exact RK5a hK | exact RK6a hK | exact RK7a hK | exact RGl hR | exact RGh hR | exact bI_lo | exact bI_hi | exact bI_01 | (show (List.map q_wd _).sum ≤ 8; with_unfolding_all exact Nat.le_of_ble_eq_true rfl) | (refine RK1c hK ?_; omega) | (refine RK2c hK ?_; omega) | (refine RK3c hK ?_; omega) | (refine RK4c hK ?_; omega) | (refine RK5c hK ?_; omega) | (refine RK6c hK ?_; omega) | (refine RK7c hK ?_; omega) | omega) only [kX13_split_0, kX13_split_1E, kX13_split_4, kX13_split_7, kX13_split_8, kX13_split_9, kX13_split_10E, kX13_split_13, kX13_split_16, kX13_split_18, kX13_split_19, kX13_split_20, kX13_split_23, kX13_split_24, kX13_split_25E, kX13_split_28, kX13_split_29, kX13_split_30E, kX13_split_33, kX13_split_34, kX13_split_35, kX13_split_36E, kX13_split_39, q_cut_i, q_cut_r, q_cut_l, q_cut_n, q_kd_ov, ov_f0, ov_f1, ov_f2, ov_f3, ov_f4, ov_f5, ov_f6, ov_f7, ov_f8, ov_f9, ov_f10, ov_f11, ov_f12, ov_f13, ov_f14, ov_f15, ov_f16, ov_r, ov_w, ov_w1, ov_w2, ov_w4, ov_w5, ov_w6, ov_w7, ov_w9, ov_w11, ov_w13, ov_w16, up_s, up_k, up_j, up_up, q_psh_n, q_psh_s, bI_eq0, ite_not, ↓if_pos, ↓if_neg, ↓ite_bI_t, ↓ite_bI_f, tX13_isOneWord hK hR, hf]
set_option maxHeartbeats 2000000 in
theorem tX13_splitY {d m : Nat} {S : RS} {M : QM} {x : QP} (hK : RK m M) (hR : RG S) {p y : Int} {n N NP : Nat} (v0 : 0 ≤ S 0 4) (v1 : S 0 4 ≤ 80) (c0 : 0 ≤ S 0 1 ∧ S 0 1 ≤ 6) (hb : RB S n N NP) (hN : N < 700) (hNP : NP < 700) (w : oneW S = true) (hno : rNoS (rOw S) p y NP = 0) : q_T (d + 6) iX13_split [qr m, qi p, qi y] (ov m S M) x = x (some (qi (rAn (rKeep (rOw S)) 115 p 0 y N NP n))) (ov m (rOp (rKeep (rOw S)) 115 p 0 y NP n) M) := by
  have RT := RG_rOw hR
  have T1 : rOw S 1 = S 1 := rOw_k (by omega) (by omega)
  obtain ⟨e0, hn2, e1, e2, b5, b6, b7, b8, b9, b10, b11⟩ := RB_c T1 hb
  have c1 : rOw S 0 1 = S 0 1 := rOw_0 (by omega) (by omega) (by omega) (by omega)
  have hw := oneW_c w
  obtain ⟨fE, fc, f20⟩ := rNoS_0 hno
  obtain ⟨f1, f2, f3, f4, f5⟩ := rNoE_0 fE
  have f6 := b11 p (by omega) (by omega)
  have hp : q_i32 p := ⟨by omega, by omega⟩
  have hy : q_i32 y := ⟨by omega, by omega⟩
  have RU := RG_rKeep RT (by rw [c1]; exact c0)
  have hbU : RB (rKeep (rOw S)) n N NP := RB_c2 hNP (fun j hj => rKeep_b (by rw [c1]; exact c0.1) hj) (RB_c T1 hb)
  obtain ⟨u0, -, u1, u2, u5, u6, u7, u8, u99, u10, u11⟩ := hbU
  have u9 : rKeep (rOw S) 0 9 = (S 0 4).toNat := by rw [rKeep_0 (by omega), rOw_9 w]; omega
  have hF := fun z : QP => tX13_noSplit (d := d + 1) (x := z) hK RT (p := p) (y := y) e2 (Nat.le_of_lt hNP) (by omega) (by omega) hp.1 hp.2 hy.1 hy.2 (b10 p y)
  have hG := fun z : QP => tX13_splits (d := d + 1) (x := z) hK RU (p := p) (y := y) u0 (by omega) u1 hN u2 hNP u9 (by omega) (by omega) (by omega) (u8 p (by omega) (by omega)) (u99 p y) (u5 p (by omega) (by omega)).1 (u5 p (by omega) (by omega)).2
  have hKp := fun z : QP => tX13_keeps (d := d + 3) (x := z) hK RT (by rw [c1]; exact c0)
  rw [eX13_split]
  simp (disch := first | assumption | exact RK0 hK | exact RK1a hK | exact RK2a hK | exact RK3a hK | exact RK4a hK | exact RK5a hK | exact RK6a hK | exact RK7a hK | exact RGl hR | exact RGh hR | exact bI_lo | exact bI_hi | exact bI_01 | (show (List.map q_wd _).sum ≤ 8; with_unfolding_all exact Nat.le_of_ble_eq_true rfl) | (refine RK1c hK ?_; omega) | (refine RK2c hK ?_; omega) | (refine RK3c hK ?_; omega) | (refine RK4c hK ?_; omega) | (refine RK5c hK ?_; omega) | (refine RK6c hK ?_; omega) | (refine RK7c hK ?_; omega) | omega) only [kX13_split_0, kX13_split_1E, kX13_split_4, kX13_split_7, kX13_split_8, kX13_split_9, kX13_split_10E, kX13_split_13, kX13_split_16, kX13_split_18, kX13_split_19, kX13_split_20, kX13_split_23, kX13_split_24, kX13_split_25E, kX13_split_28, kX13_split_29, kX13_split_30E, kX13_split_33, kX13_split_34, kX13_split_35, kX13_split_36E, kX13_split_39, q_cut_i, q_cut_r, q_cut_l, q_cut_n, q_kd_ov, ov_f0, ov_f1, ov_f2, ov_f3, ov_f4, ov_f5, ov_f6, ov_f7, ov_f8, ov_f9, ov_f10, ov_f11, ov_f12, ov_f13, ov_f14, ov_f15, ov_f16, ov_r, ov_w, ov_w1, ov_w2, ov_w4, ov_w5, ov_w6, ov_w7, ov_w9, ov_w11, ov_w13, ov_w16, up_s, up_k, up_j, up_up, q_psh_n, q_psh_s, bI_eq0, ite_not, ↓if_pos, ↓if_neg, ↓ite_bI_t, ↓ite_bI_f, tX13_isOneWord hK hR, hF, hno, hKp, hG]
  rfl
set_option maxHeartbeats 2000000 in
theorem tX13_moveR {d m : Nat} {S : RS} {M : QM} {x : QP} (hK : RK m M) (hR : RG S) {p b y : Int} {n N NP : Nat} (hb : RB S n N NP) (hNP : NP < 700) (hp : q_i32 p) (hb2 : q_i32 b) (hy : q_i32 y) (hno : ¬ rNoM S p b y = 0) : q_T (d + 6) iX13_move [qr m, qi p, qi b, qi y] (ov m S M) x = x (some (qi (-3))) (ov m (up S 0 7 (rNoM S p b y)) M) := by
  obtain ⟨e0, hn2, e1, e2, b5, b6, b7, b8, b9, b10, b11⟩ := hb
  have hf := fun (z : QP) (v : Int) => tX13_refuse (d := d + 4) (x := z) (v := v) hK hR
  have nb := rNo_b (S := S) (cc := 109) (a := p) (b := b) (y := y) (NP := NP) (n := n)
  have hno0 : rNo S 109 p b y NP n = rNoM S p b y := rfl
  rw [hno0] at nb
  have hF := fun z : QP => tX13_noMove (d := d + 1) (x := z) hK hR (p := p) (par := b) (y := y) (by omega) (by omega) hp.1 hp.2 hy.1 hy.2 hb2.1 hb2.2
  rw [eX13_move]
  simp (disch := first | assumption | exact RK0 hK | exact RK1a hK | exact RK2a hK | exact RK3a hK | exact RK4a hK | exact RK5a hK | exact RK6a hK | exact RK7a hK | exact RGl hR | exact RGh hR | exact bI_lo | exact bI_hi | exact bI_01 | (show (List.map q_wd _).sum ≤ 8; with_unfolding_all exact Nat.le_of_ble_eq_true rfl) | (refine RK1c hK ?_; omega) | (refine RK2c hK ?_; omega) | (refine RK3c hK ?_; omega) | (refine RK4c hK ?_; omega) | (refine RK5c hK ?_; omega) | (refine RK6c hK ?_; omega) | (refine RK7c hK ?_; omega) | omega) only [kX13_move_0, kX13_move_1, kX13_move_2, kX13_move_3, kX13_move_4E, kX13_move_7, kX13_move_9, kX13_move_11, kX13_move_14, kX13_move_15, kX13_move_17E, kX13_move_20, kX13_move_21, kX13_move_22E, kX13_move_25, kX13_move_26, kX13_move_27, kX13_move_28, kX13_move_29E, kX13_move_32, q_cut_i, q_cut_r, q_cut_l, q_cut_n, q_kd_ov, ov_f0, ov_f1, ov_f2, ov_f3, ov_f4, ov_f5, ov_f6, ov_f7, ov_f8, ov_f9, ov_f10, ov_f11, ov_f12, ov_f13, ov_f14, ov_f15, ov_f16, ov_r, ov_w, ov_w1, ov_w2, ov_w4, ov_w5, ov_w6, ov_w7, ov_w9, ov_w11, ov_w13, ov_w16, up_s, up_k, up_j, up_up, q_psh_n, q_psh_s, bI_eq0, ite_not, ↓if_pos, ↓if_neg, ↓ite_bI_t, ↓ite_bI_f, hF, hf]
set_option maxHeartbeats 2000000 in
theorem tX13_moveY {d m : Nat} {S : RS} {M : QM} {x : QP} (hK : RK m M) (hR : RG S) {p b y : Int} {n N NP : Nat} (c0 : 0 ≤ S 0 1 ∧ S 0 1 ≤ 6) (hb : RB S n N NP) (hN : N < 700) (hNP : NP < 700) (hno : rNoM S p b y = 0) : q_T (d + 6) iX13_move [qr m, qi p, qi b, qi y] (ov m S M) x = x (some (qi (rAn (rKeep S) 109 p b y N NP n))) (ov m (rOp (rKeep S) 109 p b y NP n) M) := by
  obtain ⟨e0, hn2, e1, e2, b5, b6, b7, b8, b9, b10, b11⟩ := id hb
  obtain ⟨g1, g2, fE, g4, g5⟩ := rNoM_0 hno
  obtain ⟨f1, f2, f3, f4, f5⟩ := rNoE_0 fE
  have f6 := b11 p (by omega) (by omega)
  have hp : q_i32 p := ⟨by omega, by omega⟩
  have hy : q_i32 y := ⟨by omega, by omega⟩
  have hb2 : q_i32 b := ⟨by omega, by omega⟩
  have RU := RG_rKeep hR c0
  have hbU : RB (rKeep S) n N NP := RB_c2 hNP (fun j hj => rKeep_b c0.1 hj) hb
  obtain ⟨u0, -, u1, u2, u5, u6, u7, u8, u99, u10, u11⟩ := hbU
  have hF := fun z : QP => tX13_noMove (d := d + 1) (x := z) hK hR (p := p) (par := b) (y := y) (by omega) (by omega) hp.1 hp.2 hy.1 hy.2 hb2.1 hb2.2
  have hG := fun z : QP => tX13_moves (d := d + 2) (x := z) hK RU (p := p) (par := b) (y := y) u2 hNP (by omega) (by omega) (by omega) (u5 p (by omega) (by omega)).1
  have hKp := fun z : QP => tX13_keeps (d := d + 3) (x := z) hK hR c0
  rw [eX13_move]
  simp (disch := first | assumption | exact RK0 hK | exact RK1a hK | exact RK2a hK | exact RK3a hK | exact RK4a hK | exact RK5a hK | exact RK6a hK | exact RK7a hK | exact RGl hR | exact RGh hR | exact bI_lo | exact bI_hi | exact bI_01 | (show (List.map q_wd _).sum ≤ 8; with_unfolding_all exact Nat.le_of_ble_eq_true rfl) | (refine RK1c hK ?_; omega) | (refine RK2c hK ?_; omega) | (refine RK3c hK ?_; omega) | (refine RK4c hK ?_; omega) | (refine RK5c hK ?_; omega) | (refine RK6c hK ?_; omega) | (refine RK7c hK ?_; omega) | omega) only [kX13_move_0, kX13_move_1, kX13_move_2, kX13_move_3, kX13_move_4E, kX13_move_7, kX13_move_9, kX13_move_11, kX13_move_14, kX13_move_15, kX13_move_17E, kX13_move_20, kX13_move_21, kX13_move_22E, kX13_move_25, kX13_move_26, kX13_move_27, kX13_move_28, kX13_move_29E, kX13_move_32, q_cut_i, q_cut_r, q_cut_l, q_cut_n, q_kd_ov, ov_f0, ov_f1, ov_f2, ov_f3, ov_f4, ov_f5, ov_f6, ov_f7, ov_f8, ov_f9, ov_f10, ov_f11, ov_f12, ov_f13, ov_f14, ov_f15, ov_f16, ov_r, ov_w, ov_w1, ov_w2, ov_w4, ov_w5, ov_w6, ov_w7, ov_w9, ov_w11, ov_w13, ov_w16, up_s, up_k, up_j, up_up, q_psh_n, q_psh_s, bI_eq0, ite_not, ↓if_pos, ↓if_neg, ↓ite_bI_t, ↓ite_bI_f, hF, hno, hKp, hG]
  rfl
set_option maxHeartbeats 2000000 in
theorem tX13_mergeR {d m : Nat} {S : RS} {M : QM} {x : QP} (hK : RK m M) (hR : RG S) {p b y : Int} {n N NP : Nat} (hb : RB S n N NP) (hNP : NP < 700) (hp : q_i32 p) (hb2 : q_i32 b) (hy : q_i32 y) (hno : ¬ rNoG S p b y = 0) : q_T (d + 6) iX13_merge [qr m, qi p, qi b, qi y] (ov m S M) x = x (some (qi (-3))) (ov m (up S 0 7 (rNoG S p b y)) M) := by
  obtain ⟨e0, hn2, e1, e2, b5, b6, b7, b8, b9, b10, b11⟩ := hb
  have hf := fun (z : QP) (v : Int) => tX13_refuse (d := d + 4) (x := z) (v := v) hK hR
  have nb := rNo_b (S := S) (cc := 103) (a := p) (b := b) (y := y) (NP := NP) (n := n)
  have hno0 : rNo S 103 p b y NP n = rNoG S p b y := rfl
  rw [hno0] at nb
  have hF := fun z : QP => tX13_noMerge (d := d + 1) (x := z) hK hR (p := p) (par := b) (y := y) (by omega) (by omega) hp.1 hp.2 hy.1 hy.2 hb2.1 hb2.2
  rw [eX13_merge]
  simp (disch := first | assumption | exact RK0 hK | exact RK1a hK | exact RK2a hK | exact RK3a hK | exact RK4a hK | exact RK5a hK | exact RK6a hK | exact RK7a hK | exact RGl hR | exact RGh hR | exact bI_lo | exact bI_hi | exact bI_01 | (show (List.map q_wd _).sum ≤ 8; with_unfolding_all exact Nat.le_of_ble_eq_true rfl) | (refine RK1c hK ?_; omega) | (refine RK2c hK ?_; omega) | (refine RK3c hK ?_; omega) | (refine RK4c hK ?_; omega) | (refine RK5c hK ?_; omega) | (refine RK6c hK ?_; omega) | (refine RK7c hK ?_; omega) | omega) only [kX13_merge_0, kX13_merge_1, kX13_merge_2, kX13_merge_3, kX13_merge_4E, kX13_merge_7, kX13_merge_9, kX13_merge_11, kX13_merge_14, kX13_merge_15, kX13_merge_17E, kX13_merge_20, kX13_merge_21, kX13_merge_22E, kX13_merge_25, kX13_merge_26, kX13_merge_27, kX13_merge_28, kX13_merge_29E, kX13_merge_32, q_cut_i, q_cut_r, q_cut_l, q_cut_n, q_kd_ov, ov_f0, ov_f1, ov_f2, ov_f3, ov_f4, ov_f5, ov_f6, ov_f7, ov_f8, ov_f9, ov_f10, ov_f11, ov_f12, ov_f13, ov_f14, ov_f15, ov_f16, ov_r, ov_w, ov_w1, ov_w2, ov_w4, ov_w5, ov_w6, ov_w7, ov_w9, ov_w11, ov_w13, ov_w16, up_s, up_k, up_j, up_up, q_psh_n, q_psh_s, bI_eq0, ite_not, ↓if_pos, ↓if_neg, ↓ite_bI_t, ↓ite_bI_f, hF, hf]
set_option maxHeartbeats 2000000 in
theorem tX13_mergeY {d m : Nat} {S : RS} {M : QM} {x : QP} (hK : RK m M) (hR : RG S) {p b y : Int} {n N NP : Nat} (c0 : 0 ≤ S 0 1 ∧ S 0 1 ≤ 6) (hb : RB S n N NP) (hN : N < 700) (hNP : NP < 700) (hno : rNoG S p b y = 0) : q_T (d + 6) iX13_merge [qr m, qi p, qi b, qi y] (ov m S M) x = x (some (qi (rAn (rKeep S) 103 p b y N NP n))) (ov m (rOp (rKeep S) 103 p b y NP n) M) := by
  obtain ⟨e0, hn2, e1, e2, b5, b6, b7, b8, b9, b10, b11⟩ := id hb
  obtain ⟨g1, g2, g3, fE, g4, g5⟩ := rNoG_0 hno
  obtain ⟨f1, f2, f3, f4, f5⟩ := rNoE_0 fE
  have f6 := b11 p (by omega) (by omega)
  have hp : q_i32 p := ⟨by omega, by omega⟩
  have hy : q_i32 y := ⟨by omega, by omega⟩
  have hb2 : q_i32 b := ⟨by omega, by omega⟩
  have RU := RG_rKeep hR c0
  have hbU : RB (rKeep S) n N NP := RB_c2 hNP (fun j hj => rKeep_b c0.1 hj) hb
  obtain ⟨u0, -, u1, u2, u5, u6, u7, u8, u99, u10, u11⟩ := hbU
  have hF := fun z : QP => tX13_noMerge (d := d + 1) (x := z) hK hR (p := p) (par := b) (y := y) (by omega) (by omega) hp.1 hp.2 hy.1 hy.2 hb2.1 hb2.2
  have hG := fun z : QP => tX13_merges (d := d) (x := z) hK RU (p := p) (into := b) (y := y) u0 hn2 u2 hNP (by omega) (by omega) (by omega) u5 u6 u7
  have hKp := fun z : QP => tX13_keeps (d := d + 3) (x := z) hK hR c0
  rw [eX13_merge]
  simp (disch := first | assumption | exact RK0 hK | exact RK1a hK | exact RK2a hK | exact RK3a hK | exact RK4a hK | exact RK5a hK | exact RK6a hK | exact RK7a hK | exact RGl hR | exact RGh hR | exact bI_lo | exact bI_hi | exact bI_01 | (show (List.map q_wd _).sum ≤ 8; with_unfolding_all exact Nat.le_of_ble_eq_true rfl) | (refine RK1c hK ?_; omega) | (refine RK2c hK ?_; omega) | (refine RK3c hK ?_; omega) | (refine RK4c hK ?_; omega) | (refine RK5c hK ?_; omega) | (refine RK6c hK ?_; omega) | (refine RK7c hK ?_; omega) | omega) only [kX13_merge_0, kX13_merge_1, kX13_merge_2, kX13_merge_3, kX13_merge_4E, kX13_merge_7, kX13_merge_9, kX13_merge_11, kX13_merge_14, kX13_merge_15, kX13_merge_17E, kX13_merge_20, kX13_merge_21, kX13_merge_22E, kX13_merge_25, kX13_merge_26, kX13_merge_27, kX13_merge_28, kX13_merge_29E, kX13_merge_32, q_cut_i, q_cut_r, q_cut_l, q_cut_n, q_kd_ov, ov_f0, ov_f1, ov_f2, ov_f3, ov_f4, ov_f5, ov_f6, ov_f7, ov_f8, ov_f9, ov_f10, ov_f11, ov_f12, ov_f13, ov_f14, ov_f15, ov_f16, ov_r, ov_w, ov_w1, ov_w2, ov_w4, ov_w5, ov_w6, ov_w7, ov_w9, ov_w11, ov_w13, ov_w16, up_s, up_k, up_j, up_up, q_psh_n, q_psh_s, bI_eq0, ite_not, ↓if_pos, ↓if_neg, ↓ite_bI_t, ↓ite_bI_f, hF, hno, hKp, hG]
  rfl
set_option maxHeartbeats 2000000 in
theorem tX13_closeR {d m : Nat} {S : RS} {M : QM} {x : QP} (hK : RK m M) (hR : RG S) {p y : Int} {n N NP : Nat} (hb : RB S n N NP) (hNP : NP < 700) (hp : q_i32 p) (hy : q_i32 y) (hno : ¬ rNoC S p y NP n = 0) : q_T (d + 6) iX13_close [qr m, qi p, qi y] (ov m S M) x = x (some (qi (-3))) (ov m (up S 0 7 (rNoC S p y NP n)) M) := by
  obtain ⟨e0, hn2, e1, e2, b5, b6, b7, b8, b9, b10, b11⟩ := hb
  have hf := fun (z : QP) (v : Int) => tX13_refuse (d := d + 4) (x := z) (v := v) hK hR
  have nb := rNo_b (S := S) (cc := 99) (a := p) (b := 0) (y := y) (NP := NP) (n := n)
  have hno0 : rNo S 99 p 0 y NP n = rNoC S p y NP n := rfl
  rw [hno0] at nb
  have hF := fun z : QP => tX13_noClosing (d := d) (x := z) hK hR (p := p) (y := y) e2 (Nat.le_of_lt hNP) e0 hn2 hp.1 hp.2 hy.1 hy.2
  rw [eX13_close]
  simp (disch := first | assumption | exact RK0 hK | exact RK1a hK | exact RK2a hK | exact RK3a hK | exact RK4a hK | exact RK5a hK | exact RK6a hK | exact RK7a hK | exact RGl hR | exact RGh hR | exact bI_lo | exact bI_hi | exact bI_01 | (show (List.map q_wd _).sum ≤ 8; with_unfolding_all exact Nat.le_of_ble_eq_true rfl) | (refine RK1c hK ?_; omega) | (refine RK2c hK ?_; omega) | (refine RK3c hK ?_; omega) | (refine RK4c hK ?_; omega) | (refine RK5c hK ?_; omega) | (refine RK6c hK ?_; omega) | (refine RK7c hK ?_; omega) | omega) only [kX13_close_0, kX13_close_1, kX13_close_2, kX13_close_3E, kX13_close_6, kX13_close_7, kX13_close_8, kX13_close_11, kX13_close_12, kX13_close_13E, kX13_close_16, kX13_close_17, kX13_close_18E, kX13_close_21, kX13_close_22, kX13_close_23, kX13_close_24E, kX13_close_27, q_cut_i, q_cut_r, q_cut_l, q_cut_n, q_kd_ov, ov_f0, ov_f1, ov_f2, ov_f3, ov_f4, ov_f5, ov_f6, ov_f7, ov_f8, ov_f9, ov_f10, ov_f11, ov_f12, ov_f13, ov_f14, ov_f15, ov_f16, ov_r, ov_w, ov_w1, ov_w2, ov_w4, ov_w5, ov_w6, ov_w7, ov_w9, ov_w11, ov_w13, ov_w16, up_s, up_k, up_j, up_up, q_psh_n, q_psh_s, bI_eq0, ite_not, ↓if_pos, ↓if_neg, ↓ite_bI_t, ↓ite_bI_f, hF, hf]
set_option maxHeartbeats 2000000 in
theorem tX13_closeY {d m : Nat} {S : RS} {M : QM} {x : QP} (hK : RK m M) (hR : RG S) {p y : Int} {n N NP : Nat} (c0 : 0 ≤ S 0 1 ∧ S 0 1 ≤ 6) (hb : RB S n N NP) (hN : N < 700) (hNP : NP < 700) (hno : rNoC S p y NP n = 0) : q_T (d + 6) iX13_close [qr m, qi p, qi y] (ov m S M) x = x (some (qi (rAn (rKeep S) 99 p 0 y N NP n))) (ov m (rOp (rKeep S) 99 p 0 y NP n) M) := by
  obtain ⟨e0, hn2, e1, e2, b5, b6, b7, b8, b9, b10, b11⟩ := id hb
  obtain ⟨fE, g2⟩ := rNoC_0 hno
  obtain ⟨f1, f2, f3, f4, f5⟩ := rNoE_0 fE
  have f6 := b11 p (by omega) (by omega)
  have hp : q_i32 p := ⟨by omega, by omega⟩
  have hy : q_i32 y := ⟨by omega, by omega⟩
  
  have RU := RG_rKeep hR c0
  have hbU : RB (rKeep S) n N NP := RB_c2 hNP (fun j hj => rKeep_b c0.1 hj) hb
  obtain ⟨u0, -, u1, u2, u5, u6, u7, u8, u99, u10, u11⟩ := hbU
  have hF := fun z : QP => tX13_noClosing (d := d) (x := z) hK hR (p := p) (y := y) e2 (Nat.le_of_lt hNP) e0 hn2 hp.1 hp.2 hy.1 hy.2
  have hG := fun z : QP => tX13_closes (d := d + 2) (x := z) hK RU (p := p) (y := y) (by omega) (by omega) (u5 p (by omega) (by omega)).1 (u5 p (by omega) (by omega)).2
  have hKp := fun z : QP => tX13_keeps (d := d + 3) (x := z) hK hR c0
  rw [eX13_close]
  simp (disch := first | assumption | exact RK0 hK | exact RK1a hK | exact RK2a hK | exact RK3a hK | exact RK4a hK | exact RK5a hK | exact RK6a hK | exact RK7a hK | exact RGl hR | exact RGh hR | exact bI_lo | exact bI_hi | exact bI_01 | (show (List.map q_wd _).sum ≤ 8; with_unfolding_all exact Nat.le_of_ble_eq_true rfl) | (refine RK1c hK ?_; omega) | (refine RK2c hK ?_; omega) | (refine RK3c hK ?_; omega) | (refine RK4c hK ?_; omega) | (refine RK5c hK ?_; omega) | (refine RK6c hK ?_; omega) | (refine RK7c hK ?_; omega) | omega) only [kX13_close_0, kX13_close_1, kX13_close_2, kX13_close_3E, kX13_close_6, kX13_close_7, kX13_close_8, kX13_close_11, kX13_close_12, kX13_close_13E, kX13_close_16, kX13_close_17, kX13_close_18E, kX13_close_21, kX13_close_22, kX13_close_23, kX13_close_24E, kX13_close_27, q_cut_i, q_cut_r, q_cut_l, q_cut_n, q_kd_ov, ov_f0, ov_f1, ov_f2, ov_f3, ov_f4, ov_f5, ov_f6, ov_f7, ov_f8, ov_f9, ov_f10, ov_f11, ov_f12, ov_f13, ov_f14, ov_f15, ov_f16, ov_r, ov_w, ov_w1, ov_w2, ov_w4, ov_w5, ov_w6, ov_w7, ov_w9, ov_w11, ov_w13, ov_w16, up_s, up_k, up_j, up_up, q_psh_n, q_psh_s, bI_eq0, ite_not, ↓if_pos, ↓if_neg, ↓ite_bI_t, ↓ite_bI_f, hF, hno, hKp, hG]
  rfl
