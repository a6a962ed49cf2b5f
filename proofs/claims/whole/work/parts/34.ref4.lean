/-! the reference's methods: words read, refusals -/
def wCnt (h : Int → Int) : Nat → Int → Nat
  | 0, _ => 0
  | k + 1, a => if 97 ≤ h a ∧ h a ≤ 122 then wCnt h k (a + 1) + 1 else 0
theorem wCnt_le (h : Int → Int) : ∀ (k : Nat) (a : Int), wCnt h k a ≤ k
  | 0, _ => Nat.le_refl 0
  | k + 1, a => by
    have := wCnt_le h k (a + 1)
    rw [wCnt]
    split <;> omega
/-- so many letters read from a place of the tape on -/
def rW (S : RS) (a : Int) (c : Nat) : RS := fun k j => if k = 0 ∧ j = 9 then c else if k = 0 ∧ j = 5 then a + c else if k = 3 ∧ 0 ≤ j ∧ j < c then S 2 (a + j) else S k j
theorem rW_09 {S : RS} {a : Int} {c : Nat} : rW S a c 0 9 = c := rfl
theorem rW_05 {S : RS} {a : Int} {c : Nat} : rW S a c 0 5 = a + c := rfl
theorem rW_0 {S : RS} {a j : Int} {c : Nat} (h : j ≠ 9) (h2 : j ≠ 5) : rW S a c 0 j = S 0 j := by
  unfold rW
  rw [if_neg (by omega), if_neg (by omega), if_neg (by omega)]
theorem rW_k {S : RS} {a : Int} {c k : Nat} (h : k ≠ 0) (h2 : k ≠ 3) : rW S a c k = S k := by
  funext j
  unfold rW
  rw [if_neg (by omega), if_neg (by omega), if_neg (by omega)]
theorem rW_3 {S : RS} {a j : Int} {c : Nat} (h : 0 ≤ j) (h2 : j < c) : rW S a c 3 j = S 2 (a + j) := by
  unfold rW
  rw [if_neg (by omega), if_neg (by omega), if_pos (by omega)]
theorem rW_z {S : RS} {a : Int} : rW S a 0 = up (up S 0 9 0) 0 5 a := by
  funext k j
  unfold rW up
  by_cases h0 : k = 0 ∧ j = 9
  · rw [if_pos h0, if_neg (by omega), if_pos h0]; rfl
  · rw [if_neg h0, if_neg h0, if_neg (show ¬ (k = 3 ∧ 0 ≤ j ∧ j < ((0 : Nat) : Int)) by omega)]
    split
    · omega
    · rfl
theorem rW_s {S : RS} {a v : Int} {c : Nat} (hv : v = S 2 (a + c)) : up (up (up (rW S a c) 3 c v) 0 9 (c + 1)) 0 5 (a + c + 1) = rW S a (c + 1) := by
  funext k j
  unfold rW up
  dsimp only
  by_cases h1 : k = 0 ∧ j = 9
  · rw [if_neg (by omega), if_pos h1, if_pos h1]; rfl
  · rw [if_neg h1]
    by_cases h2 : k = 0 ∧ j = 5
    · rw [if_pos h2, if_neg h1, if_pos h2]; omega
    · rw [if_neg h2, if_neg h1, if_neg h1, if_neg h2]
      by_cases h3 : k = 3 ∧ j = c
      · rw [if_pos h3, if_neg h2, if_pos ⟨h3.1, by omega, by omega⟩, hv, h3.2]
      · rw [if_neg h3, if_neg h2]
        by_cases h4 : k = 3 ∧ 0 ≤ j ∧ j < c
        · rw [if_pos h4, if_pos ⟨h4.1, by omega, by omega⟩]
        · rw [if_neg h4, if_neg (by omega)]
theorem RG_rW {S : RS} (h : RG S) {a : Int} {c : Nat} (h1 : -1000 ≤ a) (h2 : a < 1000) (h3 : c < 1000) : RG (rW S a c) := by
  intro k j
  have e1 := h k j
  have e2 := h 2 (a + j)
  unfold rW
  split
  · omega
  · split
    · omega
    · split
      · exact e2
      · exact e1
theorem tX13_readsWordF {d m : Nat} {S : RS} {M : QM} {x : QP} (hK : RK m M) (hR : RG S) (h : 0 ≤ S 0 6) : q_T (d + 3) iX13_readsWord [qr m] (ov m S M) x = x none (ov m (up S 0 9 0) M) := by
  rw [eX13_readsWord]
  simp (disch := first | assumption | exact RK0 hK | exact RK1a hK | exact RK2a hK | exact RK3a hK | exact RK4a hK | exact RK5a hK | exact RK6a hK | exact RK7a hK | exact RGl hR | exact RGh hR | exact bI_lo | exact bI_hi | exact bI_01 | (show (List.map q_wd _).sum ≤ 8; with_unfolding_all exact Nat.le_of_ble_eq_true rfl) | (refine RK1c hK ?_; omega) | (refine RK2c hK ?_; omega) | (refine RK3c hK ?_; omega) | (refine RK4c hK ?_; omega) | (refine RK5c hK ?_; omega) | (refine RK6c hK ?_; omega) | (refine RK7c hK ?_; omega) | omega) only [kX13_readsWord_0, kX13_readsWord_1, kX13_readsWord_2, kX13_readsWord_5, kX13_readsWord_6, kX13_readsWord_9, kX13_readsWord_12, kX13_readsWord_13E, kX13_readsWord_16, kX13_readsWord_18, kX13_readsWord_20E, kX13_readsWord_23, kX13_readsWord_26, kX13_readsWord_27E, kX13_readsWord_30, kX13_readsWord_31, kX13_readsWord_34, kX13_readsWord_37, kX13_readsWord_38E, kX13_readsWord_41, kX13_readsWord_43, kX13_readsWord_45E, kX13_readsWord_48, kX13_readsWord_51, kX13_readsWord_52, kX13_readsWord_55, kX13_readsWord_57, kX13_readsWord_60, kX13_readsWord_61E, kX13_readsWord_64, kX13_readsWord_65, kX13_readsWord_66, kX13_readsWord_69, kX13_readsWord_70, kX13_readsWord_73, kX13_readsWord_74E, kX13_readsWord_77, kX13_readsWord_78, kX13_readsWord_79i, kX13_readsWord_79r, kX13_readsWord_80, kX13_readsWord_83, kX13_readsWord_84, kX13_readsWord_85, kX13_readsWord_88, kX13_readsWord_89i, kX13_readsWord_89r, kX13_readsWord_90, kX13_readsWord_93, kX13_readsWord_94, kX13_readsWord_95, kX13_readsWord_98, kX13_readsWord_101, q_kd_ov, ov_f0, ov_f1, ov_f2, ov_f3, ov_f4, ov_f5, ov_f6, ov_f7, ov_f8, ov_f9, ov_f10, ov_f11, ov_f12, ov_f13, ov_f14, ov_f15, ov_f16, ov_r, ov_w, ov_w1, ov_w2, ov_w4, ov_w5, ov_w6, ov_w7, ov_w9, ov_w11, ov_w13, ov_w16, up_s, up_k, up_j, up_up, q_psh_n, q_psh_s, bI_eq0, ite_not, ↓if_pos, ↓if_neg, ↓ite_bI_t, ↓ite_bI_f]
theorem tX13_readsWordN {d m : Nat} {S : RS} {M : QM} {x : QP} (hK : RK m M) (hR : RG S) (h : S 0 6 < 0) (h1 : 0 ≤ S 0 5) (h2 : S 0 4 ≤ 80) (h7 : ¬ (97 ≤ rHr (S 2) (S 0 4) (S 0 5) ∧ rHr (S 2) (S 0 4) (S 0 5) ≤ 122)) : q_T (d + 3) iX13_readsWord [qr m] (ov m S M) x = x none (ov m (up (up S 0 9 0) 0 6 (S 0 5)) M) := by
  have hh := rHr_R hR (S 0 4) (S 0 5)
  have hR' : RG (up S 0 9 0) := RG_up hR (by omega) (by omega)
  rw [eX13_readsWord]
  simp (disch := first | assumption | exact RK0 hK | exact RK1a hK | exact RK2a hK | exact RK3a hK | exact RK4a hK | exact RK5a hK | exact RK6a hK | exact RK7a hK | exact RGl hR | exact RGh hR | exact bI_lo | exact bI_hi | exact bI_01 | (show (List.map q_wd _).sum ≤ 8; with_unfolding_all exact Nat.le_of_ble_eq_true rfl) | (refine RK1c hK ?_; omega) | (refine RK2c hK ?_; omega) | (refine RK3c hK ?_; omega) | (refine RK4c hK ?_; omega) | (refine RK5c hK ?_; omega) | (refine RK6c hK ?_; omega) | (refine RK7c hK ?_; omega) | omega | (simp (disch := omega) only [up_s, up_k, up_j, up_up]; first | done | omega)) only [kX13_readsWord_0, kX13_readsWord_1, kX13_readsWord_2, kX13_readsWord_5, kX13_readsWord_6, kX13_readsWord_9, kX13_readsWord_12, kX13_readsWord_13E, kX13_readsWord_16, kX13_readsWord_18, kX13_readsWord_20E, kX13_readsWord_23, kX13_readsWord_26, kX13_readsWord_27E, kX13_readsWord_30, kX13_readsWord_31, kX13_readsWord_34, kX13_readsWord_37, kX13_readsWord_38E, kX13_readsWord_41, kX13_readsWord_43, kX13_readsWord_45E, kX13_readsWord_48, kX13_readsWord_51, kX13_readsWord_52, kX13_readsWord_55, kX13_readsWord_57, kX13_readsWord_60, kX13_readsWord_61E, kX13_readsWord_64, kX13_readsWord_65, kX13_readsWord_66, kX13_readsWord_69, kX13_readsWord_70, kX13_readsWord_73, kX13_readsWord_74E, kX13_readsWord_77, kX13_readsWord_78, kX13_readsWord_79i, kX13_readsWord_79r, kX13_readsWord_80, kX13_readsWord_83, kX13_readsWord_84, kX13_readsWord_85, kX13_readsWord_88, kX13_readsWord_89i, kX13_readsWord_89r, kX13_readsWord_90, kX13_readsWord_93, kX13_readsWord_94, kX13_readsWord_95, kX13_readsWord_98, kX13_readsWord_101, q_kd_ov, ov_f0, ov_f1, ov_f2, ov_f3, ov_f4, ov_f5, ov_f6, ov_f7, ov_f8, ov_f9, ov_f10, ov_f11, ov_f12, ov_f13, ov_f14, ov_f15, ov_f16, ov_r, ov_w, ov_w1, ov_w2, ov_w4, ov_w5, ov_w6, ov_w7, ov_w9, ov_w11, ov_w13, ov_w16, up_s, up_k, up_j, up_up, q_psh_n, q_psh_s, bI_eq0, ite_not, ↓if_pos, ↓if_neg, ↓ite_bI_t, ↓ite_bI_f, tX13_here hK hR', tX13_failsN hK hR', tX13_in]
theorem wLoop {d m : Nat} {S : RS} {M : QM} {x : QP} (hK : RK m M) (hR : RG S) (h : S 0 6 < 0) (h2 : S 0 4 ≤ 80) {a : Int} (ha : 0 ≤ a) (ha2 : a ≤ 80) : ∀ (n c : Nat), n + c = 8 →
    Rr (q_C (d + 2)) mX13_readsWord (30, [some (qr m)], [], ov m (rW S a c) M) x = x none (ov m (if wCnt (rHr (S 2) (S 0 4)) (n + 1) (a + c) = n + 1 then up (rW S a 8) 0 6 (a + 8) else rW S a (c + wCnt (rHr (S 2) (S 0 4)) (n + 1) (a + c))) M) := by
  intro n
  induction n with
  | zero =>
    intro c hc
    have e : c = 8 := by omega
    subst e
    have hR' : RG (rW S a 8) := RG_rW hR (by omega) (by omega) (by omega)
    have hh := rHr_R hR (S 0 4) (a + (8 : Nat))
    have w4 : rW S a 8 0 4 = S 0 4 := rW_0 (by omega) (by omega)
    have w6 : rW S a 8 0 6 = S 0 6 := rW_0 (by omega) (by omega)
    have w5 : rW S a 8 0 5 = a + (8 : Nat) := rfl
    have w9 : rW S a 8 0 9 = (8 : Nat) := rfl
    have w2 : rW S a 8 2 = S 2 := rW_k (by omega) (by omega)
    rw [kX13_readsWord_30]
    by_cases g : 97 ≤ rHr (S 2) (S 0 4) (a + (8 : Nat)) ∧ rHr (S 2) (S 0 4) (a + (8 : Nat)) ≤ 122
    · have e1 : wCnt (rHr (S 2) (S 0 4)) (0 + 1) (a + (8 : Nat)) = 0 + 1 := by rw [wCnt, if_pos g]; rfl
      rw [if_pos e1]
      simp (disch := first | assumption | exact RK0 hK | exact RK1a hK | exact RK2a hK | exact RK3a hK | exact RK4a hK | exact RK5a hK | exact RK6a hK | exact RK7a hK | exact RGl hR | exact RGh hR | exact bI_lo | exact bI_hi | exact bI_01 | (show (List.map q_wd _).sum ≤ 8; with_unfolding_all exact Nat.le_of_ble_eq_true rfl) | (refine RK1c hK ?_; omega) | (refine RK2c hK ?_; omega) | (refine RK3c hK ?_; omega) | (refine RK4c hK ?_; omega) | (refine RK5c hK ?_; omega) | (refine RK6c hK ?_; omega) | (refine RK7c hK ?_; omega) | omega | (simp (disch := omega) only [up_s, up_k, up_j, up_up, w2, w4, w5, w6, w9]; first | done | omega)) only [kX13_readsWord_0, kX13_readsWord_1, kX13_readsWord_2, kX13_readsWord_5, kX13_readsWord_6, kX13_readsWord_9, kX13_readsWord_12, kX13_readsWord_13E, kX13_readsWord_16, kX13_readsWord_18, kX13_readsWord_20E, kX13_readsWord_23, kX13_readsWord_26, kX13_readsWord_27E, kX13_readsWord_31, kX13_readsWord_34, kX13_readsWord_37, kX13_readsWord_38E, kX13_readsWord_41, kX13_readsWord_43, kX13_readsWord_45E, kX13_readsWord_48, kX13_readsWord_51, kX13_readsWord_52, kX13_readsWord_55, kX13_readsWord_57, kX13_readsWord_60, kX13_readsWord_61E, kX13_readsWord_64, kX13_readsWord_65, kX13_readsWord_66, kX13_readsWord_69, kX13_readsWord_70, kX13_readsWord_73, kX13_readsWord_74E, kX13_readsWord_77, kX13_readsWord_78, kX13_readsWord_79i, kX13_readsWord_79r, kX13_readsWord_80, kX13_readsWord_83, kX13_readsWord_84, kX13_readsWord_85, kX13_readsWord_88, kX13_readsWord_89i, kX13_readsWord_89r, kX13_readsWord_90, kX13_readsWord_93, kX13_readsWord_94, kX13_readsWord_95, kX13_readsWord_98, kX13_readsWord_101, q_kd_ov, ov_f0, ov_f1, ov_f2, ov_f3, ov_f4, ov_f5, ov_f6, ov_f7, ov_f8, ov_f9, ov_f10, ov_f11, ov_f12, ov_f13, ov_f14, ov_f15, ov_f16, ov_r, ov_w, ov_w1, ov_w2, ov_w4, ov_w5, ov_w6, ov_w7, ov_w9, ov_w11, ov_w13, ov_w16, up_s, up_k, up_j, up_up, q_psh_n, q_psh_s, bI_eq0, ite_not, ↓if_pos, ↓if_neg, ↓ite_bI_t, ↓ite_bI_f, tX13_here hK hR', tX13_failsN hK hR', tX13_in, w2, w4, w5, w6, w9]
      rfl
    · have e1 : wCnt (rHr (S 2) (S 0 4)) (0 + 1) (a + (8 : Nat)) = 0 := by rw [wCnt, if_neg g]
      rw [if_neg (by omega), e1]
      simp (disch := first | assumption | exact RK0 hK | exact RK1a hK | exact RK2a hK | exact RK3a hK | exact RK4a hK | exact RK5a hK | exact RK6a hK | exact RK7a hK | exact RGl hR | exact RGh hR | exact bI_lo | exact bI_hi | exact bI_01 | (show (List.map q_wd _).sum ≤ 8; with_unfolding_all exact Nat.le_of_ble_eq_true rfl) | (refine RK1c hK ?_; omega) | (refine RK2c hK ?_; omega) | (refine RK3c hK ?_; omega) | (refine RK4c hK ?_; omega) | (refine RK5c hK ?_; omega) | (refine RK6c hK ?_; omega) | (refine RK7c hK ?_; omega) | omega | (simp (disch := omega) only [up_s, up_k, up_j, up_up, w2, w4, w5, w6, w9]; first | done | omega)) only [kX13_readsWord_0, kX13_readsWord_1, kX13_readsWord_2, kX13_readsWord_5, kX13_readsWord_6, kX13_readsWord_9, kX13_readsWord_12, kX13_readsWord_13E, kX13_readsWord_16, kX13_readsWord_18, kX13_readsWord_20E, kX13_readsWord_23, kX13_readsWord_26, kX13_readsWord_27E, kX13_readsWord_31, kX13_readsWord_34, kX13_readsWord_37, kX13_readsWord_38E, kX13_readsWord_41, kX13_readsWord_43, kX13_readsWord_45E, kX13_readsWord_48, kX13_readsWord_51, kX13_readsWord_52, kX13_readsWord_55, kX13_readsWord_57, kX13_readsWord_60, kX13_readsWord_61E, kX13_readsWord_64, kX13_readsWord_65, kX13_readsWord_66, kX13_readsWord_69, kX13_readsWord_70, kX13_readsWord_73, kX13_readsWord_74E, kX13_readsWord_77, kX13_readsWord_78, kX13_readsWord_79i, kX13_readsWord_79r, kX13_readsWord_80, kX13_readsWord_83, kX13_readsWord_84, kX13_readsWord_85, kX13_readsWord_88, kX13_readsWord_89i, kX13_readsWord_89r, kX13_readsWord_90, kX13_readsWord_93, kX13_readsWord_94, kX13_readsWord_95, kX13_readsWord_98, kX13_readsWord_101, q_kd_ov, ov_f0, ov_f1, ov_f2, ov_f3, ov_f4, ov_f5, ov_f6, ov_f7, ov_f8, ov_f9, ov_f10, ov_f11, ov_f12, ov_f13, ov_f14, ov_f15, ov_f16, ov_r, ov_w, ov_w1, ov_w2, ov_w4, ov_w5, ov_w6, ov_w7, ov_w9, ov_w11, ov_w13, ov_w16, up_s, up_k, up_j, up_up, q_psh_n, q_psh_s, bI_eq0, ite_not, ↓if_pos, ↓if_neg, ↓ite_bI_t, ↓ite_bI_f, tX13_here hK hR', tX13_failsN hK hR', tX13_in, w2, w4, w5, w6, w9]
  | succ n ih =>
    intro c hc
    have hR' : RG (rW S a c) := RG_rW hR (by omega) (by omega) (by omega)
    have hh := rHr_R hR (S 0 4) (a + c)
    have w4 : rW S a c 0 4 = S 0 4 := rW_0 (by omega) (by omega)
    have w6 : rW S a c 0 6 = S 0 6 := rW_0 (by omega) (by omega)
    have w5 : rW S a c 0 5 = a + c := rfl
    have w9 : rW S a c 0 9 = c := rfl
    have w2 : rW S a c 2 = S 2 := rW_k (by omega) (by omega)
    rw [kX13_readsWord_30]
    by_cases g : 97 ≤ rHr (S 2) (S 0 4) (a + c) ∧ rHr (S 2) (S 0 4) (a + c) ≤ 122
    · have hb : a + c < S 0 4 := by
        obtain ⟨g1, -⟩ := g
        unfold rHr at g1
        split at g1
        · assumption
        · omega
      have he : rHr (S 2) (S 0 4) (a + c) = S 2 (a + c) := if_pos hb
      have e1 : wCnt (rHr (S 2) (S 0 4)) (n + 1 + 1) (a + c) = wCnt (rHr (S 2) (S 0 4)) (n + 1) (a + (c + 1 : Nat)) + 1 := by rw [wCnt, if_pos g]; congr 2; omega
      have ih' := ih (c + 1) (by omega)
      rw [e1]
      have e2 : (wCnt (rHr (S 2) (S 0 4)) (n + 1) (a + (c + 1 : Nat)) + 1 = n + 1 + 1) = (wCnt (rHr (S 2) (S 0 4)) (n + 1) (a + (c + 1 : Nat)) = n + 1) := by
        apply propext; omega
      simp only [e2]
      rw [show c + (wCnt (rHr (S 2) (S 0 4)) (n + 1) (a + (c + 1 : Nat)) + 1) = c + 1 + wCnt (rHr (S 2) (S 0 4)) (n + 1) (a + (c + 1 : Nat)) by omega]
      rw [← ih', ← rW_s he]
      simp (disch := first | assumption | exact RK0 hK | exact RK1a hK | exact RK2a hK | exact RK3a hK | exact RK4a hK | exact RK5a hK | exact RK6a hK | exact RK7a hK | exact RGl hR | exact RGh hR | exact bI_lo | exact bI_hi | exact bI_01 | (show (List.map q_wd _).sum ≤ 8; with_unfolding_all exact Nat.le_of_ble_eq_true rfl) | (refine RK1c hK ?_; omega) | (refine RK2c hK ?_; omega) | (refine RK3c hK ?_; omega) | (refine RK4c hK ?_; omega) | (refine RK5c hK ?_; omega) | (refine RK6c hK ?_; omega) | (refine RK7c hK ?_; omega) | omega | (simp (disch := omega) only [up_s, up_k, up_j, up_up, w2, w4, w5, w6, w9]; first | done | omega)) only [kX13_readsWord_0, kX13_readsWord_1, kX13_readsWord_2, kX13_readsWord_5, kX13_readsWord_6, kX13_readsWord_9, kX13_readsWord_12, kX13_readsWord_13E, kX13_readsWord_16, kX13_readsWord_18, kX13_readsWord_20E, kX13_readsWord_23, kX13_readsWord_26, kX13_readsWord_27E, kX13_readsWord_31, kX13_readsWord_34, kX13_readsWord_37, kX13_readsWord_38E, kX13_readsWord_41, kX13_readsWord_43, kX13_readsWord_45E, kX13_readsWord_48, kX13_readsWord_51, kX13_readsWord_52, kX13_readsWord_55, kX13_readsWord_57, kX13_readsWord_60, kX13_readsWord_61E, kX13_readsWord_64, kX13_readsWord_65, kX13_readsWord_66, kX13_readsWord_69, kX13_readsWord_70, kX13_readsWord_73, kX13_readsWord_74E, kX13_readsWord_77, kX13_readsWord_78, kX13_readsWord_79i, kX13_readsWord_79r, kX13_readsWord_80, kX13_readsWord_83, kX13_readsWord_84, kX13_readsWord_85, kX13_readsWord_88, kX13_readsWord_89i, kX13_readsWord_89r, kX13_readsWord_90, kX13_readsWord_93, kX13_readsWord_94, kX13_readsWord_95, kX13_readsWord_98, kX13_readsWord_101, q_kd_ov, ov_f0, ov_f1, ov_f2, ov_f3, ov_f4, ov_f5, ov_f6, ov_f7, ov_f8, ov_f9, ov_f10, ov_f11, ov_f12, ov_f13, ov_f14, ov_f15, ov_f16, ov_r, ov_w, ov_w1, ov_w2, ov_w4, ov_w5, ov_w6, ov_w7, ov_w9, ov_w11, ov_w13, ov_w16, up_s, up_k, up_j, up_up, q_psh_n, q_psh_s, bI_eq0, ite_not, ↓if_pos, ↓if_neg, ↓ite_bI_t, ↓ite_bI_f, tX13_here hK hR', tX13_failsN hK hR', tX13_in, w2, w4, w5, w6, w9]
    · have e1 : wCnt (rHr (S 2) (S 0 4)) (n + 1 + 1) (a + c) = 0 := by rw [wCnt, if_neg g]
      rw [if_neg (by omega), e1]
      simp (disch := first | assumption | exact RK0 hK | exact RK1a hK | exact RK2a hK | exact RK3a hK | exact RK4a hK | exact RK5a hK | exact RK6a hK | exact RK7a hK | exact RGl hR | exact RGh hR | exact bI_lo | exact bI_hi | exact bI_01 | (show (List.map q_wd _).sum ≤ 8; with_unfolding_all exact Nat.le_of_ble_eq_true rfl) | (refine RK1c hK ?_; omega) | (refine RK2c hK ?_; omega) | (refine RK3c hK ?_; omega) | (refine RK4c hK ?_; omega) | (refine RK5c hK ?_; omega) | (refine RK6c hK ?_; omega) | (refine RK7c hK ?_; omega) | omega | (simp (disch := omega) only [up_s, up_k, up_j, up_up, w2, w4, w5, w6, w9]; first | done | omega)) only [kX13_readsWord_0, kX13_readsWord_1, kX13_readsWord_2, kX13_readsWord_5, kX13_readsWord_6, kX13_readsWord_9, kX13_readsWord_12, kX13_readsWord_13E, kX13_readsWord_16, kX13_readsWord_18, kX13_readsWord_20E, kX13_readsWord_23, kX13_readsWord_26, kX13_readsWord_27E, kX13_readsWord_31, kX13_readsWord_34, kX13_readsWord_37, kX13_readsWord_38E, kX13_readsWord_41, kX13_readsWord_43, kX13_readsWord_45E, kX13_readsWord_48, kX13_readsWord_51, kX13_readsWord_52, kX13_readsWord_55, kX13_readsWord_57, kX13_readsWord_60, kX13_readsWord_61E, kX13_readsWord_64, kX13_readsWord_65, kX13_readsWord_66, kX13_readsWord_69, kX13_readsWord_70, kX13_readsWord_73, kX13_readsWord_74E, kX13_readsWord_77, kX13_readsWord_78, kX13_readsWord_79i, kX13_readsWord_79r, kX13_readsWord_80, kX13_readsWord_83, kX13_readsWord_84, kX13_readsWord_85, kX13_readsWord_88, kX13_readsWord_89i, kX13_readsWord_89r, kX13_readsWord_90, kX13_readsWord_93, kX13_readsWord_94, kX13_readsWord_95, kX13_readsWord_98, kX13_readsWord_101, q_kd_ov, ov_f0, ov_f1, ov_f2, ov_f3, ov_f4, ov_f5, ov_f6, ov_f7, ov_f8, ov_f9, ov_f10, ov_f11, ov_f12, ov_f13, ov_f14, ov_f15, ov_f16, ov_r, ov_w, ov_w1, ov_w2, ov_w4, ov_w5, ov_w6, ov_w7, ov_w9, ov_w11, ov_w13, ov_w16, up_s, up_k, up_j, up_up, q_psh_n, q_psh_s, bI_eq0, ite_not, ↓if_pos, ↓if_neg, ↓ite_bI_t, ↓ite_bI_f, tX13_here hK hR', tX13_failsN hK hR', tX13_in, w2, w4, w5, w6, w9]
      rfl
/-- what reading a word leaves, where there is a letter -/
def rRw (S : RS) (a : Int) : RS := if wCnt (rHr (S 2) (S 0 4)) 9 a = 9 then up (rW S a 8) 0 6 (a + 8) else rW S a (wCnt (rHr (S 2) (S 0 4)) 9 a)
theorem tX13_readsWordY {d m : Nat} {S : RS} {M : QM} {x : QP} (hK : RK m M) (hR : RG S) (h : S 0 6 < 0) (h1 : 0 ≤ S 0 5) (h2 : S 0 4 ≤ 80) (h7 : 97 ≤ rHr (S 2) (S 0 4) (S 0 5)) (h8 : rHr (S 2) (S 0 4) (S 0 5) ≤ 122) : q_T (d + 3) iX13_readsWord [qr m] (ov m S M) x = x none (ov m (rRw S (S 0 5)) M) := by
  have hh := rHr_R hR (S 0 4) (S 0 5)
  have hR' : RG (up S 0 9 0) := RG_up hR (by omega) (by omega)
  have hb : S 0 5 < S 0 4 := by
    unfold rHr at h7
    split at h7
    · assumption
    · omega
  have hl := wLoop (d := d) (x := x) hK hR h h2 h1 (by omega) 8 0 rfl
  rw [rW_z] at hl
  have e0 : S 0 5 + ((0 : Nat) : Int) = S 0 5 := by omega
  have e1 : up (up S 0 9 0) 0 5 (S 0 5) = up S 0 9 0 := by
    have : up S 0 9 0 0 5 = S 0 5 := up_j (by omega)
    rw [← this, up_same]
  rw [e0, e1, Nat.zero_add] at hl
  rw [eX13_readsWord]
  simp (disch := first | assumption | exact RK0 hK | exact RK1a hK | exact RK2a hK | exact RK3a hK | exact RK4a hK | exact RK5a hK | exact RK6a hK | exact RK7a hK | exact RGl hR | exact RGh hR | exact bI_lo | exact bI_hi | exact bI_01 | (show (List.map q_wd _).sum ≤ 8; with_unfolding_all exact Nat.le_of_ble_eq_true rfl) | (refine RK1c hK ?_; omega) | (refine RK2c hK ?_; omega) | (refine RK3c hK ?_; omega) | (refine RK4c hK ?_; omega) | (refine RK5c hK ?_; omega) | (refine RK6c hK ?_; omega) | (refine RK7c hK ?_; omega) | omega | (simp (disch := omega) only [up_s, up_k, up_j, up_up]; first | done | omega)) only [kX13_readsWord_0, kX13_readsWord_1, kX13_readsWord_2, kX13_readsWord_5, kX13_readsWord_6, kX13_readsWord_9, kX13_readsWord_12, kX13_readsWord_13E, kX13_readsWord_16, kX13_readsWord_18, kX13_readsWord_20E, kX13_readsWord_23, kX13_readsWord_26, kX13_readsWord_27E, q_kd_ov, ov_f0, ov_f1, ov_f2, ov_f3, ov_f4, ov_f5, ov_f6, ov_f7, ov_f8, ov_f9, ov_f10, ov_f11, ov_f12, ov_f13, ov_f14, ov_f15, ov_f16, ov_r, ov_w, ov_w1, ov_w2, ov_w4, ov_w5, ov_w6, ov_w7, ov_w9, ov_w11, ov_w13, ov_w16, up_s, up_k, up_j, up_up, q_psh_n, q_psh_s, bI_eq0, ite_not, ↓if_pos, ↓if_neg, ↓ite_bI_t, ↓ite_bI_f, tX13_here hK hR', tX13_in]
  exact hl
theorem rRw_0 {S : RS} {a j : Int} (h : j ≠ 9) (h2 : j ≠ 5) (h3 : j ≠ 6) : rRw S a 0 j = S 0 j := by
  unfold rRw
  split
  · rw [up_j h3, rW_0 h h2]
  · rw [rW_0 h h2]
theorem rRw_k {S : RS} {a : Int} {k : Nat} (h : k ≠ 0) (h2 : k ≠ 3) : rRw S a k = S k := by
  unfold rRw
  split
  · rw [up_k h, rW_k h h2]
  · rw [rW_k h h2]
/-- the tape is one word of so many letters -/
def oneW (S : RS) : Bool := decide (1 ≤ wCnt (rHr (S 2) (S 0 4)) 9 0 ∧ wCnt (rHr (S 2) (S 0 4)) 9 0 ≤ 8 ∧ (wCnt (rHr (S 2) (S 0 4)) 9 0 : Int) = S 0 4)
/-- what isOneWord leaves -/
def rOw (S : RS) : RS := up (if wCnt (rHr (S 2) (S 0 4)) 9 0 = 0 then up (up (up (up S 0 5 0) 0 6 (-1)) 0 9 0) 0 6 0 else rRw (up (up S 0 5 0) 0 6 (-1)) 0) 0 4 0
theorem tX13_isOneWord {d m : Nat} {S : RS} {M : QM} {x : QP} (hK : RK m M) (hR : RG S) (h2 : S 0 4 ≤ 80) (h3 : 0 ≤ S 0 4) : q_T (d + 4) iX13_isOneWord [qr m] (ov m S M) x = x (some (qi (bI (oneW S = true)))) (ov m (rOw S) M) := by
  have hR' : RG (up (up S 0 5 0) 0 6 (-1)) := RG_up (RG_up hR (by omega) (by omega)) (by omega) (by omega)
  have hS4 : up (up S 0 5 0) 0 6 (-1) 0 4 = S 0 4 := by rw [up_j (by omega), up_j (by omega)]
  have hS2 : up (up S 0 5 0) 0 6 (-1) 2 = S 2 := by rw [up_k (by omega), up_k (by omega)]
  have hS5 : up (up S 0 5 0) 0 6 (-1) 0 5 = 0 := by rw [up_j (by omega), up_s]
  have hh := rHr_R hR (S 0 4) 0
  rw [eX13_isOneWord]
  simp (disch := first | assumption | exact RK0 hK | exact RK1a hK | exact RK2a hK | exact RK3a hK | exact RK4a hK | exact RK5a hK | exact RK6a hK | exact RK7a hK | exact RGl hR | exact RGh hR | exact bI_lo | exact bI_hi | exact bI_01 | (show (List.map q_wd _).sum ≤ 8; with_unfolding_all exact Nat.le_of_ble_eq_true rfl) | (refine RK1c hK ?_; omega) | (refine RK2c hK ?_; omega) | (refine RK3c hK ?_; omega) | (refine RK4c hK ?_; omega) | (refine RK5c hK ?_; omega) | (refine RK6c hK ?_; omega) | (refine RK7c hK ?_; omega) | omega | (simp (disch := omega) only [up_s, up_k, up_j, up_up]; first | done | omega)) only [kX13_isOneWord_0, kX13_isOneWord_1, kX13_isOneWord_2, kX13_isOneWord_5, kX13_isOneWord_6, kX13_isOneWord_7, q_kd_ov, ov_f0, ov_f1, ov_f2, ov_f3, ov_f4, ov_f5, ov_f6, ov_f7, ov_f8, ov_f9, ov_f10, ov_f11, ov_f12, ov_f13, ov_f14, ov_f15, ov_f16, ov_r, ov_w, ov_w1, ov_w2, ov_w4, ov_w5, ov_w6, ov_w7, ov_w9, ov_w11, ov_w13, ov_w16, up_s, up_k, up_j, up_up, q_psh_n, q_psh_s, bI_eq0, ite_not, ↓if_pos, ↓if_neg, ↓ite_bI_t, ↓ite_bI_f]
  have ew : wCnt (rHr (S 2) (S 0 4)) 9 0 = if 97 ≤ rHr (S 2) (S 0 4) 0 ∧ rHr (S 2) (S 0 4) 0 ≤ 122 then wCnt (rHr (S 2) (S 0 4)) 8 (0 + 1) + 1 else 0 := rfl
  by_cases g : 97 ≤ rHr (S 2) (S 0 4) 0 ∧ rHr (S 2) (S 0 4) 0 ≤ 122
  · rw [if_pos g] at ew
    have e2 : rOw S = up (rRw (up (up S 0 5 0) 0 6 (-1)) 0) 0 4 0 := by unfold rOw; rw [if_neg (by omega)]
    rw [e2]
    have hw := wCnt_le (rHr (S 2) (S 0 4)) 9 0
    have r4 : rRw (up (up S 0 5 0) 0 6 (-1)) 0 0 4 = S 0 4 := by rw [rRw_0 (by omega) (by omega) (by omega), hS4]
    by_cases g9 : wCnt (rHr (S 2) (S 0 4)) 9 0 = 9
    · have r6 : rRw (up (up S 0 5 0) 0 6 (-1)) 0 0 6 = 8 := by
        unfold rRw
        rw [hS4, hS2, if_pos g9, up_s]; rfl
      rw [bI_neg (by unfold oneW; simp; omega)]
      simp (disch := first | (simp only [hS2, hS4, hS5]; first | exact g.1 | exact g.2 | omega) | assumption | exact RK0 hK | exact RGl hR | exact RGh hR | (show (List.map q_wd _).sum ≤ 8; with_unfolding_all exact Nat.le_of_ble_eq_true rfl) | (simp (disch := omega) only [up_s, up_k, up_j, up_up, r4, r6]; first | done | omega) | omega) only [kX13_isOneWord_10, kX13_isOneWord_11E, kX13_isOneWord_14, kX13_isOneWord_15, kX13_isOneWord_18, kX13_isOneWord_21, kX13_isOneWord_22, kX13_isOneWord_25, kX13_isOneWord_26, kX13_isOneWord_29, kX13_isOneWord_32, kX13_isOneWord_33, kX13_isOneWord_36, kX13_isOneWord_37, kX13_isOneWord_38, kX13_isOneWord_39, kX13_isOneWord_40, kX13_isOneWord_43, kX13_isOneWord_44, q_cut_i, q_cut_r, q_cut_l, q_cut_n, q_kd_ov, ov_f0, ov_f1, ov_f2, ov_f3, ov_f4, ov_f5, ov_f6, ov_f7, ov_f8, ov_f9, ov_f10, ov_f11, ov_f12, ov_f13, ov_f14, ov_f15, ov_f16, ov_r, ov_w, ov_w1, ov_w2, ov_w4, ov_w5, ov_w6, ov_w7, ov_w9, ov_w11, ov_w13, ov_w16, up_s, up_k, up_j, up_up, q_psh_n, q_psh_s, bI_eq0, ite_not, ↓if_pos, ↓if_neg, ↓ite_bI_t, ↓ite_bI_f, tX13_readsWordY hK hR', hS5, r6, r4]
    · have r6 : rRw (up (up S 0 5 0) 0 6 (-1)) 0 0 6 = -1 := by
        unfold rRw
        rw [hS4, hS2, if_neg g9, rW_0 (by omega) (by omega), up_s]
      have r5 : rRw (up (up S 0 5 0) 0 6 (-1)) 0 0 5 = wCnt (rHr (S 2) (S 0 4)) 9 0 := by
        unfold rRw
        rw [hS4, hS2, if_neg g9, rW_05]; omega
      by_cases g5 : (wCnt (rHr (S 2) (S 0 4)) 9 0 : Int) = S 0 4
      · rw [bI_pos (by unfold oneW; simp; omega)]
        simp (disch := first | (simp only [hS2, hS4, hS5]; first | exact g.1 | exact g.2 | omega) | assumption | exact RK0 hK | exact RGl hR | exact RGh hR | (show (List.map q_wd _).sum ≤ 8; with_unfolding_all exact Nat.le_of_ble_eq_true rfl) | (simp (disch := omega) only [up_s, up_k, up_j, up_up, r4, r5, r6]; first | done | omega) | omega) only [kX13_isOneWord_10, kX13_isOneWord_11E, kX13_isOneWord_14, kX13_isOneWord_15, kX13_isOneWord_18, kX13_isOneWord_21, kX13_isOneWord_22, kX13_isOneWord_25, kX13_isOneWord_26, kX13_isOneWord_29, kX13_isOneWord_32, kX13_isOneWord_33, kX13_isOneWord_36, kX13_isOneWord_37, kX13_isOneWord_38, kX13_isOneWord_39, kX13_isOneWord_40, kX13_isOneWord_43, kX13_isOneWord_44, q_cut_i, q_cut_r, q_cut_l, q_cut_n, q_kd_ov, ov_f0, ov_f1, ov_f2, ov_f3, ov_f4, ov_f5, ov_f6, ov_f7, ov_f8, ov_f9, ov_f10, ov_f11, ov_f12, ov_f13, ov_f14, ov_f15, ov_f16, ov_r, ov_w, ov_w1, ov_w2, ov_w4, ov_w5, ov_w6, ov_w7, ov_w9, ov_w11, ov_w13, ov_w16, up_s, up_k, up_j, up_up, q_psh_n, q_psh_s, bI_eq0, ite_not, ↓if_pos, ↓if_neg, ↓ite_bI_t, ↓ite_bI_f, tX13_readsWordY hK hR', hS5, r6, r4, r5]
      · rw [bI_neg (by unfold oneW; simp; omega)]
        simp (disch := first | (simp only [hS2, hS4, hS5]; first | exact g.1 | exact g.2 | omega) | assumption | exact RK0 hK | exact RGl hR | exact RGh hR | (show (List.map q_wd _).sum ≤ 8; with_unfolding_all exact Nat.le_of_ble_eq_true rfl) | (simp (disch := omega) only [up_s, up_k, up_j, up_up, r4, r5, r6]; first | done | omega) | omega) only [kX13_isOneWord_10, kX13_isOneWord_11E, kX13_isOneWord_14, kX13_isOneWord_15, kX13_isOneWord_18, kX13_isOneWord_21, kX13_isOneWord_22, kX13_isOneWord_25, kX13_isOneWord_26, kX13_isOneWord_29, kX13_isOneWord_32, kX13_isOneWord_33, kX13_isOneWord_36, kX13_isOneWord_37, kX13_isOneWord_38, kX13_isOneWord_39, kX13_isOneWord_40, kX13_isOneWord_43, kX13_isOneWord_44, q_cut_i, q_cut_r, q_cut_l, q_cut_n, q_kd_ov, ov_f0, ov_f1, ov_f2, ov_f3, ov_f4, ov_f5, ov_f6, ov_f7, ov_f8, ov_f9, ov_f10, ov_f11, ov_f12, ov_f13, ov_f14, ov_f15, ov_f16, ov_r, ov_w, ov_w1, ov_w2, ov_w4, ov_w5, ov_w6, ov_w7, ov_w9, ov_w11, ov_w13, ov_w16, up_s, up_k, up_j, up_up, q_psh_n, q_psh_s, bI_eq0, ite_not, ↓if_pos, ↓if_neg, ↓ite_bI_t, ↓ite_bI_f, tX13_readsWordY hK hR', hS5, r6, r4, r5]
  · rw [if_neg g] at ew
    have e2 : rOw S = up (up (up (up (up S 0 5 0) 0 6 (-1)) 0 9 0) 0 6 0) 0 4 0 := by unfold rOw; rw [if_pos ew]
    rw [e2, bI_neg (by unfold oneW; simp; omega)]
    simp (disch := first | (simp only [hS2, hS4, hS5]; first | exact g | omega) | assumption | exact RK0 hK | exact RGl hR | exact RGh hR | (show (List.map q_wd _).sum ≤ 8; with_unfolding_all exact Nat.le_of_ble_eq_true rfl) | (simp (disch := omega) only [up_s, up_k, up_j, up_up]; first | done | omega) | omega) only [kX13_isOneWord_10, kX13_isOneWord_11E, kX13_isOneWord_14, kX13_isOneWord_15, kX13_isOneWord_18, kX13_isOneWord_21, kX13_isOneWord_22, kX13_isOneWord_25, kX13_isOneWord_26, kX13_isOneWord_29, kX13_isOneWord_32, kX13_isOneWord_33, kX13_isOneWord_36, kX13_isOneWord_37, kX13_isOneWord_38, kX13_isOneWord_39, kX13_isOneWord_40, kX13_isOneWord_43, kX13_isOneWord_44, q_cut_i, q_cut_r, q_cut_l, q_cut_n, q_kd_ov, ov_f0, ov_f1, ov_f2, ov_f3, ov_f4, ov_f5, ov_f6, ov_f7, ov_f8, ov_f9, ov_f10, ov_f11, ov_f12, ov_f13, ov_f14, ov_f15, ov_f16, ov_r, ov_w, ov_w1, ov_w2, ov_w4, ov_w5, ov_w6, ov_w7, ov_w9, ov_w11, ov_w13, ov_w16, up_s, up_k, up_j, up_up, q_psh_n, q_psh_s, bI_eq0, ite_not, ↓if_pos, ↓if_neg, ↓ite_bI_t, ↓ite_bI_f, tX13_readsWordN hK hR', hS5]
