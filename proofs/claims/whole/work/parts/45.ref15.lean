/-! the reference's methods: a command read -/
theorem dRun_a (h : Int → Int) : ∀ (k : Nat) (a v : Int), a ≤ (dRun h k a v).1 ∧ (dRun h k a v).1 ≤ a + k
  | 0, a, v => by simp [dRun]
  | k + 1, a, v => by
    have := dRun_a h k (a + 1) (10 * v + h a - 48)
    rw [dRun]
    split <;> omega
theorem dRun_n {l : Int → Int} {n : Int} : ∀ (k : Nat) (a v : Int), a ≤ n → (dRun (rHr l n) k a v).1 ≤ n
  | 0, a, v, h => h
  | k + 1, a, v, h => by
    rw [dRun]
    split
    · rename_i g
      have : a < n := by
        have := g.1
        unfold rHr at this
        split at this
        · assumption
        · omega
      exact dRun_n k (a + 1) _ (by omega)
    · exact h
theorem dRun_v (h : Int → Int) : ∀ (k : Nat) (a v : Int), 0 ≤ v → 0 ≤ (dRun h k a v).2 ∧ (dRun h k a v).2 < (v + 1) * 10 ^ k
  | 0, a, v, h0 => by simp [dRun]; omega
  | k + 1, a, v, h0 => by
    have hp : (0 : Int) < 10 ^ k := Int.pow_pos (by omega)
    have hp2 : (v + 1) * 10 ^ (k + 1) = (10 * (v + 1)) * 10 ^ k := by rw [Int.pow_succ, ← Int.mul_assoc, Int.mul_right_comm, Int.mul_comm (v + 1) 10]
    rw [dRun]
    split
    · rename_i g
      have i := dRun_v h k (a + 1) (10 * v + h a - 48) (by omega)
      refine ⟨i.1, Int.lt_of_lt_of_le i.2 ?_⟩
      rw [hp2]
      exact Int.mul_le_mul_of_nonneg_right (by omega) (by omega)
    · refine ⟨h0, ?_⟩
      rw [hp2]
      have : (10 * (v + 1)) * 1 ≤ (10 * (v + 1)) * 10 ^ k := Int.mul_le_mul_of_nonneg_left (by omega) (by omega)
      show v < _
      omega
theorem dRun_4 (h : Int → Int) (a : Int) : 0 ≤ (dRun h 4 a 0).2 ∧ (dRun h 4 a 0).2 ≤ 9999 := by
  have := dRun_v h 4 a 0 (by omega)
  have e : ((0 : Int) + 1) * 10 ^ 4 = 10000 := by decide
  omega
abbrev pR : Type := Int × Option (Int × Int × Int × Int × Int × Nat)
def pW (h : Int → Int) (c f s dd a : Int) : pR := if c = 102 ∨ c = 114 ∨ c = 115 then (if h a ≠ 58 then (a, none) else if ¬ (97 ≤ h (a + 1) ∧ h (a + 1) ≤ 122) then (a + 1, none) else if wCnt h 9 (a + 1) = 9 then (a + 1 + 8, none) else (a + 1 + wCnt h 9 (a + 1), some (c, f, s, dd, a + 1, wCnt h 9 (a + 1)))) else (a, some (c, f, s, dd, a, 0))
def pD (h : Int → Int) (c f s a : Int) : pR := if h a ≠ 64 then (a, none) else if ¬ (48 ≤ h (a + 1) ∧ h (a + 1) ≤ 57) then (a + 1, none) else pW h c f s (dRun h 4 (a + 1) 0).2 (dRun h 4 (a + 1) 0).1
def pS (h : Int → Int) (c f a : Int) : pR := if c = 102 ∨ c = 109 ∨ c = 103 then (if h a ≠ 62 then (a, none) else if ¬ (48 ≤ h (a + 1) ∧ h (a + 1) ≤ 57) then (a + 1, none) else pD h c f (dRun h 4 (a + 1) 0).2 (dRun h 4 (a + 1) 0).1) else pD h c f 0 a
def pCmd (h : Int → Int) (a : Int) : pR := if ¬ (h a = 102 ∨ h a = 114 ∨ h a = 109 ∨ h a = 115 ∨ h a = 103 ∨ h a = 99) then (a, none) else if h a = 102 then (if ¬ (48 ≤ h (a + 1) ∧ h (a + 1) ≤ 51) then (a + 1, none) else pS h (h a) (h (a + 1) - 48) (a + 2)) else if ¬ (48 ≤ h (a + 1) ∧ h (a + 1) ≤ 57) then (a + 1, none) else pS h (h a) (dRun h 4 (a + 1) 0).2 (dRun h 4 (a + 1) 0).1
/-- but for what reading leaves behind -/
def rSc (B : Int) (S T : RS) : Prop := T 1 = S 1 ∧ T 2 = S 2 ∧ T 5 = S 5 ∧ T 7 = S 7 ∧ (∀ j, j ≠ 5 → j ≠ 6 → j ≠ 9 → j ≠ 11 → T 0 j = S 0 j) ∧ (∀ j, j < B → T 4 j = S 4 j) ∧ RG T
theorem rSc.rf {B : Int} {S : RS} (h : RG S) : rSc B S S := ⟨rfl, rfl, rfl, rfl, fun _ _ _ _ _ => rfl, fun _ _ => rfl, h⟩
theorem rSc_0 {B : Int} {S T : RS} (h : rSc B S T) {j v : Int} (hj : j = 5 ∨ j = 6 ∨ j = 9 ∨ j = 11) (h1 : -2147483648 ≤ v) (h2 : v < 2147483648) : rSc B S (up T 0 j v) := by
  obtain ⟨a1, a2, a3, a4, a5, a6, a7⟩ := h
  exact ⟨by rw [up_k (by omega), a1], by rw [up_k (by omega), a2], by rw [up_k (by omega), a3], by rw [up_k (by omega), a4], fun i i1 i2 i3 i4 => by rw [up_j (by omega), a5 i i1 i2 i3 i4], fun i hi => by rw [up_k (by omega), a6 i hi], RG_up a7 h1 h2⟩
theorem rSc_4 {B : Int} {S T : RS} (h : rSc B S T) {j v : Int} (hj : B ≤ j) (h1 : -2147483648 ≤ v) (h2 : v < 2147483648) : rSc B S (up T 4 j v) := by
  obtain ⟨a1, a2, a3, a4, a5, a6, a7⟩ := h
  exact ⟨by rw [up_k (by omega), a1], by rw [up_k (by omega), a2], by rw [up_k (by omega), a3], by rw [up_k (by omega), a4], fun i i1 i2 i3 i4 => by rw [up_k (by omega), a5 i i1 i2 i3 i4], fun i hi => by rw [up_j (by omega), a6 i hi], RG_up a7 h1 h2⟩
theorem rSc_W {B : Int} {S T : RS} (h : rSc B S T) {a : Int} {c : Nat} (h1 : -1000 ≤ a) (h2 : a < 1000) (h3 : c < 1000) : rSc B S (rW T a c) := by
  obtain ⟨a1, a2, a3, a4, a5, a6, a7⟩ := h
  exact ⟨by rw [rW_k (by omega) (by omega), a1], by rw [rW_k (by omega) (by omega), a2], by rw [rW_k (by omega) (by omega), a3], by rw [rW_k (by omega) (by omega), a4], fun i i1 i2 i3 i4 => by rw [rW_0 (by omega) (by omega), a5 i i1 i2 i3 i4], fun i hi => by rw [rW_k (by omega) (by omega), a6 i hi], RG_rW a7 h1 h2 h3⟩
/-- the letters of a command put down -/
def rKc (S : RS) (B : Int) : Nat → RS
  | 0 => S
  | i + 1 => up (rKc S B i) 4 (B + 5 + i) (S 3 i)
theorem rKc_k {S : RS} {B : Int} {k : Nat} (h : k ≠ 4) : ∀ i : Nat, rKc S B i k = S k
  | 0 => rfl
  | i + 1 => by rw [rKc, up_k h, rKc_k h i]
theorem rKc_o {S : RS} {B j : Int} : ∀ i : Nat, (j < B + 5 ∨ B + 5 + i ≤ j) → rKc S B i 4 j = S 4 j
  | 0, _ => rfl
  | i + 1, h => by rw [rKc, up_j (by omega), rKc_o i (by omega)]
theorem rKc_i {S : RS} {B : Int} {t : Nat} : ∀ i : Nat, t < i → rKc S B i 4 (B + 5 + t) = S 3 t
  | 0, h => by omega
  | i + 1, h => by
    rw [rKc]
    by_cases e : t = i
    · rw [e, up_s]
    · rw [up_j (by omega), rKc_i i (by omega)]
theorem rSc_K {B : Int} {S T : RS} (h : rSc B S T) (hR : RG T) : ∀ i : Nat, rSc B S (rKc T B i)
  | 0 => h
  | i + 1 => rSc_4 (rSc_K h hR i) (by omega) (hR 3 i).1 (hR 3 i).2
def rKe (T : RS) (B : Int) : RS := up (rKc (up T 4 (B + 4) (T 0 9)) B (T 0 9).toNat) 0 11 (T 0 11 + 1)
theorem rSc_e {B : Int} {S T : RS} (h : rSc B S T) (h11 : T 0 11 ≤ 1000) : rSc B S (rKe T B) := by
  have hR := h.2.2.2.2.2.2
  have h0 := hR 0 11
  have h1 := rSc_4 h (j := B + 4) (v := T 0 9) (by omega) (hR 0 9).1 (hR 0 9).2
  exact rSc_0 (rSc_K h1 h1.2.2.2.2.2.2 _) (by omega) (by omega) (by omega)
theorem rKe_0 {T : RS} {B j : Int} (h : j ≠ 11) : rKe T B 0 j = T 0 j := by
  unfold rKe
  rw [up_j h, rKc_k (by omega), up_k (by omega)]
theorem rKe_4 {T : RS} {B j : Int} (h : B ≤ j) (h2 : j < B + 4) : rKe T B 4 j = T 4 j := by
  unfold rKe
  rw [up_k (by omega), rKc_o _ (by omega), up_j (by omega)]
theorem cmdA {d m : Nat} {S : RS} {M : QM} {x : QP} (hK : RK m M) (hR : RG S) {B c : Int} {w : Nat} (hB : 0 ≤ B ∧ B < 1027) (h9 : S 0 9 = w) (hw : w ≤ 8) (l3 : Option CV) : Rr (q_C (d + 3)) mX13_command (228, [some (qr m), some (qi B), some (qi c), l3], [], ov m S M) x = x none (ov m (rKe S B) M) := by
  unfold rKe
  rw [h9, Int.toNat_natCast]
  obtain ⟨T, hT⟩ : ∃ T, T = up S 4 (B + 4) w := ⟨_, rfl⟩
  have RT : RG T := by rw [hT]; exact RG_up hR (by omega) (by omega)
  have t9 : T 0 9 = w := by rw [hT, up_k (by omega), h9]
  have t11 : T 0 11 = S 0 11 := by rw [hT, up_k (by omega)]
  have loop : ∀ n1 k : Nat, k + n1 = w → Rr (q_C (d + 3)) mX13_command (242, [some (qr m), some (qi B), some (qi c), some (qi k)], [], ov m (rKc T B k) M) x = x none (ov m (up (rKc T B w) 0 11 (S 0 11 + 1)) M) := by
    intro n1
    induction n1 with
    | zero =>
      intro k hk
      have e : k = w := by omega
      subst e
      have k0 : rKc T B k 0 = T 0 := rKc_k (by omega) k
      rw [kX13_command_242]
      simp (disch := first | assumption | exact RK0 hK | exact RK1a hK | exact RK2a hK | exact RK3a hK | exact RK4a hK | exact RK5a hK | exact RK6a hK | exact RK7a hK | exact RGl hR | exact RGh hR | exact bI_lo | exact bI_hi | exact bI_01 | (show (List.map q_wd _).sum ≤ 8; with_unfolding_all exact Nat.le_of_ble_eq_true rfl) | (refine RK1c hK ?_; omega) | (refine RK2c hK ?_; omega) | (refine RK3c hK ?_; omega) | (refine RK4c hK ?_; omega) | (refine RK5c hK ?_; omega) | (refine RK6c hK ?_; omega) | (refine RK7c hK ?_; omega) | omega) only [kX13_command_243, kX13_command_244, kX13_command_247, kX13_command_250, kX13_command_251, kX13_command_254, kX13_command_255, kX13_command_256, kX13_command_257, kX13_command_258, kX13_command_259, kX13_command_260, kX13_command_263, kX13_command_264, kX13_command_265, kX13_command_266, kX13_command_269, kX13_command_272, kX13_command_273i, kX13_command_273r, kX13_command_274, kX13_command_277, kX13_command_278, kX13_command_279, kX13_command_282, q_cut_i, q_cut_r, q_cut_l, q_cut_n, q_kd_ov, ov_f0, ov_f1, ov_f2, ov_f3, ov_f4, ov_f5, ov_f6, ov_f7, ov_f8, ov_f9, ov_f10, ov_f11, ov_f12, ov_f13, ov_f14, ov_f15, ov_f16, ov_r, ov_w, ov_w1, ov_w2, ov_w4, ov_w5, ov_w6, ov_w7, ov_w9, ov_w11, ov_w13, ov_w16, up_s, up_k, up_j, up_up, q_psh_n, q_psh_s, bI_eq0, ite_not, ↓if_pos, ↓if_neg, ↓ite_bI_t, ↓ite_bI_f, k0, t9, t11]
    | succ n1 ih =>
      intro k hk
      have ih' := ih (k + 1) (by omega)
      rw [rKc] at ih'
      have k0 : rKc T B k 0 = T 0 := rKc_k (by omega) k
      have k3 : rKc T B k 3 = T 3 := rKc_k (by omega) k
      rw [kX13_command_242]
      simp (disch := first | assumption | exact RK0 hK | exact RK1a hK | exact RK2a hK | exact RK3a hK | exact RK4a hK | exact RK5a hK | exact RK6a hK | exact RK7a hK | exact RGl hR | exact RGh hR | exact bI_lo | exact bI_hi | exact bI_01 | (show (List.map q_wd _).sum ≤ 8; with_unfolding_all exact Nat.le_of_ble_eq_true rfl) | (refine RK1c hK ?_; omega) | (refine RK2c hK ?_; omega) | (refine RK3c hK ?_; omega) | (refine RK4c hK ?_; omega) | (refine RK5c hK ?_; omega) | (refine RK6c hK ?_; omega) | (refine RK7c hK ?_; omega) | omega) only [kX13_command_243, kX13_command_244, kX13_command_247, kX13_command_250, kX13_command_251, kX13_command_254, kX13_command_255, kX13_command_256, kX13_command_257, kX13_command_258, kX13_command_259, kX13_command_260, kX13_command_263, kX13_command_264, kX13_command_265, kX13_command_266, kX13_command_269, kX13_command_272, kX13_command_273i, kX13_command_273r, kX13_command_274, kX13_command_277, kX13_command_278, kX13_command_279, kX13_command_282, q_cut_i, q_cut_r, q_cut_l, q_cut_n, q_kd_ov, ov_f0, ov_f1, ov_f2, ov_f3, ov_f4, ov_f5, ov_f6, ov_f7, ov_f8, ov_f9, ov_f10, ov_f11, ov_f12, ov_f13, ov_f14, ov_f15, ov_f16, ov_r, ov_w, ov_w1, ov_w2, ov_w4, ov_w5, ov_w6, ov_w7, ov_w9, ov_w11, ov_w13, ov_w16, up_s, up_k, up_j, up_up, q_psh_n, q_psh_s, bI_eq0, ite_not, ↓if_pos, ↓if_neg, ↓ite_bI_t, ↓ite_bI_f, k0, t9, k3]
      exact ih'
  simp (disch := first | assumption | exact RK0 hK | exact RK1a hK | exact RK2a hK | exact RK3a hK | exact RK4a hK | exact RK5a hK | exact RK6a hK | exact RK7a hK | exact RGl hR | exact RGh hR | exact bI_lo | exact bI_hi | exact bI_01 | (show (List.map q_wd _).sum ≤ 8; with_unfolding_all exact Nat.le_of_ble_eq_true rfl) | (refine RK1c hK ?_; omega) | (refine RK2c hK ?_; omega) | (refine RK3c hK ?_; omega) | (refine RK4c hK ?_; omega) | (refine RK5c hK ?_; omega) | (refine RK6c hK ?_; omega) | (refine RK7c hK ?_; omega) | omega) only [kX13_command_228, kX13_command_229, kX13_command_232, kX13_command_233, kX13_command_234, kX13_command_235, kX13_command_236, kX13_command_239, kX13_command_240, kX13_command_241, q_cut_i, q_cut_r, q_cut_l, q_cut_n, q_kd_ov, ov_f0, ov_f1, ov_f2, ov_f3, ov_f4, ov_f5, ov_f6, ov_f7, ov_f8, ov_f9, ov_f10, ov_f11, ov_f12, ov_f13, ov_f14, ov_f15, ov_f16, ov_r, ov_w, ov_w1, ov_w2, ov_w4, ov_w5, ov_w6, ov_w7, ov_w9, ov_w11, ov_w13, ov_w16, up_s, up_k, up_j, up_up, q_psh_n, q_psh_s, bI_eq0, ite_not, ↓if_pos, ↓if_neg, ↓ite_bI_t, ↓ite_bI_f, h9]
  rw [← hT]
  exact loop w 0 (by omega)
