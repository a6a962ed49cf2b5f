/-! the reference's methods: a command read, from its end on -/
def cPost (m : Nat) (M : QM) (B cm : Int) (S : RS) (x : QP) (r : pR) : Prop := match r.2 with
  | none => ∀ T, rSc B S T → T 0 6 = r.1 → x none (ov m T M)
  | some q => ∀ T, rSc B S T → T 0 6 = S 0 6 → T 0 5 = r.1 → T 0 11 = cm + 1 → T 4 B = q.1 → T 4 (B + 1) = q.2.1 → T 4 (B + 2) = q.2.2.1 → T 4 (B + 3) = q.2.2.2.1 → T 4 (B + 4) = q.2.2.2.2.2 → (∀ i : Nat, i < q.2.2.2.2.2 → T 4 (B + 5 + i) = S 2 (q.2.2.2.2.1 + i)) → x none (ov m T M)
abbrev PT (S T : RS) (a : Int) : Prop := RG T ∧ T 2 = S 2 ∧ T 0 4 = S 0 4 ∧ T 0 5 = a ∧ T 0 6 < 0 ∧ S 0 4 ≤ 80 ∧ 0 ≤ a
section PTS
variable {d m : Nat} {S T : RS} {M : QM} {x : QP} {a c : Int}
theorem uMustY (hK : RK m M) (hp : PT S T a) (h3 : 0 ≤ c) (h4 : c < 200) (h : rHr (S 2) (S 0 4) a = c) : q_T (d + 3) iX13_must [qr m, qi c] (ov m T M) x = x none (ov m (up T 0 5 (a + 1)) M) := by
  obtain ⟨hR, e2, e4, e5, e6, e8, e9⟩ := hp
  rw [tX13_mustY hK hR e6 (by omega) (by omega) h3 h4 (by rw [e2, e4, e5]; exact h), e5]
theorem uMustN (hK : RK m M) (hp : PT S T a) (h3 : 0 ≤ c) (h4 : c < 200) (h : rHr (S 2) (S 0 4) a ≠ c) : q_T (d + 3) iX13_must [qr m, qi c] (ov m T M) x = x none (ov m (up T 0 6 a) M) := by
  obtain ⟨hR, e2, e4, e5, e6, e8, e9⟩ := hp
  rw [tX13_mustN hK hR e6 (by omega) (by omega) h3 h4 (by rw [e2, e4, e5]; exact h), e5]
theorem uNumY (hK : RK m M) (hp : PT S T a) (h : 48 ≤ rHr (S 2) (S 0 4) a ∧ rHr (S 2) (S 0 4) a ≤ 57) : q_T (d + 3) iX13_number [qr m] (ov m T M) x = x (some (qi (dRun (rHr (S 2) (S 0 4)) 4 a 0).2)) (ov m (up T 0 5 (dRun (rHr (S 2) (S 0 4)) 4 a 0).1) M) := by
  obtain ⟨hR, e2, e4, e5, e6, e8, e9⟩ := hp
  rw [tX13_numberY hK hR e6 (by omega) (by omega) (by rw [e2, e4, e5]; exact h.1) (by rw [e2, e4, e5]; exact h.2), e2, e4, e5]
theorem uNumN (hK : RK m M) (hp : PT S T a) (h : ¬ (48 ≤ rHr (S 2) (S 0 4) a ∧ rHr (S 2) (S 0 4) a ≤ 57)) : q_T (d + 3) iX13_number [qr m] (ov m T M) x = x (some (qi (-48))) (ov m (up T 0 6 a) M) := by
  obtain ⟨hR, e2, e4, e5, e6, e8, e9⟩ := hp
  rw [tX13_numberN hK hR e6 (by omega) (by omega) (by rw [e2, e4, e5]; exact h), e5]
theorem uWordN (hK : RK m M) (hp : PT S T a) (h : ¬ (97 ≤ rHr (S 2) (S 0 4) a ∧ rHr (S 2) (S 0 4) a ≤ 122)) : q_T (d + 3) iX13_readsWord [qr m] (ov m T M) x = x none (ov m (up (up T 0 9 0) 0 6 a) M) := by
  obtain ⟨hR, e2, e4, e5, e6, e8, e9⟩ := hp
  rw [tX13_readsWordN hK hR e6 (by omega) (by omega) (by rw [e2, e4, e5]; exact h), e5]
theorem uWordY (hK : RK m M) (hp : PT S T a) (h : 97 ≤ rHr (S 2) (S 0 4) a ∧ rHr (S 2) (S 0 4) a ≤ 122) : q_T (d + 3) iX13_readsWord [qr m] (ov m T M) x = x none (ov m (if wCnt (rHr (S 2) (S 0 4)) 9 a = 9 then up (rW T a 8) 0 6 (a + 8) else rW T a (wCnt (rHr (S 2) (S 0 4)) 9 a)) M) := by
  obtain ⟨hR, e2, e4, e5, e6, e8, e9⟩ := hp
  rw [tX13_readsWordY hK hR e6 (by omega) (by omega) (by rw [e2, e4, e5]; exact h.1) (by rw [e2, e4, e5]; exact h.2)]
  unfold rRw
  rw [e2, e4, e5]
end PTS
/-- where a command is being read -/
def cAt (B cm : Int) (S T : RS) (a : Int) : Prop := rSc B S T ∧ T 0 6 = S 0 6 ∧ S 0 6 < 0 ∧ T 0 5 = a ∧ 0 ≤ a ∧ a ≤ S 0 4 ∧ S 0 4 ≤ 80 ∧ T 0 9 = 0 ∧ T 0 11 = cm ∧ 0 ≤ cm ∧ cm < 79 ∧ B = 13 * cm
theorem cAt.pt {B cm : Int} {S T : RS} {a : Int} (h : cAt B cm S T a) : PT S T a := by
  obtain ⟨⟨a1, a2, a3, a4, a5, a6, a7⟩, b6, c6, b5, h0, h1, h2, h9, h11, hc0, hc1, hB⟩ := h
  exact ⟨a7, a2, a5 4 (by omega) (by omega) (by omega) (by omega), b5, by omega, h2, h0⟩
theorem cAt.up4 {B cm : Int} {S T : RS} {a j v : Int} (h : cAt B cm S T a) (hj : B ≤ j) (h1 : -2147483648 ≤ v) (h2 : v < 2147483648) : cAt B cm S (up T 4 j v) a := by
  obtain ⟨hs, b6, c6, b5, h0, h1', h2', h9, h11, hc0, hc1, hB⟩ := h
  exact ⟨rSc_4 hs hj h1 h2, by rw [up_k (by omega), b6], c6, by rw [up_k (by omega), b5], h0, h1', h2', by rw [up_k (by omega), h9], by rw [up_k (by omega), h11], hc0, hc1, hB⟩
theorem cAt.mv {B cm : Int} {S T : RS} {a a' : Int} (h : cAt B cm S T a) (h0' : 0 ≤ a') (h1 : a' ≤ S 0 4) : cAt B cm S (up T 0 5 a') a' := by
  obtain ⟨hs, b6, c6, b5, h0, h1', h2', h9, h11, hc0, hc1, hB⟩ := h
  exact ⟨rSc_0 hs (by omega) (by omega) (by omega), by rw [up_j (by omega), b6], c6, up_s, h0', h1, h2', by rw [up_j (by omega), h9], by rw [up_j (by omega), h11], hc0, hc1, hB⟩
theorem rHr_lt {l : Int → Int} {n a : Int} (h : 0 ≤ rHr l n a) : a < n := by
  unfold rHr at h
  split at h
  · assumption
  · omega
/-- a failing command's end -/
theorem cErr {d m : Nat} {S T : RS} {M : QM} {x : QP} {B cm c e : Int} (hK : RK m M) (hs : rSc B S T) (h6 : T 0 6 = e) (h9 : 0 ≤ T 0 9 ∧ T 0 9 ≤ 8) (h11 : T 0 11 = cm) (hc : 0 ≤ cm ∧ cm < 79 ∧ B = 13 * cm) (l3 : Option CV) (hx : ∀ T, rSc B S T → T 0 6 = e → x none (ov m T M)) : Rr (q_C (d + 3)) mX13_command (228, [some (qr m), some (qi B), some (qi c), l3], [], ov m T M) x := by
  rw [cmdA hK hs.2.2.2.2.2.2 (w := (T 0 9).toNat) (by omega) (by omega) (by omega)]
  exact hx _ (rSc_e hs (by omega)) (by rw [rKe_0 (by omega), h6])
set_option maxHeartbeats 4000000 in
theorem cmdW {d m : Nat} {S T : RS} {M : QM} {x : QP} {B cm c f s dd a : Int} (hK : RK m M) (hA : cAt B cm S T a) (q0 : T 4 B = c) (q1 : T 4 (B + 1) = f) (q2 : T 4 (B + 2) = s) (q3 : T 4 (B + 3) = dd) (hcr : -2147483648 ≤ c ∧ c < 2147483648) (hx : cPost m M B cm S x (pW (rHr (S 2) (S 0 4)) c f s dd a)) : Rr (q_C (d + 3)) mX13_command (200, [some (qr m), some (qi B), some (qi c), none], [], ov m T M) x := by
  have hp := hA.pt
  have hR := hp.1
  have hA0 := hA
  obtain ⟨hs, b6, c6, b5, h0, h1', h2', h9, h11, hc0, hc1, hB⟩ := hA
  unfold pW at hx
  by_cases g : c = 102 ∨ c = 114 ∨ c = 115
  · rw [if_pos g] at hx
    have st : ∀ z : QP, Rr (q_C (d + 3)) mX13_command (200, [some (qr m), some (qi B), some (qi c), none], [], ov m T M) z = Rr (q_C (d + 3)) mX13_command (218, [some (qr m), some (qi B), some (qi c), none], [], ov m T M) z := by
      intro z
      rcases g with rfl | rfl | rfl <;> simp (disch := first | assumption | exact RK0 hK | exact RK1a hK | exact RK2a hK | exact RK3a hK | exact RK4a hK | exact RK5a hK | exact RK6a hK | exact RK7a hK | exact RGl hR | exact RGh hR | exact bI_lo | exact bI_hi | exact bI_01 | (show (List.map q_wd _).sum ≤ 8; with_unfolding_all exact Nat.le_of_ble_eq_true rfl) | (refine RK1c hK ?_; omega) | (refine RK2c hK ?_; omega) | (refine RK3c hK ?_; omega) | (refine RK4c hK ?_; omega) | (refine RK5c hK ?_; omega) | (refine RK6c hK ?_; omega) | (refine RK7c hK ?_; omega) | omega) only [kX13_command_200, kX13_command_201, kX13_command_203, kX13_command_206, kX13_command_207, kX13_command_209, kX13_command_212, kX13_command_213, kX13_command_215, q_cut_i, q_cut_r, q_cut_l, q_cut_n, q_kd_ov, ov_f0, ov_f1, ov_f2, ov_f3, ov_f4, ov_f5, ov_f6, ov_f7, ov_f8, ov_f9, ov_f10, ov_f11, ov_f12, ov_f13, ov_f14, ov_f15, ov_f16, ov_r, ov_w, ov_w1, ov_w2, ov_w4, ov_w5, ov_w6, ov_w7, ov_w9, ov_w11, ov_w13, ov_w16, up_s, up_k, up_j, up_up, q_psh_n, q_psh_s, bI_eq0, ite_not, ↓if_pos, ↓if_neg, ↓ite_bI_t, ↓ite_bI_f]
    rw [st]
    by_cases g1 : rHr (S 2) (S 0 4) a = 58
    · rw [if_neg (fun h => h g1)] at hx
      have ha1 : a < S 0 4 := rHr_lt (l := S 2) (by omega)
      have hA1 := hA0.mv (a' := a + 1) (by omega) (by omega)
      have hp1 := hA1.pt
      by_cases g2 : 97 ≤ rHr (S 2) (S 0 4) (a + 1) ∧ rHr (S 2) (S 0 4) (a + 1) ≤ 122
      · rw [if_neg (fun h => h g2)] at hx
        have hw := wCnt_le (rHr (S 2) (S 0 4)) 9 (a + 1)
        by_cases g3 : wCnt (rHr (S 2) (S 0 4)) 9 (a + 1) = 9
        · rw [if_pos g3] at hx
          simp (disch := first | assumption | exact RK0 hK | exact RK1a hK | exact RK2a hK | exact RK3a hK | exact RK4a hK | exact RK5a hK | exact RK6a hK | exact RK7a hK | exact RGl hR | exact RGh hR | exact bI_lo | exact bI_hi | exact bI_01 | (show (List.map q_wd _).sum ≤ 8; with_unfolding_all exact Nat.le_of_ble_eq_true rfl) | (refine RK1c hK ?_; omega) | (refine RK2c hK ?_; omega) | (refine RK3c hK ?_; omega) | (refine RK4c hK ?_; omega) | (refine RK5c hK ?_; omega) | (refine RK6c hK ?_; omega) | (refine RK7c hK ?_; omega) | omega) only [kX13_command_218, kX13_command_219, kX13_command_221E, kX13_command_224, kX13_command_225E, q_cut_i, q_cut_r, q_cut_l, q_cut_n, q_kd_ov, ov_f0, ov_f1, ov_f2, ov_f3, ov_f4, ov_f5, ov_f6, ov_f7, ov_f8, ov_f9, ov_f10, ov_f11, ov_f12, ov_f13, ov_f14, ov_f15, ov_f16, ov_r, ov_w, ov_w1, ov_w2, ov_w4, ov_w5, ov_w6, ov_w7, ov_w9, ov_w11, ov_w13, ov_w16, up_s, up_k, up_j, up_up, q_psh_n, q_psh_s, bI_eq0, ite_not, ↓if_pos, ↓if_neg, ↓ite_bI_t, ↓ite_bI_f, uMustY hK hp, uWordY hK hp1]
          refine cErr hK (rSc_0 (rSc_W hA1.1 (by omega) (by omega) (by omega)) (by omega) (by omega) (by omega)) up_s ?_ ?_ ⟨hc0, hc1, hB⟩ _ hx
          · rw [up_j (by omega), rW_09]; omega
          · rw [up_j (by omega), rW_0 (by omega) (by omega)]; exact hA1.2.2.2.2.2.2.2.2.1
        · rw [if_neg g3] at hx
          simp (disch := first | assumption | exact RK0 hK | exact RK1a hK | exact RK2a hK | exact RK3a hK | exact RK4a hK | exact RK5a hK | exact RK6a hK | exact RK7a hK | exact RGl hR | exact RGh hR | exact bI_lo | exact bI_hi | exact bI_01 | (show (List.map q_wd _).sum ≤ 8; with_unfolding_all exact Nat.le_of_ble_eq_true rfl) | (refine RK1c hK ?_; omega) | (refine RK2c hK ?_; omega) | (refine RK3c hK ?_; omega) | (refine RK4c hK ?_; omega) | (refine RK5c hK ?_; omega) | (refine RK6c hK ?_; omega) | (refine RK7c hK ?_; omega) | omega) only [kX13_command_218, kX13_command_219, kX13_command_221E, kX13_command_224, kX13_command_225E, q_cut_i, q_cut_r, q_cut_l, q_cut_n, q_kd_ov, ov_f0, ov_f1, ov_f2, ov_f3, ov_f4, ov_f5, ov_f6, ov_f7, ov_f8, ov_f9, ov_f10, ov_f11, ov_f12, ov_f13, ov_f14, ov_f15, ov_f16, ov_r, ov_w, ov_w1, ov_w2, ov_w4, ov_w5, ov_w6, ov_w7, ov_w9, ov_w11, ov_w13, ov_w16, up_s, up_k, up_j, up_up, q_psh_n, q_psh_s, bI_eq0, ite_not, ↓if_pos, ↓if_neg, ↓ite_bI_t, ↓ite_bI_f, uMustY hK hp, uWordY hK hp1]
          have hsW := rSc_W hA1.1 (a := a + 1) (c := wCnt (rHr (S 2) (S 0 4)) 9 (a + 1)) (by omega) (by omega) (by omega)
          rw [cmdA hK hsW.2.2.2.2.2.2 (w := wCnt (rHr (S 2) (S 0 4)) 9 (a + 1)) (by omega) rfl (by omega)]
          have r11 : rW (up T 0 5 (a + 1)) (a + 1) (wCnt (rHr (S 2) (S 0 4)) 9 (a + 1)) 0 11 = cm := by rw [rW_0 (by omega) (by omega), up_j (by omega), h11]
          have r4 : rW (up T 0 5 (a + 1)) (a + 1) (wCnt (rHr (S 2) (S 0 4)) 9 (a + 1)) 4 = T 4 := by rw [rW_k (by omega) (by omega), up_k (by omega)]
          refine hx _ (rSc_e hsW (by rw [r11]; omega)) ?_ ?_ ?_ ?_ ?_ ?_ ?_ ?_ ?_
          · rw [rKe_0 (by omega), rW_0 (by omega) (by omega), up_j (by omega), b6]
          · rw [rKe_0 (by omega), rW_05]
          · unfold rKe; rw [up_s, r11]
          · rw [rKe_4 (by omega) (by omega), r4, q0]
          · rw [rKe_4 (by omega) (by omega), r4, q1]
          · rw [rKe_4 (by omega) (by omega), r4, q2]
          · rw [rKe_4 (by omega) (by omega), r4, q3]
          · unfold rKe; rw [up_k (by omega), rKc_o _ (by omega), up_s, rW_09]
          · intro i hi
            have hi : i < wCnt (rHr (S 2) (S 0 4)) 9 (a + 1) := hi
            unfold rKe
            rw [up_k (by omega), rKc_i _ (by rw [rW_09]; omega), up_k (by omega), rW_3 (by omega) (by omega), up_k (by omega), hs.2.1]
      · rw [if_pos g2] at hx
        simp (disch := first | assumption | exact RK0 hK | exact RK1a hK | exact RK2a hK | exact RK3a hK | exact RK4a hK | exact RK5a hK | exact RK6a hK | exact RK7a hK | exact RGl hR | exact RGh hR | exact bI_lo | exact bI_hi | exact bI_01 | (show (List.map q_wd _).sum ≤ 8; with_unfolding_all exact Nat.le_of_ble_eq_true rfl) | (refine RK1c hK ?_; omega) | (refine RK2c hK ?_; omega) | (refine RK3c hK ?_; omega) | (refine RK4c hK ?_; omega) | (refine RK5c hK ?_; omega) | (refine RK6c hK ?_; omega) | (refine RK7c hK ?_; omega) | omega) only [kX13_command_218, kX13_command_219, kX13_command_221E, kX13_command_224, kX13_command_225E, q_cut_i, q_cut_r, q_cut_l, q_cut_n, q_kd_ov, ov_f0, ov_f1, ov_f2, ov_f3, ov_f4, ov_f5, ov_f6, ov_f7, ov_f8, ov_f9, ov_f10, ov_f11, ov_f12, ov_f13, ov_f14, ov_f15, ov_f16, ov_r, ov_w, ov_w1, ov_w2, ov_w4, ov_w5, ov_w6, ov_w7, ov_w9, ov_w11, ov_w13, ov_w16, up_s, up_k, up_j, up_up, q_psh_n, q_psh_s, bI_eq0, ite_not, ↓if_pos, ↓if_neg, ↓ite_bI_t, ↓ite_bI_f, uMustY hK hp, uWordN hK hp1]
        refine cErr hK (rSc_0 (rSc_0 hA1.1 (by omega) (by omega) (by omega)) (by omega) (by omega) (by omega)) up_s ?_ ?_ ⟨hc0, hc1, hB⟩ _ hx
        · rw [up_j (by omega), up_s]; omega
        · rw [up_j (by omega), up_j (by omega)]; exact hA1.2.2.2.2.2.2.2.2.1
    · rw [if_pos g1] at hx
      have hs1 : rSc B S (up T 0 6 a) := rSc_0 hs (by omega) (by omega) (by omega)
      have e6 : up T 0 6 a 0 6 = a := up_s
      have hF := fun z : QP => tX13_readsWordF (d := d) (x := z) hK hs1.2.2.2.2.2.2 (by rw [e6]; exact h0)
      simp (disch := first | assumption | exact RK0 hK | exact RK1a hK | exact RK2a hK | exact RK3a hK | exact RK4a hK | exact RK5a hK | exact RK6a hK | exact RK7a hK | exact RGl hR | exact RGh hR | exact bI_lo | exact bI_hi | exact bI_01 | (show (List.map q_wd _).sum ≤ 8; with_unfolding_all exact Nat.le_of_ble_eq_true rfl) | (refine RK1c hK ?_; omega) | (refine RK2c hK ?_; omega) | (refine RK3c hK ?_; omega) | (refine RK4c hK ?_; omega) | (refine RK5c hK ?_; omega) | (refine RK6c hK ?_; omega) | (refine RK7c hK ?_; omega) | omega) only [kX13_command_218, kX13_command_219, kX13_command_221E, kX13_command_224, kX13_command_225E, q_cut_i, q_cut_r, q_cut_l, q_cut_n, q_kd_ov, ov_f0, ov_f1, ov_f2, ov_f3, ov_f4, ov_f5, ov_f6, ov_f7, ov_f8, ov_f9, ov_f10, ov_f11, ov_f12, ov_f13, ov_f14, ov_f15, ov_f16, ov_r, ov_w, ov_w1, ov_w2, ov_w4, ov_w5, ov_w6, ov_w7, ov_w9, ov_w11, ov_w13, ov_w16, up_s, up_k, up_j, up_up, q_psh_n, q_psh_s, bI_eq0, ite_not, ↓if_pos, ↓if_neg, ↓ite_bI_t, ↓ite_bI_f, uMustN hK hp, hF]
      refine cErr hK (rSc_0 hs1 (by omega) (by omega) (by omega)) ?_ ?_ ?_ ⟨hc0, hc1, hB⟩ _ hx
      · rw [up_j (by omega), e6]
      · rw [up_s]; omega
      · rw [up_j (by omega), up_j (by omega), h11]
  · rw [if_neg g] at hx
    have st : ∀ z : QP, Rr (q_C (d + 3)) mX13_command (200, [some (qr m), some (qi B), some (qi c), none], [], ov m T M) z = Rr (q_C (d + 3)) mX13_command (228, [some (qr m), some (qi B), some (qi c), none], [], ov m T M) z := by
      intro z
      simp (disch := first | assumption | exact RK0 hK | exact RK1a hK | exact RK2a hK | exact RK3a hK | exact RK4a hK | exact RK5a hK | exact RK6a hK | exact RK7a hK | exact RGl hR | exact RGh hR | exact bI_lo | exact bI_hi | exact bI_01 | (show (List.map q_wd _).sum ≤ 8; with_unfolding_all exact Nat.le_of_ble_eq_true rfl) | (refine RK1c hK ?_; omega) | (refine RK2c hK ?_; omega) | (refine RK3c hK ?_; omega) | (refine RK4c hK ?_; omega) | (refine RK5c hK ?_; omega) | (refine RK6c hK ?_; omega) | (refine RK7c hK ?_; omega) | omega) only [kX13_command_200, kX13_command_201, kX13_command_203, kX13_command_206, kX13_command_207, kX13_command_209, kX13_command_212, kX13_command_213, kX13_command_215, q_cut_i, q_cut_r, q_cut_l, q_cut_n, q_kd_ov, ov_f0, ov_f1, ov_f2, ov_f3, ov_f4, ov_f5, ov_f6, ov_f7, ov_f8, ov_f9, ov_f10, ov_f11, ov_f12, ov_f13, ov_f14, ov_f15, ov_f16, ov_r, ov_w, ov_w1, ov_w2, ov_w4, ov_w5, ov_w6, ov_w7, ov_w9, ov_w11, ov_w13, ov_w16, up_s, up_k, up_j, up_up, q_psh_n, q_psh_s, bI_eq0, ite_not, ↓if_pos, ↓if_neg, ↓ite_bI_t, ↓ite_bI_f]
    rw [st, cmdA hK hR (w := 0) (by omega) h9 (by omega)]
    refine hx _ (rSc_e hs (by omega)) ?_ ?_ ?_ ?_ ?_ ?_ ?_ ?_ ?_
    · rw [rKe_0 (by omega), b6]
    · rw [rKe_0 (by omega), b5]
    · unfold rKe; rw [up_s, h11]
    · rw [rKe_4 (by omega) (by omega), q0]
    · rw [rKe_4 (by omega) (by omega), q1]
    · rw [rKe_4 (by omega) (by omega), q2]
    · rw [rKe_4 (by omega) (by omega), q3]
    · unfold rKe; rw [up_k (by omega), rKc_o _ (by omega), up_s, h9]; rfl
    · intro i hi
      exact absurd hi (Nat.not_lt_zero i)
/-- a fault ahead of the word: what is left does nothing but write -/
theorem cErrW {d m : Nat} {S T : RS} {M : QM} {x : QP} {B cm c e : Int} (hK : RK m M) (hs : rSc B S T) (h6 : T 0 6 = e) (he : 0 ≤ e) (h9 : 0 ≤ T 0 9 ∧ T 0 9 ≤ 8) (h11 : T 0 11 = cm) (hc : 0 ≤ cm ∧ cm < 79 ∧ B = 13 * cm) (hcr : -2147483648 ≤ c ∧ c < 2147483648) (hx : ∀ T, rSc B S T → T 0 6 = e → x none (ov m T M)) : Rr (q_C (d + 3)) mX13_command (200, [some (qr m), some (qi B), some (qi c), none], [], ov m T M) x := by
  have hR := hs.2.2.2.2.2.2
  have hM := fun z : QP => tX13_mustF (d := d) (x := z) (c := 58) hK hR (by rw [h6]; exact he)
  have hF := fun z : QP => tX13_readsWordF (d := d) (x := z) hK hR (by rw [h6]; exact he)
  by_cases g : c = 102 ∨ c = 114 ∨ c = 115
  · have fin : Rr (q_C (d + 3)) mX13_command (228, [some (qr m), some (qi B), some (qi c), none], [], ov m (up T 0 9 0) M) x :=
      cErr hK (rSc_0 hs (by omega) (by omega) (by omega)) (by rw [up_j (by omega), h6]) (by rw [up_s]; omega) (by rw [up_j (by omega), h11]) hc _ hx
    rcases g with rfl | rfl | rfl <;> (simp (disch := first | assumption | exact RK0 hK | exact RK1a hK | exact RK2a hK | exact RK3a hK | exact RK4a hK | exact RK5a hK | exact RK6a hK | exact RK7a hK | exact RGl hR | exact RGh hR | exact bI_lo | exact bI_hi | exact bI_01 | (show (List.map q_wd _).sum ≤ 8; with_unfolding_all exact Nat.le_of_ble_eq_true rfl) | (refine RK1c hK ?_; omega) | (refine RK2c hK ?_; omega) | (refine RK3c hK ?_; omega) | (refine RK4c hK ?_; omega) | (refine RK5c hK ?_; omega) | (refine RK6c hK ?_; omega) | (refine RK7c hK ?_; omega) | omega) only [kX13_command_200, kX13_command_201, kX13_command_203, kX13_command_206, kX13_command_207, kX13_command_209, kX13_command_212, kX13_command_213, kX13_command_215, kX13_command_218, kX13_command_219, kX13_command_221E, kX13_command_224, kX13_command_225E, q_cut_i, q_cut_r, q_cut_l, q_cut_n, q_kd_ov, ov_f0, ov_f1, ov_f2, ov_f3, ov_f4, ov_f5, ov_f6, ov_f7, ov_f8, ov_f9, ov_f10, ov_f11, ov_f12, ov_f13, ov_f14, ov_f15, ov_f16, ov_r, ov_w, ov_w1, ov_w2, ov_w4, ov_w5, ov_w6, ov_w7, ov_w9, ov_w11, ov_w13, ov_w16, up_s, up_k, up_j, up_up, q_psh_n, q_psh_s, bI_eq0, ite_not, ↓if_pos, ↓if_neg, ↓ite_bI_t, ↓ite_bI_f, hM, hF]; exact fin)
  · simp (disch := first | assumption | exact RK0 hK | exact RK1a hK | exact RK2a hK | exact RK3a hK | exact RK4a hK | exact RK5a hK | exact RK6a hK | exact RK7a hK | exact RGl hR | exact RGh hR | exact bI_lo | exact bI_hi | exact bI_01 | (show (List.map q_wd _).sum ≤ 8; with_unfolding_all exact Nat.le_of_ble_eq_true rfl) | (refine RK1c hK ?_; omega) | (refine RK2c hK ?_; omega) | (refine RK3c hK ?_; omega) | (refine RK4c hK ?_; omega) | (refine RK5c hK ?_; omega) | (refine RK6c hK ?_; omega) | (refine RK7c hK ?_; omega) | omega) only [kX13_command_200, kX13_command_201, kX13_command_203, kX13_command_206, kX13_command_207, kX13_command_209, kX13_command_212, kX13_command_213, kX13_command_215, kX13_command_218, kX13_command_219, kX13_command_221E, kX13_command_224, kX13_command_225E, q_cut_i, q_cut_r, q_cut_l, q_cut_n, q_kd_ov, ov_f0, ov_f1, ov_f2, ov_f3, ov_f4, ov_f5, ov_f6, ov_f7, ov_f8, ov_f9, ov_f10, ov_f11, ov_f12, ov_f13, ov_f14, ov_f15, ov_f16, ov_r, ov_w, ov_w1, ov_w2, ov_w4, ov_w5, ov_w6, ov_w7, ov_w9, ov_w11, ov_w13, ov_w16, up_s, up_k, up_j, up_up, q_psh_n, q_psh_s, bI_eq0, ite_not, ↓if_pos, ↓if_neg, ↓ite_bI_t, ↓ite_bI_f]
    exact cErr hK hs h6 h9 h11 hc _ hx
theorem cErrD {d m : Nat} {S T : RS} {M : QM} {x : QP} {B cm c e : Int} (hK : RK m M) (hs : rSc B S T) (h6 : T 0 6 = e) (he : 0 ≤ e) (h9 : 0 ≤ T 0 9 ∧ T 0 9 ≤ 8) (h11 : T 0 11 = cm) (hc : 0 ≤ cm ∧ cm < 79 ∧ B = 13 * cm) (hcr : -2147483648 ≤ c ∧ c < 2147483648) (hx : ∀ T, rSc B S T → T 0 6 = e → x none (ov m T M)) : Rr (q_C (d + 3)) mX13_command (182, [some (qr m), some (qi B), some (qi c), none], [], ov m T M) x := by
  have hR := hs.2.2.2.2.2.2
  have hM := fun z : QP => tX13_mustF (d := d) (x := z) (c := 64) hK hR (by rw [h6]; exact he)
  have hF := fun z : QP => tX13_numberF (d := d) (x := z) hK hR (by rw [h6]; exact he)
  simp (disch := first | assumption | exact RK0 hK | exact RK1a hK | exact RK2a hK | exact RK3a hK | exact RK4a hK | exact RK5a hK | exact RK6a hK | exact RK7a hK | exact RGl hR | exact RGh hR | exact bI_lo | exact bI_hi | exact bI_01 | (show (List.map q_wd _).sum ≤ 8; with_unfolding_all exact Nat.le_of_ble_eq_true rfl) | (refine RK1c hK ?_; omega) | (refine RK2c hK ?_; omega) | (refine RK3c hK ?_; omega) | (refine RK4c hK ?_; omega) | (refine RK5c hK ?_; omega) | (refine RK6c hK ?_; omega) | (refine RK7c hK ?_; omega) | omega) only [kX13_command_182, kX13_command_183, kX13_command_185E, kX13_command_188, kX13_command_189, kX13_command_192, kX13_command_193, kX13_command_194, kX13_command_195, kX13_command_196E, kX13_command_199, q_cut_i, q_cut_r, q_cut_l, q_cut_n, q_kd_ov, ov_f0, ov_f1, ov_f2, ov_f3, ov_f4, ov_f5, ov_f6, ov_f7, ov_f8, ov_f9, ov_f10, ov_f11, ov_f12, ov_f13, ov_f14, ov_f15, ov_f16, ov_r, ov_w, ov_w1, ov_w2, ov_w4, ov_w5, ov_w6, ov_w7, ov_w9, ov_w11, ov_w13, ov_w16, up_s, up_k, up_j, up_up, q_psh_n, q_psh_s, bI_eq0, ite_not, ↓if_pos, ↓if_neg, ↓ite_bI_t, ↓ite_bI_f, hM, hF]
  exact cErrW hK (rSc_4 hs (by omega) (by omega) (by omega)) (by rw [up_k (by omega), h6]) he (by rw [up_k (by omega)]; exact h9) (by rw [up_k (by omega), h11]) hc hcr hx
set_option maxHeartbeats 4000000 in
theorem cmdD {d m : Nat} {S T : RS} {M : QM} {x : QP} {B cm c f s a : Int} (hK : RK m M) (hA : cAt B cm S T a) (q0 : T 4 B = c) (q1 : T 4 (B + 1) = f) (q2 : T 4 (B + 2) = s) (hcr : -2147483648 ≤ c ∧ c < 2147483648) (hx : cPost m M B cm S x (pD (rHr (S 2) (S 0 4)) c f s a)) : Rr (q_C (d + 3)) mX13_command (182, [some (qr m), some (qi B), some (qi c), none], [], ov m T M) x := by
  have hp := hA.pt
  have hR := hp.1
  have hA0 := hA
  obtain ⟨hs, b6, c6, b5, h0, h1', h2', h9, h11, hc0, hc1, hB⟩ := hA
  unfold pD at hx
  by_cases g1 : rHr (S 2) (S 0 4) a = 64
  · rw [if_neg (fun h => h g1)] at hx
    have ha1 : a < S 0 4 := rHr_lt (l := S 2) (by omega)
    have hA1 := hA0.mv (a' := a + 1) (by omega) (by omega)
    have hp1 := hA1.pt
    by_cases g2 : 48 ≤ rHr (S 2) (S 0 4) (a + 1) ∧ rHr (S 2) (S 0 4) (a + 1) ≤ 57
    · rw [if_neg (fun h => h g2)] at hx
      have d1 := dRun_a (rHr (S 2) (S 0 4)) 4 (a + 1) 0
      have d2 := dRun_n (l := S 2) (n := S 0 4) 4 (a + 1) 0 (by omega)
      have d3 := dRun_4 (rHr (S 2) (S 0 4)) (a + 1)
      have hA2 := (hA1.mv (a' := (dRun (rHr (S 2) (S 0 4)) 4 (a + 1) 0).1) (by omega) d2).up4 (j := B + 3) (v := (dRun (rHr (S 2) (S 0 4)) 4 (a + 1) 0).2) (by omega) (by omega) (by omega)
      rw [up_up] at hA2
      simp (disch := first | assumption | exact RK0 hK | exact RK1a hK | exact RK2a hK | exact RK3a hK | exact RK4a hK | exact RK5a hK | exact RK6a hK | exact RK7a hK | exact RGl hR | exact RGh hR | exact bI_lo | exact bI_hi | exact bI_01 | (show (List.map q_wd _).sum ≤ 8; with_unfolding_all exact Nat.le_of_ble_eq_true rfl) | (refine RK1c hK ?_; omega) | (refine RK2c hK ?_; omega) | (refine RK3c hK ?_; omega) | (refine RK4c hK ?_; omega) | (refine RK5c hK ?_; omega) | (refine RK6c hK ?_; omega) | (refine RK7c hK ?_; omega) | omega) only [kX13_command_182, kX13_command_183, kX13_command_185E, kX13_command_188, kX13_command_189, kX13_command_192, kX13_command_193, kX13_command_194, kX13_command_195, kX13_command_196E, kX13_command_199, q_cut_i, q_cut_r, q_cut_l, q_cut_n, q_kd_ov, ov_f0, ov_f1, ov_f2, ov_f3, ov_f4, ov_f5, ov_f6, ov_f7, ov_f8, ov_f9, ov_f10, ov_f11, ov_f12, ov_f13, ov_f14, ov_f15, ov_f16, ov_r, ov_w, ov_w1, ov_w2, ov_w4, ov_w5, ov_w6, ov_w7, ov_w9, ov_w11, ov_w13, ov_w16, up_s, up_k, up_j, up_up, q_psh_n, q_psh_s, bI_eq0, ite_not, ↓if_pos, ↓if_neg, ↓ite_bI_t, ↓ite_bI_f, uMustY hK hp, uNumY hK hp1]
      refine cmdW hK hA2 ?_ ?_ ?_ up_s hcr hx
      · rw [up_j (by omega), up_k (by omega), q0]
      · rw [up_j (by omega), up_k (by omega), q1]
      · rw [up_j (by omega), up_k (by omega), q2]
    · rw [if_pos g2] at hx
      simp (disch := first | assumption | exact RK0 hK | exact RK1a hK | exact RK2a hK | exact RK3a hK | exact RK4a hK | exact RK5a hK | exact RK6a hK | exact RK7a hK | exact RGl hR | exact RGh hR | exact bI_lo | exact bI_hi | exact bI_01 | (show (List.map q_wd _).sum ≤ 8; with_unfolding_all exact Nat.le_of_ble_eq_true rfl) | (refine RK1c hK ?_; omega) | (refine RK2c hK ?_; omega) | (refine RK3c hK ?_; omega) | (refine RK4c hK ?_; omega) | (refine RK5c hK ?_; omega) | (refine RK6c hK ?_; omega) | (refine RK7c hK ?_; omega) | omega) only [kX13_command_182, kX13_command_183, kX13_command_185E, kX13_command_188, kX13_command_189, kX13_command_192, kX13_command_193, kX13_command_194, kX13_command_195, kX13_command_196E, kX13_command_199, q_cut_i, q_cut_r, q_cut_l, q_cut_n, q_kd_ov, ov_f0, ov_f1, ov_f2, ov_f3, ov_f4, ov_f5, ov_f6, ov_f7, ov_f8, ov_f9, ov_f10, ov_f11, ov_f12, ov_f13, ov_f14, ov_f15, ov_f16, ov_r, ov_w, ov_w1, ov_w2, ov_w4, ov_w5, ov_w6, ov_w7, ov_w9, ov_w11, ov_w13, ov_w16, up_s, up_k, up_j, up_up, q_psh_n, q_psh_s, bI_eq0, ite_not, ↓if_pos, ↓if_neg, ↓ite_bI_t, ↓ite_bI_f, uMustY hK hp, uNumN hK hp1]
      refine cErrW hK (rSc_4 (rSc_0 hA1.1 (by omega) (by omega) (by omega)) (by omega) (by omega) (by omega)) (by rw [up_k (by omega), up_s]) (by omega) ?_ ?_ ⟨hc0, hc1, hB⟩ hcr hx
      · rw [up_k (by omega), up_j (by omega)]; have := hA1.2.2.2.2.2.2.2.1; omega
      · rw [up_k (by omega), up_j (by omega)]; exact hA1.2.2.2.2.2.2.2.2.1
  · rw [if_pos g1] at hx
    have hs1 : rSc B S (up T 0 6 a) := rSc_0 hs (by omega) (by omega) (by omega)
    have e6 : up T 0 6 a 0 6 = a := up_s
    have hF := fun z : QP => tX13_numberF (d := d) (x := z) hK hs1.2.2.2.2.2.2 (by rw [e6]; exact h0)
    simp (disch := first | assumption | exact RK0 hK | exact RK1a hK | exact RK2a hK | exact RK3a hK | exact RK4a hK | exact RK5a hK | exact RK6a hK | exact RK7a hK | exact RGl hR | exact RGh hR | exact bI_lo | exact bI_hi | exact bI_01 | (show (List.map q_wd _).sum ≤ 8; with_unfolding_all exact Nat.le_of_ble_eq_true rfl) | (refine RK1c hK ?_; omega) | (refine RK2c hK ?_; omega) | (refine RK3c hK ?_; omega) | (refine RK4c hK ?_; omega) | (refine RK5c hK ?_; omega) | (refine RK6c hK ?_; omega) | (refine RK7c hK ?_; omega) | omega) only [kX13_command_182, kX13_command_183, kX13_command_185E, kX13_command_188, kX13_command_189, kX13_command_192, kX13_command_193, kX13_command_194, kX13_command_195, kX13_command_196E, kX13_command_199, q_cut_i, q_cut_r, q_cut_l, q_cut_n, q_kd_ov, ov_f0, ov_f1, ov_f2, ov_f3, ov_f4, ov_f5, ov_f6, ov_f7, ov_f8, ov_f9, ov_f10, ov_f11, ov_f12, ov_f13, ov_f14, ov_f15, ov_f16, ov_r, ov_w, ov_w1, ov_w2, ov_w4, ov_w5, ov_w6, ov_w7, ov_w9, ov_w11, ov_w13, ov_w16, up_s, up_k, up_j, up_up, q_psh_n, q_psh_s, bI_eq0, ite_not, ↓if_pos, ↓if_neg, ↓ite_bI_t, ↓ite_bI_f, uMustN hK hp, hF]
    refine cErrW hK (rSc_4 hs1 (by omega) (by omega) (by omega)) (by rw [up_k (by omega), e6]) h0 ?_ ?_ ⟨hc0, hc1, hB⟩ hcr hx
    · rw [up_k (by omega), up_j (by omega)]; omega
    · rw [up_k (by omega), up_j (by omega), h11]
/-- the second number, from its sign on: in a founding (119) or behind the first number (164) -/
theorem cErrS {d m : Nat} {S T : RS} {M : QM} {x : QP} {B cm c e : Int} (hK : RK m M) (hs : rSc B S T) (h6 : T 0 6 = e) (he : 0 ≤ e) (h9 : 0 ≤ T 0 9 ∧ T 0 9 ≤ 8) (h11 : T 0 11 = cm) (hc : 0 ≤ cm ∧ cm < 79 ∧ B = 13 * cm) (hcr : -2147483648 ≤ c ∧ c < 2147483648) (hx : ∀ T, rSc B S T → T 0 6 = e → x none (ov m T M)) : Rr (q_C (d + 3)) mX13_command (119, [some (qr m), some (qi B), some (qi c), none], [], ov m T M) x ∧ Rr (q_C (d + 3)) mX13_command (152, [some (qr m), some (qi B), some (qi c), none], [], ov m T M) x := by
  have hR := hs.2.2.2.2.2.2
  have hM := fun z : QP => tX13_mustF (d := d) (x := z) (c := 62) hK hR (by rw [h6]; exact he)
  have hF := fun z : QP => tX13_numberF (d := d) (x := z) hK hR (by rw [h6]; exact he)
  have fin : Rr (q_C (d + 3)) mX13_command (182, [some (qr m), some (qi B), some (qi c), none], [], ov m (up T 4 (B + 2) (-48)) M) x := cErrD hK (rSc_4 hs (by omega) (by omega) (by omega)) (by rw [up_k (by omega), h6]) he (by rw [up_k (by omega)]; exact h9) (by rw [up_k (by omega), h11]) hc hcr hx
  constructor
  · simp (disch := first | assumption | exact RK0 hK | exact RK1a hK | exact RK2a hK | exact RK3a hK | exact RK4a hK | exact RK5a hK | exact RK6a hK | exact RK7a hK | exact RGl hR | exact RGh hR | exact bI_lo | exact bI_hi | exact bI_01 | (show (List.map q_wd _).sum ≤ 8; with_unfolding_all exact Nat.le_of_ble_eq_true rfl) | (refine RK1c hK ?_; omega) | (refine RK2c hK ?_; omega) | (refine RK3c hK ?_; omega) | (refine RK4c hK ?_; omega) | (refine RK5c hK ?_; omega) | (refine RK6c hK ?_; omega) | (refine RK7c hK ?_; omega) | omega) only [kX13_command_119, kX13_command_120, kX13_command_122E, kX13_command_125, kX13_command_126, kX13_command_129, kX13_command_130, kX13_command_131, kX13_command_132, kX13_command_133E, kX13_command_136, kX13_command_137, q_cut_i, q_cut_r, q_cut_l, q_cut_n, q_kd_ov, ov_f0, ov_f1, ov_f2, ov_f3, ov_f4, ov_f5, ov_f6, ov_f7, ov_f8, ov_f9, ov_f10, ov_f11, ov_f12, ov_f13, ov_f14, ov_f15, ov_f16, ov_r, ov_w, ov_w1, ov_w2, ov_w4, ov_w5, ov_w6, ov_w7, ov_w9, ov_w11, ov_w13, ov_w16, up_s, up_k, up_j, up_up, q_psh_n, q_psh_s, bI_eq0, ite_not, ↓if_pos, ↓if_neg, ↓ite_bI_t, ↓ite_bI_f, hM, hF]
    exact fin
  · by_cases g : c = 109 ∨ c = 103
    · rcases g with rfl | rfl <;> (simp (disch := first | assumption | exact RK0 hK | exact RK1a hK | exact RK2a hK | exact RK3a hK | exact RK4a hK | exact RK5a hK | exact RK6a hK | exact RK7a hK | exact RGl hR | exact RGh hR | exact bI_lo | exact bI_hi | exact bI_01 | (show (List.map q_wd _).sum ≤ 8; with_unfolding_all exact Nat.le_of_ble_eq_true rfl) | (refine RK1c hK ?_; omega) | (refine RK2c hK ?_; omega) | (refine RK3c hK ?_; omega) | (refine RK4c hK ?_; omega) | (refine RK5c hK ?_; omega) | (refine RK6c hK ?_; omega) | (refine RK7c hK ?_; omega) | omega) only [kX13_command_152, kX13_command_153, kX13_command_155, kX13_command_158, kX13_command_159, kX13_command_161, kX13_command_164, kX13_command_165, kX13_command_167E, kX13_command_170, kX13_command_171, kX13_command_174, kX13_command_175, kX13_command_176, kX13_command_177, kX13_command_178E, kX13_command_181, q_cut_i, q_cut_r, q_cut_l, q_cut_n, q_kd_ov, ov_f0, ov_f1, ov_f2, ov_f3, ov_f4, ov_f5, ov_f6, ov_f7, ov_f8, ov_f9, ov_f10, ov_f11, ov_f12, ov_f13, ov_f14, ov_f15, ov_f16, ov_r, ov_w, ov_w1, ov_w2, ov_w4, ov_w5, ov_w6, ov_w7, ov_w9, ov_w11, ov_w13, ov_w16, up_s, up_k, up_j, up_up, q_psh_n, q_psh_s, bI_eq0, ite_not, ↓if_pos, ↓if_neg, ↓ite_bI_t, ↓ite_bI_f, hM, hF]; exact fin)
    · simp (disch := first | assumption | exact RK0 hK | exact RK1a hK | exact RK2a hK | exact RK3a hK | exact RK4a hK | exact RK5a hK | exact RK6a hK | exact RK7a hK | exact RGl hR | exact RGh hR | exact bI_lo | exact bI_hi | exact bI_01 | (show (List.map q_wd _).sum ≤ 8; with_unfolding_all exact Nat.le_of_ble_eq_true rfl) | (refine RK1c hK ?_; omega) | (refine RK2c hK ?_; omega) | (refine RK3c hK ?_; omega) | (refine RK4c hK ?_; omega) | (refine RK5c hK ?_; omega) | (refine RK6c hK ?_; omega) | (refine RK7c hK ?_; omega) | omega) only [kX13_command_152, kX13_command_153, kX13_command_155, kX13_command_158, kX13_command_159, kX13_command_161, kX13_command_164, kX13_command_165, kX13_command_167E, kX13_command_170, kX13_command_171, kX13_command_174, kX13_command_175, kX13_command_176, kX13_command_177, kX13_command_178E, kX13_command_181, q_cut_i, q_cut_r, q_cut_l, q_cut_n, q_kd_ov, ov_f0, ov_f1, ov_f2, ov_f3, ov_f4, ov_f5, ov_f6, ov_f7, ov_f8, ov_f9, ov_f10, ov_f11, ov_f12, ov_f13, ov_f14, ov_f15, ov_f16, ov_r, ov_w, ov_w1, ov_w2, ov_w4, ov_w5, ov_w6, ov_w7, ov_w9, ov_w11, ov_w13, ov_w16, up_s, up_k, up_j, up_up, q_psh_n, q_psh_s, bI_eq0, ite_not, ↓if_pos, ↓if_neg, ↓ite_bI_t, ↓ite_bI_f]
      exact cErrD hK hs h6 he h9 h11 hc hcr hx
set_option maxHeartbeats 4000000 in
theorem cmdS {d m : Nat} {S T : RS} {M : QM} {x : QP} {B cm c f a : Int} (hK : RK m M) (hA : cAt B cm S T a) (q0 : T 4 B = c) (q1 : T 4 (B + 1) = f) (q2 : T 4 (B + 2) = 0) (hcr : -2147483648 ≤ c ∧ c < 2147483648) (hx : cPost m M B cm S x (pS (rHr (S 2) (S 0 4)) c f a)) : (c = 102 → Rr (q_C (d + 3)) mX13_command (119, [some (qr m), some (qi B), some (qi c), none], [], ov m T M) x) ∧ (c ≠ 102 → Rr (q_C (d + 3)) mX13_command (152, [some (qr m), some (qi B), some (qi c), none], [], ov m T M) x) := by
  have hp := hA.pt
  have hR := hp.1
  have hA0 := hA
  obtain ⟨hs, b6, c6, b5, h0, h1', h2', h9, h11, hc0, hc1, hB⟩ := hA
  unfold pS at hx
  by_cases g : c = 102 ∨ c = 109 ∨ c = 103
  · rw [if_pos g] at hx
    by_cases g1 : rHr (S 2) (S 0 4) a = 62
    · rw [if_neg (fun h => h g1)] at hx
      have ha1 : a < S 0 4 := rHr_lt (l := S 2) (by omega)
      have hA1 := hA0.mv (a' := a + 1) (by omega) (by omega)
      have hp1 := hA1.pt
      by_cases g2 : 48 ≤ rHr (S 2) (S 0 4) (a + 1) ∧ rHr (S 2) (S 0 4) (a + 1) ≤ 57
      · rw [if_neg (fun h => h g2)] at hx
        have d1 := dRun_a (rHr (S 2) (S 0 4)) 4 (a + 1) 0
        have d2 := dRun_n (l := S 2) (n := S 0 4) 4 (a + 1) 0 (by omega)
        have d3 := dRun_4 (rHr (S 2) (S 0 4)) (a + 1)
        have hA2 := (hA1.mv (a' := (dRun (rHr (S 2) (S 0 4)) 4 (a + 1) 0).1) (by omega) d2).up4 (j := B + 2) (v := (dRun (rHr (S 2) (S 0 4)) 4 (a + 1) 0).2) (by omega) (by omega) (by omega)
        rw [up_up] at hA2
        have fin : Rr (q_C (d + 3)) mX13_command (182, [some (qr m), some (qi B), some (qi c), none], [], ov m (up (up T 0 5 (dRun (rHr (S 2) (S 0 4)) 4 (a + 1) 0).1) 4 (B + 2) (dRun (rHr (S 2) (S 0 4)) 4 (a + 1) 0).2) M) x := by
          refine cmdD hK hA2 ?_ ?_ up_s hcr hx
          · rw [up_j (by omega), up_k (by omega), q0]
          · rw [up_j (by omega), up_k (by omega), q1]
        constructor
        · intro hc
          simp (disch := first | assumption | exact RK0 hK | exact RK1a hK | exact RK2a hK | exact RK3a hK | exact RK4a hK | exact RK5a hK | exact RK6a hK | exact RK7a hK | exact RGl hR | exact RGh hR | exact bI_lo | exact bI_hi | exact bI_01 | (show (List.map q_wd _).sum ≤ 8; with_unfolding_all exact Nat.le_of_ble_eq_true rfl) | (refine RK1c hK ?_; omega) | (refine RK2c hK ?_; omega) | (refine RK3c hK ?_; omega) | (refine RK4c hK ?_; omega) | (refine RK5c hK ?_; omega) | (refine RK6c hK ?_; omega) | (refine RK7c hK ?_; omega) | omega) only [kX13_command_119, kX13_command_120, kX13_command_122E, kX13_command_125, kX13_command_126, kX13_command_129, kX13_command_130, kX13_command_131, kX13_command_132, kX13_command_133E, kX13_command_136, kX13_command_137, q_cut_i, q_cut_r, q_cut_l, q_cut_n, q_kd_ov, ov_f0, ov_f1, ov_f2, ov_f3, ov_f4, ov_f5, ov_f6, ov_f7, ov_f8, ov_f9, ov_f10, ov_f11, ov_f12, ov_f13, ov_f14, ov_f15, ov_f16, ov_r, ov_w, ov_w1, ov_w2, ov_w4, ov_w5, ov_w6, ov_w7, ov_w9, ov_w11, ov_w13, ov_w16, up_s, up_k, up_j, up_up, q_psh_n, q_psh_s, bI_eq0, ite_not, ↓if_pos, ↓if_neg, ↓ite_bI_t, ↓ite_bI_f, uMustY hK hp, uNumY hK hp1]
          exact fin
        · intro hc
          have g' : c = 109 ∨ c = 103 := by omega
          rcases g' with rfl | rfl <;> (simp (disch := first | assumption | exact RK0 hK | exact RK1a hK | exact RK2a hK | exact RK3a hK | exact RK4a hK | exact RK5a hK | exact RK6a hK | exact RK7a hK | exact RGl hR | exact RGh hR | exact bI_lo | exact bI_hi | exact bI_01 | (show (List.map q_wd _).sum ≤ 8; with_unfolding_all exact Nat.le_of_ble_eq_true rfl) | (refine RK1c hK ?_; omega) | (refine RK2c hK ?_; omega) | (refine RK3c hK ?_; omega) | (refine RK4c hK ?_; omega) | (refine RK5c hK ?_; omega) | (refine RK6c hK ?_; omega) | (refine RK7c hK ?_; omega) | omega) only [kX13_command_152, kX13_command_153, kX13_command_155, kX13_command_158, kX13_command_159, kX13_command_161, kX13_command_164, kX13_command_165, kX13_command_167E, kX13_command_170, kX13_command_171, kX13_command_174, kX13_command_175, kX13_command_176, kX13_command_177, kX13_command_178E, kX13_command_181, q_cut_i, q_cut_r, q_cut_l, q_cut_n, q_kd_ov, ov_f0, ov_f1, ov_f2, ov_f3, ov_f4, ov_f5, ov_f6, ov_f7, ov_f8, ov_f9, ov_f10, ov_f11, ov_f12, ov_f13, ov_f14, ov_f15, ov_f16, ov_r, ov_w, ov_w1, ov_w2, ov_w4, ov_w5, ov_w6, ov_w7, ov_w9, ov_w11, ov_w13, ov_w16, up_s, up_k, up_j, up_up, q_psh_n, q_psh_s, bI_eq0, ite_not, ↓if_pos, ↓if_neg, ↓ite_bI_t, ↓ite_bI_f, uMustY hK hp, uNumY hK hp1]; exact fin)
      · rw [if_pos g2] at hx
        have fin : Rr (q_C (d + 3)) mX13_command (182, [some (qr m), some (qi B), some (qi c), none], [], ov m (up (up (up T 0 5 (a + 1)) 0 6 (a + 1)) 4 (B + 2) (-48)) M) x := by
          refine cErrD hK (rSc_4 (rSc_0 hA1.1 (by omega) (by omega) (by omega)) (by omega) (by omega) (by omega)) (by rw [up_k (by omega), up_s]) (by omega) ?_ ?_ ⟨hc0, hc1, hB⟩ hcr hx
          · rw [up_k (by omega), up_j (by omega)]; have := hA1.2.2.2.2.2.2.2.1; omega
          · rw [up_k (by omega), up_j (by omega)]; exact hA1.2.2.2.2.2.2.2.2.1
        constructor
        · intro hc
          simp (disch := first | assumption | exact RK0 hK | exact RK1a hK | exact RK2a hK | exact RK3a hK | exact RK4a hK | exact RK5a hK | exact RK6a hK | exact RK7a hK | exact RGl hR | exact RGh hR | exact bI_lo | exact bI_hi | exact bI_01 | (show (List.map q_wd _).sum ≤ 8; with_unfolding_all exact Nat.le_of_ble_eq_true rfl) | (refine RK1c hK ?_; omega) | (refine RK2c hK ?_; omega) | (refine RK3c hK ?_; omega) | (refine RK4c hK ?_; omega) | (refine RK5c hK ?_; omega) | (refine RK6c hK ?_; omega) | (refine RK7c hK ?_; omega) | omega) only [kX13_command_119, kX13_command_120, kX13_command_122E, kX13_command_125, kX13_command_126, kX13_command_129, kX13_command_130, kX13_command_131, kX13_command_132, kX13_command_133E, kX13_command_136, kX13_command_137, q_cut_i, q_cut_r, q_cut_l, q_cut_n, q_kd_ov, ov_f0, ov_f1, ov_f2, ov_f3, ov_f4, ov_f5, ov_f6, ov_f7, ov_f8, ov_f9, ov_f10, ov_f11, ov_f12, ov_f13, ov_f14, ov_f15, ov_f16, ov_r, ov_w, ov_w1, ov_w2, ov_w4, ov_w5, ov_w6, ov_w7, ov_w9, ov_w11, ov_w13, ov_w16, up_s, up_k, up_j, up_up, q_psh_n, q_psh_s, bI_eq0, ite_not, ↓if_pos, ↓if_neg, ↓ite_bI_t, ↓ite_bI_f, uMustY hK hp, uNumN hK hp1]
          exact fin
        · intro hc
          have g' : c = 109 ∨ c = 103 := by omega
          rcases g' with rfl | rfl <;> (simp (disch := first | assumption | exact RK0 hK | exact RK1a hK | exact RK2a hK | exact RK3a hK | exact RK4a hK | exact RK5a hK | exact RK6a hK | exact RK7a hK | exact RGl hR | exact RGh hR | exact bI_lo | exact bI_hi | exact bI_01 | (show (List.map q_wd _).sum ≤ 8; with_unfolding_all exact Nat.le_of_ble_eq_true rfl) | (refine RK1c hK ?_; omega) | (refine RK2c hK ?_; omega) | (refine RK3c hK ?_; omega) | (refine RK4c hK ?_; omega) | (refine RK5c hK ?_; omega) | (refine RK6c hK ?_; omega) | (refine RK7c hK ?_; omega) | omega) only [kX13_command_152, kX13_command_153, kX13_command_155, kX13_command_158, kX13_command_159, kX13_command_161, kX13_command_164, kX13_command_165, kX13_command_167E, kX13_command_170, kX13_command_171, kX13_command_174, kX13_command_175, kX13_command_176, kX13_command_177, kX13_command_178E, kX13_command_181, q_cut_i, q_cut_r, q_cut_l, q_cut_n, q_kd_ov, ov_f0, ov_f1, ov_f2, ov_f3, ov_f4, ov_f5, ov_f6, ov_f7, ov_f8, ov_f9, ov_f10, ov_f11, ov_f12, ov_f13, ov_f14, ov_f15, ov_f16, ov_r, ov_w, ov_w1, ov_w2, ov_w4, ov_w5, ov_w6, ov_w7, ov_w9, ov_w11, ov_w13, ov_w16, up_s, up_k, up_j, up_up, q_psh_n, q_psh_s, bI_eq0, ite_not, ↓if_pos, ↓if_neg, ↓ite_bI_t, ↓ite_bI_f, uMustY hK hp, uNumN hK hp1]; exact fin)
    · rw [if_pos g1] at hx
      have hs1 : rSc B S (up T 0 6 a) := rSc_0 hs (by omega) (by omega) (by omega)
      have e6 : up T 0 6 a 0 6 = a := up_s
      have hF := fun z : QP => tX13_numberF (d := d) (x := z) hK hs1.2.2.2.2.2.2 (by rw [e6]; exact h0)
      have fin : Rr (q_C (d + 3)) mX13_command (182, [some (qr m), some (qi B), some (qi c), none], [], ov m (up (up T 0 6 a) 4 (B + 2) (-48)) M) x := by
        refine cErrD hK (rSc_4 hs1 (by omega) (by omega) (by omega)) (by rw [up_k (by omega), e6]) h0 ?_ ?_ ⟨hc0, hc1, hB⟩ hcr hx
        · rw [up_k (by omega), up_j (by omega)]; omega
        · rw [up_k (by omega), up_j (by omega), h11]
      constructor
      · intro hc
        simp (disch := first | assumption | exact RK0 hK | exact RK1a hK | exact RK2a hK | exact RK3a hK | exact RK4a hK | exact RK5a hK | exact RK6a hK | exact RK7a hK | exact RGl hR | exact RGh hR | exact bI_lo | exact bI_hi | exact bI_01 | (show (List.map q_wd _).sum ≤ 8; with_unfolding_all exact Nat.le_of_ble_eq_true rfl) | (refine RK1c hK ?_; omega) | (refine RK2c hK ?_; omega) | (refine RK3c hK ?_; omega) | (refine RK4c hK ?_; omega) | (refine RK5c hK ?_; omega) | (refine RK6c hK ?_; omega) | (refine RK7c hK ?_; omega) | omega) only [kX13_command_119, kX13_command_120, kX13_command_122E, kX13_command_125, kX13_command_126, kX13_command_129, kX13_command_130, kX13_command_131, kX13_command_132, kX13_command_133E, kX13_command_136, kX13_command_137, q_cut_i, q_cut_r, q_cut_l, q_cut_n, q_kd_ov, ov_f0, ov_f1, ov_f2, ov_f3, ov_f4, ov_f5, ov_f6, ov_f7, ov_f8, ov_f9, ov_f10, ov_f11, ov_f12, ov_f13, ov_f14, ov_f15, ov_f16, ov_r, ov_w, ov_w1, ov_w2, ov_w4, ov_w5, ov_w6, ov_w7, ov_w9, ov_w11, ov_w13, ov_w16, up_s, up_k, up_j, up_up, q_psh_n, q_psh_s, bI_eq0, ite_not, ↓if_pos, ↓if_neg, ↓ite_bI_t, ↓ite_bI_f, uMustN hK hp, hF]
        exact fin
      · intro hc
        have g' : c = 109 ∨ c = 103 := by omega
        rcases g' with rfl | rfl <;> (simp (disch := first | assumption | exact RK0 hK | exact RK1a hK | exact RK2a hK | exact RK3a hK | exact RK4a hK | exact RK5a hK | exact RK6a hK | exact RK7a hK | exact RGl hR | exact RGh hR | exact bI_lo | exact bI_hi | exact bI_01 | (show (List.map q_wd _).sum ≤ 8; with_unfolding_all exact Nat.le_of_ble_eq_true rfl) | (refine RK1c hK ?_; omega) | (refine RK2c hK ?_; omega) | (refine RK3c hK ?_; omega) | (refine RK4c hK ?_; omega) | (refine RK5c hK ?_; omega) | (refine RK6c hK ?_; omega) | (refine RK7c hK ?_; omega) | omega) only [kX13_command_152, kX13_command_153, kX13_command_155, kX13_command_158, kX13_command_159, kX13_command_161, kX13_command_164, kX13_command_165, kX13_command_167E, kX13_command_170, kX13_command_171, kX13_command_174, kX13_command_175, kX13_command_176, kX13_command_177, kX13_command_178E, kX13_command_181, q_cut_i, q_cut_r, q_cut_l, q_cut_n, q_kd_ov, ov_f0, ov_f1, ov_f2, ov_f3, ov_f4, ov_f5, ov_f6, ov_f7, ov_f8, ov_f9, ov_f10, ov_f11, ov_f12, ov_f13, ov_f14, ov_f15, ov_f16, ov_r, ov_w, ov_w1, ov_w2, ov_w4, ov_w5, ov_w6, ov_w7, ov_w9, ov_w11, ov_w13, ov_w16, up_s, up_k, up_j, up_up, q_psh_n, q_psh_s, bI_eq0, ite_not, ↓if_pos, ↓if_neg, ↓ite_bI_t, ↓ite_bI_f, uMustN hK hp, hF]; exact fin)
  · rw [if_neg g] at hx
    refine ⟨fun hc => absurd (Or.inl hc) g, fun hc => ?_⟩
    simp (disch := first | assumption | exact RK0 hK | exact RK1a hK | exact RK2a hK | exact RK3a hK | exact RK4a hK | exact RK5a hK | exact RK6a hK | exact RK7a hK | exact RGl hR | exact RGh hR | exact bI_lo | exact bI_hi | exact bI_01 | (show (List.map q_wd _).sum ≤ 8; with_unfolding_all exact Nat.le_of_ble_eq_true rfl) | (refine RK1c hK ?_; omega) | (refine RK2c hK ?_; omega) | (refine RK3c hK ?_; omega) | (refine RK4c hK ?_; omega) | (refine RK5c hK ?_; omega) | (refine RK6c hK ?_; omega) | (refine RK7c hK ?_; omega) | omega) only [kX13_command_152, kX13_command_153, kX13_command_155, kX13_command_158, kX13_command_159, kX13_command_161, kX13_command_164, kX13_command_165, kX13_command_167E, kX13_command_170, kX13_command_171, kX13_command_174, kX13_command_175, kX13_command_176, kX13_command_177, kX13_command_178E, kX13_command_181, q_cut_i, q_cut_r, q_cut_l, q_cut_n, q_kd_ov, ov_f0, ov_f1, ov_f2, ov_f3, ov_f4, ov_f5, ov_f6, ov_f7, ov_f8, ov_f9, ov_f10, ov_f11, ov_f12, ov_f13, ov_f14, ov_f15, ov_f16, ov_r, ov_w, ov_w1, ov_w2, ov_w4, ov_w5, ov_w6, ov_w7, ov_w9, ov_w11, ov_w13, ov_w16, up_s, up_k, up_j, up_up, q_psh_n, q_psh_s, bI_eq0, ite_not, ↓if_pos, ↓if_neg, ↓ite_bI_t, ↓ite_bI_f]
    exact cmdD hK hA0 q0 q1 q2 hcr hx
