/-! the reference's methods: distances, what is found -/
def dNx (r : Nat → Int) (c : Int) (b : Nat → Int) (i : Int) : Nat → Int
  | 0 => i
  | j + 1 => min (min (r j + (if c = b j then 0 else 1)) (r (j + 1) + 1)) (dNx r c b i j + 1)
def dRow (a b : Nat → Int) : Nat → Nat → Int
  | 0 => fun j => j
  | i + 1 => dNx (dRow a b i) (a i) b (i + 1)
theorem dRow_b (a b : Nat → Int) : ∀ (i j : Nat), 0 ≤ dRow a b i j ∧ dRow a b i j ≤ i + j := by
  intro i
  induction i with
  | zero => intro j; simp [dRow]
  | succ i ih =>
    intro j
    induction j with
    | zero => simp [dRow, dNx]; omega
    | succ j ihj =>
      have h1 := ih j
      have h2 := ih (j + 1)
      simp only [dRow] at ihj ⊢
      rw [dNx]
      split <;> omega
/-- only the row of distances changes -/
def rR6 (S : RS) (f : Int → Int) : RS := fun k j => if k = 6 then f j else S k j
theorem rR6_k {S : RS} {f : Int → Int} {k : Nat} (h : k ≠ 6) : rR6 S f k = S k := by
  funext j
  exact if_neg h
theorem rR6_6 {S : RS} {f : Int → Int} {j : Int} : rR6 S f 6 j = f j := if_pos rfl
theorem rR6_u {S : RS} {f : Int → Int} {j v : Int} : up (rR6 S f) 6 j v = rR6 S (fun i => if i = j then v else f i) := by
  funext k i
  unfold up rR6
  by_cases h : k = 6
  · subst h
    simp
  · simp [h]
theorem RG_rR6 {S : RS} (hR : RG S) {f : Int → Int} (hf : ∀ j, -2147483648 ≤ f j ∧ f j < 2147483648) : RG (rR6 S f) := by
  intro k j
  unfold rR6
  split
  · exact hf j
  · exact hR k j
theorem rR6_s {S : RS} : rR6 S (S 6) = S := by
  funext k j
  unfold rR6
  split
  · rename_i h; rw [h]
  · rfl
abbrev q_FR (f : Int → Int) : Prop := ∀ j, -2147483648 ≤ f j ∧ f j < 2147483648
def rDs (S : RS) (nm : Int) (c : Nat) : Int := dRow (fun i : Nat => S 3 (i : Int)) (fun j : Nat => S 1 (nm + 3 + (j : Int))) c (S 1 (nm + 2)).toNat
set_option maxHeartbeats 4000000 in
theorem tX13_distance {d m : Nat} {S : RS} {M : QM} (hK : RK m M) (hR : RG S) {nm : Int} {n c : Nat} (h1 : 0 ≤ nm ∧ nm < 20000) (hn : S 1 (nm + 2) = n) (hn2 : n ≤ 8) (hc : S 0 9 = c) (hc2 : c ≤ 8) : ∃ f, q_FR f ∧ q_C (d + 1) iX13_distance [qr m, qi nm] (ov m S M) (some (qi (rDs S nm c))) (ov m (rR6 S f) M) := by
  obtain ⟨a, ha⟩ : ∃ a : Nat → Int, a = fun i : Nat => S 3 (i : Int) := ⟨_, rfl⟩
  obtain ⟨b, hb⟩ : ∃ b : Nat → Int, b = fun j : Nat => S 1 (nm + 3 + (j : Int)) := ⟨_, rfl⟩
  have eD : rDs S nm c = dRow a b c n := by unfold rDs; rw [hn, ha, hb]; rfl
  rw [eD]
  have eb : ∀ j : Nat, S 1 (nm + 2 + ((j + 1 : Nat) : Int)) = b j := fun j => by rw [hb]; show _ = S 1 (nm + 3 + j); congr 1; omega
  -- the inner loop
  have inner : ∀ (i : Nat), i < c → ∀ (n1 j : Nat), j + n1 = n → ∀ (f : Int → Int), q_FR f → (∀ t : Nat, t ≤ j → f t = dRow a b (i + 1) t) → (∀ t : Nat, j < t → t ≤ n → f t = dRow a b i t) → ∀ (P : QP) (l6 : Option CV),
      (∀ f', q_FR f' → (∀ t : Nat, t ≤ n → f' t = dRow a b (i + 1) t) → ∀ l4 l5 l6, Rr (q_C d) mX13_distance (179, [some (qr m), some (qi nm), some (qi n), some (qi ((i : Int) + 1)), l4, l5, l6], [], ov m (rR6 S f') M) P) →
      Rr (q_C d) mX13_distance (57, [some (qr m), some (qi nm), some (qi n), some (qi ((i : Int) + 1)), some (qi (dRow a b i j)), some (qi ((j : Int) + 1)), l6], [], ov m (rR6 S f) M) P := by
    intro i hi n1
    induction n1 with
    | zero =>
      intro j hj f hf h1 h2 P l6 hP
      have e : j = n := by omega
      subst e
      rw [kX13_distance_57]
      simp (disch := first | assumption | exact RK0 hK | exact RK1a hK | exact RK2a hK | exact RK3a hK | exact RK4a hK | exact RK5a hK | exact RK6a hK | exact RK7a hK | exact RGl hR | exact RGh hR | exact bI_lo | exact bI_hi | exact bI_01 | (show (List.map q_wd _).sum ≤ 8; with_unfolding_all exact Nat.le_of_ble_eq_true rfl) | (refine RK1c hK ?_; omega) | (refine RK2c hK ?_; omega) | (refine RK3c hK ?_; omega) | (refine RK4c hK ?_; omega) | (refine RK5c hK ?_; omega) | (refine RK6c hK ?_; omega) | (refine RK7c hK ?_; omega) | omega) only [kX13_distance_59, kX13_distance_60, q_cut_i, q_cut_r, q_cut_l, q_cut_n, q_kd_ov, ov_f0, ov_f1, ov_f2, ov_f3, ov_f4, ov_f5, ov_f6, ov_f7, ov_f8, ov_f9, ov_f10, ov_f11, ov_f12, ov_f13, ov_f14, ov_f15, ov_f16, ov_r, ov_w, ov_w1, ov_w2, ov_w4, ov_w5, ov_w6, ov_w7, ov_w9, ov_w11, ov_w13, ov_w16, up_s, up_k, up_j, up_up, q_psh_n, q_psh_s, bI_eq0, ite_not, ↓if_pos, ↓if_neg, ↓ite_bI_t, ↓ite_bI_f]
      exact hP f hf h1 _ _ _
    | succ n1 ih =>
      intro j hj f hf g1 g2 P l6 hP
      have R6 := RG_rR6 hR hf
      have k3 : rR6 S f 3 = S 3 := rR6_k (by omega)
      have k1 : rR6 S f 1 = S 1 := rR6_k (by omega)
      have o1 := dRow_b a b i j
      have o2 := dRow_b a b i (j + 1)
      have o3 := dRow_b a b (i + 1) j
      have f1 : f ((j : Int) + 1) = dRow a b i (j + 1) := g2 (j + 1) (by omega) (by omega)
      have f0 : f (j : Int) = dRow a b (i + 1) j := g1 j (Nat.le_refl j)
      have eb' : S 1 (nm + 2 + ((j : Int) + 1)) = b j := eb j
      have ea : S 3 ((i : Int) + 1 - 1) = a i := by rw [ha]; show _ = S 3 i; congr 1; omega
      have hbr := hR 1 (nm + 2 + ((j : Int) + 1))
      have har := hR 3 ((i : Int) + 1 - 1)
      rw [eb'] at hbr
      rw [ea] at har
      have ej : (j : Int) + 1 - 1 = j := by omega
      have step : ∀ l6', Rr (q_C d) mX13_distance (57, [some (qr m), some (qi nm), some (qi n), some (qi ((i : Int) + 1)), some (qi (dRow a b i (j + 1))), some (qi ((j : Int) + 1 + 1)), l6'], [], ov m (rR6 S (fun t => if t = (j : Int) + 1 then dRow a b (i + 1) (j + 1) else f t)) M) P := by
        intro l6'
        refine ih (j + 1) (by omega) _ ?_ ?_ ?_ P l6' hP
        · intro t
          have := dRow_b a b (i + 1) (j + 1)
          (try dsimp only)
          split
          · omega
          · exact hf t
        · intro t ht
          (try dsimp only)
          by_cases e : (t : Int) = (j : Int) + 1
          · rw [if_pos e, show t = j + 1 by omega]
          · rw [if_neg e]; exact g1 t (by omega)
        · intro t ht ht2
          (try dsimp only)
          rw [if_neg (by omega)]
          exact g2 t (by omega) ht2
      have eN : dRow a b (i + 1) (j + 1) = min (min (dRow a b i j + (if a i = b j then 0 else 1)) (dRow a b i (j + 1) + 1)) (dRow a b (i + 1) j + 1) := rfl
      rw [eN] at step
      rw [kX13_distance_57]
      simp (disch := first | assumption | exact RK0 hK | exact RK1a hK | exact RK2a hK | exact RK3a hK | exact RK4a hK | exact RK5a hK | exact RK6a hK | exact RK7a hK | exact RGl hR | exact RGh hR | exact bI_lo | exact bI_hi | exact bI_01 | (show (List.map q_wd _).sum ≤ 8; with_unfolding_all exact Nat.le_of_ble_eq_true rfl) | (refine RK1c hK ?_; omega) | (refine RK2c hK ?_; omega) | (refine RK3c hK ?_; omega) | (refine RK4c hK ?_; omega) | (refine RK5c hK ?_; omega) | (refine RK6c hK ?_; omega) | (refine RK7c hK ?_; omega) | omega) only [kX13_distance_59, kX13_distance_60, kX13_distance_63, kX13_distance_65, kX13_distance_66, kX13_distance_69, kX13_distance_70, kX13_distance_71, kX13_distance_72, kX13_distance_73, kX13_distance_74, kX13_distance_77, kX13_distance_78, kX13_distance_79, kX13_distance_80, kX13_distance_82, kX13_distance_83, q_cut_i, q_cut_r, q_cut_l, q_cut_n, q_kd_ov, ov_f0, ov_f1, ov_f2, ov_f3, ov_f4, ov_f5, ov_f6, ov_f7, ov_f8, ov_f9, ov_f10, ov_f11, ov_f12, ov_f13, ov_f14, ov_f15, ov_f16, ov_r, ov_w, ov_w1, ov_w2, ov_w4, ov_w5, ov_w6, ov_w7, ov_w9, ov_w11, ov_w13, ov_w16, up_s, up_k, up_j, up_up, q_psh_n, q_psh_s, bI_eq0, ite_not, ↓if_pos, ↓if_neg, ↓ite_bI_t, ↓ite_bI_f, k3, k1]
      rw [ea, eb']
      have cont : ∀ v : Int, v = dRow a b i j + (if a i = b j then 0 else 1) → Rr (q_C d) mX13_distance (93, [some (qr m), some (qi nm), some (qi n), some (qi ((i : Int) + 1)), some (qi (dRow a b i j)), some (qi ((j : Int) + 1)), l6], [qi v], ov m (rR6 S f) M) P := by
        intro v hv
        rw [← hv] at step
        have hv2 : 0 ≤ v ∧ v ≤ dRow a b i j + 1 := by rw [hv]; split <;> omega
        have t2 : ∀ w : Int, w = min v (dRow a b i (j + 1) + 1) → ∀ l4, Rr (q_C d) mX13_distance (132, [some (qr m), some (qi nm), some (qi n), some (qi ((i : Int) + 1)), some (qi (dRow a b i (j + 1))), some (qi ((j : Int) + 1)), l4], [qi w], ov m (rR6 S f) M) P := by
          intro w hw l4
          rw [← hw] at step
          by_cases g : dRow a b (i + 1) j + 1 < w
          · have em : min w (dRow a b (i + 1) j + 1) = dRow a b (i + 1) j + 1 := by omega
            rw [em] at step
            simp (disch := first | assumption | exact RK0 hK | exact RK1a hK | exact RK2a hK | exact RK3a hK | exact RK4a hK | exact RK5a hK | exact RK6a hK | exact RK7a hK | exact RGl hR | exact RGh hR | exact bI_lo | exact bI_hi | exact bI_01 | (show (List.map q_wd _).sum ≤ 8; with_unfolding_all exact Nat.le_of_ble_eq_true rfl) | (refine RK1c hK ?_; omega) | (refine RK2c hK ?_; omega) | (refine RK3c hK ?_; omega) | (refine RK4c hK ?_; omega) | (refine RK5c hK ?_; omega) | (refine RK6c hK ?_; omega) | (refine RK7c hK ?_; omega) | omega) only [kX13_distance_132, kX13_distance_134, kX13_distance_135, kX13_distance_138, kX13_distance_140, kX13_distance_141, kX13_distance_144, kX13_distance_146, kX13_distance_147, kX13_distance_148, kX13_distance_149, kX13_distance_150, kX13_distance_151, kX13_distance_153, kX13_distance_156, kX13_distance_157, kX13_distance_160, kX13_distance_162, kX13_distance_163, kX13_distance_164, kX13_distance_165, kX13_distance_166, kX13_distance_167, kX13_distance_170, kX13_distance_172, kX13_distance_173, kX13_distance_176, q_cut_i, q_cut_r, q_cut_l, q_cut_n, q_kd_ov, ov_f0, ov_f1, ov_f2, ov_f3, ov_f4, ov_f5, ov_f6, ov_f7, ov_f8, ov_f9, ov_f10, ov_f11, ov_f12, ov_f13, ov_f14, ov_f15, ov_f16, ov_r, ov_w, ov_w1, ov_w2, ov_w4, ov_w5, ov_w6, ov_w7, ov_w9, ov_w11, ov_w13, ov_w16, up_s, up_k, up_j, up_up, q_psh_n, q_psh_s, bI_eq0, ite_not, ↓if_pos, ↓if_neg, ↓ite_bI_t, ↓ite_bI_f, rR6_6, ej, f0, rR6_u]
            exact step _
          · have em : min w (dRow a b (i + 1) j + 1) = w := by omega
            rw [em] at step
            simp (disch := first | assumption | exact RK0 hK | exact RK1a hK | exact RK2a hK | exact RK3a hK | exact RK4a hK | exact RK5a hK | exact RK6a hK | exact RK7a hK | exact RGl hR | exact RGh hR | exact bI_lo | exact bI_hi | exact bI_01 | (show (List.map q_wd _).sum ≤ 8; with_unfolding_all exact Nat.le_of_ble_eq_true rfl) | (refine RK1c hK ?_; omega) | (refine RK2c hK ?_; omega) | (refine RK3c hK ?_; omega) | (refine RK4c hK ?_; omega) | (refine RK5c hK ?_; omega) | (refine RK6c hK ?_; omega) | (refine RK7c hK ?_; omega) | omega) only [kX13_distance_132, kX13_distance_134, kX13_distance_135, kX13_distance_138, kX13_distance_140, kX13_distance_141, kX13_distance_144, kX13_distance_146, kX13_distance_147, kX13_distance_148, kX13_distance_149, kX13_distance_150, kX13_distance_151, kX13_distance_153, kX13_distance_156, kX13_distance_157, kX13_distance_160, kX13_distance_162, kX13_distance_163, kX13_distance_164, kX13_distance_165, kX13_distance_166, kX13_distance_167, kX13_distance_170, kX13_distance_172, kX13_distance_173, kX13_distance_176, q_cut_i, q_cut_r, q_cut_l, q_cut_n, q_kd_ov, ov_f0, ov_f1, ov_f2, ov_f3, ov_f4, ov_f5, ov_f6, ov_f7, ov_f8, ov_f9, ov_f10, ov_f11, ov_f12, ov_f13, ov_f14, ov_f15, ov_f16, ov_r, ov_w, ov_w1, ov_w2, ov_w4, ov_w5, ov_w6, ov_w7, ov_w9, ov_w11, ov_w13, ov_w16, up_s, up_k, up_j, up_up, q_psh_n, q_psh_s, bI_eq0, ite_not, ↓if_pos, ↓if_neg, ↓ite_bI_t, ↓ite_bI_f, rR6_6, ej, f0, rR6_u]
            exact step _
        by_cases g : dRow a b i (j + 1) + 1 < v
        · simp (disch := first | assumption | exact RK0 hK | exact RK1a hK | exact RK2a hK | exact RK3a hK | exact RK4a hK | exact RK5a hK | exact RK6a hK | exact RK7a hK | exact RGl hR | exact RGh hR | exact bI_lo | exact bI_hi | exact bI_01 | (show (List.map q_wd _).sum ≤ 8; with_unfolding_all exact Nat.le_of_ble_eq_true rfl) | (refine RK1c hK ?_; omega) | (refine RK2c hK ?_; omega) | (refine RK3c hK ?_; omega) | (refine RK4c hK ?_; omega) | (refine RK5c hK ?_; omega) | (refine RK6c hK ?_; omega) | (refine RK7c hK ?_; omega) | omega) only [kX13_distance_93, kX13_distance_95, kX13_distance_96, kX13_distance_99, kX13_distance_101, kX13_distance_102, kX13_distance_104, kX13_distance_105, kX13_distance_108, kX13_distance_110, kX13_distance_111, kX13_distance_112, kX13_distance_113, kX13_distance_115, kX13_distance_118, kX13_distance_119, kX13_distance_122, kX13_distance_124, kX13_distance_125, kX13_distance_126, kX13_distance_127, kX13_distance_130, q_cut_i, q_cut_r, q_cut_l, q_cut_n, q_kd_ov, ov_f0, ov_f1, ov_f2, ov_f3, ov_f4, ov_f5, ov_f6, ov_f7, ov_f8, ov_f9, ov_f10, ov_f11, ov_f12, ov_f13, ov_f14, ov_f15, ov_f16, ov_r, ov_w, ov_w1, ov_w2, ov_w4, ov_w5, ov_w6, ov_w7, ov_w9, ov_w11, ov_w13, ov_w16, up_s, up_k, up_j, up_up, q_psh_n, q_psh_s, bI_eq0, ite_not, ↓if_pos, ↓if_neg, ↓ite_bI_t, ↓ite_bI_f, rR6_6, f1]
          exact t2 _ (by omega) _
        · simp (disch := first | assumption | exact RK0 hK | exact RK1a hK | exact RK2a hK | exact RK3a hK | exact RK4a hK | exact RK5a hK | exact RK6a hK | exact RK7a hK | exact RGl hR | exact RGh hR | exact bI_lo | exact bI_hi | exact bI_01 | (show (List.map q_wd _).sum ≤ 8; with_unfolding_all exact Nat.le_of_ble_eq_true rfl) | (refine RK1c hK ?_; omega) | (refine RK2c hK ?_; omega) | (refine RK3c hK ?_; omega) | (refine RK4c hK ?_; omega) | (refine RK5c hK ?_; omega) | (refine RK6c hK ?_; omega) | (refine RK7c hK ?_; omega) | omega) only [kX13_distance_93, kX13_distance_95, kX13_distance_96, kX13_distance_99, kX13_distance_101, kX13_distance_102, kX13_distance_104, kX13_distance_105, kX13_distance_108, kX13_distance_110, kX13_distance_111, kX13_distance_112, kX13_distance_113, kX13_distance_115, kX13_distance_118, kX13_distance_119, kX13_distance_122, kX13_distance_124, kX13_distance_125, kX13_distance_126, kX13_distance_127, kX13_distance_130, q_cut_i, q_cut_r, q_cut_l, q_cut_n, q_kd_ov, ov_f0, ov_f1, ov_f2, ov_f3, ov_f4, ov_f5, ov_f6, ov_f7, ov_f8, ov_f9, ov_f10, ov_f11, ov_f12, ov_f13, ov_f14, ov_f15, ov_f16, ov_r, ov_w, ov_w1, ov_w2, ov_w4, ov_w5, ov_w6, ov_w7, ov_w9, ov_w11, ov_w13, ov_w16, up_s, up_k, up_j, up_up, q_psh_n, q_psh_s, bI_eq0, ite_not, ↓if_pos, ↓if_neg, ↓ite_bI_t, ↓ite_bI_f, rR6_6, f1]
          exact t2 _ (by omega) _
      by_cases g : a i = b j
      · simp (disch := first | assumption | exact RK0 hK | exact RK1a hK | exact RK2a hK | exact RK3a hK | exact RK4a hK | exact RK5a hK | exact RK6a hK | exact RK7a hK | exact RGl hR | exact RGh hR | exact bI_lo | exact bI_hi | exact bI_01 | (show (List.map q_wd _).sum ≤ 8; with_unfolding_all exact Nat.le_of_ble_eq_true rfl) | (refine RK1c hK ?_; omega) | (refine RK2c hK ?_; omega) | (refine RK3c hK ?_; omega) | (refine RK4c hK ?_; omega) | (refine RK5c hK ?_; omega) | (refine RK6c hK ?_; omega) | (refine RK7c hK ?_; omega) | omega) only [kX13_distance_84, kX13_distance_87, kX13_distance_88, kX13_distance_91, kX13_distance_92, q_cut_i, q_cut_r, q_cut_l, q_cut_n, q_kd_ov, ov_f0, ov_f1, ov_f2, ov_f3, ov_f4, ov_f5, ov_f6, ov_f7, ov_f8, ov_f9, ov_f10, ov_f11, ov_f12, ov_f13, ov_f14, ov_f15, ov_f16, ov_r, ov_w, ov_w1, ov_w2, ov_w4, ov_w5, ov_w6, ov_w7, ov_w9, ov_w11, ov_w13, ov_w16, up_s, up_k, up_j, up_up, q_psh_n, q_psh_s, bI_eq0, ite_not, ↓if_pos, ↓if_neg, ↓ite_bI_t, ↓ite_bI_f]
        exact cont _ (by rw [if_pos g])
      · simp (disch := first | assumption | exact RK0 hK | exact RK1a hK | exact RK2a hK | exact RK3a hK | exact RK4a hK | exact RK5a hK | exact RK6a hK | exact RK7a hK | exact RGl hR | exact RGh hR | exact bI_lo | exact bI_hi | exact bI_01 | (show (List.map q_wd _).sum ≤ 8; with_unfolding_all exact Nat.le_of_ble_eq_true rfl) | (refine RK1c hK ?_; omega) | (refine RK2c hK ?_; omega) | (refine RK3c hK ?_; omega) | (refine RK4c hK ?_; omega) | (refine RK5c hK ?_; omega) | (refine RK6c hK ?_; omega) | (refine RK7c hK ?_; omega) | omega) only [kX13_distance_84, kX13_distance_87, kX13_distance_88, kX13_distance_91, kX13_distance_92, q_cut_i, q_cut_r, q_cut_l, q_cut_n, q_kd_ov, ov_f0, ov_f1, ov_f2, ov_f3, ov_f4, ov_f5, ov_f6, ov_f7, ov_f8, ov_f9, ov_f10, ov_f11, ov_f12, ov_f13, ov_f14, ov_f15, ov_f16, ov_r, ov_w, ov_w1, ov_w2, ov_w4, ov_w5, ov_w6, ov_w7, ov_w9, ov_w11, ov_w13, ov_w16, up_s, up_k, up_j, up_up, q_psh_n, q_psh_s, bI_eq0, ite_not, ↓if_pos, ↓if_neg, ↓ite_bI_t, ↓ite_bI_f]
        exact cont _ (by rw [if_neg g])
  -- the outer loop
  have outer : ∀ (n1 i : Nat), i + n1 = c → ∀ (f : Int → Int), q_FR f → (∀ t : Nat, t ≤ n → f t = dRow a b i t) → ∀ (P : QP) (l4 l5 l6 : Option CV), (∀ f', q_FR f' → P (some (qi (dRow a b c n))) (ov m (rR6 S f') M)) →
      Rr (q_C d) mX13_distance (31, [some (qr m), some (qi nm), some (qi n), some (qi ((i : Int) + 1)), l4, l5, l6], [], ov m (rR6 S f) M) P := by
    intro n1
    induction n1 with
    | zero =>
      intro i hi f hf g1 P l4 l5 l6 hP
      have e : i = c := by omega
      subst e
      have k0 : rR6 S f 0 = S 0 := rR6_k (by omega)
      have fn := g1 n (Nat.le_refl n)
      rw [kX13_distance_31]
      simp (disch := first | assumption | exact RK0 hK | exact RK1a hK | exact RK2a hK | exact RK3a hK | exact RK4a hK | exact RK5a hK | exact RK6a hK | exact RK7a hK | exact RGl hR | exact RGh hR | exact bI_lo | exact bI_hi | exact bI_01 | (show (List.map q_wd _).sum ≤ 8; with_unfolding_all exact Nat.le_of_ble_eq_true rfl) | (refine RK1c hK ?_; omega) | (refine RK2c hK ?_; omega) | (refine RK3c hK ?_; omega) | (refine RK4c hK ?_; omega) | (refine RK5c hK ?_; omega) | (refine RK6c hK ?_; omega) | (refine RK7c hK ?_; omega) | omega) only [kX13_distance_0, kX13_distance_1, kX13_distance_4, kX13_distance_5, kX13_distance_6, kX13_distance_7, kX13_distance_8, kX13_distance_9, kX13_distance_10, kX13_distance_11, kX13_distance_12, kX13_distance_13, kX13_distance_16, kX13_distance_17, kX13_distance_20, kX13_distance_21, kX13_distance_22, kX13_distance_23, kX13_distance_26, kX13_distance_29, kX13_distance_30, kX13_distance_32, kX13_distance_33, kX13_distance_36, kX13_distance_39, kX13_distance_40, kX13_distance_43, kX13_distance_44, kX13_distance_45, kX13_distance_47, kX13_distance_48, kX13_distance_51, kX13_distance_52, kX13_distance_53, kX13_distance_54, kX13_distance_55, kX13_distance_57, kX13_distance_59, kX13_distance_60, kX13_distance_63, kX13_distance_65, kX13_distance_66, kX13_distance_69, kX13_distance_70, kX13_distance_71, kX13_distance_72, kX13_distance_73, kX13_distance_74, kX13_distance_77, kX13_distance_78, kX13_distance_79, kX13_distance_80, kX13_distance_82, kX13_distance_83, kX13_distance_84, kX13_distance_87, kX13_distance_88, kX13_distance_91, kX13_distance_92, kX13_distance_93, kX13_distance_95, kX13_distance_96, kX13_distance_99, kX13_distance_101, kX13_distance_102, kX13_distance_104, kX13_distance_105, kX13_distance_108, kX13_distance_110, kX13_distance_111, kX13_distance_112, kX13_distance_113, kX13_distance_115, kX13_distance_118, kX13_distance_119, kX13_distance_122, kX13_distance_124, kX13_distance_125, kX13_distance_126, kX13_distance_127, kX13_distance_130, kX13_distance_132, kX13_distance_134, kX13_distance_135, kX13_distance_138, kX13_distance_140, kX13_distance_141, kX13_distance_144, kX13_distance_146, kX13_distance_147, kX13_distance_148, kX13_distance_149, kX13_distance_150, kX13_distance_151, kX13_distance_153, kX13_distance_156, kX13_distance_157, kX13_distance_160, kX13_distance_162, kX13_distance_163, kX13_distance_164, kX13_distance_165, kX13_distance_166, kX13_distance_167, kX13_distance_170, kX13_distance_172, kX13_distance_173, kX13_distance_176, kX13_distance_179, kX13_distance_182, kX13_distance_185, kX13_distance_186, kX13_distance_189, kX13_distance_190, kX13_distance_191, q_cut_i, q_cut_r, q_cut_l, q_cut_n, q_kd_ov, ov_f0, ov_f1, ov_f2, ov_f3, ov_f4, ov_f5, ov_f6, ov_f7, ov_f8, ov_f9, ov_f10, ov_f11, ov_f12, ov_f13, ov_f14, ov_f15, ov_f16, ov_r, ov_w, ov_w1, ov_w2, ov_w4, ov_w5, ov_w6, ov_w7, ov_w9, ov_w11, ov_w13, ov_w16, up_s, up_k, up_j, up_up, q_psh_n, q_psh_s, bI_eq0, ite_not, ↓if_pos, ↓if_neg, ↓ite_bI_t, ↓ite_bI_f, k0, hc, rR6_6, fn]
      exact hP f hf
    | succ n1 ih =>
      intro i hi f hf g1 P l4 l5 l6 hP
      have k0 : rR6 S f 0 = S 0 := rR6_k (by omega)
      have f0 : f 0 = dRow a b i 0 := g1 0 (by omega)
      rw [kX13_distance_31]
      simp (disch := first | assumption | exact RK0 hK | exact RK1a hK | exact RK2a hK | exact RK3a hK | exact RK4a hK | exact RK5a hK | exact RK6a hK | exact RK7a hK | exact RGl hR | exact RGh hR | exact bI_lo | exact bI_hi | exact bI_01 | (show (List.map q_wd _).sum ≤ 8; with_unfolding_all exact Nat.le_of_ble_eq_true rfl) | (refine RK1c hK ?_; omega) | (refine RK2c hK ?_; omega) | (refine RK3c hK ?_; omega) | (refine RK4c hK ?_; omega) | (refine RK5c hK ?_; omega) | (refine RK6c hK ?_; omega) | (refine RK7c hK ?_; omega) | omega) only [kX13_distance_32, kX13_distance_33, kX13_distance_36, kX13_distance_39, kX13_distance_40, kX13_distance_43, kX13_distance_44, kX13_distance_45, kX13_distance_47, kX13_distance_48, kX13_distance_51, kX13_distance_52, kX13_distance_53, kX13_distance_54, kX13_distance_55, q_cut_i, q_cut_r, q_cut_l, q_cut_n, q_kd_ov, ov_f0, ov_f1, ov_f2, ov_f3, ov_f4, ov_f5, ov_f6, ov_f7, ov_f8, ov_f9, ov_f10, ov_f11, ov_f12, ov_f13, ov_f14, ov_f15, ov_f16, ov_r, ov_w, ov_w1, ov_w2, ov_w4, ov_w5, ov_w6, ov_w7, ov_w9, ov_w11, ov_w13, ov_w16, up_s, up_k, up_j, up_up, q_psh_n, q_psh_s, bI_eq0, ite_not, ↓if_pos, ↓if_neg, ↓ite_bI_t, ↓ite_bI_f, k0, hc, rR6_6, rR6_u, f0]
      refine inner i (by omega) n 0 (by omega) _ ?_ ?_ ?_ P l6 ?_
      · intro t
        (try dsimp only)
        split
        · omega
        · exact hf t
      · intro t ht
        have : t = 0 := by omega
        subst this
        show (if ((0 : Nat) : Int) = 0 then (i : Int) + 1 else _) = _
        rw [if_pos (by omega)]
        rfl
      · intro t ht ht2
        (try dsimp only)
        rw [if_neg (by omega)]
        exact g1 t ht2
      · intro f' hf' g' l4 l5 l6
        have k0' : rR6 S f' 0 = S 0 := rR6_k (by omega)
        simp (disch := first | assumption | exact RK0 hK | exact RK1a hK | exact RK2a hK | exact RK3a hK | exact RK4a hK | exact RK5a hK | exact RK6a hK | exact RK7a hK | exact RGl hR | exact RGh hR | exact bI_lo | exact bI_hi | exact bI_01 | (show (List.map q_wd _).sum ≤ 8; with_unfolding_all exact Nat.le_of_ble_eq_true rfl) | (refine RK1c hK ?_; omega) | (refine RK2c hK ?_; omega) | (refine RK3c hK ?_; omega) | (refine RK4c hK ?_; omega) | (refine RK5c hK ?_; omega) | (refine RK6c hK ?_; omega) | (refine RK7c hK ?_; omega) | omega) only [kX13_distance_179, kX13_distance_182, q_cut_i, q_cut_r, q_cut_l, q_cut_n, q_kd_ov, ov_f0, ov_f1, ov_f2, ov_f3, ov_f4, ov_f5, ov_f6, ov_f7, ov_f8, ov_f9, ov_f10, ov_f11, ov_f12, ov_f13, ov_f14, ov_f15, ov_f16, ov_r, ov_w, ov_w1, ov_w2, ov_w4, ov_w5, ov_w6, ov_w7, ov_w9, ov_w11, ov_w13, ov_w16, up_s, up_k, up_j, up_up, q_psh_n, q_psh_s, bI_eq0, ite_not, ↓if_pos, ↓if_neg, ↓ite_bI_t, ↓ite_bI_f]
        exact ih (i + 1) (by omega) f' hf' g' P _ _ _ hP
  -- the first row
  have first : ∀ (n1 j : Nat), j + n1 = n + 1 → ∀ (f : Int → Int), q_FR f → (∀ t : Nat, t < j → f t = t) → ∀ (P : QP), (∀ f', q_FR f' → P (some (qi (dRow a b c n))) (ov m (rR6 S f') M)) →
      Rr (q_C d) mX13_distance (11, [some (qr m), some (qi nm), some (qi n), some (qi j), none, none, none], [], ov m (rR6 S f) M) P := by
    intro n1
    induction n1 with
    | zero =>
      intro j hj f hf g1 P hP
      rw [kX13_distance_11]
      simp (disch := first | assumption | exact RK0 hK | exact RK1a hK | exact RK2a hK | exact RK3a hK | exact RK4a hK | exact RK5a hK | exact RK6a hK | exact RK7a hK | exact RGl hR | exact RGh hR | exact bI_lo | exact bI_hi | exact bI_01 | (show (List.map q_wd _).sum ≤ 8; with_unfolding_all exact Nat.le_of_ble_eq_true rfl) | (refine RK1c hK ?_; omega) | (refine RK2c hK ?_; omega) | (refine RK3c hK ?_; omega) | (refine RK4c hK ?_; omega) | (refine RK5c hK ?_; omega) | (refine RK6c hK ?_; omega) | (refine RK7c hK ?_; omega) | omega) only [kX13_distance_12, kX13_distance_13, kX13_distance_16, kX13_distance_17, kX13_distance_20, kX13_distance_21, kX13_distance_22, kX13_distance_23, kX13_distance_26, kX13_distance_29, kX13_distance_30, q_cut_i, q_cut_r, q_cut_l, q_cut_n, q_kd_ov, ov_f0, ov_f1, ov_f2, ov_f3, ov_f4, ov_f5, ov_f6, ov_f7, ov_f8, ov_f9, ov_f10, ov_f11, ov_f12, ov_f13, ov_f14, ov_f15, ov_f16, ov_r, ov_w, ov_w1, ov_w2, ov_w4, ov_w5, ov_w6, ov_w7, ov_w9, ov_w11, ov_w13, ov_w16, up_s, up_k, up_j, up_up, q_psh_n, q_psh_s, bI_eq0, ite_not, ↓if_pos, ↓if_neg, ↓ite_bI_t, ↓ite_bI_f]
      have l0 := outer c 0 (by omega) f hf (fun t ht => g1 t (by omega)) P none none none hP
      exact l0
    | succ n1 ih =>
      intro j hj f hf g1 P hP
      rw [kX13_distance_11]
      simp (disch := first | assumption | exact RK0 hK | exact RK1a hK | exact RK2a hK | exact RK3a hK | exact RK4a hK | exact RK5a hK | exact RK6a hK | exact RK7a hK | exact RGl hR | exact RGh hR | exact bI_lo | exact bI_hi | exact bI_01 | (show (List.map q_wd _).sum ≤ 8; with_unfolding_all exact Nat.le_of_ble_eq_true rfl) | (refine RK1c hK ?_; omega) | (refine RK2c hK ?_; omega) | (refine RK3c hK ?_; omega) | (refine RK4c hK ?_; omega) | (refine RK5c hK ?_; omega) | (refine RK6c hK ?_; omega) | (refine RK7c hK ?_; omega) | omega) only [kX13_distance_12, kX13_distance_13, kX13_distance_16, kX13_distance_17, kX13_distance_20, kX13_distance_21, kX13_distance_22, kX13_distance_23, kX13_distance_26, q_cut_i, q_cut_r, q_cut_l, q_cut_n, q_kd_ov, ov_f0, ov_f1, ov_f2, ov_f3, ov_f4, ov_f5, ov_f6, ov_f7, ov_f8, ov_f9, ov_f10, ov_f11, ov_f12, ov_f13, ov_f14, ov_f15, ov_f16, ov_r, ov_w, ov_w1, ov_w2, ov_w4, ov_w5, ov_w6, ov_w7, ov_w9, ov_w11, ov_w13, ov_w16, up_s, up_k, up_j, up_up, q_psh_n, q_psh_s, bI_eq0, ite_not, ↓if_pos, ↓if_neg, ↓ite_bI_t, ↓ite_bI_f, rR6_u]
      refine ih (j + 1) (by omega) _ ?_ ?_ P hP
      · intro t
        (try dsimp only)
        split
        · omega
        · exact hf t
      · intro t ht
        (try dsimp only)
        by_cases e : (t : Int) = j
        · rw [if_pos e, e]
        · rw [if_neg e]; exact g1 t (by omega)
  have hT : ∀ P : QP, (∀ f', q_FR f' → P (some (qi (dRow a b c n))) (ov m (rR6 S f') M)) → q_T (d + 1) iX13_distance [qr m, qi nm] (ov m S M) P := by
    intro P hP
    rw [eX13_distance]
    simp (disch := first | assumption | exact RK0 hK | exact RK1a hK | exact RK2a hK | exact RK3a hK | exact RK4a hK | exact RK5a hK | exact RK6a hK | exact RK7a hK | exact RGl hR | exact RGh hR | exact bI_lo | exact bI_hi | exact bI_01 | (show (List.map q_wd _).sum ≤ 8; with_unfolding_all exact Nat.le_of_ble_eq_true rfl) | (refine RK1c hK ?_; omega) | (refine RK2c hK ?_; omega) | (refine RK3c hK ?_; omega) | (refine RK4c hK ?_; omega) | (refine RK5c hK ?_; omega) | (refine RK6c hK ?_; omega) | (refine RK7c hK ?_; omega) | omega) only [kX13_distance_0, kX13_distance_1, kX13_distance_4, kX13_distance_5, kX13_distance_6, kX13_distance_7, kX13_distance_8, kX13_distance_9, kX13_distance_10, q_cut_i, q_cut_r, q_cut_l, q_cut_n, q_kd_ov, ov_f0, ov_f1, ov_f2, ov_f3, ov_f4, ov_f5, ov_f6, ov_f7, ov_f8, ov_f9, ov_f10, ov_f11, ov_f12, ov_f13, ov_f14, ov_f15, ov_f16, ov_r, ov_w, ov_w1, ov_w2, ov_w4, ov_w5, ov_w6, ov_w7, ov_w9, ov_w11, ov_w13, ov_w16, up_s, up_k, up_j, up_up, q_psh_n, q_psh_s, bI_eq0, ite_not, ↓if_pos, ↓if_neg, ↓ite_bI_t, ↓ite_bI_f, hn]
    have l0 := first (n + 1) 0 (by omega) (S 6) (fun j => hR 6 j) (fun t ht => by omega) P hP
    rw [rR6_s] at l0
    exact l0
  obtain ⟨r, M1, e1, f, hf, rfl, rfl⟩ := hT (fun r M1 => ∃ f, q_FR f ∧ r = some (qi (dRow a b c n)) ∧ M1 = ov m (rR6 S f) M) (fun f' hf' => ⟨f', hf', rfl, rfl⟩)
  exact ⟨f, hf, e1⟩
