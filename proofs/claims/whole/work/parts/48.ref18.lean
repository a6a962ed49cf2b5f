/-! the reference's methods: a command done; the calls that change -/
def RB (S : RS) (n N NP : Nat) : Prop :=
  S 1 0 = n ∧ n ≤ 20 ∧ S 1 1 = N ∧ S 1 2 = NP ∧ (∀ q : Int, 0 ≤ q → q < 20 → 0 ≤ S 1 (15 + 78 * q + 5) ∧ S 1 (15 + 78 * q + 5) ≤ 100000) ∧
  (∀ k : Nat, k < NP → -1000000 ≤ S 1 (9275 + 3 * (k : Int) + 1) ∧ S 1 (9275 + 3 * (k : Int) + 1) ≤ 1000000) ∧ (∀ q : Nat, q < 20 → -1000000 ≤ S 1 (15 + 78 * (q : Int) + 1) ∧ S 1 (15 + 78 * (q : Int) + 1) ≤ 1000000) ∧
  (∀ q : Int, 0 ≤ q → q < n → 0 ≤ S 1 (15 + 78 * q + 0) ∧ S 1 (15 + 78 * q + 0) ≤ 1000000) ∧ (∀ p y : Int, -1000000 ≤ rPar (S 1) p y NP ∧ rPar (S 1) p y NP ≤ 1000000) ∧
  (∀ p y : Int, rNoE S p y = 0 → 0 < S 1 (15 + 78 * p + 0) → 0 ≤ rPar (S 1) p y NP ∧ rPar (S 1) p y NP < 20) ∧ (∀ q : Int, 0 ≤ q → q < n → 0 ≤ S 1 (15 + 78 * q + 4))
theorem rNoE_c {S T : RS} {p y : Int} (h : T 1 = S 1) : rNoE T p y = rNoE S p y := by unfold rNoE; rw [h]
theorem RB_c {S T : RS} {n N NP : Nat} (h : T 1 = S 1) (hb : RB S n N NP) : RB T n N NP := by
  unfold RB at hb ⊢
  rw [h]
  simp only [rNoE_c h]
  exact hb
def rNo (S : RS) (cc a b y : Int) (NP n : Nat) : Int := if cc = 102 then rNoF S a b y else if cc = 114 then rNoE S a y else if cc = 109 then rNoM S a b y else if cc = 115 then rNoS S a y NP else if cc = 103 then rNoG S a b y else rNoC S a y NP n
def rOp (S : RS) (cc a b y : Int) (NP n : Nat) : RS := if cc = 102 then rFou S a b y else if cc = 114 then rRen S a y else if cc = 109 then rMov S a b y else if cc = 115 then rSpl S a y NP else if cc = 103 then rMrg S a b y NP n else rClo S a y
def rAn (S : RS) (cc a b y : Int) (N NP n : Nat) : Int := if cc = 102 then n else if cc = 114 then S 1 (rNm (S 1) a y N + 2) else if cc = 109 then rPar (S 1) a y NP else if cc = 115 then n else if cc = 103 then (rMl (rM0 S a b y) a b y NP n).2 else y - S 1 (15 + 78 * a + 1)
theorem rNoF_0 {S : RS} {k par y : Int} (h : rNoF S k par y = 0) : (0 < k → 0 ≤ par ∧ par < S 1 0 ∧ S 1 (15 + 78 * par + 0) < k ∧ rCb S par y) ∧ 0 ≤ y ∧ y ≤ 9999 ∧ S 1 0 ≠ 20 := by
  unfold rNoF at h
  repeat' split at h
  all_goals omega
theorem rNoM_0 {S : RS} {p par y : Int} (h : rNoM S p par y = 0) : (0 ≤ p ∧ p < S 1 0) ∧ (0 ≤ par ∧ par < S 1 0) ∧ rNoE S p y = 0 ∧ S 1 (15 + 78 * par + 0) < S 1 (15 + 78 * p + 0) ∧ rCb S par y := by
  unfold rNoM at h
  have := rNoE_b S p y
  repeat' split at h
  all_goals omega
theorem rNoS_0 {S : RS} {p y : Int} {N : Nat} (h : rNoS S p y N = 0) : rNoE S p y = 0 ∧ (0 < S 1 (15 + 78 * p + 0) → rCb S (rPar (S 1) p y N) y) ∧ S 1 0 ≠ 20 := by
  unfold rNoS at h
  have := rNoE_b S p y
  repeat' split at h
  all_goals omega
theorem rNoG_0 {S : RS} {p par y : Int} (h : rNoG S p par y = 0) : (0 ≤ p ∧ p < S 1 0) ∧ (0 ≤ par ∧ par < S 1 0) ∧ p ≠ par ∧ rNoE S p y = 0 ∧ S 1 (15 + 78 * par + 0) = S 1 (15 + 78 * p + 0) ∧ rCb S par y := by
  unfold rNoG at h
  have := rNoE_b S p y
  repeat' split at h
  all_goals omega
theorem rNoC_0 {S : RS} {p y : Int} {N n : Nat} (h : rNoC S p y N n = 0) : rNoE S p y = 0 ∧ rAnyF S p y N n = false := by
  unfold rNoC at h
  have := rNoE_b S p y
  by_cases g : rNoE S p y = 0
  · rw [if_neg (by omega)] at h
    refine ⟨g, ?_⟩
    by_cases g2 : rAnyF S p y N n = true
    · rw [if_pos g2] at h; omega
    · simpa using g2
  · rw [if_pos g] at h; omega
theorem rNo_b {S : RS} {cc a b y : Int} {NP n : Nat} : 0 ≤ rNo S cc a b y NP n ∧ rNo S cc a b y NP n ≤ 9 := by
  have := rNoE_b S a y
  unfold rNo rNoF rNoM rNoS rNoG rNoC
  repeat' split
  all_goals omega
set_option maxHeartbeats 8000000 in
/-- the walk behind 'why not', one for each command: at its operation -/
theorem tX13_does {d m : Nat} {S : RS} {M : QM} {x : QP} (hK : RK m M) (hR : RG S) {B a b y cc : Int} {w n N NP : Nat} (hB : 0 ≤ B ∧ B < 1027) (hw : S 4 (B + 4) = w) (hw2 : w ≤ 8) (hb : RB S n N NP) (hN : N < 700) (hNP : NP < 700) (ea : S 4 (B + 1) = a) (eb : S 4 (B + 2) = b) (ey : S 4 (B + 3) = y) (ec : S 4 B = cc) (ra : 0 ≤ a ∧ a ≤ 9999) (rb : 0 ≤ b ∧ b ≤ 9999) (ry : 0 ≤ y ∧ y ≤ 9999) (rc : cc = 102 ∨ cc = 114 ∨ cc = 109 ∨ cc = 115 ∨ cc = 103 ∨ cc = 99) (hk : cc = 102 → a ≤ 3) :
    q_T (d + 6) iX13_does [qr m, qi B] (ov m S M) x = x (some (qi (rNo (rDw S B) cc a b y NP n))) (ov m (if rNo (rDw S B) cc a b y NP n = 0 then rOp (rDw S B) cc a b y NP n else rDw S B) M) := by
  obtain ⟨T, hT⟩ : ∃ T, T = rDw S B := ⟨_, rfl⟩
  have RT : RG T := by rw [hT]; exact RG_rDw hR
  have T1 : T 1 = S 1 := by rw [hT]; exact rDw_k (by omega) (by omega)
  have T9 : T 0 9 = w := by rw [hT, rDw_9, hw]
  have hbT := RB_c T1 hb
  obtain ⟨hn, hn2, e1, e2, b5, b6, b7, b8, b9, b10, b11⟩ := hbT
  rw [doesW hK hR hB hw hw2, ea, eb, ey, ec, ← hT]
  have h20 : T 1 0 ≤ 20 := by omega
  have h00 : 0 ≤ T 1 0 := by omega
  have nb := rNo_b (S := T) (cc := cc) (a := a) (b := b) (y := y) (NP := NP) (n := n)
  rcases rc with rfl | rfl | rfl | rfl | rfl | rfl
  · have hno : rNo T 102 a b y NP n = rNoF T a b y := rfl
    have hop : rOp T 102 a b y NP n = rFou T a b y := rfl
    rw [hno] at nb ⊢
    by_cases g : rNoF T a b y = 0
    · obtain ⟨f1, f2, f3, f4⟩ := rNoF_0 g
      rw [if_pos g, hop, g]
      have hF := fun z : QP => tX13_founds (d := d + 2) (x := z) hK RT (k := a) (par := b) (y := y) hn (by omega) e1 hN e2 hNP T9 hw2 (by omega) (fun _ => by omega) (by omega)
      simp (disch := first | assumption | exact RK0 hK | exact RK1a hK | exact RK2a hK | exact RK3a hK | exact RK4a hK | exact RK5a hK | exact RK6a hK | exact RK7a hK | exact RGl hR | exact RGh hR | exact bI_lo | exact bI_hi | exact bI_01 | (show (List.map q_wd _).sum ≤ 8; with_unfolding_all exact Nat.le_of_ble_eq_true rfl) | (refine RK1c hK ?_; omega) | (refine RK2c hK ?_; omega) | (refine RK3c hK ?_; omega) | (refine RK4c hK ?_; omega) | (refine RK5c hK ?_; omega) | (refine RK6c hK ?_; omega) | (refine RK7c hK ?_; omega) | omega) only [kX13_does_82, kX13_does_152, kX13_does_153, kX13_does_154, kX13_does_155, kX13_does_157E, kX13_does_160, kX13_does_162, kX13_does_164, kX13_does_167, kX13_does_168, kX13_does_169, kX13_does_170, kX13_does_172E, kX13_does_175, kX13_does_176, kX13_does_178, q_cut_i, q_cut_r, q_cut_l, q_cut_n, q_kd_ov, ov_f0, ov_f1, ov_f2, ov_f3, ov_f4, ov_f5, ov_f6, ov_f7, ov_f8, ov_f9, ov_f10, ov_f11, ov_f12, ov_f13, ov_f14, ov_f15, ov_f16, ov_r, ov_w, ov_w1, ov_w2, ov_w4, ov_w5, ov_w6, ov_w7, ov_w9, ov_w11, ov_w13, ov_w16, up_s, up_k, up_j, up_up, q_psh_n, q_psh_s, bI_eq0, ite_not, ↓if_pos, ↓if_neg, ↓ite_bI_t, ↓ite_bI_f, tX13_noFounding hK RT h00 h20, g, hF]
    · rw [if_neg g]
      simp (disch := first | assumption | exact RK0 hK | exact RK1a hK | exact RK2a hK | exact RK3a hK | exact RK4a hK | exact RK5a hK | exact RK6a hK | exact RK7a hK | exact RGl hR | exact RGh hR | exact bI_lo | exact bI_hi | exact bI_01 | (show (List.map q_wd _).sum ≤ 8; with_unfolding_all exact Nat.le_of_ble_eq_true rfl) | (refine RK1c hK ?_; omega) | (refine RK2c hK ?_; omega) | (refine RK3c hK ?_; omega) | (refine RK4c hK ?_; omega) | (refine RK5c hK ?_; omega) | (refine RK6c hK ?_; omega) | (refine RK7c hK ?_; omega) | omega) only [kX13_does_82, kX13_does_152, kX13_does_153, kX13_does_154, kX13_does_155, kX13_does_157E, kX13_does_160, kX13_does_162, kX13_does_164, kX13_does_167, kX13_does_168, kX13_does_169, kX13_does_170, kX13_does_172E, kX13_does_175, kX13_does_176, kX13_does_178, q_cut_i, q_cut_r, q_cut_l, q_cut_n, q_kd_ov, ov_f0, ov_f1, ov_f2, ov_f3, ov_f4, ov_f5, ov_f6, ov_f7, ov_f8, ov_f9, ov_f10, ov_f11, ov_f12, ov_f13, ov_f14, ov_f15, ov_f16, ov_r, ov_w, ov_w1, ov_w2, ov_w4, ov_w5, ov_w6, ov_w7, ov_w9, ov_w11, ov_w13, ov_w16, up_s, up_k, up_j, up_up, q_psh_n, q_psh_s, bI_eq0, ite_not, ↓if_pos, ↓if_neg, ↓ite_bI_t, ↓ite_bI_f, tX13_noFounding hK RT h00 h20]
  · have hno : rNo T 114 a b y NP n = rNoE T a y := rfl
    have hop : rOp T 114 a b y NP n = rRen T a y := rfl
    rw [hno] at nb ⊢
    by_cases g : rNoE T a y = 0
    · obtain ⟨f1, f2, f3, f4, f5⟩ := rNoE_0 g
      rw [if_pos g, hop, g]
      have hF := fun z : QP => tX13_renames (d := d + 2) (x := z) hK RT (p := a) (y := y) e1 hN T9 hw2 (by omega) (by omega) (b5 a (by omega) (by omega)).1
      simp (disch := first | assumption | exact RK0 hK | exact RK1a hK | exact RK2a hK | exact RK3a hK | exact RK4a hK | exact RK5a hK | exact RK6a hK | exact RK7a hK | exact RGl hR | exact RGh hR | exact bI_lo | exact bI_hi | exact bI_01 | (show (List.map q_wd _).sum ≤ 8; with_unfolding_all exact Nat.le_of_ble_eq_true rfl) | (refine RK1c hK ?_; omega) | (refine RK2c hK ?_; omega) | (refine RK3c hK ?_; omega) | (refine RK4c hK ?_; omega) | (refine RK5c hK ?_; omega) | (refine RK6c hK ?_; omega) | (refine RK7c hK ?_; omega) | omega) only [kX13_does_82, kX13_does_179, kX13_does_180, kX13_does_181, kX13_does_183E, kX13_does_186, kX13_does_188, kX13_does_190, kX13_does_193, kX13_does_194, kX13_does_195, kX13_does_197E, kX13_does_200, kX13_does_201, kX13_does_203, q_cut_i, q_cut_r, q_cut_l, q_cut_n, q_kd_ov, ov_f0, ov_f1, ov_f2, ov_f3, ov_f4, ov_f5, ov_f6, ov_f7, ov_f8, ov_f9, ov_f10, ov_f11, ov_f12, ov_f13, ov_f14, ov_f15, ov_f16, ov_r, ov_w, ov_w1, ov_w2, ov_w4, ov_w5, ov_w6, ov_w7, ov_w9, ov_w11, ov_w13, ov_w16, up_s, up_k, up_j, up_up, q_psh_n, q_psh_s, bI_eq0, ite_not, ↓if_pos, ↓if_neg, ↓ite_bI_t, ↓ite_bI_f, tX13_noEvent hK RT h00 h20, g, hF]
    · rw [if_neg g]
      simp (disch := first | assumption | exact RK0 hK | exact RK1a hK | exact RK2a hK | exact RK3a hK | exact RK4a hK | exact RK5a hK | exact RK6a hK | exact RK7a hK | exact RGl hR | exact RGh hR | exact bI_lo | exact bI_hi | exact bI_01 | (show (List.map q_wd _).sum ≤ 8; with_unfolding_all exact Nat.le_of_ble_eq_true rfl) | (refine RK1c hK ?_; omega) | (refine RK2c hK ?_; omega) | (refine RK3c hK ?_; omega) | (refine RK4c hK ?_; omega) | (refine RK5c hK ?_; omega) | (refine RK6c hK ?_; omega) | (refine RK7c hK ?_; omega) | omega) only [kX13_does_82, kX13_does_179, kX13_does_180, kX13_does_181, kX13_does_183E, kX13_does_186, kX13_does_188, kX13_does_190, kX13_does_193, kX13_does_194, kX13_does_195, kX13_does_197E, kX13_does_200, kX13_does_201, kX13_does_203, q_cut_i, q_cut_r, q_cut_l, q_cut_n, q_kd_ov, ov_f0, ov_f1, ov_f2, ov_f3, ov_f4, ov_f5, ov_f6, ov_f7, ov_f8, ov_f9, ov_f10, ov_f11, ov_f12, ov_f13, ov_f14, ov_f15, ov_f16, ov_r, ov_w, ov_w1, ov_w2, ov_w4, ov_w5, ov_w6, ov_w7, ov_w9, ov_w11, ov_w13, ov_w16, up_s, up_k, up_j, up_up, q_psh_n, q_psh_s, bI_eq0, ite_not, ↓if_pos, ↓if_neg, ↓ite_bI_t, ↓ite_bI_f, tX13_noEvent hK RT h00 h20]
  · have hno : rNo T 109 a b y NP n = rNoM T a b y := rfl
    have hop : rOp T 109 a b y NP n = rMov T a b y := rfl
    rw [hno] at nb ⊢
    by_cases g : rNoM T a b y = 0
    · obtain ⟨f1, f2, f3, f4, f5⟩ := rNoM_0 g
      rw [if_pos g, hop, g]
      have hF := fun z : QP => tX13_moves (d := d + 2) (x := z) hK RT (p := a) (par := b) (y := y) e2 hNP (by omega) (by omega) (by omega) (b5 a (by omega) (by omega)).1
      simp (disch := first | assumption | exact RK0 hK | exact RK1a hK | exact RK2a hK | exact RK3a hK | exact RK4a hK | exact RK5a hK | exact RK6a hK | exact RK7a hK | exact RGl hR | exact RGh hR | exact bI_lo | exact bI_hi | exact bI_01 | (show (List.map q_wd _).sum ≤ 8; with_unfolding_all exact Nat.le_of_ble_eq_true rfl) | (refine RK1c hK ?_; omega) | (refine RK2c hK ?_; omega) | (refine RK3c hK ?_; omega) | (refine RK4c hK ?_; omega) | (refine RK5c hK ?_; omega) | (refine RK6c hK ?_; omega) | (refine RK7c hK ?_; omega) | omega) only [kX13_does_82, kX13_does_204, kX13_does_205, kX13_does_206, kX13_does_207, kX13_does_209E, kX13_does_212, kX13_does_214, kX13_does_216, kX13_does_219, kX13_does_220, kX13_does_221, kX13_does_222, kX13_does_224E, kX13_does_227, kX13_does_228, kX13_does_230, q_cut_i, q_cut_r, q_cut_l, q_cut_n, q_kd_ov, ov_f0, ov_f1, ov_f2, ov_f3, ov_f4, ov_f5, ov_f6, ov_f7, ov_f8, ov_f9, ov_f10, ov_f11, ov_f12, ov_f13, ov_f14, ov_f15, ov_f16, ov_r, ov_w, ov_w1, ov_w2, ov_w4, ov_w5, ov_w6, ov_w7, ov_w9, ov_w11, ov_w13, ov_w16, up_s, up_k, up_j, up_up, q_psh_n, q_psh_s, bI_eq0, ite_not, ↓if_pos, ↓if_neg, ↓ite_bI_t, ↓ite_bI_f, tX13_noMove hK RT h00 h20, g, hF]
    · rw [if_neg g]
      simp (disch := first | assumption | exact RK0 hK | exact RK1a hK | exact RK2a hK | exact RK3a hK | exact RK4a hK | exact RK5a hK | exact RK6a hK | exact RK7a hK | exact RGl hR | exact RGh hR | exact bI_lo | exact bI_hi | exact bI_01 | (show (List.map q_wd _).sum ≤ 8; with_unfolding_all exact Nat.le_of_ble_eq_true rfl) | (refine RK1c hK ?_; omega) | (refine RK2c hK ?_; omega) | (refine RK3c hK ?_; omega) | (refine RK4c hK ?_; omega) | (refine RK5c hK ?_; omega) | (refine RK6c hK ?_; omega) | (refine RK7c hK ?_; omega) | omega) only [kX13_does_82, kX13_does_204, kX13_does_205, kX13_does_206, kX13_does_207, kX13_does_209E, kX13_does_212, kX13_does_214, kX13_does_216, kX13_does_219, kX13_does_220, kX13_does_221, kX13_does_222, kX13_does_224E, kX13_does_227, kX13_does_228, kX13_does_230, q_cut_i, q_cut_r, q_cut_l, q_cut_n, q_kd_ov, ov_f0, ov_f1, ov_f2, ov_f3, ov_f4, ov_f5, ov_f6, ov_f7, ov_f8, ov_f9, ov_f10, ov_f11, ov_f12, ov_f13, ov_f14, ov_f15, ov_f16, ov_r, ov_w, ov_w1, ov_w2, ov_w4, ov_w5, ov_w6, ov_w7, ov_w9, ov_w11, ov_w13, ov_w16, up_s, up_k, up_j, up_up, q_psh_n, q_psh_s, bI_eq0, ite_not, ↓if_pos, ↓if_neg, ↓ite_bI_t, ↓ite_bI_f, tX13_noMove hK RT h00 h20]
  · have hno : rNo T 115 a b y NP n = rNoS T a y NP := rfl
    have hop : rOp T 115 a b y NP n = rSpl T a y NP := rfl
    rw [hno] at nb ⊢
    have hNs := fun z : QP => tX13_noSplit (d := d + 1) (x := z) hK RT (p := a) (y := y) e2 (Nat.le_of_lt hNP) h00 h20 (by omega) (by omega) (by omega) (by omega) (b10 a y)
    by_cases g : rNoS T a y NP = 0
    · obtain ⟨f1, f2, f3⟩ := rNoS_0 g
      obtain ⟨f4, f5, f6, f7, f8⟩ := rNoE_0 f1
      rw [if_pos g, hop, g]
      have hF := fun z : QP => tX13_splits (d := d + 1) (x := z) hK RT (p := a) (y := y) hn (by omega) e1 hN e2 hNP T9 hw2 (by omega) (by omega) (b8 a (by omega) (by omega)) (b9 a y) (b5 a (by omega) (by omega)).1 (b5 a (by omega) (by omega)).2
      simp (disch := first | assumption | exact RK0 hK | exact RK1a hK | exact RK2a hK | exact RK3a hK | exact RK4a hK | exact RK5a hK | exact RK6a hK | exact RK7a hK | exact RGl hR | exact RGh hR | exact bI_lo | exact bI_hi | exact bI_01 | (show (List.map q_wd _).sum ≤ 8; with_unfolding_all exact Nat.le_of_ble_eq_true rfl) | (refine RK1c hK ?_; omega) | (refine RK2c hK ?_; omega) | (refine RK3c hK ?_; omega) | (refine RK4c hK ?_; omega) | (refine RK5c hK ?_; omega) | (refine RK6c hK ?_; omega) | (refine RK7c hK ?_; omega) | omega) only [kX13_does_82, kX13_does_231, kX13_does_232, kX13_does_233, kX13_does_235E, kX13_does_238, kX13_does_240, kX13_does_242, kX13_does_245, kX13_does_246, kX13_does_247, kX13_does_249E, kX13_does_252, kX13_does_253, kX13_does_255, q_cut_i, q_cut_r, q_cut_l, q_cut_n, q_kd_ov, ov_f0, ov_f1, ov_f2, ov_f3, ov_f4, ov_f5, ov_f6, ov_f7, ov_f8, ov_f9, ov_f10, ov_f11, ov_f12, ov_f13, ov_f14, ov_f15, ov_f16, ov_r, ov_w, ov_w1, ov_w2, ov_w4, ov_w5, ov_w6, ov_w7, ov_w9, ov_w11, ov_w13, ov_w16, up_s, up_k, up_j, up_up, q_psh_n, q_psh_s, bI_eq0, ite_not, ↓if_pos, ↓if_neg, ↓ite_bI_t, ↓ite_bI_f, hNs, g, hF]
    · rw [if_neg g]
      simp (disch := first | assumption | exact RK0 hK | exact RK1a hK | exact RK2a hK | exact RK3a hK | exact RK4a hK | exact RK5a hK | exact RK6a hK | exact RK7a hK | exact RGl hR | exact RGh hR | exact bI_lo | exact bI_hi | exact bI_01 | (show (List.map q_wd _).sum ≤ 8; with_unfolding_all exact Nat.le_of_ble_eq_true rfl) | (refine RK1c hK ?_; omega) | (refine RK2c hK ?_; omega) | (refine RK3c hK ?_; omega) | (refine RK4c hK ?_; omega) | (refine RK5c hK ?_; omega) | (refine RK6c hK ?_; omega) | (refine RK7c hK ?_; omega) | omega) only [kX13_does_82, kX13_does_231, kX13_does_232, kX13_does_233, kX13_does_235E, kX13_does_238, kX13_does_240, kX13_does_242, kX13_does_245, kX13_does_246, kX13_does_247, kX13_does_249E, kX13_does_252, kX13_does_253, kX13_does_255, q_cut_i, q_cut_r, q_cut_l, q_cut_n, q_kd_ov, ov_f0, ov_f1, ov_f2, ov_f3, ov_f4, ov_f5, ov_f6, ov_f7, ov_f8, ov_f9, ov_f10, ov_f11, ov_f12, ov_f13, ov_f14, ov_f15, ov_f16, ov_r, ov_w, ov_w1, ov_w2, ov_w4, ov_w5, ov_w6, ov_w7, ov_w9, ov_w11, ov_w13, ov_w16, up_s, up_k, up_j, up_up, q_psh_n, q_psh_s, bI_eq0, ite_not, ↓if_pos, ↓if_neg, ↓ite_bI_t, ↓ite_bI_f, hNs]
  · have hno : rNo T 103 a b y NP n = rNoG T a b y := rfl
    have hop : rOp T 103 a b y NP n = rMrg T a b y NP n := rfl
    rw [hno] at nb ⊢
    by_cases g : rNoG T a b y = 0
    · obtain ⟨f1, f2, f3, f4, f5, f6⟩ := rNoG_0 g
      rw [if_pos g, hop, g]
      have hF := fun z : QP => tX13_merges (d := d) (x := z) hK RT (p := a) (into := b) (y := y) hn hn2 e2 hNP (by omega) (by omega) (by omega) b5 b6 b7
      simp (disch := first | assumption | exact RK0 hK | exact RK1a hK | exact RK2a hK | exact RK3a hK | exact RK4a hK | exact RK5a hK | exact RK6a hK | exact RK7a hK | exact RGl hR | exact RGh hR | exact bI_lo | exact bI_hi | exact bI_01 | (show (List.map q_wd _).sum ≤ 8; with_unfolding_all exact Nat.le_of_ble_eq_true rfl) | (refine RK1c hK ?_; omega) | (refine RK2c hK ?_; omega) | (refine RK3c hK ?_; omega) | (refine RK4c hK ?_; omega) | (refine RK5c hK ?_; omega) | (refine RK6c hK ?_; omega) | (refine RK7c hK ?_; omega) | omega) only [kX13_does_82, kX13_does_256, kX13_does_257, kX13_does_258, kX13_does_259, kX13_does_261E, kX13_does_264, kX13_does_266, kX13_does_268, kX13_does_271, kX13_does_272, kX13_does_273, kX13_does_274, kX13_does_276E, kX13_does_279, kX13_does_280, kX13_does_282, q_cut_i, q_cut_r, q_cut_l, q_cut_n, q_kd_ov, ov_f0, ov_f1, ov_f2, ov_f3, ov_f4, ov_f5, ov_f6, ov_f7, ov_f8, ov_f9, ov_f10, ov_f11, ov_f12, ov_f13, ov_f14, ov_f15, ov_f16, ov_r, ov_w, ov_w1, ov_w2, ov_w4, ov_w5, ov_w6, ov_w7, ov_w9, ov_w11, ov_w13, ov_w16, up_s, up_k, up_j, up_up, q_psh_n, q_psh_s, bI_eq0, ite_not, ↓if_pos, ↓if_neg, ↓ite_bI_t, ↓ite_bI_f, tX13_noMerge hK RT h00 h20, g, hF]
    · rw [if_neg g]
      simp (disch := first | assumption | exact RK0 hK | exact RK1a hK | exact RK2a hK | exact RK3a hK | exact RK4a hK | exact RK5a hK | exact RK6a hK | exact RK7a hK | exact RGl hR | exact RGh hR | exact bI_lo | exact bI_hi | exact bI_01 | (show (List.map q_wd _).sum ≤ 8; with_unfolding_all exact Nat.le_of_ble_eq_true rfl) | (refine RK1c hK ?_; omega) | (refine RK2c hK ?_; omega) | (refine RK3c hK ?_; omega) | (refine RK4c hK ?_; omega) | (refine RK5c hK ?_; omega) | (refine RK6c hK ?_; omega) | (refine RK7c hK ?_; omega) | omega) only [kX13_does_82, kX13_does_256, kX13_does_257, kX13_does_258, kX13_does_259, kX13_does_261E, kX13_does_264, kX13_does_266, kX13_does_268, kX13_does_271, kX13_does_272, kX13_does_273, kX13_does_274, kX13_does_276E, kX13_does_279, kX13_does_280, kX13_does_282, q_cut_i, q_cut_r, q_cut_l, q_cut_n, q_kd_ov, ov_f0, ov_f1, ov_f2, ov_f3, ov_f4, ov_f5, ov_f6, ov_f7, ov_f8, ov_f9, ov_f10, ov_f11, ov_f12, ov_f13, ov_f14, ov_f15, ov_f16, ov_r, ov_w, ov_w1, ov_w2, ov_w4, ov_w5, ov_w6, ov_w7, ov_w9, ov_w11, ov_w13, ov_w16, up_s, up_k, up_j, up_up, q_psh_n, q_psh_s, bI_eq0, ite_not, ↓if_pos, ↓if_neg, ↓ite_bI_t, ↓ite_bI_f, tX13_noMerge hK RT h00 h20]
  · have hno : rNo T 99 a b y NP n = rNoC T a y NP n := rfl
    have hop : rOp T 99 a b y NP n = rClo T a y := rfl
    rw [hno] at nb ⊢
    have hNc := fun z : QP => tX13_noClosing (d := d) (x := z) hK RT (p := a) (y := y) e2 (Nat.le_of_lt hNP) hn hn2 (by omega) (by omega) (by omega) (by omega)
    by_cases g : rNoC T a y NP n = 0
    · obtain ⟨f1, -⟩ := rNoC_0 g
      obtain ⟨f4, f5, f6, f7, f8⟩ := rNoE_0 f1
      rw [if_pos g, hop, g]
      have hF := fun z : QP => tX13_closes (d := d + 2) (x := z) hK RT (p := a) (y := y) (by omega) (by omega) (b5 a (by omega) (by omega)).1 (b5 a (by omega) (by omega)).2
      simp (disch := first | assumption | exact RK0 hK | exact RK1a hK | exact RK2a hK | exact RK3a hK | exact RK4a hK | exact RK5a hK | exact RK6a hK | exact RK7a hK | exact RGl hR | exact RGh hR | exact bI_lo | exact bI_hi | exact bI_01 | (show (List.map q_wd _).sum ≤ 8; with_unfolding_all exact Nat.le_of_ble_eq_true rfl) | (refine RK1c hK ?_; omega) | (refine RK2c hK ?_; omega) | (refine RK3c hK ?_; omega) | (refine RK4c hK ?_; omega) | (refine RK5c hK ?_; omega) | (refine RK6c hK ?_; omega) | (refine RK7c hK ?_; omega) | omega) only [kX13_does_82, kX13_does_283, kX13_does_284, kX13_does_285, kX13_does_287E, kX13_does_290, kX13_does_292, kX13_does_294, kX13_does_297, kX13_does_298, kX13_does_299, kX13_does_301E, kX13_does_304, kX13_does_305, kX13_does_307, q_cut_i, q_cut_r, q_cut_l, q_cut_n, q_kd_ov, ov_f0, ov_f1, ov_f2, ov_f3, ov_f4, ov_f5, ov_f6, ov_f7, ov_f8, ov_f9, ov_f10, ov_f11, ov_f12, ov_f13, ov_f14, ov_f15, ov_f16, ov_r, ov_w, ov_w1, ov_w2, ov_w4, ov_w5, ov_w6, ov_w7, ov_w9, ov_w11, ov_w13, ov_w16, up_s, up_k, up_j, up_up, q_psh_n, q_psh_s, bI_eq0, ite_not, ↓if_pos, ↓if_neg, ↓ite_bI_t, ↓ite_bI_f, hNc, g, hF]
    · rw [if_neg g]
      simp (disch := first | assumption | exact RK0 hK | exact RK1a hK | exact RK2a hK | exact RK3a hK | exact RK4a hK | exact RK5a hK | exact RK6a hK | exact RK7a hK | exact RGl hR | exact RGh hR | exact bI_lo | exact bI_hi | exact bI_01 | (show (List.map q_wd _).sum ≤ 8; with_unfolding_all exact Nat.le_of_ble_eq_true rfl) | (refine RK1c hK ?_; omega) | (refine RK2c hK ?_; omega) | (refine RK3c hK ?_; omega) | (refine RK4c hK ?_; omega) | (refine RK5c hK ?_; omega) | (refine RK6c hK ?_; omega) | (refine RK7c hK ?_; omega) | omega) only [kX13_does_82, kX13_does_283, kX13_does_284, kX13_does_285, kX13_does_287E, kX13_does_290, kX13_does_292, kX13_does_294, kX13_does_297, kX13_does_298, kX13_does_299, kX13_does_301E, kX13_does_304, kX13_does_305, kX13_does_307, q_cut_i, q_cut_r, q_cut_l, q_cut_n, q_kd_ov, ov_f0, ov_f1, ov_f2, ov_f3, ov_f4, ov_f5, ov_f6, ov_f7, ov_f8, ov_f9, ov_f10, ov_f11, ov_f12, ov_f13, ov_f14, ov_f15, ov_f16, ov_r, ov_w, ov_w1, ov_w2, ov_w4, ov_w5, ov_w6, ov_w7, ov_w9, ov_w11, ov_w13, ov_w16, up_s, up_k, up_j, up_up, q_psh_n, q_psh_s, bI_eq0, ite_not, ↓if_pos, ↓if_neg, ↓ite_bI_t, ↓ite_bI_f, hNc]
