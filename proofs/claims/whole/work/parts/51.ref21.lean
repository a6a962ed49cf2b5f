/-! the reference's methods: a text read and done -/
abbrev pQ : Type := Int × Int × Int × Int × Int × Nat
def pAll (h : Int → Int) (n : Int) : Nat → Int → Int × Option (List pQ)
  | 0, a => (a, none)
  | k + 1, a => match pCmd h a with
    | (e, none) => (e, none)
    | (a', some q) => if h a' = 59 then (match pAll h n k (a' + 1) with
        | (e, none) => (e, none)
        | (e, some l) => (e, some (q :: l)))
      else if a' < n then (a', none) else (a', some [q])
theorem pW_a {h : Int → Int} {c f s dd a a' : Int} {q : pQ} (e : pW h c f s dd a = (a', some q)) : a ≤ a' ∧ q.1 = c ∧ q.2.1 = f ∧ q.2.2.1 = s ∧ q.2.2.2.1 = dd ∧ q.2.2.2.2.2 ≤ 8 ∧ a ≤ q.2.2.2.2.1 ∧ q.2.2.2.2.1 + q.2.2.2.2.2 = a' ∧ ((c = 102 ∨ c = 114 ∨ c = 115) → 1 ≤ q.2.2.2.2.2 ∧ wCnt h 9 q.2.2.2.2.1 = q.2.2.2.2.2) := by
  have hw := wCnt_le h 9 (a + 1)
  unfold pW at e
  split at e
  · split at e
    · cases e
    · split at e
      · cases e
      · split at e
        · cases e
        · rename_i g1 g2 g3 g4
          cases e
          have g3' : 97 ≤ h (a + 1) ∧ h (a + 1) ≤ 122 := by omega
          have hp : 1 ≤ wCnt h 9 (a + 1) := by rw [wCnt, if_pos g3']; omega
          exact ⟨by omega, rfl, rfl, rfl, rfl, by show wCnt h 9 (a + 1) ≤ 8; omega, by show a ≤ a + 1; omega, rfl, fun _ => ⟨hp, rfl⟩⟩
  · rename_i g
    cases e
    exact ⟨Int.le_refl _, rfl, rfl, rfl, rfl, Nat.zero_le _, Int.le_refl _, by show a + ((0 : Nat) : Int) = a; omega, fun h => absurd h g⟩
theorem pD_a {h : Int → Int} {c f s a a' : Int} {q : pQ} (e : pD h c f s a = (a', some q)) : a < a' ∧ q.1 = c ∧ q.2.1 = f ∧ q.2.2.1 = s ∧ (0 ≤ q.2.2.2.1 ∧ q.2.2.2.1 ≤ 9999) ∧ q.2.2.2.2.2 ≤ 8 ∧ a ≤ q.2.2.2.2.1 ∧ q.2.2.2.2.1 + q.2.2.2.2.2 = a' ∧ ((c = 102 ∨ c = 114 ∨ c = 115) → 1 ≤ q.2.2.2.2.2 ∧ wCnt h 9 q.2.2.2.2.1 = q.2.2.2.2.2) := by
  have d1 := dRun_a h 4 (a + 1) 0
  have d3 := dRun_4 h (a + 1)
  unfold pD at e
  split at e
  · cases e
  · split at e
    · cases e
    · obtain ⟨h1, h2, h3, h4, h5, h6, h7, h8, h9⟩ := pW_a e
      exact ⟨by omega, h2, h3, h4, by rw [h5]; exact d3, h6, by omega, h8, h9⟩
theorem pS_a {h : Int → Int} {c f a a' : Int} {q : pQ} (e : pS h c f a = (a', some q)) : a < a' ∧ q.1 = c ∧ q.2.1 = f ∧ (0 ≤ q.2.2.1 ∧ q.2.2.1 ≤ 9999) ∧ (0 ≤ q.2.2.2.1 ∧ q.2.2.2.1 ≤ 9999) ∧ q.2.2.2.2.2 ≤ 8 ∧ a ≤ q.2.2.2.2.1 ∧ q.2.2.2.2.1 + q.2.2.2.2.2 = a' ∧ ((c = 102 ∨ c = 114 ∨ c = 115) → 1 ≤ q.2.2.2.2.2 ∧ wCnt h 9 q.2.2.2.2.1 = q.2.2.2.2.2) := by
  have d1 := dRun_a h 4 (a + 1) 0
  have d3 := dRun_4 h (a + 1)
  unfold pS at e
  split at e
  · split at e
    · cases e
    · split at e
      · cases e
      · obtain ⟨h1, h2, h3, h4, h5, h6, h7, h8, h9⟩ := pD_a e
        exact ⟨by omega, h2, h3, by rw [h4]; exact d3, h5, h6, by omega, h8, h9⟩
  · obtain ⟨h1, h2, h3, h4, h5, h6, h7, h8, h9⟩ := pD_a e
    exact ⟨h1, h2, h3, by rw [h4]; omega, h5, h6, h7, h8, h9⟩
/-- what a command that was read is like -/
def qOk (h : Int → Int) (q : pQ) : Prop := (q.1 = 102 ∨ q.1 = 114 ∨ q.1 = 109 ∨ q.1 = 115 ∨ q.1 = 103 ∨ q.1 = 99) ∧ (q.1 = 102 → q.2.1 ≤ 3) ∧ (0 ≤ q.2.1 ∧ q.2.1 ≤ 9999) ∧ (0 ≤ q.2.2.1 ∧ q.2.2.1 ≤ 9999) ∧ (0 ≤ q.2.2.2.1 ∧ q.2.2.2.1 ≤ 9999) ∧ q.2.2.2.2.2 ≤ 8 ∧ 0 ≤ q.2.2.2.2.1 ∧ ((q.1 = 102 ∨ q.1 = 114 ∨ q.1 = 115) → 1 ≤ q.2.2.2.2.2 ∧ wCnt h 9 q.2.2.2.2.1 = q.2.2.2.2.2)
theorem pCmd_a {h : Int → Int} {a a' : Int} {q : pQ} (h0 : 0 ≤ a) (e : pCmd h a = (a', some q)) : a + 1 < a' ∧ qOk h q := by
  have d1 := dRun_a h 4 (a + 1) 0
  have d3 := dRun_4 h (a + 1)
  unfold pCmd at e
  unfold qOk
  split at e
  · cases e
  · rename_i g
    have g : h a = 102 ∨ h a = 114 ∨ h a = 109 ∨ h a = 115 ∨ h a = 103 ∨ h a = 99 := by omega
    split at e
    · rename_i g1
      split at e
      · cases e
      · rename_i g2
        obtain ⟨h1, h2, h3, h4, h5, h6, h7, h8, h9⟩ := pS_a e
        refine ⟨by omega, ?_, fun _ => ?_, ?_, h4, h5, h6, by omega, ?_⟩
        · rw [h2]; exact g
        · rw [h3]; omega
        · rw [h3]; omega
        · rw [h2]; exact h9
    · rename_i g1
      split at e
      · cases e
      · obtain ⟨h1, h2, h3, h4, h5, h6, h7, h8, h9⟩ := pS_a e
        refine ⟨by omega, ?_, fun gg => ?_, ?_, h4, h5, h6, by omega, ?_⟩
        · rw [h2]; exact g
        · rw [h2] at gg; exact absurd gg g1
        · rw [h3]; exact d3
        · rw [h2]; exact h9
theorem pAll_a {h : Int → Int} {n : Int} : ∀ (k : Nat) (a e : Int) (l : List pQ), 0 ≤ a → pAll h n k a = (e, some l) → ∀ q ∈ l, qOk h q := by
  intro k
  induction k with
  | zero => intro a e l _ h; cases h
  | succ k ih =>
    intro a e l h0 hh
    rw [pAll] at hh
    split at hh
    · cases hh
    · rename_i a' q hq
      obtain ⟨h1, h2⟩ := pCmd_a h0 hq
      split at hh
      · split at hh
        · cases hh
        · rename_i e' l' hl
          cases hh
          intro r hr
          rcases List.mem_cons.mp hr with rfl | hr
          · exact h2
          · exact ih _ _ _ (by omega) hl r hr
      · split at hh
        · cases hh
        · cases hh
          intro r hr
          rw [List.mem_singleton.mp hr]; exact h2
theorem pW_e (h : Int → Int) (c f s dd a : Int) : a ≤ (pW h c f s dd a).1 := by
  unfold pW
  repeat' split
  all_goals (show a ≤ _; omega)
theorem pD_e (h : Int → Int) (c f s a : Int) : a ≤ (pD h c f s a).1 := by
  have d1 := dRun_a h 4 (a + 1) 0
  have := pW_e h c f s (dRun h 4 (a + 1) 0).2 (dRun h 4 (a + 1) 0).1
  unfold pD
  repeat' split
  all_goals first | omega | (show a ≤ _; omega)
theorem pS_e (h : Int → Int) (c f a : Int) : a ≤ (pS h c f a).1 := by
  have d1 := dRun_a h 4 (a + 1) 0
  have := pD_e h c f (dRun h 4 (a + 1) 0).2 (dRun h 4 (a + 1) 0).1
  have := pD_e h c f 0 a
  unfold pS
  repeat' split
  all_goals first | omega | (show a ≤ _; omega)
theorem pCmd_e (h : Int → Int) (a : Int) : a ≤ (pCmd h a).1 := by
  have d1 := dRun_a h 4 (a + 1) 0
  have := pS_e h (h a) (dRun h 4 (a + 1) 0).2 (dRun h 4 (a + 1) 0).1
  have := pS_e h (h a) (h (a + 1) - 48) (a + 2)
  unfold pCmd
  repeat' split
  all_goals first | omega | (show a ≤ _; omega)
theorem rSc_tr {B B' : Int} {S T U : RS} (h1 : rSc B S T) (h2 : rSc B' T U) (hB : B ≤ B') : rSc B S U := by
  obtain ⟨a1, a2, a3, a4, a5, a6, a7⟩ := h1
  obtain ⟨b1, b2, b3, b4, b5, b6, b7⟩ := h2
  exact ⟨b1.trans a1, b2.trans a2, b3.trans a3, b4.trans a4, fun j j1 j2 j3 j4 => (b5 j j1 j2 j3 j4).trans (a5 j j1 j2 j3 j4), fun j hj => (b6 j (by omega)).trans (a6 j hj), b7⟩
/-- a command as it stands among the commands -/
def cRec (T S : RS) (B : Int) (q : pQ) : Prop := T 4 B = q.1 ∧ T 4 (B + 1) = q.2.1 ∧ T 4 (B + 2) = q.2.2.1 ∧ T 4 (B + 3) = q.2.2.2.1 ∧ T 4 (B + 4) = q.2.2.2.2.2 ∧ ∀ i : Nat, i < q.2.2.2.2.2 → T 4 (B + 5 + i) = S 2 (q.2.2.2.2.1 + i)
theorem cRec_c {T U S : RS} {B : Int} {q : pQ} (h8 : q.2.2.2.2.2 ≤ 8) (h : ∀ j : Int, B ≤ j → j < B + 13 → U 4 j = T 4 j) (hc : cRec T S B q) : cRec U S B q := by
  obtain ⟨c1, c2, c3, c4, c5, c6⟩ := hc
  exact ⟨by rw [h _ (by omega) (by omega), c1], by rw [h _ (by omega) (by omega), c2], by rw [h _ (by omega) (by omega), c3], by rw [h _ (by omega) (by omega), c4], by rw [h _ (by omega) (by omega), c5], fun i hi => by rw [h _ (by omega) (by omega), c6 i hi]⟩
def rdPost (m : Nat) (M : QM) (cm : Nat) (S0 S : RS) (G : RS → Prop) (F : RS → Prop) (r : Int × Option (List pQ)) : Prop := match r.2 with
  | none => ∀ T, rSc (13 * (cm : Int)) S T → T 0 6 = r.1 → 0 ≤ r.1 → F T
  | some l => ∀ T, rSc (13 * (cm : Int)) S T → T 0 6 < 0 → T 0 11 = cm + l.length → (∀ i (h : i < l.length), cRec T S0 (13 * ((cm + i : Nat) : Int)) l[i]) → G T
set_option maxHeartbeats 4000000 in
theorem runRd {d m : Nat} {S0 : RS} {M : QM} {x : QP} (hK : RK m M) (h80 : S0 0 4 ≤ 80) : ∀ (k cm : Nat) (a : Int) (S : RS), RG S → S 2 = S0 2 → S 0 4 = S0 0 4 → S 0 6 = -1 → S 0 5 = a → 0 ≤ a → a ≤ S0 0 4 → S0 0 4 - a < k → S 0 11 = cm → 2 * (cm : Int) ≤ a →
    rdPost m M cm S0 S (fun T => Rr (q_C (d + 4)) mX13_run (74, [some (qr m), none, none], [], ov m T M) x) (fun T => Rr (q_C (d + 4)) mX13_run (74, [some (qr m), none, none], [], ov m T M) x) (pAll (rHr (S0 2) (S0 0 4)) (S0 0 4) k a) →
    q_T (d + 4) iX13_command [qr m] (ov m S M) (fun v M1 => Rr (q_C (d + 4)) mX13_run (19, [some (qr m), none, none], q_psh v [], M1) x) := by
  intro k
  induction k with
  | zero => intro cm a S _ _ _ _ _ h1 h2 h3; omega
  | succ k ih =>
    intro cm a S hR e2 e4 e6 e5 h0 hn hk e11 hcm hpost
    have hc79 : (cm : Int) < 79 := by omega
    rw [pAll] at hpost
    refine tX13_command hK hR (by omega) (by omega) (by omega) e11 (by omega) hc79 rfl ?_
    rw [e2, e4, e5]
    generalize hp : pCmd (rHr (S0 2) (S0 0 4)) a = r at hpost ⊢
    obtain ⟨a', q⟩ := r
    have failAt : ∀ T : RS, RG T → 0 ≤ T 0 6 → Rr (q_C (d + 4)) mX13_run (74, [some (qr m), none, none], [], ov m T M) x → Rr (q_C (d + 4)) mX13_run (19, [some (qr m), none, none], [], ov m T M) x := by
      intro T hR hf hx
      simp (disch := first | assumption | exact RK0 hK | exact RK1a hK | exact RK2a hK | exact RK3a hK | exact RK4a hK | exact RK5a hK | exact RK6a hK | exact RK7a hK | exact RGl hR | exact RGh hR | exact bI_lo | exact bI_hi | exact bI_01 | (show (List.map q_wd _).sum ≤ 8; with_unfolding_all exact Nat.le_of_ble_eq_true rfl) | (refine RK1c hK ?_; omega) | (refine RK2c hK ?_; omega) | (refine RK3c hK ?_; omega) | (refine RK4c hK ?_; omega) | (refine RK5c hK ?_; omega) | (refine RK6c hK ?_; omega) | (refine RK7c hK ?_; omega) | omega) only [kX13_run_19, kX13_run_20, kX13_run_23, kX13_run_26, kX13_run_27E, kX13_run_30, kX13_run_32, kX13_run_35, kX13_run_36i, kX13_run_36r, kX13_run_37, kX13_run_40, kX13_run_41, kX13_run_42, kX13_run_45, kX13_run_46E, kX13_run_49, kX13_run_52, kX13_run_53, kX13_run_56, kX13_run_59, kX13_run_60, kX13_run_63, kX13_run_64, kX13_run_67, kX13_run_70, kX13_run_71E, q_cut_i, q_cut_r, q_cut_l, q_cut_n, q_kd_ov, ov_f0, ov_f1, ov_f2, ov_f3, ov_f4, ov_f5, ov_f6, ov_f7, ov_f8, ov_f9, ov_f10, ov_f11, ov_f12, ov_f13, ov_f14, ov_f15, ov_f16, ov_r, ov_w, ov_w1, ov_w2, ov_w4, ov_w5, ov_w6, ov_w7, ov_w9, ov_w11, ov_w13, ov_w16, up_s, up_k, up_j, up_up, q_psh_n, q_psh_s, bI_eq0, ite_not, ↓if_pos, ↓if_neg, ↓ite_bI_t, ↓ite_bI_f]
      exact hx
    cases q with
    | none =>
      have ha' : 0 ≤ a' := by
        have := pCmd_e (rHr (S0 2) (S0 0 4)) a
        rw [hp] at this
        exact Int.le_trans h0 this
      intro T hT hT6
      rw [q_psh_n]
      exact failAt T hT.2.2.2.2.2.2 (by rw [hT6]; exact ha') (hpost T hT hT6 ha')
    | some q =>
      obtain ⟨g1, g2⟩ := pCmd_a h0 hp
      intro T hT hT6 hT5 hT11 c0 c1 c2 c3 c4 c5
      have RT := hT.2.2.2.2.2.2
      have hR0 := hR
      have hR := RT
      have t2 : T 2 = S0 2 := hT.2.1.trans e2
      have t4 : T 0 4 = S0 0 4 := (hT.2.2.2.2.1 4 (by omega) (by omega) (by omega) (by omega)).trans e4
      have t5 : T 0 5 = a' := hT5
      have hrec : cRec T S0 (13 * ((cm : Nat) : Int)) q := ⟨c0, c1, c2, c3, c4, fun i hi => by rw [c5 i hi, e2]⟩
      have hh := rHr_R hR (S0 0 4) a'
      rw [t2] at hh
      have hhere : ∀ z : QP, q_T (d + 4) iX13_here [qr m] (ov m T M) z = z (some (qi (rHr (S0 2) (S0 0 4) a'))) (ov m T M) := fun z => by
        rw [tX13_here hK RT (by omega) (by omega), t2, t4, t5]
      rw [q_psh_n]
      dsimp only at hpost
      by_cases g3 : rHr (S0 2) (S0 0 4) a' = 59
      · rw [if_pos g3] at hpost
        have ha1 : a' < S0 0 4 := rHr_lt (l := S0 2) (by omega)
        have R1 : RG (up T 0 5 (a' + 1)) := RG_up RT (by omega) (by omega)
        have key := ih (cm + 1) (a' + 1) (up T 0 5 (a' + 1)) R1 (by rw [up_k (by omega), t2]) (by rw [up_j (by omega), t4]) (by rw [up_j (by omega), hT6, e6]) up_s (by omega) (by omega) (by omega) (by rw [up_j (by omega), hT11]; omega) (by omega) (by
          generalize hq2 : pAll (rHr (S0 2) (S0 0 4)) (S0 0 4) k (a' + 1) = r2 at hpost ⊢
          obtain ⟨e, q2⟩ := r2
          have hsc : rSc (13 * (cm : Int)) S (up T 0 5 (a' + 1)) := rSc_0 hT (by omega) (by omega) (by omega)
          cases q2 with
          | none =>
            intro U hU hU6 hU0
            exact hpost U (rSc_tr hsc hU (by omega)) hU6 hU0
          | some l =>
            intro U hU hU6 hU11 hrs
            refine hpost U (rSc_tr hsc hU (by omega)) hU6 (by rw [hU11, List.length_cons]; omega) ?_
            intro i hi
            cases i with
            | zero =>
              refine cRec_c g2.2.2.2.2.2.1 (fun j j1 j2 => ?_) hrec
              rw [hU.2.2.2.2.2.1 j (by omega), up_k (by omega)]
            | succ i =>
              have := hrs i (by simpa using hi)
              rw [show cm + 1 + i = cm + (i + 1) by omega] at this
              exact this)
        simp (disch := first | assumption | exact RK0 hK | exact RK1a hK | exact RK2a hK | exact RK3a hK | exact RK4a hK | exact RK5a hK | exact RK6a hK | exact RK7a hK | exact RGl hR | exact RGh hR | exact bI_lo | exact bI_hi | exact bI_01 | (show (List.map q_wd _).sum ≤ 8; with_unfolding_all exact Nat.le_of_ble_eq_true rfl) | (refine RK1c hK ?_; omega) | (refine RK2c hK ?_; omega) | (refine RK3c hK ?_; omega) | (refine RK4c hK ?_; omega) | (refine RK5c hK ?_; omega) | (refine RK6c hK ?_; omega) | (refine RK7c hK ?_; omega) | omega) only [kX13_run_19, kX13_run_20, kX13_run_23, kX13_run_26, kX13_run_27E, kX13_run_30, kX13_run_32, kX13_run_35, kX13_run_36i, kX13_run_36r, kX13_run_37, kX13_run_40, kX13_run_41, kX13_run_42, kX13_run_45, kX13_run_46E, q_cut_i, q_cut_r, q_cut_l, q_cut_n, q_kd_ov, ov_f0, ov_f1, ov_f2, ov_f3, ov_f4, ov_f5, ov_f6, ov_f7, ov_f8, ov_f9, ov_f10, ov_f11, ov_f12, ov_f13, ov_f14, ov_f15, ov_f16, ov_r, ov_w, ov_w1, ov_w2, ov_w4, ov_w5, ov_w6, ov_w7, ov_w9, ov_w11, ov_w13, ov_w16, up_s, up_k, up_j, up_up, q_psh_n, q_psh_s, bI_eq0, ite_not, ↓if_pos, ↓if_neg, ↓ite_bI_t, ↓ite_bI_f, hhere, t5]
        have goto19 : (fun (v : Option CV) (M1 : QM) => Rr (q_C (d + 4)) mX13_run (49, [some (qr m), none, none], q_psh v [], M1) x) = (fun v M1 => Rr (q_C (d + 4)) mX13_run (19, [some (qr m), none, none], q_psh v [], M1) x) := by
          funext v M1
          rw [kX13_run_49]
        exact goto19 ▸ key
      · rw [if_neg g3] at hpost
        by_cases g4 : a' < S0 0 4
        · rw [if_pos g4] at hpost
          have hF := fun z : QP => tX13_failsN (d := d + 3) (x := z) hK RT (by omega)
          have := hpost (up T 0 6 a') (rSc_0 hT (by omega) (by omega) (by omega)) up_s (by show 0 ≤ a'; omega)
          simp (disch := first | assumption | exact RK0 hK | exact RK1a hK | exact RK2a hK | exact RK3a hK | exact RK4a hK | exact RK5a hK | exact RK6a hK | exact RK7a hK | exact RGl hR | exact RGh hR | exact bI_lo | exact bI_hi | exact bI_01 | (show (List.map q_wd _).sum ≤ 8; with_unfolding_all exact Nat.le_of_ble_eq_true rfl) | (refine RK1c hK ?_; omega) | (refine RK2c hK ?_; omega) | (refine RK3c hK ?_; omega) | (refine RK4c hK ?_; omega) | (refine RK5c hK ?_; omega) | (refine RK6c hK ?_; omega) | (refine RK7c hK ?_; omega) | omega) only [kX13_run_19, kX13_run_20, kX13_run_23, kX13_run_26, kX13_run_27E, kX13_run_30, kX13_run_32, kX13_run_35, kX13_run_36i, kX13_run_36r, kX13_run_37, kX13_run_40, kX13_run_41, kX13_run_42, kX13_run_45, kX13_run_46E, kX13_run_49, kX13_run_52, kX13_run_53, kX13_run_56, kX13_run_59, kX13_run_60, kX13_run_63, kX13_run_64, kX13_run_67, kX13_run_70, kX13_run_71E, q_cut_i, q_cut_r, q_cut_l, q_cut_n, q_kd_ov, ov_f0, ov_f1, ov_f2, ov_f3, ov_f4, ov_f5, ov_f6, ov_f7, ov_f8, ov_f9, ov_f10, ov_f11, ov_f12, ov_f13, ov_f14, ov_f15, ov_f16, ov_r, ov_w, ov_w1, ov_w2, ov_w4, ov_w5, ov_w6, ov_w7, ov_w9, ov_w11, ov_w13, ov_w16, up_s, up_k, up_j, up_up, q_psh_n, q_psh_s, bI_eq0, ite_not, ↓if_pos, ↓if_neg, ↓ite_bI_t, ↓ite_bI_f, hhere, hF, t5]
          exact this
        · rw [if_neg g4] at hpost
          have := hpost T hT (by omega) (by rw [hT11]; rfl) (by
            intro i hi
            have : i = 0 := by simpa using hi
            subst this
            exact hrec)
          simp (disch := first | assumption | exact RK0 hK | exact RK1a hK | exact RK2a hK | exact RK3a hK | exact RK4a hK | exact RK5a hK | exact RK6a hK | exact RK7a hK | exact RGl hR | exact RGh hR | exact bI_lo | exact bI_hi | exact bI_01 | (show (List.map q_wd _).sum ≤ 8; with_unfolding_all exact Nat.le_of_ble_eq_true rfl) | (refine RK1c hK ?_; omega) | (refine RK2c hK ?_; omega) | (refine RK3c hK ?_; omega) | (refine RK4c hK ?_; omega) | (refine RK5c hK ?_; omega) | (refine RK6c hK ?_; omega) | (refine RK7c hK ?_; omega) | omega) only [kX13_run_19, kX13_run_20, kX13_run_23, kX13_run_26, kX13_run_27E, kX13_run_30, kX13_run_32, kX13_run_35, kX13_run_36i, kX13_run_36r, kX13_run_37, kX13_run_40, kX13_run_41, kX13_run_42, kX13_run_45, kX13_run_46E, kX13_run_49, kX13_run_52, kX13_run_53, kX13_run_56, kX13_run_59, kX13_run_60, kX13_run_63, kX13_run_64, kX13_run_67, kX13_run_70, kX13_run_71E, q_cut_i, q_cut_r, q_cut_l, q_cut_n, q_kd_ov, ov_f0, ov_f1, ov_f2, ov_f3, ov_f4, ov_f5, ov_f6, ov_f7, ov_f8, ov_f9, ov_f10, ov_f11, ov_f12, ov_f13, ov_f14, ov_f15, ov_f16, ov_r, ov_w, ov_w1, ov_w2, ov_w4, ov_w5, ov_w6, ov_w7, ov_w9, ov_w11, ov_w13, ov_w16, up_s, up_k, up_j, up_up, q_psh_n, q_psh_s, bI_eq0, ite_not, ↓if_pos, ↓if_neg, ↓ite_bI_t, ↓ite_bI_f, hhere]
          exact this
