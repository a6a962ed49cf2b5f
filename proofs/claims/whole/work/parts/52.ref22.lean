/-! the reference's methods: a text done -/
def qNo (S : RS) (q : pQ) : Int := rNo S q.1 q.2.1 q.2.2.1 q.2.2.2.1 (S 1 2).toNat (S 1 0).toNat
def qOp (S : RS) (q : pQ) : RS := rOp S q.1 q.2.1 q.2.2.1 q.2.2.2.1 (S 1 2).toNat (S 1 0).toNat
def rDoA : List pQ → Nat → RS → RS × Option (Nat × Int)
  | [], _, S => (S, none)
  | q :: l, k, S => if qNo (rDw S (13 * (k : Int))) q = 0 then rDoA l (k + 1) (qOp (rDw S (13 * (k : Int))) q) else (rDw S (13 * (k : Int)), some (k, qNo (rDw S (13 * (k : Int))) q))
/-- what the doing of each needs -/
def rOkS (S : RS) : Prop := ∃ n N NP : Nat, RB S n N NP ∧ N < 700 ∧ NP < 700 ∧ S 1 5 ≤ 1000000 ∧ S 1 6 ≤ 1000000
def rOkA : List pQ → Nat → RS → Prop
  | [], _, _ => True
  | q :: l, k, S => rOkS S ∧ (qNo (rDw S (13 * (k : Int))) q = 0 → rOkA l (k + 1) (qOp (rDw S (13 * (k : Int))) q))
theorem rDoA_f : ∀ (l : List pQ) (k : Nat) (S : RS), (rDoA l k S).1 2 = S 2 ∧ (rDoA l k S).1 4 = S 4 ∧ (rDoA l k S).1 5 = S 5 ∧ (rDoA l k S).1 7 = S 7 ∧ (∀ j, j ≠ 9 → (rDoA l k S).1 0 j = S 0 j)
  | [], k, S => ⟨rfl, rfl, rfl, rfl, fun _ _ => rfl⟩
  | q :: l, k, S => by
    rw [rDoA]
    split
    · obtain ⟨i1, i2, i3, i4, i5⟩ := rDoA_f l (k + 1) (qOp (rDw S (13 * (k : Int))) q)
      have e : ∀ t, t ≠ 1 → qOp (rDw S (13 * (k : Int))) q t = rDw S (13 * (k : Int)) t := fun t ht => rOp_k ht
      refine ⟨?_, ?_, ?_, ?_, fun j hj => ?_⟩
      · rw [i1, e 2 (by omega), rDw_k (by omega) (by omega)]
      · rw [i2, e 4 (by omega), rDw_k (by omega) (by omega)]
      · rw [i3, e 5 (by omega), rDw_k (by omega) (by omega)]
      · rw [i4, e 7 (by omega), rDw_k (by omega) (by omega)]
      · rw [i5 j hj, e 0 (by omega), rDw_0 hj]
    · exact ⟨rDw_k (by omega) (by omega), rDw_k (by omega) (by omega), rDw_k (by omega) (by omega), rDw_k (by omega) (by omega), fun j hj => rDw_0 hj⟩
set_option maxHeartbeats 4000000 in
theorem runDo {d m : Nat} {S0 : RS} {M : QM} {x : QP} {L : List pQ} (hK : RK m M) (hL : L.length ≤ 60) (h : Int → Int) (hq : ∀ q ∈ L, qOk h q) : ∀ (l : List pQ) (k : Nat) (S : RS) (l2 : Option CV), RG S → L = L.take k ++ l → k + l.length = L.length → S 0 11 = L.length → (∀ i (h : i < L.length), cRec S S0 (13 * (i : Int)) L[i]) → rOkA l k S →
    (match rDoA l k S with
      | (T, none) => RG T → ∀ l2, Rr (q_C (d + 6)) mX13_run (151, [some (qr m), some (qi L.length), l2], [], ov m T M) x
      | (T, some r) => RG T → x (some (qi (-200 - r.1))) (ov m (up (rCpN T 8 0 13475) 0 7 r.2) M)) →
    Rr (q_C (d + 6)) mX13_run (103, [some (qr m), some (qi k), l2], [], ov m S M) x := by
  intro l
  induction l with
  | nil =>
    intro k S l2 hR hl hk h11 hrec hok hx
    have e : k = L.length := by simpa using hk
    subst e
    have := hx hR l2
    rw [kX13_run_103]
    simp (disch := first | assumption | exact RK0 hK | exact RK1a hK | exact RK2a hK | exact RK3a hK | exact RK4a hK | exact RK5a hK | exact RK6a hK | exact RK7a hK | exact RGl hR | exact RGh hR | exact bI_lo | exact bI_hi | exact bI_01 | (show (List.map q_wd _).sum ≤ 8; with_unfolding_all exact Nat.le_of_ble_eq_true rfl) | (refine RK1c hK ?_; omega) | (refine RK2c hK ?_; omega) | (refine RK3c hK ?_; omega) | (refine RK4c hK ?_; omega) | (refine RK5c hK ?_; omega) | (refine RK6c hK ?_; omega) | (refine RK7c hK ?_; omega) | omega) only [kX13_run_104, kX13_run_105, kX13_run_108, kX13_run_111, kX13_run_112, kX13_run_114, kX13_run_115, kX13_run_116E, kX13_run_119, kX13_run_120, kX13_run_121, kX13_run_124, kX13_run_127, kX13_run_128, kX13_run_130, kX13_run_131E, kX13_run_134, kX13_run_135, kX13_run_136, kX13_run_139, kX13_run_142, kX13_run_143, kX13_run_144, kX13_run_145, kX13_run_148, q_cut_i, q_cut_r, q_cut_l, q_cut_n, q_kd_ov, ov_f0, ov_f1, ov_f2, ov_f3, ov_f4, ov_f5, ov_f6, ov_f7, ov_f8, ov_f9, ov_f10, ov_f11, ov_f12, ov_f13, ov_f14, ov_f15, ov_f16, ov_r, ov_w, ov_w1, ov_w2, ov_w4, ov_w5, ov_w6, ov_w7, ov_w9, ov_w11, ov_w13, ov_w16, up_s, up_k, up_j, up_up, q_psh_n, q_psh_s, bI_eq0, ite_not, ↓if_pos, ↓if_neg, ↓ite_bI_t, ↓ite_bI_f, h11]
    exact this
  | cons q l ih =>
    intro k S l2 hR hl hk h11 hrec hok hx
    rw [List.length_cons] at hk
    have hkl : k < L.length := by omega
    have hLk : L[k] = q := by
      have h1 : L[k]? = some q := by
        rw [hl, List.getElem?_append_right (by rw [List.length_take]; omega), List.length_take, show k - min k L.length = 0 by omega]; rfl
      rw [List.getElem?_eq_getElem hkl] at h1
      exact Option.some.inj h1
    obtain ⟨c0, c1, c2, c3, c4, c5⟩ := hrec k hkl
    rw [hLk] at c0 c1 c2 c3 c4 c5
    have hqm : q ∈ L := by rw [← hLk]; exact List.getElem_mem hkl
    obtain ⟨o1, o2, o3, o4, o5, o6, o7⟩ := hq q hqm
    rw [rOkA] at hok
    obtain ⟨⟨n, N, NP, hb, hN, hNP, hs5, hs6⟩, hok2⟩ := hok
    have T1 : rDw S (13 * (k : Int)) 1 = S 1 := rDw_k (by omega) (by omega)
    have en : (rDw S (13 * (k : Int)) 1 0).toNat = n := by rw [T1, hb.1]; rfl
    have eP : (rDw S (13 * (k : Int)) 1 2).toNat = NP := by rw [T1, hb.2.2.2.1]; rfl
    have eNo : qNo (rDw S (13 * (k : Int))) q = rNo (rDw S (13 * (k : Int))) q.1 q.2.1 q.2.2.1 q.2.2.2.1 NP n := by unfold qNo; rw [en, eP]
    have eOp : qOp (rDw S (13 * (k : Int))) q = rOp (rDw S (13 * (k : Int))) q.1 q.2.1 q.2.2.1 q.2.2.2.1 NP n := by unfold qOp; rw [en, eP]
    have hD := fun z : QP => tX13_does (d := d) (x := z) hK hR (B := 13 * (k : Int)) (w := q.2.2.2.2.2) (by omega) c4 o6 hb hN hNP c1 c2 c3 c0 o3 o4 o5 o1 o2
    rw [← eNo, ← eOp] at hD
    have nb : 0 ≤ qNo (rDw S (13 * (k : Int))) q ∧ qNo (rDw S (13 * (k : Int))) q ≤ 9 := by rw [eNo]; exact rNo_b
    have RT : RG (rDw S (13 * (k : Int))) := RG_rDw hR
    rw [rDoA] at hx
    rw [kX13_run_103]
    by_cases g : qNo (rDw S (13 * (k : Int))) q = 0
    · rw [if_pos g] at hx
      simp only [if_pos g] at hD
      rw [g] at hD
      have hbT := RB_c T1 hb
      have RU : RG (qOp (rDw S (13 * (k : Int))) q) := by
        rw [eOp]
        exact RG_rOp RT (w := q.2.2.2.2.2) (by rw [rDw_9, c4]) o6 hbT hN hNP (by rw [T1]; exact hs5) (by rw [T1]; exact hs6) ⟨fun h => ⟨o3.1, o2 h⟩, o1⟩ (by rw [← eNo]; exact g)
      have eU : ∀ t, t ≠ 1 → t ≠ 0 → t ≠ 3 → qOp (rDw S (13 * (k : Int))) q t = S t := fun t t1 t0 t3 => by
        rw [eOp, rOp_k t1, rDw_k t3 t0]
      have e11 : qOp (rDw S (13 * (k : Int))) q 0 11 = L.length := by rw [eOp, rOp_k (by omega), rDw_0 (by omega), h11]
      have key := ih (k + 1) (qOp (rDw S (13 * (k : Int))) q) (some (qi 0)) RU (by
          rw [List.take_add_one, List.getElem?_eq_getElem hkl, hLk]
          simpa using hl) (by omega) e11 (fun i hi => by
          obtain ⟨d0, d1, d2, d3, d4, d5⟩ := hrec i hi
          unfold cRec
          rw [eU 4 (by omega) (by omega) (by omega)]
          exact ⟨d0, d1, d2, d3, d4, d5⟩) (hok2 g) hx
      simp (disch := first | assumption | exact RK0 hK | exact RK1a hK | exact RK2a hK | exact RK3a hK | exact RK4a hK | exact RK5a hK | exact RK6a hK | exact RK7a hK | exact RGl hR | exact RGh hR | exact bI_lo | exact bI_hi | exact bI_01 | (show (List.map q_wd _).sum ≤ 8; with_unfolding_all exact Nat.le_of_ble_eq_true rfl) | (refine RK1c hK ?_; omega) | (refine RK2c hK ?_; omega) | (refine RK3c hK ?_; omega) | (refine RK4c hK ?_; omega) | (refine RK5c hK ?_; omega) | (refine RK6c hK ?_; omega) | (refine RK7c hK ?_; omega) | omega) only [kX13_run_104, kX13_run_105, kX13_run_108, kX13_run_111, kX13_run_112, kX13_run_114, kX13_run_115, kX13_run_116E, kX13_run_119, kX13_run_120, kX13_run_121, kX13_run_124, kX13_run_127, kX13_run_128, kX13_run_130, kX13_run_131E, kX13_run_134, kX13_run_135, kX13_run_136, kX13_run_139, kX13_run_142, kX13_run_143, kX13_run_144, kX13_run_145, kX13_run_148, q_cut_i, q_cut_r, q_cut_l, q_cut_n, q_kd_ov, ov_f0, ov_f1, ov_f2, ov_f3, ov_f4, ov_f5, ov_f6, ov_f7, ov_f8, ov_f9, ov_f10, ov_f11, ov_f12, ov_f13, ov_f14, ov_f15, ov_f16, ov_r, ov_w, ov_w1, ov_w2, ov_w4, ov_w5, ov_w6, ov_w7, ov_w9, ov_w11, ov_w13, ov_w16, up_s, up_k, up_j, up_up, q_psh_n, q_psh_s, bI_eq0, ite_not, ↓if_pos, ↓if_neg, ↓ite_bI_t, ↓ite_bI_f, h11, hD]
      exact key
    · rw [if_neg g] at hx
      have := hx RT
      simp only [if_neg g] at hD
      have hcp := fun z : QP => tX13_copies (d := d + 5) (x := z) hK RT (f := 8) (t := 0) (by omega) (by omega) (by omega)
      simp (disch := first | assumption | exact RK0 hK | exact RK1a hK | exact RK2a hK | exact RK3a hK | exact RK4a hK | exact RK5a hK | exact RK6a hK | exact RK7a hK | exact RGl hR | exact RGh hR | exact bI_lo | exact bI_hi | exact bI_01 | (show (List.map q_wd _).sum ≤ 8; with_unfolding_all exact Nat.le_of_ble_eq_true rfl) | (refine RK1c hK ?_; omega) | (refine RK2c hK ?_; omega) | (refine RK3c hK ?_; omega) | (refine RK4c hK ?_; omega) | (refine RK5c hK ?_; omega) | (refine RK6c hK ?_; omega) | (refine RK7c hK ?_; omega) | omega) only [kX13_run_104, kX13_run_105, kX13_run_108, kX13_run_111, kX13_run_112, kX13_run_114, kX13_run_115, kX13_run_116E, kX13_run_119, kX13_run_120, kX13_run_121, kX13_run_124, kX13_run_127, kX13_run_128, kX13_run_130, kX13_run_131E, kX13_run_134, kX13_run_135, kX13_run_136, kX13_run_139, kX13_run_142, kX13_run_143, kX13_run_144, kX13_run_145, kX13_run_148, q_cut_i, q_cut_r, q_cut_l, q_cut_n, q_kd_ov, ov_f0, ov_f1, ov_f2, ov_f3, ov_f4, ov_f5, ov_f6, ov_f7, ov_f8, ov_f9, ov_f10, ov_f11, ov_f12, ov_f13, ov_f14, ov_f15, ov_f16, ov_r, ov_w, ov_w1, ov_w2, ov_w4, ov_w5, ov_w6, ov_w7, ov_w9, ov_w11, ov_w13, ov_w16, up_s, up_k, up_j, up_up, q_psh_n, q_psh_s, bI_eq0, ite_not, ↓if_pos, ↓if_neg, ↓ite_bI_t, ↓ite_bI_f, h11, hD, hcp]
      exact this
theorem pAll_len {h : Int → Int} {n : Int} : ∀ (k : Nat) (a e : Int) (l : List pQ), 0 ≤ a → a ≤ n → (∀ b, h b = 59 → b < n) → pAll h n k a = (e, some l) → 2 * (l.length : Int) ≤ n - a + 2 := by
  intro k
  induction k with
  | zero => intro a e l _ _ _ h; cases h
  | succ k ih =>
    intro a e l h0 hn h59 hh
    rw [pAll] at hh
    split at hh
    · cases hh
    · rename_i a' q hq
      obtain ⟨h1, h2⟩ := pCmd_a h0 hq
      split at hh
      · rename_i g
        have := h59 a' g
        split at hh
        · cases hh
        · rename_i e' l' hl
          cases hh
          have := ih _ _ _ (by omega) (by omega) h59 hl
          rw [List.length_cons]; omega
      · split at hh
        · cases hh
        · cases hh
          simp
          omega
/-- what the state of the reading is made of -/
def rR0 (S : RS) : RS := up (up (up S 0 5 0) 0 6 (-1)) 0 11 0
theorem rSc_R0 {S : RS} (hR : RG S) : rSc 0 S (rR0 S) := rSc_0 (rSc_0 (rSc_0 (rSc.rf hR) (by omega) (by omega) (by omega)) (by omega) (by omega) (by omega)) (by omega) (by omega) (by omega)
set_option maxHeartbeats 4000000 in
theorem tX13_run {d m : Nat} {S : RS} {M : QM} (hK : RK m M) (hR : RG S) (v0 : 0 ≤ S 0 4) (v1 : S 0 4 ≤ 80) (c0 : 0 ≤ S 0 1 ∧ S 0 1 ≤ 6) {x : QP}
    (hx : match pAll (rHr (S 2) (S 0 4)) (S 0 4) 81 0 with
      | (e, none) => ∀ T, rSc 0 S T → x (some (qi (-100 - e))) (ov m (up T 0 4 0) M)
      | (_, some l) => ∀ T, rSc 0 S T → T 0 11 = l.length → (∀ i (h : i < l.length), cRec T S (13 * (i : Int)) l[i]) → rOkA l 0 (rCpN (up T 0 4 0) 0 8 13475) ∧ (match rDoA l 0 (rCpN (up T 0 4 0) 0 8 13475) with
          | (U, none) => RG U → x (some (qi l.length)) (ov m (rCpN (rKeep U) 8 (rKeep U 0 1) 13475) M)
          | (U, some r) => RG U → x (some (qi (-200 - r.1))) (ov m (up (rCpN U 8 0 13475) 0 7 r.2) M))) :
    q_T (d + 7) iX13_run [qr m] (ov m S M) x := by
  have hs0 := rSc_R0 hR
  have z2 : rR0 S 2 = S 2 := hs0.2.1
  have z4 : rR0 S 0 4 = S 0 4 := hs0.2.2.2.2.1 4 (by omega) (by omega) (by omega) (by omega)
  have z6 : rR0 S 0 6 = -1 := by unfold rR0; rw [up_j (by omega), up_s]
  have z5 : rR0 S 0 5 = 0 := by unfold rR0; rw [up_j (by omega), up_j (by omega), up_s]
  have z11 : rR0 S 0 11 = (0 : Nat) := up_s
  have key := runRd (d := d + 2) (S0 := S) (x := x) hK v1 81 0 0 (rR0 S) hs0.2.2.2.2.2.2 z2 z4 z6 z5 (by omega) v0 (by omega) z11 (by omega) (by
    have h59 : ∀ b, rHr (S 2) (S 0 4) b = 59 → b < S 0 4 := fun b hb => rHr_lt (l := S 2) (by omega)
    generalize hp : pAll (rHr (S 2) (S 0 4)) (S 0 4) 81 0 = r at hx ⊢
    obtain ⟨e, l⟩ := r
    cases l with
    | none =>
      intro T hT hT6 he
      have hR := hT.2.2.2.2.2.2
      have := hx T (rSc_tr hs0 hT (by omega))
      have hT6 : T 0 6 = e := hT6
      have he : 0 ≤ e := he
      have hb := hR 0 6
      rw [hT6] at hb
      simp (disch := first | assumption | exact RK0 hK | exact RK1a hK | exact RK2a hK | exact RK3a hK | exact RK4a hK | exact RK5a hK | exact RK6a hK | exact RK7a hK | exact RGl hR | exact RGh hR | exact bI_lo | exact bI_hi | exact bI_01 | (show (List.map q_wd _).sum ≤ 8; with_unfolding_all exact Nat.le_of_ble_eq_true rfl) | (refine RK1c hK ?_; omega) | (refine RK2c hK ?_; omega) | (refine RK3c hK ?_; omega) | (refine RK4c hK ?_; omega) | (refine RK5c hK ?_; omega) | (refine RK6c hK ?_; omega) | (refine RK7c hK ?_; omega) | omega) only [kX13_run_74, kX13_run_75, kX13_run_76, kX13_run_79, kX13_run_80, kX13_run_83, kX13_run_86, kX13_run_88, kX13_run_89, kX13_run_92, kX13_run_93, q_cut_i, q_cut_r, q_cut_l, q_cut_n, q_kd_ov, ov_f0, ov_f1, ov_f2, ov_f3, ov_f4, ov_f5, ov_f6, ov_f7, ov_f8, ov_f9, ov_f10, ov_f11, ov_f12, ov_f13, ov_f14, ov_f15, ov_f16, ov_r, ov_w, ov_w1, ov_w2, ov_w4, ov_w5, ov_w6, ov_w7, ov_w9, ov_w11, ov_w13, ov_w16, up_s, up_k, up_j, up_up, q_psh_n, q_psh_s, bI_eq0, ite_not, ↓if_pos, ↓if_neg, ↓ite_bI_t, ↓ite_bI_f, hT6]
      exact this
    | some l =>
      intro T hT hT6 hT11 hrec
      have RT := hT.2.2.2.2.2.2
      have hS := rSc_tr hs0 hT (by omega)
      have hT11 : T 0 11 = l.length := by rw [hT11]; show ((0 : Nat) : Int) + _ = _; omega
      obtain ⟨hok, hx2⟩ := hx T hS hT11 (fun i hi => by have := hrec i hi; rw [Nat.zero_add] at this; exact this)
      have hlen := pAll_len 81 0 e l (by omega) v0 h59 hp
      have R4 : RG (up T 0 4 0) := RG_up RT (by omega) (by omega)
      have R8 := RG_rCpN R4 (f := 0) (t := 8) (n := 13475)
      have hcp := fun z : QP => tX13_copies (d := d + 5) (x := z) hK R4 (f := 0) (t := 8) (by omega) (by omega) (by omega)
      have fin := runDo (d := d) (S0 := S) (x := x) hK (L := l) (by omega) _ (pAll_a 81 0 e l (by omega) hp) l 0 (rCpN (up T 0 4 0) 0 8 13475) none R8 (by simp) (by simp) (by rw [rCpN_k (by omega), up_j (by omega), hT11]) (fun i hi => by
        have := hrec i hi
        rw [Nat.zero_add] at this
        unfold cRec at this ⊢
        rw [rCpN_k (by omega), up_k (by omega)]
        exact this) hok (by
        generalize hq : rDoA l 0 (rCpN (up T 0 4 0) 0 8 13475) = r at hx2 ⊢
        obtain ⟨U, r⟩ := r
        have hf := rDoA_f l 0 (rCpN (up T 0 4 0) 0 8 13475)
        rw [hq] at hf
        obtain ⟨f2, f4, f5, f7, f0⟩ := hf
        cases r with
        | some r => exact fun RU => hx2 RU
        | none =>
          intro RU l2
          have u1 : U 0 1 = S 0 1 := by
            have := f0 1 (by omega)
            dsimp only at this
            rw [this, rCpN_k (by omega), up_j (by omega)]
            exact hS.2.2.2.2.1 1 (by omega) (by omega) (by omega) (by omega)
          have u11 : U 0 11 = l.length := by
            have := f0 11 (by omega)
            dsimp only at this
            rw [this, rCpN_k (by omega), up_j (by omega), hT11]
          have RK2 := RG_rKeep RU (by rw [u1]; exact c0)
          have hkp := fun z : QP => tX13_keeps (d := d + 4) (x := z) hK RU (by rw [u1]; exact c0)
          have k1 : 1 ≤ rKeep U 0 1 ∧ rKeep U 0 1 ≤ 6 := by
            unfold rKeep rSh
            by_cases g : U 0 1 = 6
            · rw [if_pos g, rCpN_k (by omega), rCpN_k (by omega), rCpN_k (by omega), rCpN_k (by omega), rCpN_k (by omega), rCpN_k (by omega)]; omega
            · rw [if_neg g, rCpN_k (by omega), up_s]; omega
          have k11 : rKeep U 0 11 = l.length := by rw [rKeep_0 (by omega), u11]
          have hcp2 := fun z : QP => tX13_copies (d := d + 5) (x := z) hK RK2 (f := 8) (t := rKeep U 0 1) (by omega) (by omega) (by omega)
          have e11 : rCpN (rKeep U) 8 (rKeep U 0 1) 13475 0 = rKeep U 0 := rCpN_k (by omega)
          have := hx2 RU
          simp (disch := first | assumption | exact RK0 hK | exact RK1a hK | exact RK2a hK | exact RK3a hK | exact RK4a hK | exact RK5a hK | exact RK6a hK | exact RK7a hK | exact RGl hR | exact RGh hR | exact bI_lo | exact bI_hi | exact bI_01 | (show (List.map q_wd _).sum ≤ 8; with_unfolding_all exact Nat.le_of_ble_eq_true rfl) | (refine RK1c hK ?_; omega) | (refine RK2c hK ?_; omega) | (refine RK3c hK ?_; omega) | (refine RK4c hK ?_; omega) | (refine RK5c hK ?_; omega) | (refine RK6c hK ?_; omega) | (refine RK7c hK ?_; omega) | omega) only [kX13_run_151, kX13_run_152E, kX13_run_155, kX13_run_156, kX13_run_158, kX13_run_159, kX13_run_162E, kX13_run_165, kX13_run_166, kX13_run_169, q_cut_i, q_cut_r, q_cut_l, q_cut_n, q_kd_ov, ov_f0, ov_f1, ov_f2, ov_f3, ov_f4, ov_f5, ov_f6, ov_f7, ov_f8, ov_f9, ov_f10, ov_f11, ov_f12, ov_f13, ov_f14, ov_f15, ov_f16, ov_r, ov_w, ov_w1, ov_w2, ov_w4, ov_w5, ov_w6, ov_w7, ov_w9, ov_w11, ov_w13, ov_w16, up_s, up_k, up_j, up_up, q_psh_n, q_psh_s, bI_eq0, ite_not, ↓if_pos, ↓if_neg, ↓ite_bI_t, ↓ite_bI_f, hkp, hcp2, e11, k11]
          exact this)
      have hR := RT
      simp (disch := first | assumption | exact RK0 hK | exact RK1a hK | exact RK2a hK | exact RK3a hK | exact RK4a hK | exact RK5a hK | exact RK6a hK | exact RK7a hK | exact RGl hR | exact RGh hR | exact bI_lo | exact bI_hi | exact bI_01 | (show (List.map q_wd _).sum ≤ 8; with_unfolding_all exact Nat.le_of_ble_eq_true rfl) | (refine RK1c hK ?_; omega) | (refine RK2c hK ?_; omega) | (refine RK3c hK ?_; omega) | (refine RK4c hK ?_; omega) | (refine RK5c hK ?_; omega) | (refine RK6c hK ?_; omega) | (refine RK7c hK ?_; omega) | omega) only [kX13_run_74, kX13_run_75, kX13_run_76, kX13_run_79, kX13_run_80, kX13_run_83, kX13_run_86, kX13_run_88, kX13_run_89, kX13_run_92, kX13_run_93, kX13_run_94, kX13_run_95, kX13_run_96, kX13_run_98E, kX13_run_101, kX13_run_102, q_cut_i, q_cut_r, q_cut_l, q_cut_n, q_kd_ov, ov_f0, ov_f1, ov_f2, ov_f3, ov_f4, ov_f5, ov_f6, ov_f7, ov_f8, ov_f9, ov_f10, ov_f11, ov_f12, ov_f13, ov_f14, ov_f15, ov_f16, ov_r, ov_w, ov_w1, ov_w2, ov_w4, ov_w5, ov_w6, ov_w7, ov_w9, ov_w11, ov_w13, ov_w16, up_s, up_k, up_j, up_up, q_psh_n, q_psh_s, bI_eq0, ite_not, ↓if_pos, ↓if_neg, ↓ite_bI_t, ↓ite_bI_f, hcp]
      exact fin)
  rw [eX13_run]
  simp (disch := first | assumption | exact RK0 hK | exact RK1a hK | exact RK2a hK | exact RK3a hK | exact RK4a hK | exact RK5a hK | exact RK6a hK | exact RK7a hK | exact RGl hR | exact RGh hR | exact bI_lo | exact bI_hi | exact bI_01 | (show (List.map q_wd _).sum ≤ 8; with_unfolding_all exact Nat.le_of_ble_eq_true rfl) | (refine RK1c hK ?_; omega) | (refine RK2c hK ?_; omega) | (refine RK3c hK ?_; omega) | (refine RK4c hK ?_; omega) | (refine RK5c hK ?_; omega) | (refine RK6c hK ?_; omega) | (refine RK7c hK ?_; omega) | omega) only [kX13_run_0, kX13_run_1, kX13_run_2, kX13_run_5, kX13_run_6, kX13_run_7, kX13_run_10, kX13_run_11, kX13_run_12, kX13_run_15, kX13_run_16E, q_cut_i, q_cut_r, q_cut_l, q_cut_n, q_kd_ov, ov_f0, ov_f1, ov_f2, ov_f3, ov_f4, ov_f5, ov_f6, ov_f7, ov_f8, ov_f9, ov_f10, ov_f11, ov_f12, ov_f13, ov_f14, ov_f15, ov_f16, ov_r, ov_w, ov_w1, ov_w2, ov_w4, ov_w5, ov_w6, ov_w7, ov_w9, ov_w11, ov_w13, ov_w16, up_s, up_k, up_j, up_up, q_psh_n, q_psh_s, bI_eq0, ite_not, ↓if_pos, ↓if_neg, ↓ite_bI_t, ↓ite_bI_f]
  exact key
