
/-! filters in a block; a journal and a block -/
section SBF
variable {S : RS} {n : Nat} {W : Nat → Pl} {mg sp : Int} {FN : List (Int × Int × Int)} {FO : List Nat} {NL : NLt} {PL : List (Int × Int × Int)}
theorem SimB_prt {w a b b' : Int} (hl : SimL n FN FO NL PL) (hF : FN.length < 700) (hO : FO.length < 8) (hb : w ≠ 7 → b = b') (hs : SimB (S 1) n W mg sp FN FO NL PL) : SimB (rPrt S w a b 1) n W mg sp (FN ++ [(w, a, b')]) (FO ++ [FN.length]) NL PL := by
  obtain ⟨l1, l2, l3, l4, l5, l6⟩ := hl
  obtain ⟨s0, ⟨n1, n2⟩, ⟨p1, p2⟩, s3, s4, s5, s6, s7, s8, s9, s10⟩ := hs
  have o : ∀ j : Int, j ≠ 3 → j ≠ 4 → j ≠ 7 + (FO.length : Int) → (j < 11375 + 3 * (FN.length : Int) ∨ 11375 + 3 * (FN.length : Int) + 3 ≤ j) → rPrt S w a b 1 j = S 1 j := fun j h1 h2 h3 h4 => by
    unfold rPrt
    rw [s3, s4, up_j (by omega), up_j (by omega), up_j (by omega), up_j (by omega), up_j (by omega), up_j (by omega)]
  refine ⟨by rw [o _ (by omega) (by omega) (by omega) (by omega), s0], ⟨by rw [o _ (by omega) (by omega) (by omega) (by omega), n1], fun k e he => ?_⟩, ⟨by rw [o _ (by omega) (by omega) (by omega) (by omega), p1], fun k e he => ?_⟩, ?_, ?_, by rw [o _ (by omega) (by omega) (by omega) (by omega), s5], by rw [o _ (by omega) (by omega) (by omega) (by omega), s6], fun i v hv => ?_, fun t q hq => ?_, fun q hq => ?_, fun q h1 h2 => ?_⟩
  · have kl := getE_lt he
    have e8 := l6 e (List.mem_of_getElem? he)
    obtain ⟨a1, a2, a3, a4⟩ := n2 k e he
    refine ⟨by rw [o _ (by omega) (by omega) (by omega) (by omega), a1], by rw [o _ (by omega) (by omega) (by omega) (by omega), a2], by rw [o _ (by omega) (by omega) (by omega) (by omega), a3], fun j c hc => ?_⟩
    have := getE_lt hc
    rw [o _ (by omega) (by omega) (by omega) (by omega), a4 j c hc]
  · have kl := getE_lt he
    obtain ⟨a1, a2, a3⟩ := p2 k e he
    exact ⟨by rw [o _ (by omega) (by omega) (by omega) (by omega), a1], by rw [o _ (by omega) (by omega) (by omega) (by omega), a2], by rw [o _ (by omega) (by omega) (by omega) (by omega), a3]⟩
  · unfold rPrt
    rw [up_j (by omega), up_s, s3]; simp
  · unfold rPrt
    rw [up_s, s4]; simp
  · have il := getE_lt hv
    have ll : (FO ++ [FN.length]).length = FO.length + 1 := by simp
    by_cases g : i < FO.length
    · rw [List.getElem?_append_left g] at hv
      rw [o _ (by omega) (by omega) (by omega) (by omega), s7 i v hv]
    · have gi : i = FO.length := by omega
      rw [gi, List.getElem?_append_right (Nat.le_refl _), Nat.sub_self] at hv
      have ev : FN.length = v := Option.some.inj hv
      rw [gi, ← ev]
      unfold rPrt
      rw [s3, s4, up_j (by omega), up_j (by omega), up_s]
  · have il := getE_lt hq
    have ll : (FN ++ [(w, a, b')]).length = FN.length + 1 := by simp
    by_cases g : t < FN.length
    · rw [List.getElem?_append_left g] at hq
      obtain ⟨a1, a2, a3⟩ := s8 t q hq
      exact ⟨by rw [o _ (by omega) (by omega) (by omega) (by omega), a1], by rw [o _ (by omega) (by omega) (by omega) (by omega), a2], fun z7 => by rw [o _ (by omega) (by omega) (by omega) (by omega), a3 z7]⟩
    · have gi : t = FN.length := by omega
      rw [gi, List.getElem?_append_right (Nat.le_refl _), Nat.sub_self] at hq
      have ev : (w, a, b') = q := Option.some.inj hq
      rw [gi, ← ev]
      unfold rPrt
      rw [s3, s4]
      refine ⟨by rw [up_j (by omega), up_j (by omega), up_j (by omega), up_j (by omega), up_j (by omega), up_s], by rw [up_j (by omega), up_j (by omega), up_j (by omega), up_j (by omega), up_s], fun z7 => ?_⟩
      rw [up_j (by omega), up_j (by omega), up_j (by omega), up_s]
      exact hb z7
  · exact PBk_c (fun j j0 j1 => o _ (by omega) (by omega) (by omega) (by omega)) (s9 q hq)
  · rw [o _ (by omega) (by omega) (by omega) (by omega), o _ (by omega) (by omega) (by omega) (by omega)]
    exact s10 q h1 h2
theorem SimB_dr {f c : Nat} (hl : SimL n FN FO NL PL) (hf : f < FO.length) (hc : f + c + 1 = FO.length) (hs : SimB (S 1) n W mg sp FN FO NL PL) : SimB (rDr (up S 1 4 (S 1 4 - 1)) f c 1) n W mg sp FN (FO.eraseIdx f) NL PL := by
  obtain ⟨l1, l2, l3, l4, l5, l6⟩ := hl
  obtain ⟨s0, ⟨n1, n2⟩, ⟨p1, p2⟩, s3, s4, s5, s6, s7, s8, s9, s10⟩ := hs
  have o : ∀ j : Int, j ≠ 4 → (j < 7 + (f : Int) ∨ 7 + (f : Int) + c ≤ j) → rDr (up S 1 4 (S 1 4 - 1)) f c 1 j = S 1 j := fun j h1 h2 => by
    unfold rDr
    rw [if_neg (fun z => by omega), up_j h1]
  refine ⟨by rw [o _ (by omega) (by omega), s0], ⟨by rw [o _ (by omega) (by omega), n1], fun k e he => ?_⟩, ⟨by rw [o _ (by omega) (by omega), p1], fun k e he => ?_⟩, by rw [o _ (by omega) (by omega), s3], ?_, by rw [o _ (by omega) (by omega), s5], by rw [o _ (by omega) (by omega), s6], fun i v hv => ?_, fun t q hq => ?_, fun q hq => ?_, fun q h1 h2 => ?_⟩
  · have kl := getE_lt he
    obtain ⟨a1, a2, a3, a4⟩ := n2 k e he
    refine ⟨by rw [o _ (by omega) (by omega), a1], by rw [o _ (by omega) (by omega), a2], by rw [o _ (by omega) (by omega), a3], fun j c' hc' => by rw [o _ (by omega) (by omega), a4 j c' hc']⟩
  · have kl := getE_lt he
    obtain ⟨a1, a2, a3⟩ := p2 k e he
    exact ⟨by rw [o _ (by omega) (by omega), a1], by rw [o _ (by omega) (by omega), a2], by rw [o _ (by omega) (by omega), a3]⟩
  · unfold rDr
    rw [if_neg (fun z => by omega), up_s, s4, List.length_eraseIdx, if_pos hf]; omega
  · have il := getE_lt hv
    rw [List.length_eraseIdx, if_pos hf] at il
    rw [List.getElem?_eraseIdx] at hv
    by_cases g : i < f
    · rw [if_pos g] at hv
      rw [o _ (by omega) (by omega), s7 i v hv]
    · rw [if_neg g] at hv
      have := s7 (i + 1) v hv
      unfold rDr
      rw [if_pos ⟨rfl, by omega, by omega⟩, up_j (by omega), ← this]
      exact congrArg _ (by omega)
  · have := getE_lt hq
    obtain ⟨a1, a2, a3⟩ := s8 t q hq
    exact ⟨by rw [o _ (by omega) (by omega), a1], by rw [o _ (by omega) (by omega), a2], fun z7 => by rw [o _ (by omega) (by omega), a3 z7]⟩
  · exact PBk_c (fun j j0 j1 => o _ (by omega) (by omega)) (s9 q hq)
  · rw [o _ (by omega) (by omega), o _ (by omega) (by omega)]
    exact s10 q h1 h2
theorem SimF_ap {q : Int × Int × Int} (h : SimF FN FO) (h1 : q.1 = 5 ∨ q.1 = 6 → (0 ≤ q.2.1 ∧ q.2.1 < FN.length) ∧ 0 ≤ q.2.2 ∧ q.2.2 < FN.length) (h2 : q.1 = 7 → 0 ≤ q.2.1 ∧ q.2.1 < FN.length) (h3 : 0 ≤ q.1 ∧ q.1 ≤ 7) (h4 : q.1 ≤ 4 → 0 ≤ q.2.1 ∧ q.2.1 ≤ 9999) : SimF (FN ++ [q]) (FO ++ [FN.length]) := by
  obtain ⟨f1, f2, f3⟩ := h
  refine ⟨fun i r hr => ?_, fun v hv => ?_, fun r hr => ?_⟩
  · have il := getE_lt hr
    have ll : (FN ++ [q]).length = FN.length + 1 := by simp
    by_cases g : i < FN.length
    · rw [List.getElem?_append_left g] at hr
      exact f1 i r hr
    · have gi : i = FN.length := by omega
      rw [gi, List.getElem?_append_right (Nat.le_refl _), Nat.sub_self] at hr
      have ev : q = r := Option.some.inj hr
      rw [← ev, gi]
      exact ⟨h1, h2⟩
  · rw [List.length_append]
    rcases List.mem_append.mp hv with z | z
    · have := f2 v z; omega
    · rw [List.mem_singleton.mp z]; simp
  · rcases List.mem_append.mp hr with z | z
    · exact f3 r z
    · rw [List.mem_singleton.mp z]; exact ⟨h3, h4⟩
theorem SimF_dr {f : Nat} (h : SimF FN FO) : SimF FN (FO.eraseIdx f) := ⟨h.1, fun v hv => h.2.1 v (List.mem_of_mem_eraseIdx hv), h.2.2⟩
end SBF
/-- a world begun anew -/
def C0 (W0 : Nat → Pl) : CWs := (W0, 0, 0, 0, [], [])
def CBg (W : Nat → Pl) : Prop := ∀ i, i < 20 → (plN (W i)).length ≤ 1000 ∧ (plT (W i)).length ≤ 1000 ∧ (plH (W i)).length ≤ 5000 ∧ -5000 ≤ plG (W i) ∧ plG (W i) ≤ 5000
def SimJ (J : List Od) (b : Int → Int) : Prop := ∀ W0, ∃ NL PL, SimK J.length b (cRun (C0 W0) J) NL PL ∧ ∀ p, cn (cRun (C0 W0) J) ≤ p → cW (cRun (C0 W0) J) p = W0 p
def jOkJ (J : List Od) : Prop := ∀ W0, CBg W0 → ∀ (i : Nat) (q : Od), J[i]? = some q → oOk (cRun (C0 W0) (J.take i)) q ∧ CB (cRun (C0 W0) (J.take i))
def RJ (J : List Od) (b : Int → Int) : Prop := SimJ J b ∧ jOkJ J
theorem jOk_J {C : CWs} {J : List Od} (h : jOkJ J) (hC : CBg (cW C)) : jOk C J := h (cW C) hC
theorem SimK_CB {k : Nat} {b : Int → Int} {C : CWs} {NL : NLt} {PL : List (Int × Int × Int)} {W0 : Nat → Pl} (h : SimK k b C NL PL) (hk : k ≤ 600) (hg : ∀ p, cn C ≤ p → cW C p = W0 p) (hW : CBg W0) : CB C := by
  obtain ⟨hs, hp, h3, h4, h5, h6, h7, h8, h9, h10⟩ := h
  have hm := bCt_le (fun p => decide (plI (cW C p) ≠ -5)) (cn C)
  have hmg := hp.2.2.2.2
  refine ⟨fun i hi => ?_, by omega, ⟨by omega, by omega⟩, ⟨by omega, by omega⟩⟩
  by_cases g : i < cn C
  · obtain ⟨a1, a2, a3, a4, a5⟩ := hp.1 i g
    obtain ⟨t1, t2⟩ := h10 i g
    have n1 : (plN (cW C i)).length ≤ NL.length := by
      rw [a2.1]
      unfold nmL
      rw [List.length_map]
      exact List.length_filter_le _ _
    have g1 := List.length_filter_le (fun e : Int × Int × Int => decide (e.1 = (i : Int))) PL
    have g2 := a3.2.2.2.2.2
    exact ⟨by omega, by omega, by omega, by omega, by omega⟩
  · rw [hg i (by omega)]; exact hW i hi
theorem CB_g {C : CWs} (h : CB C) : CBg (cW C) := h.1
theorem cDo_g {C : CWs} {q : Od} (h : oOk C q) : cn C ≤ cn (cDo C q).1 ∧ ∀ p, cn (cDo C q).1 ≤ p → cW (cDo C q).1 p = cW C p := by
  obtain ⟨so, a, b, y, wd⟩ := q
  rcases h with ⟨hso, hno, -⟩ | ⟨hso, -⟩ | ⟨hso, -⟩ | ⟨hso, -⟩
  · have hso' : 0 ≤ so ∧ so ≤ 5 := hso
    have hh : so = 0 ∨ so = 1 ∨ so = 2 ∨ so = 3 ∨ so = 4 ∨ so = 5 := by omega
    rcases hh with rfl | rfl | rfl | rfl | rfl | rfl
    · refine ⟨Nat.le_succ _, fun p hp => ?_⟩
      have hp' : cn C + 1 ≤ p := hp
      show upF (cW C) (cn C) _ p = cW C p
      rw [upF_o (by omega)]
    · obtain ⟨p0, rfl, hpn, -⟩ := cNoE_0i (cNo_1 hno).1
      refine ⟨Nat.le_refl _, fun p hp => ?_⟩
      have hp' : cn C ≤ p := hp
      show upF (cW C) p0 _ p = cW C p
      rw [upF_o (by omega)]
    · obtain ⟨p0, rfl, hpn, -⟩ := cNoE_0i (cNo_2 hno).1
      refine ⟨Nat.le_refl _, fun p hp => ?_⟩
      have hp' : cn C ≤ p := hp
      show upF (cW C) p0 _ p = cW C p
      rw [upF_o (by omega)]
    · obtain ⟨p0, rfl, hpn, -⟩ := cNoE_0i (cNo_3 hno).1
      refine ⟨Nat.le_succ _, fun p hp => ?_⟩
      have hp' : cn C + 1 ≤ p := hp
      show upF (upF (cW C) (cn C) _) p0 _ p = cW C p
      rw [upF_o (by omega), upF_o (by omega)]
    · obtain ⟨n1, n2, n3, n4, n5⟩ := cNo_4 hno
      obtain ⟨p0, rfl, hpn, -⟩ := cNoE_0i n1
      refine ⟨Nat.le_refl _, fun p hp => ?_⟩
      have hp' : cn C ≤ p := hp
      show cTk (cM2 (cW C) p0 b.toNat y) p0 b.toNat y 0 (cn C) (cM2 (cW C) p0 b.toNat y) p = cW C p
      unfold cTk
      rw [if_neg (fun z => by omega)]
      unfold cM2
      rw [upF_o (by omega)]
      unfold cM1
      rw [upF_o (by omega)]
    · obtain ⟨p0, rfl, hpn, -⟩ := cNoE_0i (cNo_5 hno).1
      refine ⟨Nat.le_refl _, fun p hp => ?_⟩
      have hp' : cn C ≤ p := hp
      show upF (cW C) p0 _ p = cW C p
      rw [upF_o (by omega)]
  · have e : so = 6 := hso
    subst e
    exact ⟨Nat.le_refl _, fun p _ => rfl⟩
  · have e : so = 7 := hso
    subst e
    exact ⟨Nat.le_refl _, fun p _ => rfl⟩
  · have e : so = 8 := hso
    subst e
    exact ⟨Nat.le_refl _, fun p _ => rfl⟩
theorem cRun_a {C : CWs} {J : List Od} {q : Od} : cRun C (J ++ [q]) = (cDo (cRun C J) q).1 := by unfold cRun; rw [List.foldl_append]; rfl
theorem RJ_step {J : List Od} {q : Od} {b b' : Int → Int} (h : RJ J b) (hk : J.length ≤ 600) (hst : ∀ C NL PL, SimK J.length b C NL PL → oOk C q ∧ ∃ NL' PL', SimK (J.length + 1) b' (cDo C q).1 NL' PL') : RJ (J ++ [q]) b' := by
  obtain ⟨h1, h2⟩ := h
  refine ⟨fun W0 => ?_, fun W0 hW i r hr => ?_⟩
  · obtain ⟨NL, PL, k1, g1⟩ := h1 W0
    obtain ⟨ok, NL', PL', k2⟩ := hst _ NL PL k1
    obtain ⟨d1, d2⟩ := cDo_g ok
    refine ⟨NL', PL', ?_, fun p hp => ?_⟩
    · rw [cRun_a, List.length_append]; exact k2
    · rw [cRun_a] at hp ⊢
      rw [d2 p hp, g1 p (by omega)]
  · have il := getE_lt hr
    have ll : (J ++ [q]).length = J.length + 1 := by simp
    by_cases g : i < J.length
    · rw [List.getElem?_append_left g] at hr
      rw [List.take_append_of_le_length (by omega)]
      exact h2 W0 hW i r hr
    · have gi : i = J.length := by omega
      rw [gi, List.getElem?_append_right (Nat.le_refl _), Nat.sub_self] at hr
      have ev : q = r := Option.some.inj hr
      obtain ⟨NL, PL, k1, g1⟩ := h1 W0
      rw [← ev, gi, List.take_left']
      · exact ⟨(hst _ NL PL k1).1, SimK_CB k1 hk g1 hW⟩
      · rfl
theorem RJ_c {J : List Od} {b b' : Int → Int} (h : RJ J b) (hk : J.length ≤ 600) (e : ∀ j : Int, 0 ≤ j → j < 13475 → b' j = b j) : RJ J b' := by
  refine ⟨fun W0 => ?_, h.2⟩
  obtain ⟨NL, PL, k1, g1⟩ := h.1 W0
  have hl := SimK_L k1 (by omega)
  exact ⟨NL, PL, ⟨SimB_c hl e k1.1, k1.2⟩, g1⟩
