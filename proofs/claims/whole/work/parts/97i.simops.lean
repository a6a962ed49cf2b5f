
/-! what the orders do to a block -/
def pEq (P Q : Pl) : Prop := plK P = plK Q ∧ plF P = plF Q ∧ plE P = plE Q ∧ plI P = plI Q ∧ plL P = plL Q ∧ plH P = plH Q
theorem pEq.rf {P : Pl} : pEq P P := ⟨rfl, rfl, rfl, rfl, rfl, rfl⟩
theorem PBk_e {b : Int → Int} {q : Nat} {P Q : Pl} (h : pEq P Q) (hp : PBk b q P) : PBk b q Q := by
  obtain ⟨e1, e2, e3, e4, e5, e6⟩ := h
  unfold PBk at hp ⊢
  rw [← e1, ← e2, ← e3, ← e4, ← e5, ← e6]
  exact hp
theorem SimB_eq {b : Int → Int} {n : Nat} {W W' : Nat → Pl} {mg sp : Int} {FN : List (Int × Int × Int)} {FO : List Nat} {NL : NLt} {PL : List (Int × Int × Int)} (h : ∀ q, q < n → pEq (W q) (W' q)) (hs : SimB b n W mg sp FN FO NL PL) : SimB b n W' mg sp FN FO NL PL := by
  obtain ⟨s0, s1, s2, s3, s4, s5, s6, s7, s8, s9, s10⟩ := hs
  exact ⟨s0, s1, s2, s3, s4, s5, s6, s7, s8, fun q hq => PBk_e (h q hq) (s9 q hq), s10⟩
theorem upF_u {f : Nat → Pl} {i : Nat} {v w : Pl} : upF (upF f i v) i w = upF f i w := by
  funext j
  unfold upF
  by_cases h : j = i
  · rw [if_pos h, if_pos h]
  · rw [if_neg h, if_neg h, if_neg h]
section SOP
variable {S : RS} {n : Nat} {W : Nat → Pl} {mg sp : Int} {FN : List (Int × Int × Int)} {FO : List Nat} {NL : NLt} {PL : List (Int × Int × Int)}
theorem SimB_F1 {k y : Int} {P : Pl} (hl : SimL n FN FO NL PL) (hn : n < 20) (hP : plK P = k ∧ plF P = y ∧ plE P = -5 ∧ plI P = -5 ∧ plL P = y ∧ plH P = []) (hs : SimB (S 1) n W mg sp FN FO NL PL) : SimB (rF1 S k y 1) (n + 1) (upF W n P) mg sp FN FO NL PL := by
  obtain ⟨l1, l2, l3, l4, l5, l6⟩ := hl
  obtain ⟨s0, ⟨n1, n2⟩, ⟨p1, p2⟩, s3, s4, s5, s6, s7, s8, s9, s10⟩ := hs
  obtain ⟨e1, e2, e3, e4, e5, e6⟩ := hP
  have o : ∀ j : Int, j ≠ 0 → (j < 15 + 78 * (n : Int) ∨ 15 + 78 * (n : Int) + 6 ≤ j) → rF1 S k y 1 j = S 1 j := fun j h1 h2 => by
    unfold rF1
    rw [s0, up_j (by omega), up_j (by omega), up_j (by omega), up_j (by omega), up_j (by omega), up_j (by omega), up_j (by omega)]
  refine ⟨?_, ⟨by rw [o _ (by omega) (by omega), n1], fun k e he => ?_⟩, ⟨by rw [o _ (by omega) (by omega), p1], fun k e he => ?_⟩, by rw [o _ (by omega) (by omega), s3], by rw [o _ (by omega) (by omega), s4], by rw [o _ (by omega) (by omega), s5], by rw [o _ (by omega) (by omega), s6], fun i v hv => ?_, fun t q hq => ?_, fun q hq => ?_, fun q h1 h2 => ?_⟩
  · unfold rF1
    rw [s0, up_j (by omega), up_j (by omega), up_j (by omega), up_j (by omega), up_j (by omega), up_j (by omega), up_s]; omega
  · have kl := getE_lt he
    have e8 := l6 e (List.mem_of_getElem? he)
    obtain ⟨a1, a2, a3, a4⟩ := n2 k e he
    refine ⟨by rw [o _ (by omega) (by omega), a1], by rw [o _ (by omega) (by omega), a2], by rw [o _ (by omega) (by omega), a3], fun j c hc => by rw [o _ (by omega) (by omega), a4 j c hc]⟩
  · have kl := getE_lt he
    obtain ⟨a1, a2, a3⟩ := p2 k e he
    exact ⟨by rw [o _ (by omega) (by omega), a1], by rw [o _ (by omega) (by omega), a2], by rw [o _ (by omega) (by omega), a3]⟩
  · have := getE_lt hv
    rw [o _ (by omega) (by omega), s7 i v hv]
  · have := getE_lt hq
    obtain ⟨a1, a2, a3⟩ := s8 t q hq
    exact ⟨by rw [o _ (by omega) (by omega), a1], by rw [o _ (by omega) (by omega), a2], fun z7 => by rw [o _ (by omega) (by omega), a3 z7]⟩
  · by_cases e : q = n
    · rw [e, upF_s]
      refine ⟨?_, ?_, ?_, ?_, ?_, ?_, fun i e hi he => by rw [e6] at he; simp at he⟩
      · unfold rF1; rw [s0, e1, up_j (by omega), up_j (by omega), up_j (by omega), up_j (by omega), up_j (by omega), up_s]
      · unfold rF1; rw [s0, e2, up_j (by omega), up_j (by omega), up_j (by omega), up_j (by omega), up_s]
      · unfold rF1; rw [s0, e3, if_pos rfl, up_j (by omega), up_j (by omega), up_j (by omega), up_s]
      · unfold rF1; rw [s0, e4, if_pos rfl, up_j (by omega), up_j (by omega), up_s]
      · unfold rF1; rw [s0, e5, up_j (by omega), up_s]
      · unfold rF1; rw [s0, e6, up_s]; rfl
    · rw [upF_o e]
      exact PBk_c (fun j j0 j1 => o _ (by omega) (by omega)) (s9 q (by omega))
  · rw [o _ (by omega) (by omega), o _ (by omega) (by omega)]
    exact s10 q (by omega) h2
theorem SimB_fou {k par y : Int} {ls : List Int} (hl : SimL n FN FO NL PL) (hn : n < 20) (hN : NL.length < 700) (hP : PL.length < 700) (hc : S 0 9 = ls.length) (h8 : ls.length ≤ 8) (h3 : ∀ (i : Nat) (c : Int), ls[i]? = some c → S 3 i = c) (hs : SimB (S 1) n W mg sp FN FO NL PL) : SimB (rFou S k par y 1) (n + 1) (upF W n (plNew k (if k = 0 then -5 else par) y (pkW ls : Nat))) mg sp FN FO (NL ++ [((n : Int), y, ls)]) (if 0 < k then PL ++ [((n : Int), y, par)] else PL) := by
  have s0 := hs.1
  have hl' := hl
  obtain ⟨l1, l2, l3, l4, l5, l6⟩ := hl
  have h1 := SimB_F1 (k := k) (y := y) (P := ((k, y, -5, -5, y, 0), [], [], [])) hl' hn ⟨rfl, rfl, rfl, rfl, rfl, rfl⟩ hs
  have F0 : rF1 S k y 0 = S 0 := by unfold rF1; rw [up_k (by omega), up_k (by omega), up_k (by omega), up_k (by omega), up_k (by omega), up_k (by omega), up_k (by omega)]
  have F3 : rF1 S k y 3 = S 3 := by unfold rF1; rw [up_k (by omega), up_k (by omega), up_k (by omega), up_k (by omega), up_k (by omega), up_k (by omega), up_k (by omega)]
  have hl1 : SimL (n + 1) FN FO NL PL := ⟨by omega, l2, l3, l4, l5, l6⟩
  obtain ⟨T, hT⟩ : ∃ T : RS, T = if 0 < k then rTell (rF1 S k y) (S 1 0) y par else rF1 S k y := ⟨_, rfl⟩
  obtain ⟨PL', hPL⟩ : ∃ PL', PL' = if 0 < k then PL ++ [((n : Int), y, par)] else PL := ⟨_, rfl⟩
  have h2 : SimB (T 1) (n + 1) (upF W n ((k, y, -5, -5, y, 0), [], [], [])) mg sp FN FO NL PL' ∧ T 0 = S 0 ∧ T 3 = S 3 ∧ PL'.length ≤ 700 := by
    rw [hT, hPL]
    by_cases g : 0 < k
    · rw [if_pos g, if_pos g, s0]
      exact ⟨SimB_tell hl1 hP h1, by rw [rTell_k (by omega), F0], by rw [rTell_k (by omega), F3], by simp; omega⟩
    · rw [if_neg g, if_neg g]
      exact ⟨h1, F0, F3, l5⟩
  obtain ⟨h2, T0, T3, lP⟩ := h2
  have h4 := SimB_nms (p := n) (y := y) (ls := ls) ⟨by omega, l2, l3, l4, lP, l6⟩ hN (by rw [T0]; exact hc) h8 (by rw [T3]; exact h3) h2
  have hlN : SimL (n + 1) FN FO (NL ++ [((n : Int), y, ls)]) PL' := ⟨by omega, l2, l3, by simp; omega, lP, fun e he => by
    rcases List.mem_append.mp he with z | z
    · exact l6 e z
    · rw [List.mem_singleton.mp z]; exact h8⟩
  have h5 := SimB_hap (p := n) (y := y) (so := 0) (nu := if k = 0 then -5 else par) hlN (by omega) h4
  rw [← hPL]
  unfold rFou
  rw [← hT, s0]
  refine SimB_eq (fun q hq => ?_) h5
  by_cases e : q = n
  · rw [e, upF_s, upF_s, upF_s]
    exact ⟨rfl, rfl, rfl, rfl, rfl, rfl⟩
  · rw [upF_o e, upF_o e, upF_o e]
    exact pEq.rf
theorem SimL_N {p y : Int} {ls : List Int} (hl : SimL n FN FO NL PL) (hN : NL.length < 700) (h8 : ls.length ≤ 8) : SimL n FN FO (NL ++ [(p, y, ls)]) PL := by
  obtain ⟨l1, l2, l3, l4, l5, l6⟩ := hl
  exact ⟨l1, l2, l3, by simp; omega, l5, fun e he => by
    rcases List.mem_append.mp he with z | z
    · exact l6 e z
    · rw [List.mem_singleton.mp z]; exact h8⟩
theorem SimL_P {e : Int × Int × Int} (hl : SimL n FN FO NL PL) (hP : PL.length < 700) : SimL n FN FO NL (PL ++ [e]) := by
  obtain ⟨l1, l2, l3, l4, l5, l6⟩ := hl
  exact ⟨l1, l2, l3, l4, by simp; omega, l6⟩
theorem SimB_ren {p : Nat} {y : Int} {ls : List Int} (hl : SimL n FN FO NL PL) (hp : p < n) (hN : NL.length < 700) (hc : S 0 9 = ls.length) (h8 : ls.length ≤ 8) (h3 : ∀ (i : Nat) (c : Int), ls[i]? = some c → S 3 i = c) (hs : SimB (S 1) n W mg sp FN FO NL PL) : SimB (rRen S p y 1) n (upF W p (plRem (plNam (W p) (y, (pkW ls : Nat))) y 1 ls.length)) mg sp FN FO (NL ++ [((p : Int), y, ls)]) PL := by
  have h1 := SimB_nms (p := p) (y := y) hl hN hc h8 h3 hs
  have hl1 := SimL_N (p := p) (y := y) hl hN h8
  have h2 := SimB_lat (p := p) (y := y) hl1 hp h1
  have h4 := SimB_hap (p := p) (y := y) (so := 1) (nu := ls.length) hl1 hp h2
  unfold rRen
  rw [hc]
  refine SimB_eq (fun q hq => ?_) h4
  by_cases e : q = p
  · rw [e, upF_s, upF_s, upF_s]
    exact ⟨rfl, rfl, rfl, rfl, rfl, rfl⟩
  · rw [upF_o e, upF_o e, upF_o e]
    exact pEq.rf
theorem SimB_mov {p : Nat} {y par : Int} {X : Pl} (hl : SimL n FN FO NL PL) (hp : p < n) (hP : PL.length < 700) (hX : pEq X (W p)) (hs : SimB (S 1) n W mg sp FN FO NL PL) : SimB (rMov S p par y 1) n (upF W p (plRem X y 2 par)) mg sp FN FO NL (PL ++ [((p : Int), y, par)]) := by
  have h1 := SimB_tell (p := p) (y := y) (par := par) hl hP hs
  have hl1 := SimL_P (e := ((p : Int), y, par)) hl hP
  have h2 := SimB_lat (p := p) (y := y) hl1 hp h1
  have h4 := SimB_hap (p := p) (y := y) (so := 2) (nu := par) hl1 hp h2
  unfold rMov
  refine SimB_eq (fun q hq => ?_) h4
  obtain ⟨x1, x2, x3, x4, x5, x6⟩ := hX
  by_cases e : q = p
  · rw [e, upF_s, upF_s, upF_s]
    refine ⟨x1.symm, x2.symm, x3.symm, x4.symm, rfl, ?_⟩
    show plH (W p) ++ _ = plH X ++ _
    rw [x6]
  · rw [upF_o e, upF_o e, upF_o e]
    exact pEq.rf
theorem SimB_clo {p : Nat} {y : Int} (hl : SimL n FN FO NL PL) (hp : p < n) (hy : y ≠ -5) (hs : SimB (S 1) n W mg sp FN FO NL PL) : SimB (rClo S p y 1) n (upF W p (plRem (plSe (W p) y) y 4 (-5))) mg sp FN FO NL PL := by
  have h1 := SimB_lat (p := p) (y := y) hl hp hs
  have h2 := SimB_end (p := p) (y := y) hl hp hy h1
  have h4 := SimB_hap (p := p) (y := y) (so := 4) (nu := -5) hl hp h2
  unfold rClo
  refine SimB_eq (fun q hq => ?_) h4
  by_cases e : q = p
  · rw [e, upF_s, upF_s, upF_s, upF_s]
    exact ⟨rfl, rfl, rfl, rfl, rfl, rfl⟩
  · rw [upF_o e, upF_o e, upF_o e, upF_o e]
    exact pEq.rf
theorem SimB_spl {p : Nat} {y : Int} {ls : List Int} {N : Nat} {k par : Int} (hl : SimL n FN FO NL PL) (hp : p < n) (hn : n < 20) (hN : NL.length < 700) (hP : PL.length < 700) (hc : S 0 9 = ls.length) (h8 : ls.length ≤ 8) (h3 : ∀ (i : Nat) (c : Int), ls[i]? = some c → S 3 i = c) (hk : plK (W p) = k) (hpar : rPar (S 1) p y N = par) (h0 : k = 0 → par = -5) (hs : SimB (S 1) n W mg sp FN FO NL PL) : SimB (rSpl S p y N 1) (n + 1) (upF (upF W n (plRem (plNew k par y (pkW ls : Nat)) y 5 p)) p (plRem (W p) y 7 n)) mg (sp + 1) FN FO (NL ++ [((n : Int), y, ls)]) (if 0 < k then PL ++ [((n : Int), y, par)] else PL) := by
  have s0 := hs.1
  have hk' := (hs.2.2.2.2.2.2.2.2.2.1 p hp).1
  rw [hk] at hk'
  have h1 := SimB_fou (k := k) (par := par) (y := y) (ls := ls) hl hn hN hP hc h8 h3 hs
  rw [show (if k = 0 then -5 else par) = par by split; rw [h0 (by assumption)]; rfl] at h1
  have hl1 : SimL (n + 1) FN FO (NL ++ [((n : Int), y, ls)]) (if 0 < k then PL ++ [((n : Int), y, par)] else PL) := by
    obtain ⟨l1, l2, l3, l4, l5, l6⟩ := SimL_N (p := n) (y := y) (ls := ls) hl hN h8
    refine ⟨by omega, l2, l3, l4, ?_, l6⟩
    split
    · simp; omega
    · exact l5
  have h2 := SimB_hap (p := n) (y := y) (so := 5) (nu := p) hl1 (by omega) h1
  have h4 := SimB_lat (p := p) (y := y) hl1 (by omega) h2
  have h5 := SimB_hap (p := p) (y := y) (so := 7) (nu := n) hl1 (by omega) h4
  have h6 := SimB_sp hl1 h5
  unfold rSpl
  rw [s0, hpar, hk']
  refine SimB_eq (fun q hq => ?_) h6
  by_cases e : q = p
  · have en : p ≠ n := by omega
    rw [e]
    simp only [upF_s, upF_o en]
    exact ⟨rfl, rfl, rfl, rfl, rfl, rfl⟩
  · rw [upF_o e, upF_o e, upF_o e]
    by_cases e2 : q = n
    · rw [e2, upF_s, upF_s, upF_s]
      exact ⟨rfl, rfl, rfl, rfl, rfl, rfl⟩
    · rw [upF_o e2, upF_o e2, upF_o e2]
      exact pEq.rf
end SOP
