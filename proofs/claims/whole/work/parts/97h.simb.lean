
/-! a block of the reference and a world -/
def PBk (b : Int → Int) (q : Nat) (P : Pl) : Prop := b (15 + 78 * (q : Int) + 0) = plK P ∧ b (15 + 78 * (q : Int) + 1) = plF P ∧ b (15 + 78 * (q : Int) + 2) = (if plE P = -5 then -1 else plE P) ∧ b (15 + 78 * (q : Int) + 3) = (if plI P = -5 then -1 else plI P) ∧ b (15 + 78 * (q : Int) + 4) = plL P ∧ b (15 + 78 * (q : Int) + 5) = (plH P).length ∧ ∀ (i : Nat) (e : Int × Int × Int), i < 24 → (plH P)[i]? = some e → b (15 + 78 * (q : Int) + (6 + 3 * (i : Int))) = e.1 ∧ b (15 + 78 * (q : Int) + (6 + 3 * (i : Int) + 1)) = e.2.1 ∧ b (15 + 78 * (q : Int) + (6 + 3 * (i : Int) + 2)) = e.2.2
def SimB (b : Int → Int) (n : Nat) (W : Nat → Pl) (mg sp : Int) (FN : List (Int × Int × Int)) (FO : List Nat) (NL : NLt) (PL : List (Int × Int × Int)) : Prop := b 0 = n ∧ NLb b NL ∧ PLb b PL ∧ b 3 = FN.length ∧ b 4 = FO.length ∧ b 5 = mg ∧ b 6 = sp ∧ (∀ (i v : Nat), FO[i]? = some v → b (7 + (i : Int)) = v) ∧ (∀ (t : Nat) (q : Int × Int × Int), FN[t]? = some q → b (11375 + 3 * (t : Int)) = q.1 ∧ b (11375 + 3 * (t : Int) + 1) = q.2.1 ∧ (q.1 ≠ 7 → b (11375 + 3 * (t : Int) + 2) = q.2.2)) ∧ (∀ q : Nat, q < n → PBk b q (W q)) ∧ ∀ q : Nat, n ≤ q → q < 20 → (0 ≤ b (15 + 78 * (q : Int) + 5) ∧ b (15 + 78 * (q : Int) + 5) ≤ 100000) ∧ -1000000 ≤ b (15 + 78 * (q : Int) + 1) ∧ b (15 + 78 * (q : Int) + 1) ≤ 1000000
/-- how long everything may be -/
def SimL (n : Nat) (FN : List (Int × Int × Int)) (FO : List Nat) (NL : NLt) (PL : List (Int × Int × Int)) : Prop := n ≤ 20 ∧ FN.length ≤ 700 ∧ FO.length ≤ 8 ∧ NL.length ≤ 700 ∧ PL.length ≤ 700 ∧ ∀ e ∈ NL, e.2.2.length ≤ 8
theorem getE_lt {α : Type} {l : List α} {i : Nat} {v : α} (h : l[i]? = some v) : i < l.length := by
  rcases Nat.lt_or_ge i l.length with z | z
  · exact z
  · rw [List.getElem?_eq_none z] at h; simp at h
theorem PBk_c {b b' : Int → Int} {q : Nat} {P : Pl} (h : ∀ j : Int, 0 ≤ j → j < 78 → b' (15 + 78 * (q : Int) + j) = b (15 + 78 * (q : Int) + j)) (hp : PBk b q P) : PBk b' q P := by
  obtain ⟨h0, h1, h2, h3, h4, h5, h6⟩ := hp
  refine ⟨by rw [h 0 (by omega) (by omega), h0], by rw [h 1 (by omega) (by omega), h1], by rw [h 2 (by omega) (by omega), h2], by rw [h 3 (by omega) (by omega), h3], by rw [h 4 (by omega) (by omega), h4], by rw [h 5 (by omega) (by omega), h5], fun i e hi he => ?_⟩
  obtain ⟨a1, a2, a3⟩ := h6 i e hi he
  exact ⟨by rw [h _ (by omega) (by omega), a1], by rw [h _ (by omega) (by omega), a2], by rw [h _ (by omega) (by omega), a3]⟩
/-- the block is only looked at within its bounds -/
theorem SimB_c {b b' : Int → Int} {n : Nat} {W : Nat → Pl} {mg sp : Int} {FN : List (Int × Int × Int)} {FO : List Nat} {NL : NLt} {PL : List (Int × Int × Int)} (hl : SimL n FN FO NL PL) (h : ∀ j : Int, 0 ≤ j → j < 13475 → b' j = b j) (hs : SimB b n W mg sp FN FO NL PL) : SimB b' n W mg sp FN FO NL PL := by
  obtain ⟨l1, l2, l3, l4, l5, l6⟩ := hl
  obtain ⟨s0, ⟨n1, n2⟩, ⟨p1, p2⟩, s3, s4, s5, s6, s7, s8, s9, s10⟩ := hs
  refine ⟨by rw [h _ (by omega) (by omega), s0], ⟨by rw [h _ (by omega) (by omega), n1], fun k e he => ?_⟩, ⟨by rw [h _ (by omega) (by omega), p1], fun k e he => ?_⟩, by rw [h _ (by omega) (by omega), s3], by rw [h _ (by omega) (by omega), s4], by rw [h _ (by omega) (by omega), s5], by rw [h _ (by omega) (by omega), s6], fun i v hv => ?_, fun t q hq => ?_, fun q hq => ?_, fun q h1 h2 => ?_⟩
  · have kl := getE_lt he
    have e8 := l6 e (List.mem_of_getElem? he)
    obtain ⟨a1, a2, a3, a4⟩ := n2 k e he
    refine ⟨by rw [h _ (by omega) (by omega), a1], by rw [h _ (by omega) (by omega), a2], by rw [h _ (by omega) (by omega), a3], fun j c hc => ?_⟩
    have := getE_lt hc
    rw [h _ (by omega) (by omega), a4 j c hc]
  · have kl := getE_lt he
    obtain ⟨a1, a2, a3⟩ := p2 k e he
    exact ⟨by rw [h _ (by omega) (by omega), a1], by rw [h _ (by omega) (by omega), a2], by rw [h _ (by omega) (by omega), a3]⟩
  · have := getE_lt hv
    rw [h _ (by omega) (by omega), s7 i v hv]
  · have := getE_lt hq
    obtain ⟨a1, a2, a3⟩ := s8 t q hq
    exact ⟨by rw [h _ (by omega) (by omega), a1], by rw [h _ (by omega) (by omega), a2], fun z7 => by rw [h _ (by omega) (by omega), a3 z7]⟩
  · exact PBk_c (fun j j0 j1 => h _ (by omega) (by omega)) (s9 q hq)
  · rw [h _ (by omega) (by omega), h _ (by omega) (by omega)]
    exact s10 q h1 h2
/-- only the row of one place changes -/
theorem SimB_pl {b b' : Int → Int} {n : Nat} {W : Nat → Pl} {mg sp : Int} {FN : List (Int × Int × Int)} {FO : List Nat} {NL : NLt} {PL : List (Int × Int × Int)} {p : Nat} {P : Pl} (hl : SimL n FN FO NL PL) (hp : p < n) (h : ∀ j : Int, (j < 15 + 78 * (p : Int) ∨ 15 + 78 * (p : Int) + 78 ≤ j) → b' j = b j) (hb : PBk b' p P) (hs : SimB b n W mg sp FN FO NL PL) : SimB b' n (upF W p P) mg sp FN FO NL PL := by
  obtain ⟨l1, l2, l3, l4, l5, l6⟩ := hl
  obtain ⟨s0, ⟨n1, n2⟩, ⟨p1, p2⟩, s3, s4, s5, s6, s7, s8, s9, s10⟩ := hs
  refine ⟨by rw [h _ (by omega), s0], ⟨by rw [h _ (by omega), n1], fun k e he => ?_⟩, ⟨by rw [h _ (by omega), p1], fun k e he => ?_⟩, by rw [h _ (by omega), s3], by rw [h _ (by omega), s4], by rw [h _ (by omega), s5], by rw [h _ (by omega), s6], fun i v hv => ?_, fun t q hq => ?_, fun q hq => ?_, fun q h1 h2 => ?_⟩
  · have kl := getE_lt he
    obtain ⟨a1, a2, a3, a4⟩ := n2 k e he
    refine ⟨by rw [h _ (by omega), a1], by rw [h _ (by omega), a2], by rw [h _ (by omega), a3], fun j c hc => by rw [h _ (by omega), a4 j c hc]⟩
  · have kl := getE_lt he
    obtain ⟨a1, a2, a3⟩ := p2 k e he
    exact ⟨by rw [h _ (by omega), a1], by rw [h _ (by omega), a2], by rw [h _ (by omega), a3]⟩
  · have := getE_lt hv
    rw [h _ (by omega), s7 i v hv]
  · obtain ⟨a1, a2, a3⟩ := s8 t q hq
    exact ⟨by rw [h _ (by omega), a1], by rw [h _ (by omega), a2], fun z7 => by rw [h _ (by omega), a3 z7]⟩
  · unfold upF
    by_cases e : q = p
    · rw [if_pos e, e]; exact hb
    · rw [if_neg e]
      exact PBk_c (fun j j0 j1 => h _ (by omega)) (s9 q hq)
  · rw [h _ (by omega), h _ (by omega)]
    exact s10 q h1 h2
section SBP
variable {S : RS} {n : Nat} {W : Nat → Pl} {mg sp : Int} {FN : List (Int × Int × Int)} {FO : List Nat} {NL : NLt} {PL : List (Int × Int × Int)}
theorem SimB_hap {p : Nat} {y so nu : Int} (hl : SimL n FN FO NL PL) (hp : p < n) (hs : SimB (S 1) n W mg sp FN FO NL PL) : SimB (rHap S p y so nu 1) n (upF W p (plHis (W p) (y, so, nu))) mg sp FN FO NL PL := by
  have hb := hs.2.2.2.2.2.2.2.2.2.1 p hp
  obtain ⟨h0, h1, h2, h3, h4, h5, h6⟩ := hb
  have o : ∀ j : Int, (j < 15 + 78 * (p : Int) + 5 ∨ (15 + 78 * (p : Int) + 5 < j ∧ j < 15 + 78 * (p : Int) + (6 + 3 * S 1 (15 + 78 * (p : Int) + 5))) ∨ (15 + 78 * (p : Int) + 5 < j ∧ 15 + 78 * (p : Int) + 78 ≤ j)) → rHap S p y so nu 1 j = S 1 j := fun j hj => by
    unfold rHap
    split
    · rw [up_j (by omega), up_j (by omega), up_j (by omega), up_j (by omega)]
    · rw [up_j (by omega)]
  have len : rHap S p y so nu 1 (15 + 78 * (p : Int) + 5) = (plH (W p)).length + 1 := by
    unfold rHap
    split
    · rw [up_j (by omega), up_j (by omega), up_j (by omega), up_s, h5]
    · rw [up_s, h5]
  refine SimB_pl hl hp (fun j hj => o j (by omega)) ⟨(o _ (by omega)).trans h0, (o _ (by omega)).trans h1, (o _ (by omega)).trans h2, (o _ (by omega)).trans h3, (o _ (by omega)).trans h4, by rw [len]; show _ = (((plH (W p)) ++ [(y, so, nu)]).length : Int); rw [List.length_append]; rfl, fun i e hi he => ?_⟩ hs
  have il := getE_lt he
  have ll : (plH (W p) ++ [(y, so, nu)]).length = (plH (W p)).length + 1 := by simp
  by_cases g : i < (plH (W p)).length
  · have he' : (plH (W p))[i]? = some e := by
      have : (plH (plHis (W p) (y, so, nu)))[i]? = (plH (W p))[i]? := List.getElem?_append_left g
      rw [← this]; exact he
    obtain ⟨a1, a2, a3⟩ := h6 i e hi he'
    exact ⟨by rw [o _ (by omega), a1], by rw [o _ (by omega), a2], by rw [o _ (by omega), a3]⟩
  · have gi : i = (plH (W p)).length := by
      have : i < (plH (W p) ++ [(y, so, nu)]).length := il
      omega
    have he' : some e = some (y, so, nu) := by
      have : (plH (plHis (W p) (y, so, nu)))[i]? = some (y, so, nu) := by
        show (plH (W p) ++ [(y, so, nu)])[i]? = _
        rw [gi, List.getElem?_append_right (Nat.le_refl _), Nat.sub_self]; rfl
      rw [← he, this]
    have ee := Option.some.inj he'
    rw [ee]
    unfold rHap
    rw [h5, if_pos (by omega), ← gi]
    exact ⟨by rw [up_j (by omega), up_j (by omega), up_s], by rw [up_j (by omega), up_s], up_s⟩
/-- the log of parents -/
theorem SimB_tell {p y par : Int} (hl : SimL n FN FO NL PL) (hP : PL.length < 700) (hs : SimB (S 1) n W mg sp FN FO NL PL) : SimB (rTell S p y par 1) n W mg sp FN FO NL (PL ++ [(p, y, par)]) := by
  obtain ⟨l1, l2, l3, l4, l5, l6⟩ := hl
  obtain ⟨s0, ⟨n1, n2⟩, ⟨p1, p2⟩, s3, s4, s5, s6, s7, s8, s9, s10⟩ := hs
  have o : ∀ j : Int, j ≠ 2 → (j < 9275 + 3 * (PL.length : Int) ∨ 9275 + 3 * (PL.length : Int) + 3 ≤ j) → rTell S p y par 1 j = S 1 j := fun j h1 h2 => rTell_o h1 (by rw [p1]; exact h2)
  refine ⟨by rw [o _ (by omega) (by omega), s0], ⟨by rw [o _ (by omega) (by omega), n1], fun k e he => ?_⟩, ⟨?_, fun k e he => ?_⟩, by rw [o _ (by omega) (by omega), s3], by rw [o _ (by omega) (by omega), s4], by rw [o _ (by omega) (by omega), s5], by rw [o _ (by omega) (by omega), s6], fun i v hv => ?_, fun t q hq => ?_, fun q hq => ?_, fun q h1 h2 => ?_⟩
  · have kl := getE_lt he
    have e8 := l6 e (List.mem_of_getElem? he)
    obtain ⟨a1, a2, a3, a4⟩ := n2 k e he
    refine ⟨by rw [o _ (by omega) (by omega), a1], by rw [o _ (by omega) (by omega), a2], by rw [o _ (by omega) (by omega), a3], fun j c hc => ?_⟩
    have := getE_lt hc
    rw [o _ (by omega) (by omega), a4 j c hc]
  · unfold rTell
    rw [up_s, p1]; simp
  · by_cases g : k < PL.length
    · rw [List.getElem?_append_left g] at he
      obtain ⟨a1, a2, a3⟩ := p2 k e he
      exact ⟨by rw [o _ (by omega) (by omega), a1], by rw [o _ (by omega) (by omega), a2], by rw [o _ (by omega) (by omega), a3]⟩
    · have kl := getE_lt he
      have ll : (PL ++ [(p, y, par)]).length = PL.length + 1 := by simp
      have gk : k = PL.length := by omega
      rw [gk, List.getElem?_append_right (Nat.le_refl _), Nat.sub_self] at he
      have ee : (p, y, par) = e := Option.some.inj he
      rw [← ee, gk]
      unfold rTell
      rw [p1]
      exact ⟨by rw [up_j (by omega), up_j (by omega), up_j (by omega), up_s], by rw [up_j (by omega), up_j (by omega), up_s], by rw [up_j (by omega), up_s]⟩
  · have := getE_lt hv
    rw [o _ (by omega) (by omega), s7 i v hv]
  · have := getE_lt hq
    obtain ⟨a1, a2, a3⟩ := s8 t q hq
    exact ⟨by rw [o _ (by omega) (by omega), a1], by rw [o _ (by omega) (by omega), a2], fun z7 => by rw [o _ (by omega) (by omega), a3 z7]⟩
  · exact PBk_c (fun j j0 j1 => o _ (by omega) (by omega)) (s9 q hq)
  · rw [o _ (by omega) (by omega), o _ (by omega) (by omega)]
    exact s10 q h1 h2
/-- the log of names -/
theorem SimB_nms {p y : Int} {ls : List Int} (hl : SimL n FN FO NL PL) (hN : NL.length < 700) (hc : S 0 9 = ls.length) (h8 : ls.length ≤ 8) (h3 : ∀ (i : Nat) (c : Int), ls[i]? = some c → S 3 i = c) (hs : SimB (S 1) n W mg sp FN FO NL PL) : SimB (rNms S p y 1) n W mg sp FN FO (NL ++ [(p, y, ls)]) PL := by
  obtain ⟨l1, l2, l3, l4, l5, l6⟩ := hl
  obtain ⟨s0, ⟨n1, n2⟩, ⟨p1, p2⟩, s3, s4, s5, s6, s7, s8, s9, s10⟩ := hs
  obtain ⟨S0, hS0⟩ : ∃ S0, S0 = up (up (up S 1 (1575 + 11 * (NL.length : Int)) p) 1 (1575 + 11 * (NL.length : Int) + 1) y) 1 (1575 + 11 * (NL.length : Int) + 2) (ls.length : Int) := ⟨_, rfl⟩
  have hT : rNms S p y = up (rCw S0 (1575 + 11 * (NL.length : Int)) ls.length) 1 1 ((NL.length : Int) + 1) := by
    unfold rNms
    rw [n1, hc, hS0]; rfl
  have S03 : S0 3 = S 3 := by rw [hS0, up_k (by omega), up_k (by omega), up_k (by omega)]
  have o : ∀ j : Int, j ≠ 1 → (j < 1575 + 11 * (NL.length : Int) ∨ 1575 + 11 * (NL.length : Int) + 11 ≤ j) → rNms S p y 1 j = S 1 j := fun j h1 h2 => by
    rw [hT, up_j h1, rCw_o _ (by omega), hS0, up_j (by omega), up_j (by omega), up_j (by omega)]
  refine ⟨by rw [o _ (by omega) (by omega), s0], ⟨?_, fun k e he => ?_⟩, ⟨by rw [o _ (by omega) (by omega), p1], fun k e he => ?_⟩, by rw [o _ (by omega) (by omega), s3], by rw [o _ (by omega) (by omega), s4], by rw [o _ (by omega) (by omega), s5], by rw [o _ (by omega) (by omega), s6], fun i v hv => ?_, fun t q hq => ?_, fun q hq => ?_, fun q h1 h2 => ?_⟩
  · rw [hT, up_s]; simp
  · by_cases g : k < NL.length
    · rw [List.getElem?_append_left g] at he
      have e8 := l6 e (List.mem_of_getElem? he)
      obtain ⟨a1, a2, a3, a4⟩ := n2 k e he
      refine ⟨by rw [o _ (by omega) (by omega), a1], by rw [o _ (by omega) (by omega), a2], by rw [o _ (by omega) (by omega), a3], fun j c hc => ?_⟩
      have := getE_lt hc
      rw [o _ (by omega) (by omega), a4 j c hc]
    · have kl := getE_lt he
      have ll : (NL ++ [(p, y, ls)]).length = NL.length + 1 := by simp
      have gk : k = NL.length := by omega
      rw [gk, List.getElem?_append_right (Nat.le_refl _), Nat.sub_self] at he
      have ee : (p, y, ls) = e := Option.some.inj he
      rw [← ee, gk, hT]
      refine ⟨by rw [up_j (by omega), rCw_o _ (by omega), hS0, up_j (by omega), up_j (by omega), up_s], by rw [up_j (by omega), rCw_o _ (by omega), hS0, up_j (by omega), up_s], by rw [up_j (by omega), rCw_o _ (by omega), hS0, up_s], fun j c hc => ?_⟩
      rw [up_j (by omega), rCw_i _ (getE_lt hc), S03]
      exact h3 j c hc
  · have := getE_lt he
    obtain ⟨a1, a2, a3⟩ := p2 k e he
    exact ⟨by rw [o _ (by omega) (by omega), a1], by rw [o _ (by omega) (by omega), a2], by rw [o _ (by omega) (by omega), a3]⟩
  · have := getE_lt hv
    rw [o _ (by omega) (by omega), s7 i v hv]
  · have := getE_lt hq
    obtain ⟨a1, a2, a3⟩ := s8 t q hq
    exact ⟨by rw [o _ (by omega) (by omega), a1], by rw [o _ (by omega) (by omega), a2], fun z7 => by rw [o _ (by omega) (by omega), a3 z7]⟩
  · exact PBk_c (fun j j0 j1 => o _ (by omega) (by omega)) (s9 q hq)
  · rw [o _ (by omega) (by omega), o _ (by omega) (by omega)]
    exact s10 q h1 h2
theorem rNms_0 {p y : Int} : rNms S p y 0 = S 0 ∧ rNms S p y 3 = S 3 := by
  unfold rNms
  exact ⟨by rw [up_k (by omega), rCw_k (by omega), up_k (by omega), up_k (by omega), up_k (by omega)], by rw [up_k (by omega), rCw_k (by omega), up_k (by omega), up_k (by omega), up_k (by omega)]⟩
/-- the counters of merges, of splits -/
theorem SimB_mg (hl : SimL n FN FO NL PL) (hs : SimB (S 1) n W mg sp FN FO NL PL) : SimB (up S 1 5 (S 1 5 + 1) 1) n W (mg + 1) sp FN FO NL PL := by
  obtain ⟨l1, l2, l3, l4, l5, l6⟩ := hl
  obtain ⟨s0, ⟨n1, n2⟩, ⟨p1, p2⟩, s3, s4, s5, s6, s7, s8, s9, s10⟩ := hs
  have o : ∀ {j v : Int}, j ≠ 5 → up S 1 5 v 1 j = S 1 j := fun h => up_j h
  refine ⟨by rw [o (by omega), s0], ⟨by rw [o (by omega), n1], fun k e he => ?_⟩, ⟨by rw [o (by omega), p1], fun k e he => ?_⟩, by rw [o (by omega), s3], by rw [o (by omega), s4], by rw [up_s, s5], by rw [o (by omega), s6], fun i v hv => ?_, fun t q hq => ?_, fun q hq => ?_, fun q h1 h2 => ?_⟩
  · obtain ⟨a1, a2, a3, a4⟩ := n2 k e he
    exact ⟨by rw [o (by omega), a1], by rw [o (by omega), a2], by rw [o (by omega), a3], fun j c hc => by rw [o (by omega), a4 j c hc]⟩
  · obtain ⟨a1, a2, a3⟩ := p2 k e he
    exact ⟨by rw [o (by omega), a1], by rw [o (by omega), a2], by rw [o (by omega), a3]⟩
  · rw [o (by omega), s7 i v hv]
  · obtain ⟨a1, a2, a3⟩ := s8 t q hq
    exact ⟨by rw [o (by omega), a1], by rw [o (by omega), a2], fun z7 => by rw [o (by omega), a3 z7]⟩
  · exact PBk_c (fun j j0 j1 => o (by omega)) (s9 q hq)
  · rw [o (by omega), o (by omega)]
    exact s10 q h1 h2
theorem SimB_sp (hl : SimL n FN FO NL PL) (hs : SimB (S 1) n W mg sp FN FO NL PL) : SimB (up S 1 6 (S 1 6 + 1) 1) n W mg (sp + 1) FN FO NL PL := by
  obtain ⟨l1, l2, l3, l4, l5, l6⟩ := hl
  obtain ⟨s0, ⟨n1, n2⟩, ⟨p1, p2⟩, s3, s4, s5, s6, s7, s8, s9, s10⟩ := hs
  have o : ∀ {j v : Int}, j ≠ 6 → up S 1 6 v 1 j = S 1 j := fun h => up_j h
  refine ⟨by rw [o (by omega), s0], ⟨by rw [o (by omega), n1], fun k e he => ?_⟩, ⟨by rw [o (by omega), p1], fun k e he => ?_⟩, by rw [o (by omega), s3], by rw [o (by omega), s4], by rw [o (by omega), s5], by rw [up_s, s6], fun i v hv => ?_, fun t q hq => ?_, fun q hq => ?_, fun q h1 h2 => ?_⟩
  · obtain ⟨a1, a2, a3, a4⟩ := n2 k e he
    exact ⟨by rw [o (by omega), a1], by rw [o (by omega), a2], by rw [o (by omega), a3], fun j c hc => by rw [o (by omega), a4 j c hc]⟩
  · obtain ⟨a1, a2, a3⟩ := p2 k e he
    exact ⟨by rw [o (by omega), a1], by rw [o (by omega), a2], by rw [o (by omega), a3]⟩
  · rw [o (by omega), s7 i v hv]
  · obtain ⟨a1, a2, a3⟩ := s8 t q hq
    exact ⟨by rw [o (by omega), a1], by rw [o (by omega), a2], fun z7 => by rw [o (by omega), a3 z7]⟩
  · exact PBk_c (fun j j0 j1 => o (by omega)) (s9 q hq)
  · rw [o (by omega), o (by omega)]
    exact s10 q h1 h2
/-- one field of a place's row -/
theorem SimB_fld {p : Nat} {P : Pl} {f v : Int} (hl : SimL n FN FO NL PL) (hp : p < n) (hf : 0 ≤ f ∧ f < 78) (hs : SimB (S 1) n W mg sp FN FO NL PL) (hb : PBk (up S 1 (15 + 78 * (p : Int) + f) v 1) p P) : SimB (up S 1 (15 + 78 * (p : Int) + f) v 1) n (upF W p P) mg sp FN FO NL PL :=
  SimB_pl hl hp (fun j hj => up_j (by omega)) hb hs
theorem SimB_lat {p : Nat} {y : Int} (hl : SimL n FN FO NL PL) (hp : p < n) (hs : SimB (S 1) n W mg sp FN FO NL PL) : SimB (up S 1 (15 + 78 * (p : Int) + 4) y 1) n (upF W p (plSl (W p) y)) mg sp FN FO NL PL := by
  obtain ⟨h0, h1, h2, h3, h4, h5, h6⟩ := hs.2.2.2.2.2.2.2.2.2.1 p hp
  have o : ∀ {j : Int}, j ≠ 15 + 78 * (p : Int) + 4 → up S 1 (15 + 78 * (p : Int) + 4) y 1 j = S 1 j := fun h => up_j h
  refine SimB_fld hl hp (by omega) hs ⟨(o (by omega)).trans h0, (o (by omega)).trans h1, (o (by omega)).trans h2, (o (by omega)).trans h3, up_s, (o (by omega)).trans h5, fun i e hi he => ?_⟩
  obtain ⟨a1, a2, a3⟩ := h6 i e hi he
  exact ⟨by rw [o (by omega), a1], by rw [o (by omega), a2], by rw [o (by omega), a3]⟩
theorem SimB_end {p : Nat} {y : Int} (hl : SimL n FN FO NL PL) (hp : p < n) (hy : y ≠ -5) (hs : SimB (S 1) n W mg sp FN FO NL PL) : SimB (up S 1 (15 + 78 * (p : Int) + 2) y 1) n (upF W p (plSe (W p) y)) mg sp FN FO NL PL := by
  obtain ⟨h0, h1, h2, h3, h4, h5, h6⟩ := hs.2.2.2.2.2.2.2.2.2.1 p hp
  have o : ∀ {j : Int}, j ≠ 15 + 78 * (p : Int) + 2 → up S 1 (15 + 78 * (p : Int) + 2) y 1 j = S 1 j := fun h => up_j h
  refine SimB_fld hl hp (by omega) hs ⟨(o (by omega)).trans h0, (o (by omega)).trans h1, ?_, (o (by omega)).trans h3, (o (by omega)).trans h4, (o (by omega)).trans h5, fun i e hi he => ?_⟩
  · rw [up_s]; show y = if y = -5 then -1 else y; rw [if_neg hy]
  · obtain ⟨a1, a2, a3⟩ := h6 i e hi he
    exact ⟨by rw [o (by omega), a1], by rw [o (by omega), a2], by rw [o (by omega), a3]⟩
theorem SimB_int {p : Nat} {y : Int} (hl : SimL n FN FO NL PL) (hp : p < n) (hy : y ≠ -5) (hs : SimB (S 1) n W mg sp FN FO NL PL) : SimB (up S 1 (15 + 78 * (p : Int) + 3) y 1) n (upF W p (plSi (W p) y)) mg sp FN FO NL PL := by
  obtain ⟨h0, h1, h2, h3, h4, h5, h6⟩ := hs.2.2.2.2.2.2.2.2.2.1 p hp
  have o : ∀ {j : Int}, j ≠ 15 + 78 * (p : Int) + 3 → up S 1 (15 + 78 * (p : Int) + 3) y 1 j = S 1 j := fun h => up_j h
  refine SimB_fld hl hp (by omega) hs ⟨(o (by omega)).trans h0, (o (by omega)).trans h1, (o (by omega)).trans h2, ?_, (o (by omega)).trans h4, (o (by omega)).trans h5, fun i e hi he => ?_⟩
  · rw [up_s]; show y = if y = -5 then -1 else y; rw [if_neg hy]
  · obtain ⟨a1, a2, a3⟩ := h6 i e hi he
    exact ⟨by rw [o (by omega), a1], by rw [o (by omega), a2], by rw [o (by omega), a3]⟩
end SBP
