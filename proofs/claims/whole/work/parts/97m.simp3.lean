
/-! founding, splitting, closing, merging: a world and its logs -/
section SPM
variable {n : Nat} {W : Nat → Pl} {mg : Int} {NL NL' : NLt} {PL PL' : List (Int × Int × Int)}
theorem SimP_fou {k par y : Int} {ls : List Int} (h : SimP n W mg NL PL) (hn : n < 20) (hk : 0 ≤ k ∧ k ≤ 3) (hy : 0 ≤ y ∧ y ≤ 9999) (hl : lOk ls) (hpar : 0 < k → ∃ j : Nat, par = j ∧ j < n ∧ plK (W j) < k ∧ plSt (W j) y = true) : SimP (n + 1) (upF W n (plNew k (if k = 0 then -5 else par) y (pkW ls : Nat))) mg (NL ++ [((n : Int), y, ls)]) (if 0 < k then PL ++ [((n : Int), y, par)] else PL) := by
  obtain ⟨h1, h2, h3, ⟨τ, h4⟩, h5⟩ := h
  obtain ⟨PL', hPL⟩ : ∃ PL', PL' = if 0 < k then PL ++ [((n : Int), y, par)] else PL := ⟨_, rfl⟩
  obtain ⟨par', hp'⟩ : ∃ par', par' = if k = 0 then -5 else par := ⟨_, rfl⟩
  have old : ∀ q, q < n → (∀ d, pPar PL' q d = pPar PL q d) ∧ (PL'.filter (fun e => decide (e.1 = (q : Int)))).length = (PL.filter (fun e => decide (e.1 = (q : Int)))).length := fun q hq => by
    rw [hPL]
    split
    · exact ⟨fun d => pPar_o (by omega), cnt_o (by omega)⟩
    · exact ⟨fun d => rfl, rfl⟩
  have new : ∀ d, y ≤ d → pPar PL' n d = par' := fun d hd => by
    rw [hPL, hp']
    by_cases g : 0 < k
    · rw [if_pos g, if_neg (by omega), pPar_p, if_pos hd]
    · rw [if_neg g, if_pos (by omega)]; exact pPar_new h2 d
  have pj : 0 < k → ∃ j : Nat, par' = j ∧ j < n ∧ plK (W j) < k ∧ plSt (W j) y = true := fun g => by
    rw [hp', if_neg (by omega)]; exact hpar g
  have cntN : (PL'.filter (fun e => decide (e.1 = (n : Int)))).length = if par' = -5 then 0 else 1 := by
    rw [hPL]
    by_cases g : 0 < k
    · obtain ⟨j, j1, -⟩ := pj g
      rw [if_pos g, cnt_p, cnt_n h2, if_neg (by omega)]
    · rw [if_neg g, cnt_n h2, if_pos (by rw [hp', if_pos (by omega)])]
  have PLo : PLok (n + 1) PL' := fun e he => by
    have base : ∀ e ∈ PL, (0 ≤ e.2.1 ∧ e.2.1 ≤ 9999) ∧ (0 ≤ e.2.2 ∧ e.2.2 < ((n + 1 : Nat) : Int)) ∧ e.1 < ((n + 1 : Nat) : Int) ∧ -1 - e.1 < ((n + 1 : Nat) : Int) := fun e he => by
      obtain ⟨x1, x2, x3, x4⟩ := h2 e he
      exact ⟨x1, by omega, by omega, by omega⟩
    rw [hPL] at he
    by_cases g : 0 < k
    · rw [if_pos g] at he
      rcases List.mem_append.mp he with z | z
      · exact base e z
      · obtain ⟨j, j1, j2, -⟩ := hpar g
        rw [List.mem_singleton.mp z]
        refine ⟨hy, ⟨?_, ?_⟩, ?_, ?_⟩
        · show 0 ≤ par; omega
        · show par < ((n + 1 : Nat) : Int); omega
        · show (n : Int) < ((n + 1 : Nat) : Int); omega
        · show -1 - (n : Int) < ((n + 1 : Nat) : Int); omega
    · rw [if_neg g] at he; exact base e he
  rw [← hPL, ← hp']
  have NEx : ∀ d, plEx (plNew k par' y (pkW ls : Nat)) d = true ↔ y ≤ d ∧ d < 10000 := fun d => plEx_i
  refine ⟨fun q hq => ?_, PLo, fun e he => ?_, ⟨τ, fun q hq hi => ?_⟩, ?_⟩
  · by_cases e : q = n
    · rw [e, upF_s]
      refine ⟨⟨hk, hy.1, Int.le_refl y, hy.2, Or.inl rfl⟩, ⟨?_, ⟨_, [], rfl⟩, List.pairwise_singleton _ _, fun q hq => ?_⟩, ⟨List.pairwise_singleton _ _, ⟨par', [], rfl⟩, fun d hd => ?_, fun k0 d hd => ?_, fun k0 d hd => ?_, ?_⟩, fun x hx => ?_, fun day l0 h0 h9 => ?_⟩
      · rw [nmL_s, if_pos rfl, nmL_n h3]; rfl
      · rw [List.mem_singleton.mp (show q ∈ [(y, ((pkW ls : Nat) : Int))] from hq)]; exact Int.le_refl y
      · have hd' := (NEx d).mp hd
        rw [new d hd'.1]
        show (if y ≤ d then par' else -5) = par'
        rw [if_pos hd'.1]
      · have hd' := (NEx d).mp hd
        have k0' : k = 0 := k0
        rw [new d hd'.1, hp', if_pos k0']
      · have hd' := (NEx d).mp hd
        obtain ⟨j, j1, j2, j3, j4⟩ := pj k0
        obtain ⟨s1, s2⟩ := plSt_i.mp j4
        refine ⟨j, by rw [new d hd'.1, j1], by omega, by rw [upF_o (by omega)]; exact j3, by rw [upF_o (by omega)]; exact plEx_i.mpr ⟨by omega, by rw [plEnd_o s2]; exact hd'.2⟩⟩
      · rw [cntN]
        show (if par' = -5 then (0 : Int) else 1) = _
        split <;> rfl
      · rw [List.mem_singleton.mp (show x ∈ [(y, (0 : Int), par')] from hx)]
        refine ⟨⟨hy.1, by show y < 10000; omega⟩, ⟨(by decide : (0 : Int) ≤ 0), (by decide : (0 : Int) < 9)⟩, ?_⟩
        show par' = -5 ∨ (0 ≤ par' ∧ par' < 10000)
        by_cases g : 0 < k
        · obtain ⟨j, j1, j2, -⟩ := pj g
          right; omega
        · left; rw [hp', if_pos (by omega)]
      · have es : evFold day l0 (plH (plNew k par' y (pkW ls : Nat))) = ([(y, par')], decide (y ≤ day)) := rfl
        rw [es]
        refine ⟨List.pairwise_singleton _ _, ⟨par', [], rfl⟩, fun d _ _ => rfl, ?_⟩
        show decide (y ≤ day) = decide (y ≤ day ∧ day < 10000)
        by_cases g : y ≤ day
        · rw [decide_eq_true g, decide_eq_true ⟨g, by omega⟩]
        · rw [decide_eq_false g, decide_eq_false (fun z => g z.1)]
    · rw [upF_o e]
      have hq' : q < n := by omega
      obtain ⟨a1, a2, a3, a4, a5⟩ := h1 q hq'
      obtain ⟨o1, o2⟩ := old q hq'
      refine ⟨a1, ?_, pI3_keep a3 rfl rfl rfl rfl (by omega) (fun d hd => ⟨hd, o1 d⟩) o2 (fun d j _ _ jn hx => by rw [upF_o (by omega)]; exact ⟨rfl, hx⟩), a4, a5⟩
      unfold pI2 at a2 ⊢
      rw [nmL_s, if_neg (show ¬ ((n : Int) = (q : Int)) by omega)]
      exact a2
  · rcases List.mem_append.mp he with z | z
    · obtain ⟨x1, x2, x3⟩ := h3 e z
      exact ⟨x1, ⟨x2.1, by have := x2.2; omega⟩, x3⟩
    · rw [List.mem_singleton.mp z]
      exact ⟨hl, ⟨by show (0 : Int) ≤ n; omega, by show (n : Int) < ((n + 1 : Nat) : Int); omega⟩, hy⟩
  · by_cases e : q = n
    · rw [e, upF_s] at hi
      exact absurd rfl hi
    · rw [upF_o e] at hi ⊢
      obtain ⟨x1, ⟨j, j1, j2, j3⟩, x3⟩ := h4 q (by omega) hi
      exact ⟨x1, ⟨j, j1, by omega, by rw [upF_o (by omega)]; exact j3⟩, x3⟩
  · rw [bCt, upF_s]
    have e1 : bCt (fun p => decide (plI (upF W n (plNew k par' y (pkW ls : Nat)) p) ≠ -5)) n = bCt (fun p => decide (plI (W p) ≠ -5)) n := bCt_cg n (fun q hq => by rw [upF_o (by omega)])
    rw [e1, h5]
    have : (decide (plI (plNew k par' y (pkW ls : Nat)) ≠ -5)) = false := decide_eq_false (fun z => z rfl)
    rw [this, if_neg (by decide)]; rfl
theorem SimP_spl {p : Nat} {par y : Int} {ls : List Int} (h : SimP n W mg NL PL) (hp : p < n) (hn : n < 20) (hE : plE (W p) = -5) (hy : plL (W p) ≤ y ∧ y ≤ 9999) (hl : lOk ls) (hpar : pPar PL p y = par) (hst : 0 < plK (W p) → ∀ j : Nat, par = j → j < n → plSt (W j) y = true) : SimP (n + 1) (upF (upF W n (plRem (plNew (plK (W p)) par y (pkW ls : Nat)) y 5 p)) p (plRem (W p) y 7 n)) mg (NL ++ [((n : Int), y, ls)]) (if 0 < plK (W p) then PL ++ [((n : Int), y, par)] else PL) := by
  obtain ⟨a1, a2, a3, a4, a5⟩ := h.1 p hp
  obtain ⟨b1, b2, b3, b4, b5⟩ := a1
  obtain ⟨d1, d2, d3, d4, d5, d6⟩ := a3
  have hx : plEx (W p) y = true := plEx_i.mpr ⟨by omega, by rw [plEnd_o hE]; omega⟩
  have e0 : (if plK (W p) = 0 then -5 else par) = par := by
    split
    · rename_i g
      rw [← hpar, d4 g y hx]
    · rfl
  have f := SimP_fou (k := plK (W p)) (par := par) (y := y) (ls := ls) h hn b1 ⟨by omega, hy.2⟩ hl (fun k0 => by
    obtain ⟨j, j1, j2, j3, j4⟩ := d5 k0 y hx
    exact ⟨j, by rw [← hpar, j1], j2, j3, hst k0 j (by rw [← hpar, j1]) j2⟩)
  rw [e0] at f
  have en : p ≠ n := by omega
  have pn : ((p : Int) = -5 ∨ (0 ≤ (p : Int) ∧ (p : Int) < 10000)) := by right; omega
  have nn : ((n : Int) = -5 ∨ (0 ≤ (n : Int) ∧ (n : Int) < 10000)) := by right; omega
  have g1 := SimP_ev (p := n) (Q := plRem (plNew (plK (W p)) par y (pkW ls : Nat)) y 5 p) (e := (y, 5, (p : Int))) f (by omega) (by rw [upF_s]; rfl) (by rw [upF_s]; rfl) (by rw [upF_s]; rfl) (by rw [upF_s]; rfl) (by rw [upF_s]; rfl) (by rw [upF_s]; rfl) (by rw [upF_s]; rfl) (by rw [upF_s]; rfl) (by rw [upF_s]; exact ⟨Int.le_refl y, hy.2⟩) (Or.inl (by rw [upF_s]; rfl)) ⟨⟨by show 0 ≤ y; omega, by show y < 10000; omega⟩, ⟨(by decide : (0 : Int) ≤ 5), (by decide : (5 : Int) < 9)⟩, pn⟩ ⟨(show (5 : Int) ≠ 0 by decide), (show (5 : Int) ≠ 2 by decide), (show (5 : Int) ≠ 8 by decide), (show (5 : Int) ≠ 3 by decide), (show (5 : Int) ≠ 4 by decide)⟩
  rw [upF_up] at g1
  exact SimP_ev (p := p) (Q := plRem (W p) y 7 n) (e := (y, 7, (n : Int))) g1 (by omega) (by rw [upF_o en]; rfl) (by rw [upF_o en]; rfl) (by rw [upF_o en]; rfl) (by rw [upF_o en]; rfl) (by rw [upF_o en]; rfl) (by rw [upF_o en]; rfl) (by rw [upF_o en]; rfl) (by rw [upF_o en]; rfl) (by rw [upF_o en]; exact hy) (Or.inl (by rw [upF_o en]; exact hE)) ⟨⟨by show 0 ≤ y; omega, by show y < 10000; omega⟩, ⟨(by decide : (0 : Int) ≤ 7), (by decide : (7 : Int) < 9)⟩, nn⟩ ⟨(show (7 : Int) ≠ 0 by decide), (show (7 : Int) ≠ 2 by decide), (show (7 : Int) ≠ 8 by decide), (show (7 : Int) ≠ 3 by decide), (show (7 : Int) ≠ 4 by decide)⟩
/-- the end of a place: what of its own stays -/
theorem pIs_end {p : Nat} {Q : Pl} {y so nu : Int} {W' : Nat → Pl} (h : pIs NL PL n W p (W p)) (hE : plE (W p) = -5) (hy : plL (W p) ≤ y ∧ y ≤ 9999) (hK : plK Q = plK (W p)) (hF : plF Q = plF (W p)) (hEQ : plE Q = y) (hL : plL Q = y) (hG : plG Q = plG (W p)) (hN : plN Q = plN (W p)) (hT : plT Q = plT (W p)) (hH : plH Q = plH (W p) ++ [(y, so, nu)]) (hso : so = 3 ∨ so = 4) (hnu : nu = -5 ∨ (0 ≤ nu ∧ nu < 10000)) (hX : ∀ d, d < y → plEx (W p) d = true → pPar PL' p d = pPar PL p d) (hc : (PL'.filter (fun e => decide (e.1 = (p : Int)))).length = (PL.filter (fun e => decide (e.1 = (p : Int)))).length) (hW : ∀ d (j : Nat), d < y → pPar PL p d = j → j < n → plEx (W j) d = true → plK (W' j) = plK (W j) ∧ plEx (W' j) d = true) : pIs NL PL' n W' p Q := by
  obtain ⟨⟨b1, b2, b3, b4, b5⟩, ⟨c1, c2, c3, c4⟩, a3, a4, a5⟩ := h
  have yn : plE Q ≠ -5 := by rw [hEQ]; omega
  have ex : ∀ d, plEx Q d = true → d < y ∧ plEx (W p) d = true := fun d hd => by
    have := plEx_i.mp hd
    rw [plEnd_e yn, hEQ, hF] at this
    exact ⟨this.2, plEx_i.mpr ⟨this.1, by rw [plEnd_o hE]; omega⟩⟩
  refine ⟨⟨by rw [hK]; exact b1, by rw [hF]; exact b2, by rw [hF, hL]; omega, by rw [hL]; exact hy.2, Or.inr (by rw [hEQ, hL])⟩, ⟨by rw [hN]; exact c1, by rw [hN, hF]; exact c2, by rw [hN]; exact c3, fun q hq => by rw [hN] at hq; have := c4 q hq; rw [hL]; omega⟩, ?_, fun x hx => ?_, fun day l0 h0 h9 => ?_⟩
  · refine pI3_keep a3 hT hF hK hG (Nat.le_refl _) (fun d hd => ⟨(ex d hd).2, hX d (ex d hd).1 (ex d hd).2⟩) hc (fun d j hd j1 j2 hx => hW d j (ex d hd).1 j1 j2 hx)
  · rw [hH] at hx
    rcases List.mem_append.mp hx with z | z
    · exact a4 x z
    · rw [List.mem_singleton.mp z]
      refine ⟨⟨by show 0 ≤ y; omega, by show y < 10000; omega⟩, ?_, hnu⟩
      rcases hso with e | e
      · rw [e]; exact ⟨(by decide : (0 : Int) ≤ 3), (by decide : (3 : Int) < 9)⟩
      · rw [e]; exact ⟨(by decide : (0 : Int) ≤ 4), (by decide : (4 : Int) < 9)⟩
  · obtain ⟨x1, x2, x3, x4⟩ := a5 day l0 h0 h9
    have es : evFold day l0 (plH Q) = ((evFold day l0 (plH (W p))).1, (evFold day l0 (plH (W p))).2 && decide (day < y)) := by
      rw [hH, evFold_s]
      unfold evStep
      rcases hso with e | e
      · rw [e, if_neg (show ¬ ((3 : Int) = 0) by decide), if_neg (show ¬ ((3 : Int) = 2) by decide), if_neg (show ¬ ((3 : Int) = 8) by decide), if_pos (show ((3 : Int) = 3 ∨ (3 : Int) = 4) by decide)]
      · rw [e, if_neg (show ¬ ((4 : Int) = 0) by decide), if_neg (show ¬ ((4 : Int) = 2) by decide), if_neg (show ¬ ((4 : Int) = 8) by decide), if_pos (show ((4 : Int) = 3 ∨ (4 : Int) = 4) by decide)]
    rw [es, hF, hT]
    refine ⟨x1, x2, x3, ?_⟩
    show ((evFold day l0 (plH (W p))).2 && decide (day < y)) = plEx Q day
    rw [x4]
    unfold plEx
    rw [plEnd_e yn, hEQ, hF, plEnd_o hE]
    by_cases g1 : plF (W p) ≤ day
    · by_cases g2 : day < y
      · rw [decide_eq_true (show plF (W p) ≤ day ∧ day < 10000 from ⟨g1, by omega⟩), decide_eq_true g2, decide_eq_true (show plF (W p) ≤ day ∧ day < y from ⟨g1, g2⟩)]; rfl
      · rw [decide_eq_false g2, Bool.and_false, decide_eq_false (fun z : plF (W p) ≤ day ∧ day < y => g2 z.2)]
    · rw [decide_eq_false (fun z : plF (W p) ≤ day ∧ day < 10000 => g1 z.1), Bool.false_and, decide_eq_false (fun z : plF (W p) ≤ day ∧ day < y => g1 z.1)]
theorem SimP_clo {p : Nat} {y : Int} (h : SimP n W mg NL PL) (hp : p < n) (hE : plE (W p) = -5) (hy : plL (W p) ≤ y ∧ y ≤ 9999) (hno : ∀ c, c < n → ∀ d, y ≤ d → plEx (W c) d = true → pPar PL c d ≠ p) : SimP n (upF W p (plRem (plSe (W p) y) y 4 (-5))) mg NL PL := by
  obtain ⟨h1, h2, h3, ⟨τ, h4⟩, h5⟩ := h
  have b := (h1 p hp).1
  have y0 : 0 ≤ y := by have := b.2.1; have := b.2.2.1; omega
  have hW : ∀ c, c < n → ∀ d (j : Nat), plEx (W c) d = true → pPar PL c d = j → plEx (W j) d = true → plK (upF W p (plRem (plSe (W p) y) y 4 (-5)) j) = plK (W j) ∧ plEx (upF W p (plRem (plSe (W p) y) y 4 (-5)) j) d = true := fun c hc d j hd hj hx => by
    by_cases e : j = p
    · subst e
      rw [upF_s]
      refine ⟨rfl, ?_⟩
      have lt : d < y := by
        rcases Int.lt_or_le d y with z | z
        · exact z
        · exact absurd hj (hno c hc d z hd)
      refine plEx_i.mpr ⟨(plEx_i.mp hx).1, ?_⟩
      rw [plEnd_e (show plE (plRem (plSe (W j) y) y 4 (-5)) ≠ -5 from (by show y ≠ -5; omega))]
      exact lt
    · rw [upF_o e]; exact ⟨rfl, hx⟩
  refine ⟨fun q hq => ?_, h2, h3, ⟨τ, tau_c h4 (fun q hq => ?_) (fun q hq z => ?_)⟩, ?_⟩
  · by_cases e : q = p
    · subst e
      rw [upF_s]
      refine pIs_end (h1 q hq) hE hy rfl rfl rfl rfl rfl rfl rfl rfl (Or.inr rfl) (Or.inl rfl) (fun d _ _ => rfl) rfl (fun d j hd hj hjn hx => ?_)
      have hdx : plF (W q) ≤ d ∨ ¬ plF (W q) ≤ d := Decidable.em _
      by_cases e2 : j = q
      · subst e2
        rw [upF_s]
        refine ⟨rfl, plEx_i.mpr ⟨(plEx_i.mp hx).1, ?_⟩⟩
        rw [plEnd_e (show plE (plRem (plSe (W j) y) y 4 (-5)) ≠ -5 from (by show y ≠ -5; omega))]
        exact hd
      · rw [upF_o e2]; exact ⟨rfl, hx⟩
    · rw [upF_o e]
      obtain ⟨a1, a2, a3, a4, a5⟩ := h1 q hq
      exact ⟨a1, a2, pI3_keep a3 rfl rfl rfl rfl (Nat.le_refl _) (fun d hd => ⟨hd, rfl⟩) rfl (fun d j hd hj _ hx => hW q hq d j hd hj hx), a4, a5⟩
  · by_cases e : q = p
    · rw [e, upF_s]; rfl
    · rw [upF_o e]
  · by_cases e : q = p
    · rw [e, upF_s]; show y ≠ -5; omega
    · rw [upF_o e]; exact z
  · rw [h5]
    exact congrArg Int.ofNat (bCt_cg n (fun q hq => by
      by_cases e : q = p
      · rw [e, upF_s]; rfl
      · rw [upF_o e]))
end SPM
