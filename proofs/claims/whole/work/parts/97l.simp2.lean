
/-! what the orders do to a world and its logs -/
theorem bCt_cg {f g : Nat → Bool} : ∀ n : Nat, (∀ q, q < n → f q = g q) → bCt f n = bCt g n
  | 0, _ => rfl
  | n + 1, h => by rw [bCt, bCt, bCt_cg n (fun q hq => h q (by omega)), h n (by omega)]
section SPO
variable {n : Nat} {W : Nat → Pl} {mg : Int} {NL NL' : NLt} {PL PL' : List (Int × Int × Int)}
theorem tau_c {W' : Nat → Pl} {τ : Nat → Int} (h : tauOk n W mg τ) (hI : ∀ q, q < n → plI (W' q) = plI (W q)) (hE : ∀ q, q < n → plE (W q) ≠ -5 → plE (W' q) ≠ -5) : tauOk n W' mg τ := fun q hq hi => by
  rw [hI q hq] at hi ⊢
  obtain ⟨h1, ⟨j, j1, j2, j3⟩, h3⟩ := h q hq hi
  exact ⟨hE q hq h1, ⟨j, j1, j2, fun z => j3 (by rw [← hI j j2]; exact z)⟩, h3⟩
/-- one place changes, its bounds do not -/
theorem SimP_up {p : Nat} {Q : Pl} (h : SimP n W mg NL PL) (hp : p < n) (hK : plK Q = plK (W p)) (hF : plF Q = plF (W p)) (hE : plE Q = plE (W p)) (hI : plI Q = plI (W p)) (hQ : pI1 Q ∧ pI2 NL' p Q ∧ pI3 PL' n (upF W p Q) p Q ∧ pI4 Q ∧ pI5 Q) (hN : ∀ q, q < n → q ≠ p → nmL NL' q = nmL NL q) (hP : ∀ q, q < n → q ≠ p → (∀ d, pPar PL' q d = pPar PL q d) ∧ (PL'.filter (fun e => decide (e.1 = (q : Int)))).length = (PL.filter (fun e => decide (e.1 = (q : Int)))).length) (hPo : PLok n PL') (hNo : NLok n NL') : SimP n (upF W p Q) mg NL' PL' := by
  obtain ⟨h1, h2, h3, ⟨τ, h4⟩, h5⟩ := h
  have eI : ∀ q, q < n → plI (upF W p Q q) = plI (W q) := fun q hq => by
    by_cases e : q = p
    · rw [e, upF_s, hI]
    · rw [upF_o e]
  have eE : ∀ q, q < n → plE (upF W p Q q) = plE (W q) := fun q hq => by
    by_cases e : q = p
    · rw [e, upF_s, hE]
    · rw [upF_o e]
  have eK : ∀ q, plK (upF W p Q q) = plK (W q) := fun q => by
    by_cases e : q = p
    · rw [e, upF_s, hK]
    · rw [upF_o e]
  have eX : ∀ q d, plEx (upF W p Q q) d = plEx (W q) d := fun q d => by
    by_cases e : q = p
    · rw [e, upF_s]; exact plEx_c hF hE d
    · rw [upF_o e]
  refine ⟨fun q hq => ?_, hPo, hNo, ⟨τ, tau_c h4 eI (fun q hq z => by rw [eE q hq]; exact z)⟩, ?_⟩
  · by_cases e : q = p
    · rw [e, upF_s]; exact hQ
    · rw [upF_o e]
      obtain ⟨a1, a2, a3, a4, a5⟩ := h1 q hq
      obtain ⟨p1, p2⟩ := hP q hq e
      refine ⟨a1, ?_, pI3_keep a3 rfl rfl rfl rfl (Nat.le_refl _) (fun d hd => ⟨hd, p1 d⟩) p2 (fun d j _ _ _ hx => ⟨eK j, by rw [eX]; exact hx⟩), a4, a5⟩
      unfold pI2 at a2 ⊢
      rw [hN q hq e]; exact a2
  · rw [h5]
    exact congrArg Int.ofNat (bCt_cg n (fun q hq => by rw [eI q hq]))
/-- an event that tells nothing of parents -/
theorem SimP_ev {p : Nat} {Q : Pl} {e : Int × Int × Int} (h : SimP n W mg NL PL) (hp : p < n) (hK : plK Q = plK (W p)) (hF : plF Q = plF (W p)) (hE : plE Q = plE (W p)) (hI : plI Q = plI (W p)) (hG : plG Q = plG (W p)) (hN : plN Q = plN (W p)) (hT : plT Q = plT (W p)) (hH : plH Q = plH (W p) ++ [e]) (hL : plL (W p) ≤ plL Q ∧ plL Q ≤ 9999) (hLE : plE (W p) = -5 ∨ plL Q = plL (W p)) (he : (0 ≤ e.1 ∧ e.1 < 10000) ∧ (0 ≤ e.2.1 ∧ e.2.1 < 9) ∧ (e.2.2 = -5 ∨ (0 ≤ e.2.2 ∧ e.2.2 < 10000))) (hs : e.2.1 ≠ 0 ∧ e.2.1 ≠ 2 ∧ e.2.1 ≠ 8 ∧ e.2.1 ≠ 3 ∧ e.2.1 ≠ 4) : SimP n (upF W p Q) mg NL PL := by
  obtain ⟨⟨a1, a2, a3, a4, a5⟩, a6⟩ := And.intro (h.1 p hp) (0 : Nat).le_refl
  obtain ⟨b1, b2, b3, b4, b5⟩ := a1
  obtain ⟨c1, c2, c3, c4⟩ := a2
  refine SimP_up h hp hK hF hE hI ⟨⟨by rw [hK]; exact b1, by rw [hF]; exact b2, by rw [hF]; omega, hL.2, ?_⟩, ⟨by rw [hN]; exact c1, by rw [hN, hF]; exact c2, by rw [hN]; exact c3, fun q hq => by rw [hN] at hq; have := c4 q hq; omega⟩, ?_, ?_, pI5_ev a5 hs hH hF hT hE⟩ (fun q hq _ => rfl) (fun q hq _ => ⟨fun d => rfl, rfl⟩) h.2.1 h.2.2.1
  · rw [hE]
    rcases hLE with z | z
    · exact Or.inl z
    · rw [z]; exact b5
  · refine pI3_keep a3 hT hF hK hG (Nat.le_refl _) (fun d hd => ⟨by rw [← plEx_c hF hE d]; exact hd, rfl⟩) rfl (fun d j _ _ _ hx => ?_)
    by_cases e : j = p
    · subst e
      rw [upF_s]
      exact ⟨hK, by rw [plEx_c hF hE d]; exact hx⟩
    · rw [upF_o e]; exact ⟨rfl, hx⟩
  · intro x hx
    rw [hH] at hx
    rcases List.mem_append.mp hx with z | z
    · exact a4 x z
    · rw [List.mem_singleton.mp z]; exact he
theorem SimP_ren {p : Nat} {y : Int} {ls : List Int} (h : SimP n W mg NL PL) (hp : p < n) (hE : plE (W p) = -5) (hy : plL (W p) ≤ y ∧ y ≤ 9999) (hl : lOk ls) : SimP n (upF W p (plRem (plNam (W p) (y, (pkW ls : Nat))) y 1 ls.length)) mg (NL ++ [((p : Int), y, ls)]) PL := by
  obtain ⟨a1, a2, a3, a4, a5⟩ := h.1 p hp
  obtain ⟨b1, b2, b3, b4, b5⟩ := a1
  obtain ⟨c1, ⟨w, r, c2⟩, c3, c4⟩ := a2
  have hl8 := hl.2
  refine SimP_up h hp rfl rfl rfl rfl ⟨⟨b1, b2, show plF (W p) ≤ y by omega, hy.2, Or.inl hE⟩, ⟨?_, ?_, ?_, ?_⟩, ?_, ?_, ?_⟩ (fun q hq hne => ?_) (fun q hq _ => ⟨fun d => rfl, rfl⟩) h.2.1 (fun e he => ?_)
  · rw [nmL_s, if_pos rfl, ← c1]; rfl
  · refine ⟨w, r ++ [(y, ((pkW ls : Nat) : Int))], ?_⟩
    show plN (W p) ++ [_] = _
    rw [c2]; rfl
  · show (plN (W p) ++ [(y, ((pkW ls : Nat) : Int))]).Pairwise _
    rw [List.pairwise_append]
    exact ⟨c3, List.pairwise_singleton _ _, fun a ha b hb => by rw [List.mem_singleton.mp hb]; show a.1 ≤ y; have := c4 a ha; omega⟩
  · intro q hq
    rcases List.mem_append.mp (show q ∈ plN (W p) ++ [(y, ((pkW ls : Nat) : Int))] from hq) with z | z
    · show q.1 ≤ y; have := c4 q z; omega
    · rw [List.mem_singleton.mp z]; exact Int.le_refl y
  · refine pI3_keep a3 rfl rfl rfl rfl (Nat.le_refl _) (fun d hd => ⟨hd, rfl⟩) rfl (fun d j _ _ _ hx => ?_)
    by_cases e : j = p
    · subst e
      rw [upF_s]
      exact ⟨rfl, hx⟩
    · rw [upF_o e]; exact ⟨rfl, hx⟩
  · intro x hx
    rcases List.mem_append.mp (show x ∈ plH (W p) ++ [(y, 1, (ls.length : Int))] from hx) with z | z
    · exact a4 x z
    · rw [List.mem_singleton.mp z]
      exact ⟨⟨by show 0 ≤ y; omega, by show y < 10000; omega⟩, ⟨(by decide : (0 : Int) ≤ 1), (by decide : (1 : Int) < 9)⟩, Or.inr ⟨by show (0 : Int) ≤ (ls.length : Int); omega, by show (ls.length : Int) < 10000; omega⟩⟩
  · exact pI5_ev (e := (y, 1, (ls.length : Int))) a5 ⟨(show (1 : Int) ≠ 0 by decide), (show (1 : Int) ≠ 2 by decide), (show (1 : Int) ≠ 8 by decide), (show (1 : Int) ≠ 3 by decide), (show (1 : Int) ≠ 4 by decide)⟩ rfl rfl rfl rfl
  · rw [nmL_s, if_neg (show ¬ ((p : Int) = (q : Int)) by omega)]
  · rcases List.mem_append.mp he with z | z
    · exact h.2.2.1 e z
    · rw [List.mem_singleton.mp z]
      exact ⟨hl, ⟨by show (0 : Int) ≤ p; omega, by show (p : Int) < n; omega⟩, by show 0 ≤ y; omega, hy.2⟩
theorem tlPut_hd {l : List (Int × Int)} {f y x : Int} (h : ∃ v r, l = (f, v) :: r) (hf : f ≤ y) : ∃ v r, tlPut l y x = (f, v) :: r := by
  obtain ⟨v, r, d2⟩ := h
  unfold tlPut
  obtain ⟨rr, e1, e2⟩ := tlCut_le l y
  cases hc : tlCut l y with
  | nil =>
    rw [hc, List.nil_append] at e1
    have hm : (f, v) ∈ rr := by rw [← e1, d2]; simp
    have : y ≤ f := e2 _ hm
    exact ⟨x, [], by rw [show y = f by omega]; rfl⟩
  | cons z zs =>
    rw [hc, d2, List.cons_append] at e1
    have := (List.cons.inj e1).1
    exact ⟨v, zs ++ [(y, x)], by rw [← this]; rfl⟩
theorem SimP_mov {p j : Nat} {y : Int} (hn20 : n ≤ 20) (h : SimP n W mg NL PL) (hp : p < n) (hj : j < n) (hE : plE (W p) = -5) (hy : plL (W p) ≤ y ∧ y ≤ 9999) (hk : plK (W j) < plK (W p)) (hst : plSt (W j) y = true) : SimP n (upF W p (plRem (plSg (plPar (W p) (tlPut (plT (W p)) y j)) (plG (W p) + 1)) y 2 j)) mg NL (PL ++ [((p : Int), y, (j : Int))]) := by
  obtain ⟨a1, a2, a3, a4, a5⟩ := h.1 p hp
  obtain ⟨b1, b2, b3, b4, b5⟩ := a1
  obtain ⟨c1, c2, c3, c4⟩ := a2
  obtain ⟨d1, ⟨v, r, d2⟩, d3, d4, d5, d6⟩ := a3
  obtain ⟨s1, s2⟩ := plSt_i.mp hst
  have hnp : j ≠ p := fun e => by rw [e] at hk; omega
  have kj := (h.1 j hj).1.1
  refine SimP_up h hp rfl rfl rfl rfl ⟨⟨b1, b2, show plF (W p) ≤ y by omega, hy.2, Or.inl hE⟩, ⟨c1, c2, c3, fun q hq => by show q.1 ≤ y; have := c4 q hq; omega⟩, ⟨tlPut_srt d1 y j, tlPut_hd (f := plF (W p)) ⟨v, r, d2⟩ (by omega), fun d hd => ?_, fun k0 => ?_, fun k0 d hd => ?_, ?_⟩, ?_, ?_⟩ (fun q hq _ => rfl) (fun q hq hne => ⟨fun d => pPar_o hne, cnt_o (by omega)⟩) (fun e he => ?_) h.2.2.1
  · show tlAt (tlPut (plT (W p)) y j) d = _
    rw [tlPut_at, pPar_p]
    split
    · rfl
    · exact d3 d hd
  · exfalso
    have : plK (W p) = 0 := k0
    omega
  · rw [pPar_p]
    have hd' := plEx_i.mp hd
    have eK : ∀ q, plK (upF W p (plRem (plSg (plPar (W p) (tlPut (plT (W p)) y j)) (plG (W p) + 1)) y 2 j) q) = plK (W q) := fun q => by
      by_cases e : q = p
      · rw [e, upF_s]; rfl
      · rw [upF_o e]
    have eX : ∀ q d, plEx (upF W p (plRem (plSg (plPar (W p) (tlPut (plT (W p)) y j)) (plG (W p) + 1)) y 2 j) q) d = plEx (W q) d := fun q d => by
      by_cases e : q = p
      · rw [e, upF_s]; exact plEx_c rfl rfl d
      · rw [upF_o e]
    split
    · refine ⟨j, rfl, hj, by rw [eK]; exact hk, ?_⟩
      rw [eX]
      have : d < 10000 := by
        have h2 : d < plEnd (W p) := hd'.2
        rw [plEnd_o hE] at h2; exact h2
      exact plEx_i.mpr ⟨by omega, by rw [plEnd_o s2]; exact this⟩
    · obtain ⟨i, i1, i2, i3, i4⟩ := d5 (show 0 < plK (W p) by omega) d hd
      exact ⟨i, i1, i2, by rw [eK]; exact i3, by rw [eX]; exact i4⟩
  · rw [cnt_p]
    show plG (W p) + 1 = _
    rw [d6]; omega
  · intro x hx
    rcases List.mem_append.mp (show x ∈ plH (W p) ++ [(y, 2, (j : Int))] from hx) with z | z
    · exact a4 x z
    · rw [List.mem_singleton.mp z]
      refine ⟨⟨by show 0 ≤ y; omega, by show y < 10000; omega⟩, ⟨(by decide : (0 : Int) ≤ 2), (by decide : (2 : Int) < 9)⟩, Or.inr ⟨by show (0 : Int) ≤ (j : Int); omega, by show (j : Int) < 10000; omega⟩⟩
  · intro day l0 h0 h1
    obtain ⟨x1, ⟨v2, r2, x2⟩, x3, x4⟩ := a5 day l0 h0 h1
    have es : evFold day l0 (plH (W p) ++ [(y, 2, (j : Int))]) = (tlPut (evFold day l0 (plH (W p))).1 y j, (evFold day l0 (plH (W p))).2) := by
      rw [evFold_s]; rfl
    show tlSrt (evFold day l0 (plH (W p) ++ [(y, 2, (j : Int))])).1 ∧ _
    rw [show plH (plRem (plSg (plPar (W p) (tlPut (plT (W p)) y j)) (plG (W p) + 1)) y 2 j) = plH (W p) ++ [(y, 2, (j : Int))] from rfl, es]
    refine ⟨tlPut_srt x1 y j, ?_, fun d h2 h3 => ?_, ?_⟩
    · exact tlPut_hd ⟨v2, r2, x2⟩ (show plF (W p) ≤ y by omega)
    · show tlAt (tlPut (evFold day l0 (plH (W p))).1 y j) d = tlAt (tlPut (plT (W p)) y j) d
      rw [tlPut_at, tlPut_at, x3 d h2 h3]
    · exact x4
  · rcases List.mem_append.mp he with z | z
    · exact h.2.1 e z
    · rw [List.mem_singleton.mp z]
      exact ⟨⟨by show 0 ≤ y; omega, hy.2⟩, ⟨by show (0 : Int) ≤ j; omega, by show (j : Int) < n; omega⟩, by show (p : Int) < n; omega, by show -1 - (p : Int) < n; omega⟩
end SPO
