
/-! a world and its logs -/
def pI1 (P : Pl) : Prop := (0 ≤ plK P ∧ plK P ≤ 3) ∧ 0 ≤ plF P ∧ plF P ≤ plL P ∧ plL P ≤ 9999 ∧ (plE P = -5 ∨ plE P = plL P)
def pI2 (NL : NLt) (p : Nat) (P : Pl) : Prop := plN P = nmL NL p ∧ (∃ w r, plN P = (plF P, w) :: r) ∧ (plN P).Pairwise (fun a b => a.1 ≤ b.1) ∧ ∀ q ∈ plN P, q.1 ≤ plL P
def pI3 (PL : List (Int × Int × Int)) (n : Nat) (W : Nat → Pl) (p : Nat) (P : Pl) : Prop := tlSrt (plT P) ∧ (∃ v r, plT P = (plF P, v) :: r) ∧ (∀ d, plEx P d = true → tlAt (plT P) d = pPar PL p d) ∧ (plK P = 0 → ∀ d, plEx P d = true → pPar PL p d = -5) ∧ (0 < plK P → ∀ d, plEx P d = true → ∃ j : Nat, pPar PL p d = j ∧ j < n ∧ plK (W j) < plK P ∧ plEx (W j) d = true) ∧ plG P = (PL.filter (fun e => decide (e.1 = (p : Int)))).length
def pI4 (P : Pl) : Prop := ∀ e ∈ plH P, (0 ≤ e.1 ∧ e.1 < 10000) ∧ (0 ≤ e.2.1 ∧ e.2.1 < 9) ∧ (e.2.2 = -5 ∨ (0 ≤ e.2.2 ∧ e.2.2 < 10000))
def pI5 (P : Pl) : Prop := ∀ (day : Int) (l0 : List (Int × Int)), 0 ≤ day → day ≤ 9999 → tlSrt (evFold day l0 (plH P)).1 ∧ (∃ v r, (evFold day l0 (plH P)).1 = (plF P, v) :: r) ∧ (∀ d, plF P ≤ d → d < 10000 → tlAt (evFold day l0 (plH P)).1 d = tlAt (plT P) d) ∧ (evFold day l0 (plH P)).2 = plEx P day
def pIs (NL : NLt) (PL : List (Int × Int × Int)) (n : Nat) (W : Nat → Pl) (p : Nat) (P : Pl) : Prop := pI1 P ∧ pI2 NL p P ∧ pI3 PL n W p P ∧ pI4 P ∧ pI5 P
def tauOk (n : Nat) (W : Nat → Pl) (mg : Int) (τ : Nat → Int) : Prop := ∀ p, p < n → plI (W p) ≠ -5 → plE (W p) ≠ -5 ∧ (∃ j : Nat, plI (W p) = j ∧ j < n ∧ (plI (W j) ≠ -5 → τ p < τ j)) ∧ 0 ≤ τ p ∧ τ p < mg
def PLok (n : Nat) (PL : List (Int × Int × Int)) : Prop := ∀ e ∈ PL, (0 ≤ e.2.1 ∧ e.2.1 ≤ 9999) ∧ (0 ≤ e.2.2 ∧ e.2.2 < n) ∧ e.1 < n ∧ -1 - e.1 < n
def NLok (n : Nat) (NL : NLt) : Prop := ∀ e ∈ NL, lOk e.2.2 ∧ (0 ≤ e.1 ∧ e.1 < n) ∧ 0 ≤ e.2.1 ∧ e.2.1 ≤ 9999
def SimP (n : Nat) (W : Nat → Pl) (mg : Int) (NL : NLt) (PL : List (Int × Int × Int)) : Prop := (∀ p, p < n → pIs NL PL n W p (W p)) ∧ PLok n PL ∧ NLok n NL ∧ (∃ τ, tauOk n W mg τ) ∧ mg = (bCt (fun p => decide (plI (W p) ≠ -5)) n : Nat)
/-! parents by the log: what an entry more does -/
theorem pPar_none {PL : List (Int × Int × Int)} {c d : Int} (h : ∀ e ∈ PL, e.1 ≠ c) : pPar PL c d = -5 ∨ ∃ e ∈ PL, e.2.2 = pPar PL c d ∧ e.1 < 0 := by
  have : ∀ (L : List (Int × Int × Int)) (acc : Int), (∀ e ∈ L, e ∈ PL) → (acc = -5 ∨ ∃ e ∈ PL, e.2.2 = acc ∧ e.1 < 0) → (L.foldl (pStep c d) acc = -5 ∨ ∃ e ∈ PL, e.2.2 = L.foldl (pStep c d) acc ∧ e.1 < 0) := by
    intro L
    induction L with
    | nil => intro acc _ ha; exact ha
    | cons e L ih =>
      intro acc hL ha
      rw [List.foldl_cons]
      refine ih _ (fun x hx => hL x (by simp [hx])) ?_
      unfold pStep
      split
      · exact ha
      · rw [if_neg (h e (hL e (by simp)))]
        split
        · rename_i g
          exact Or.inr ⟨e, hL e (by simp), rfl, g.1⟩
        · exact ha
  exact this PL (-5) (fun _ z => z) (Or.inl rfl)
theorem pPar_new {n : Nat} {PL : List (Int × Int × Int)} (hP : PLok n PL) (d : Int) : pPar PL n d = -5 := by
  have : ∀ (L : List (Int × Int × Int)), (∀ e ∈ L, e ∈ PL) → L.foldl (pStep n d) (-5) = -5 := by
    intro L
    induction L with
    | nil => intro _; rfl
    | cons e L ih =>
      intro hL
      obtain ⟨a1, a2, a3, a4⟩ := hP e (hL e (by simp))
      rw [List.foldl_cons]
      have : pStep n d (-5) e = -5 := by
        unfold pStep
        split
        · rfl
        · rw [if_neg (by omega), if_neg (by omega)]
      rw [this]
      exact ih (fun x hx => hL x (by simp [hx]))
  exact this PL (fun _ z => z)
theorem pPar_o {PL : List (Int × Int × Int)} {p q : Nat} {y v d : Int} (h : q ≠ p) : pPar (PL ++ [((p : Int), y, v)]) q d = pPar PL q d := by
  rw [pPar_s]
  unfold pStep
  split
  · rfl
  · rw [if_neg (show ¬ ((p : Int) = (q : Int)) by omega), if_neg (show ¬ ((p : Int) < 0 ∧ _) by omega)]
theorem pPar_p {PL : List (Int × Int × Int)} {p : Nat} {y v d : Int} : pPar (PL ++ [((p : Int), y, v)]) p d = if y ≤ d then v else pPar PL p d := by
  rw [pPar_s]
  unfold pStep
  by_cases g : d < y
  · rw [if_pos g, if_neg (by omega)]
  · rw [if_neg g, if_pos rfl, if_pos (by omega)]
theorem pPar_m {PL : List (Int × Int × Int)} {p c : Nat} {y v d : Int} : pPar (PL ++ [(-1 - (p : Int), y, v)]) c d = if y ≤ d ∧ pPar PL c d = p then v else pPar PL c d := by
  rw [pPar_s]
  unfold pStep
  by_cases g : d < y
  · rw [if_pos g, if_neg (by omega)]
  · rw [if_neg g, if_neg (show ¬ (-1 - (p : Int) = (c : Int)) by omega)]
    by_cases g2 : pPar PL c d = p
    · rw [if_pos (show -1 - (p : Int) < 0 ∧ -1 - (-1 - (p : Int)) = pPar PL c d by rw [g2]; omega), if_pos ⟨by omega, g2⟩]
    · rw [if_neg (show ¬ (-1 - (p : Int) < 0 ∧ -1 - (-1 - (p : Int)) = pPar PL c d) by omega), if_neg (fun z => g2 z.2)]
theorem cnt_o {PL : List (Int × Int × Int)} {a y v : Int} {q : Nat} (h : a ≠ q) : ((PL ++ [(a, y, v)]).filter (fun e => decide (e.1 = (q : Int)))).length = (PL.filter (fun e => decide (e.1 = (q : Int)))).length := by
  rw [List.filter_append, List.length_append]; simp [h]
theorem cnt_p {PL : List (Int × Int × Int)} {y v : Int} {q : Nat} : ((PL ++ [((q : Int), y, v)]).filter (fun e => decide (e.1 = (q : Int)))).length = (PL.filter (fun e => decide (e.1 = (q : Int)))).length + 1 := by
  rw [List.filter_append, List.length_append]; simp
theorem cnt_n {n : Nat} {PL : List (Int × Int × Int)} (hP : PLok n PL) : (PL.filter (fun e => decide (e.1 = (n : Int)))).length = 0 := by
  rw [List.length_eq_zero_iff, List.filter_eq_nil_iff]
  intro e he
  obtain ⟨a1, a2, a3, a4⟩ := hP e he
  simp; omega
theorem nmL_n {n : Nat} {NL : NLt} (hN : NLok n NL) : nmL NL n = [] := by
  unfold nmL
  rw [List.map_eq_nil_iff, List.filter_eq_nil_iff]
  intro e he
  obtain ⟨a1, a2, a3⟩ := hN e he
  simp; omega
theorem evFold_s (day : Int) (l0 : List (Int × Int)) (l : List (Int × Int × Int)) (e : Int × Int × Int) : evFold day l0 (l ++ [e]) = evStep day (evFold day l0 l) e := by unfold evFold; rw [List.foldl_append]; rfl
theorem plEx_i {P : Pl} {d : Int} : plEx P d = true ↔ plF P ≤ d ∧ d < plEnd P := by unfold plEx; rw [decide_eq_true_eq]
theorem plSt_i {P : Pl} {d : Int} : plSt P d = true ↔ plF P ≤ d ∧ plE P = -5 := by unfold plSt; rw [decide_eq_true_eq]
theorem plEnd_o {P : Pl} (h : plE P = -5) : plEnd P = 10000 := if_pos h
theorem plEnd_e {P : Pl} (h : plE P ≠ -5) : plEnd P = plE P := if_neg h
theorem plEnd_le {P : Pl} (h : pI1 P) : plEnd P ≤ 10000 := by
  obtain ⟨h1, h2, h3, h4, h5⟩ := h
  unfold plEnd
  split
  · omega
  · omega
/-- an event that tells nothing of parents -/
theorem pI5_ev {P Q : Pl} {e : Int × Int × Int} (h : pI5 P) (hs : e.2.1 ≠ 0 ∧ e.2.1 ≠ 2 ∧ e.2.1 ≠ 8 ∧ e.2.1 ≠ 3 ∧ e.2.1 ≠ 4) (hH : plH Q = plH P ++ [e]) (hF : plF Q = plF P) (hT : plT Q = plT P) (hE : plE Q = plE P) : pI5 Q := by
  intro day l0 h0 h1
  obtain ⟨a1, a2, a3, a4⟩ := h day l0 h0 h1
  have es : evFold day l0 (plH Q) = evFold day l0 (plH P) := by
    rw [hH, evFold_s]
    unfold evStep
    rw [if_neg hs.1, if_neg hs.2.1, if_neg hs.2.2.1, if_neg (fun z => z.elim hs.2.2.2.1 hs.2.2.2.2)]
  rw [es, hF, hT]
  refine ⟨a1, a2, a3, ?_⟩
  rw [a4]
  unfold plEx plEnd
  rw [hF, hE]
/-- a place as it was, where its parents are as they were -/
theorem pI3_keep {PL PL' : List (Int × Int × Int)} {n n' : Nat} {W W' : Nat → Pl} {p : Nat} {P Q : Pl} (h : pI3 PL n W p P) (hT : plT Q = plT P) (hF : plF Q = plF P) (hK : plK Q = plK P) (hG : plG Q = plG P) (hn : n ≤ n') (hX : ∀ d, plEx Q d = true → plEx P d = true ∧ pPar PL' p d = pPar PL p d) (hc : (PL'.filter (fun e => decide (e.1 = (p : Int)))).length = (PL.filter (fun e => decide (e.1 = (p : Int)))).length) (hW : ∀ d (j : Nat), plEx Q d = true → pPar PL p d = j → j < n → plEx (W j) d = true → plK (W' j) = plK (W j) ∧ plEx (W' j) d = true) : pI3 PL' n' W' p Q := by
  obtain ⟨h1, h2, h3, h4, h5, h6⟩ := h
  refine ⟨by rw [hT]; exact h1, by rw [hT, hF]; exact h2, fun d hd => ?_, fun k0 d hd => ?_, fun k0 d hd => ?_, by rw [hG, hc, h6]⟩
  · obtain ⟨x1, x2⟩ := hX d hd
    rw [hT, x2]; exact h3 d x1
  · obtain ⟨x1, x2⟩ := hX d hd
    rw [x2]; exact h4 (by rw [← hK]; exact k0) d x1
  · obtain ⟨x1, x2⟩ := hX d hd
    obtain ⟨j, j1, j2, j3, j4⟩ := h5 (by rw [← hK]; exact k0) d x1
    obtain ⟨w1, w2⟩ := hW d j hd j1 j2 j4
    exact ⟨j, by rw [x2]; exact j1, by omega, by rw [w1, hK]; exact j3, w2⟩
theorem plEx_c {P Q : Pl} (hF : plF Q = plF P) (hE : plE Q = plE P) (d : Int) : plEx Q d = plEx P d := by
  unfold plEx plEnd
  rw [hF, hE]
theorem hd_mem {P : Pl} {d : Int} (h : pI1 P) (hx : plEx P d = true) : plF P ≤ d ∧ d < 10000 := by
  have := plEnd_le h
  have := plEx_i.mp hx
  omega
