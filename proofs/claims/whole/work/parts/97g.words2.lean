
/-! words as letters -/
def lOk (l : List Int) : Prop := l.all isLt = true ∧ 1 ≤ l.length ∧ l.length ≤ 8
theorem isLt_at {l : List Int} (h : l.all isLt = true) {i : Nat} (hi : i < l.length) : 97 ≤ l[i] ∧ l[i] ≤ 122 := of_decide_eq_true ((List.all_eq_true.mp h) _ (List.getElem_mem hi))
theorem pk_dig : ∀ (l : List Int) (i : Nat), l.all isLt = true → pkW l / 2 ^ (5 * i) % 32 = if h : i < l.length then (l[i] - 96).toNat else 0
  | [], i, _ => by simp [pkW]
  | c :: l, i, h => by
    rw [List.all_cons, Bool.and_eq_true] at h
    have hc := of_decide_eq_true h.1
    rw [pkW]
    cases i with
    | zero =>
      simp only [Nat.mul_zero, Nat.pow_zero, Nat.div_one, List.length_cons, Nat.zero_lt_succ, dite_true, List.getElem_cons_zero]
      omega
    | succ i =>
      have ih := pk_dig l i h.2
      have e : ((c - 96).toNat + 32 * pkW l) / 2 ^ (5 * (i + 1)) = pkW l / 2 ^ (5 * i) := by
        rw [Nat.mul_add 5, Nat.pow_add, Nat.mul_comm (2 ^ (5 * i)), ← Nat.div_div_eq_div_mul]
        congr 1
        omega
      rw [e, ih]
      simp only [List.length_cons, Nat.succ_lt_succ_iff, List.getElem_cons_succ]
theorem wdAt_pk {l : List Int} (h : l.all isLt = true) (h8 : l.length ≤ 8) (i : Nat) : wdAt (pkW l) i = if hi : i < l.length then (l[i] - 96).toNat else 0 := by
  unfold wdAt
  split
  · exact pk_dig l i h
  · rw [dif_neg (by omega)]
theorem wdAt_pkL {l : List Int} (h : l.all isLt = true) (h8 : l.length ≤ 8) {i : Nat} (hi : i < l.length) : (wdAt (pkW l) i : Int) = l[i] - 96 := by
  have := isLt_at h hi
  rw [wdAt_pk h h8, dif_pos hi]
  omega
theorem wdLen_pk {l : List Int} (h : l.all isLt = true) (h8 : l.length ≤ 8) : wdLen (pkW l) 8 = l.length := by
  have : ∀ n : Nat, wdLen (pkW l) n = min n l.length := by
    intro n
    induction n with
    | zero => rw [wdLen, Nat.zero_min]
    | succ n ih =>
      rw [wdLen, ih, wdAt_pk h h8]
      by_cases g : n < l.length
      · have := isLt_at h g
        rw [dif_pos g, if_neg (by omega)]
        omega
      · rw [dif_neg g, if_pos rfl]
        omega
  rw [this]
  omega
theorem pk_inj {l r : List Int} (hl : l.all isLt = true) (hr : r.all isLt = true) (l8 : l.length ≤ 8) (r8 : r.length ≤ 8) (e : pkW l = pkW r) : l = r := by
  have hn : l.length = r.length := by rw [← wdLen_pk hl l8, e, wdLen_pk hr r8]
  refine List.ext_getElem hn (fun i h1 h2 => ?_)
  have a := wdAt_pkL hl l8 h1
  have b := wdAt_pkL hr r8 h2
  rw [e, b] at a
  omega
theorem pk_pos {l : List Int} (h : lOk l) : 0 < pkW l := by
  obtain ⟨h1, h2, h3⟩ := h
  cases l with
  | nil => simp at h2
  | cons c l =>
    rw [List.all_cons, Bool.and_eq_true] at h1
    have hc := of_decide_eq_true h1.1
    rw [pkW]
    omega
theorem pk_lt40 {l : List Int} (h : lOk l) : (pkW l : Int) < 2 ^ 40 := by
  have := pkW_lt l h.1
  have h3 : 2 ^ (5 * l.length) ≤ 2 ^ 40 := Nat.pow_le_pow_right (by omega) (by have := h.2.2; omega)
  omega
/-- parents by the log -/
def pStep (p y : Int) (acc : Int) (e : Int × Int × Int) : Int := if y < e.2.1 then acc else if e.1 = p then e.2.2 else if e.1 < 0 ∧ -1 - e.1 = acc then e.2.2 else acc
def pPar (PL : List (Int × Int × Int)) (p y : Int) : Int := PL.foldl (pStep p y) (-5)
theorem pPar_s (PL : List (Int × Int × Int)) (e : Int × Int × Int) (p y : Int) : pPar (PL ++ [e]) p y = pStep p y (pPar PL p y) e := by unfold pPar; rw [List.foldl_append]; rfl
/-- the log of parents in the array -/
def PLb (b : Int → Int) (PL : List (Int × Int × Int)) : Prop := b 2 = PL.length ∧ ∀ (k : Nat) (e : Int × Int × Int), PL[k]? = some e → b (9275 + 3 * (k : Int)) = e.1 ∧ b (9275 + 3 * (k : Int) + 1) = e.2.1 ∧ b (9275 + 3 * (k : Int) + 2) = e.2.2
theorem rPar_take {b : Int → Int} {PL : List (Int × Int × Int)} (h : PLb b PL) (p y : Int) : ∀ k : Nat, k ≤ PL.length → rPar b p y k = pPar (PL.take k) p y
  | 0, _ => rfl
  | k + 1, hk => by
    have hq : PL[k]? = some PL[k] := List.getElem?_eq_getElem (by omega)
    obtain ⟨h1, h2, h3⟩ := h.2 k _ hq
    rw [List.take_succ_eq_append_getElem (by omega), pPar_s, rPar, rPar_take h p y k (by omega), h1, h2, h3]
    rfl
theorem rPar_P {b : Int → Int} {PL : List (Int × Int × Int)} (h : PLb b PL) (p y : Int) : rPar b p y PL.length = pPar PL p y := by
  rw [rPar_take h p y _ (Nat.le_refl _), List.take_length]
theorem rTo_take {b : Int → Int} {PL : List (Int × Int × Int)} (h : PLb b PL) (p : Int) : ∀ k : Nat, k ≤ PL.length → rTo b 9275 3 p k = ((PL.take k).filter (fun e => decide (e.1 = p))).length
  | 0, _ => rfl
  | k + 1, hk => by
    have hq : PL[k]? = some PL[k] := List.getElem?_eq_getElem (by omega)
    obtain ⟨h1, h2, h3⟩ := h.2 k _ hq
    rw [List.take_succ_eq_append_getElem (by omega), List.filter_append, List.length_append, rTo, rTo_take h p k (by omega), h1]
    by_cases g : PL[k].1 = p
    · rw [bI_pos g]; simp [g]
    · rw [bI_neg g]; simp [g]
theorem rTo_P {b : Int → Int} {PL : List (Int × Int × Int)} (h : PLb b PL) (p : Int) : rTo b 9275 3 p PL.length = (PL.filter (fun e => decide (e.1 = p))).length := by
  rw [rTo_take h p _ (Nat.le_refl _), List.take_length]
/-- the log of names in the array -/
abbrev NLt : Type := List (Int × Int × List Int)
def NLb (b : Int → Int) (NL : NLt) : Prop := b 1 = NL.length ∧ ∀ (k : Nat) (e : Int × Int × List Int), NL[k]? = some e → b (1575 + 11 * (k : Int)) = e.1 ∧ b (1575 + 11 * (k : Int) + 1) = e.2.1 ∧ b (1575 + 11 * (k : Int) + 2) = e.2.2.length ∧ ∀ (j : Nat) (c : Int), e.2.2[j]? = some c → b (1575 + 11 * (k : Int) + 3 + j) = c
/-- which name holds -/
def nIx (p y : Int) : NLt → Nat → Int
  | _, 0 => -1
  | NL, k + 1 => match NL[k]? with
    | some e => if e.1 = p ∧ e.2.1 ≤ y then k else nIx p y NL k
    | none => nIx p y NL k
theorem rNm_ix {b : Int → Int} {NL : NLt} (h : NLb b NL) (p y : Int) : ∀ k : Nat, k ≤ NL.length → rNm b p y k = if nIx p y NL k = -1 then -1 else 1575 + 11 * nIx p y NL k
  | 0, _ => by rw [rNm, nIx, if_pos rfl]
  | k + 1, hk => by
    have hq : NL[k]? = some NL[k] := List.getElem?_eq_getElem (by omega)
    obtain ⟨h1, h2, -⟩ := h.2 k _ hq
    rw [rNm, rNm_ix h p y k (by omega), h1, h2, nIx, hq]
    simp only
    by_cases g : NL[k].1 = p ∧ NL[k].2.1 ≤ y
    · rw [if_pos g, if_pos g, if_neg (by omega)]
    · rw [if_neg g, if_neg g]
def nmL (NL : NLt) (p : Int) : List (Int × Int) := (NL.filter (fun e => decide (e.1 = p))).map (fun e => (e.2.1, (pkW e.2.2 : Int)))
theorem nmL_s (NL : NLt) (e : Int × Int × List Int) (p : Int) : nmL (NL ++ [e]) p = if e.1 = p then nmL NL p ++ [(e.2.1, (pkW e.2.2 : Int))] else nmL NL p := by
  unfold nmL
  rw [List.filter_append, List.map_append]
  by_cases g : e.1 = p
  · rw [if_pos g]; simp [g]
  · rw [if_neg g]; simp [g]
theorem nmAt_s (l : List (Int × Int)) (q : Int × Int) (d : Int) : nmAt (l ++ [q]) d = if q.1 ≤ d then q.2 else nmAt l d := by simp [nmAt, List.foldl_append]
theorem nIx_at (NL : NLt) (p y : Int) : ∀ k : Nat, k ≤ NL.length → (nIx p y NL k = -1 ∧ nmAt (nmL (NL.take k) p) y = 0) ∨ ∃ (i : Nat) (e : Int × Int × List Int), nIx p y NL k = i ∧ i < k ∧ NL[i]? = some e ∧ e.1 = p ∧ e.2.1 ≤ y ∧ nmAt (nmL (NL.take k) p) y = (pkW e.2.2 : Int)
  | 0, _ => Or.inl ⟨rfl, rfl⟩
  | k + 1, hk => by
    have hq : NL[k]? = some NL[k] := List.getElem?_eq_getElem (by omega)
    have ih := nIx_at NL p y k (by omega)
    rw [List.take_succ_eq_append_getElem (by omega), nmL_s, nIx, hq]
    simp only
    by_cases g : NL[k].1 = p ∧ NL[k].2.1 ≤ y
    · rw [if_pos g, if_pos g.1, nmAt_s, if_pos g.2]
      exact Or.inr ⟨k, NL[k], rfl, by omega, hq, g.1, g.2, rfl⟩
    · rw [if_neg g]
      have : nmAt (if NL[k].1 = p then nmL (NL.take k) p ++ [(NL[k].2.1, (pkW NL[k].2.2 : Int))] else nmL (NL.take k) p) y = nmAt (nmL (NL.take k) p) y := by
        split
        · rename_i g1
          rw [nmAt_s, if_neg (fun z => g ⟨g1, z⟩)]
        · rfl
      rw [this]
      rcases ih with ih | ⟨i, e, i1, i2, i3⟩
      · exact Or.inl ih
      · exact Or.inr ⟨i, e, i1, by omega, i3⟩
