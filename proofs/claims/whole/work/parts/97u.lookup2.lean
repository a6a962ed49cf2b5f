
/-! the tape, and what is found, on both sides -/
def TPr (S : RS) (l : List Int) : Prop := S 0 4 = l.length ∧ l.length ≤ 80 ∧ (∀ (i : Nat) (v : Int), l[i]? = some v → S 2 i = v) ∧ ∀ v ∈ l, 0 ≤ v ∧ v ≤ 127
theorem hr_i {S : RS} {l : List Int} (h : TPr S l) {i : Nat} : rHr (S 2) (S 0 4) i = l[i]?.getD (-1) := by
  unfold rHr
  rw [h.1]
  by_cases g : i < l.length
  · rw [if_pos (by omega), List.getElem?_eq_getElem g, h.2.2.1 i _ (List.getElem?_eq_getElem g)]; rfl
  · rw [if_neg (by omega), List.getElem?_eq_none (by omega)]; rfl
theorem wCnt_all {h : Int → Int} {n : Nat} (hl : ∀ i : Nat, i < n → 97 ≤ h i ∧ h i ≤ 122) (he : ¬ (97 ≤ h n ∧ h n ≤ 122)) : ∀ (m k : Nat), k ≤ n → n - k < m → wCnt h m k = n - k
  | 0, k, _, hm => by omega
  | m + 1, k, hk, hm => by
    rw [wCnt]
    by_cases e : k = n
    · subst e
      rw [if_neg he]; omega
    · rw [if_pos (hl k (by omega))]
      have := wCnt_all hl he m (k + 1) (by omega) (by omega)
      rw [show ((k + 1 : Nat) : Int) = (k : Int) + 1 by omega] at this
      rw [this]; omega
theorem oneW_i {S : RS} {l : List Int} (h : TPr S l) : oneW S = true ↔ lOk l := by
  unfold oneW lOk
  rw [decide_eq_true_eq]
  constructor
  · rintro ⟨h1, h2, h3⟩
    have h0 := h.1
    have hc : wCnt (rHr (S 2) (S 0 4)) 9 0 = l.length := by omega
    refine ⟨List.all_eq_true.mpr (fun c hc' => ?_), by omega, by omega⟩
    obtain ⟨i, hi, rfl⟩ := List.mem_iff_getElem.mp hc'
    have := wCnt_at (rHr (S 2) (S 0 4)) 9 0 i (by omega)
    rw [show (0 : Int) + i = i by omega, hr_i h, List.getElem?_eq_getElem hi] at this
    exact decide_eq_true this
  · rintro ⟨h1, h2, h3⟩
    have := wCnt_all (h := rHr (S 2) (S 0 4)) (n := l.length) (fun i hi => by
      rw [hr_i h, List.getElem?_eq_getElem hi]
      exact isLt_at h1 hi) (by
      rw [hr_i h, List.getElem?_eq_none (Nat.le_refl _)]
      show ¬ (97 ≤ (-1 : Int) ∧ (-1 : Int) ≤ 122)
      omega) 9 0 (by omega) (by omega)
    have h0 : wCnt (rHr (S 2) (S 0 4)) 9 0 = l.length := by
      have e : wCnt (rHr (S 2) (S 0 4)) 9 0 = l.length - 0 := this
      omega
    rw [h0, h.1]
    exact ⟨by omega, by omega, rfl⟩
theorem tkW_i {l : List Int} : (lOk l → tkW l = pkW l) ∧ (¬ lOk l → tkW l = 0) := by
  unfold tkW lOk
  refine ⟨fun h => if_pos ⟨h.2.2, h.1⟩, fun h => ?_⟩
  by_cases g : l.length ≤ 8 ∧ l.all isLt = true
  · rw [if_pos g]
    cases l with
    | nil => rfl
    | cons c l => exact absurd ⟨g.2, by simp, g.1⟩ h
  · rw [if_neg g]
/-- the two ways of telling distances -/
theorem row_i {a b : Nat → Int} {w v n m : Nat} (hab : ∀ i j, i < n → j < m → (a i = b j ↔ wdAt v j = wdAt w i)) (hm : m < 9) : ∀ (i : Nat), i ≤ n → ∀ j, j ≤ m → dRow a b i j = spF w v i j
  | 0, _, j, hj => by
    rw [dRow, spF]
    show (j : Int) = if j < 9 then (j : Int) else 0
    rw [if_pos (by omega)]
  | i + 1, hi, j, hj => by
    have ih := row_i hab hm i (by omega)
    rw [dRow, spF]
    have : ∀ j, j ≤ m → dNx (dRow a b i) (a i) b ((i : Int) + 1) j = spRow (spF w v i) ((i : Int) + 1) (wdAt w i : Nat) v j := by
      intro j
      induction j with
      | zero => intro _; rfl
      | succ j ihj =>
        intro hj
        rw [dNx, spRow, ihj (by omega), ih j (by omega), ih (j + 1) hj]
        have e := hab i j (by omega) (by omega)
        by_cases g : a i = b j
        · rw [if_pos g, if_pos (by rw [e.mp g])]; omega
        · rw [if_neg g, if_neg (fun z => g (e.mpr (by omega)))]; omega
    exact this j hj
section LK2
variable {S : RS} {n : Nat} {W : Nat → Pl} {mg sp : Int} {FN : List (Int × Int × Int)} {FO : List Nat} {NL : NLt} {PL : List (Int × Int × Int)}
def lkC (W : Nat → Pl) (w y : Int) (a p : Nat) : Bool := plEx (W p) y && decide (spF w.toNat (nmAt (plN (W p)) y).toNat (wdLen w.toNat 8) (wdLen (nmAt (plN (W p)) y).toNat 8) = a)
theorem lkh_i {T : RS} {l : List Int} (hs : SimB (S 1) n W mg sp FN FO NL PL) (hp : SimP n W mg NL PL) (hT1 : T 1 = S 1) (hl : lOk l) (hT3 : ∀ (i : Nat) (v : Int), l[i]? = some v → T 3 i = v) {y : Int} (hy : y < 10000) {p : Nat} (hpn : p < n) (a : Nat) : lkh S T y NL.length l.length a p = lkC W (pkW l : Nat) y a p := by
  unfold lkh lkC
  have ex := rEx_i hs hp hpn hy
  refine Bool.eq_iff_iff.mpr ?_
  rw [decide_eq_true_eq, Bool.and_eq_true, decide_eq_true_eq, ex]
  refine and_congr_right (fun x => ?_)
  obtain ⟨i, e, h1, h2, h3, h4, h5, h6⟩ := nm_i hs hp hpn (plEx_i.mp x).1
  unfold rDs
  rw [hT1, h2, h5, h3, Int.toNat_natCast, Int.toNat_natCast, Int.toNat_natCast, wdLen_pk hl.1 hl.2.2, wdLen_pk h4.1 h4.2.2]
  rw [row_i (n := l.length) (m := e.2.2.length) (w := pkW l) (v := pkW e.2.2) (fun i' j' hi hj => ?_) (by have := h4.2.2; omega) l.length (Nat.le_refl _) e.2.2.length (Nat.le_refl _)]
  show T 3 i' = S 1 (1575 + 11 * (i : Int) + 3 + (j' : Int)) ↔ _
  rw [hT3 i' _ (List.getElem?_eq_getElem hi), h6 j' _ (List.getElem?_eq_getElem hj)]
  have w1 := wdAt_pkL hl.1 hl.2.2 hi
  have w2 := wdAt_pkL h4.1 h4.2.2 hj
  omega
theorem kH_i {w y : Int} {a : Nat} {hl : List Nat} (h20 : hl.length + ((List.range n).filter (lkC W w y a)).length ≤ 20) : ∀ j : Nat, j ≤ n → kH W w y a hl j = hl ++ (List.range j).filter (lkC W w y a)
  | 0, _ => by rw [kH]; simp
  | j + 1, hj => by
    have ih := kH_i h20 j (by omega)
    rw [kH, ih, List.range_succ, List.filter_append]
    have one : (hl ++ (List.range j).filter (lkC W w y a)).length < 20 ∨ ¬ lkC W w y a j = true := by
      by_cases g : lkC W w y a j = true
      · left
        have : ((List.range (j + 1)).filter (lkC W w y a)).length ≤ ((List.range n).filter (lkC W w y a)).length := List.Sublist.length_le (List.Sublist.filter _ (List.range_sublist.mpr hj))
        rw [List.range_succ, List.filter_append, List.length_append] at this
        have : ([j].filter (lkC W w y a)).length = 1 := by simp [g]
        rw [List.length_append]; omega
      · exact Or.inr g
    by_cases g : lkC W w y a j = true
    · have g' := g
      unfold lkC at g'
      rw [Bool.and_eq_true, decide_eq_true_eq] at g'
      have lt : (hl ++ (List.range j).filter (lkC W w y a)).length < 20 := one.elim id (fun z => absurd g z)
      rw [if_pos (kHc_i.mpr ⟨g'.1, lt, g'.2⟩), List.append_assoc]
      simp [g]
    · have : ¬ kHc W w y a j (hl ++ (List.range j).filter (lkC W w y a)) = true := fun z => by
        obtain ⟨z1, z2, z3⟩ := kHc_i.mp z
        exact g (by unfold lkC; rw [Bool.and_eq_true, decide_eq_true_eq]; exact ⟨z1, z3⟩)
      rw [if_neg this]
      simp [g]
theorem lkF_i {C : CWs} {w y : Int} (hn : cn C ≤ 20) : ∀ k : Nat, lkF C w y k = lkN (lkC (cW C) w y) (cn C) k
  | 0 => rfl
  | k + 1 => by
    have hu : ∀ p a b : Nat, lkC (cW C) w y a p = true → lkC (cW C) w y b p = true → a = b := fun p a b h1 h2 => by
      unfold lkC at h1 h2
      rw [Bool.and_eq_true, decide_eq_true_eq] at h1 h2
      have := h1.2.symm.trans h2.2
      omega
    have le := lkT_le hu (k + 1) (List.range (cn C))
    rw [lkT, ← lkN_len, List.length_range] at le
    rw [lkF, lkF_i hn k, kH_i (by omega) (cn C) (Nat.le_refl _), lkN]
theorem lkN_cg {h h' : Nat → Nat → Bool} {n : Nat} (e : ∀ a p, p < n → h a p = h' a p) : ∀ k : Nat, lkN h n k = lkN h' n k
  | 0 => rfl
  | k + 1 => by
    rw [lkN, lkN, lkN_cg e k]
    have : (List.range n).filter (h k) = (List.range n).filter (h' k) := List.filter_congr (fun p hp => e k p (List.mem_range.mp hp))
    rw [this]
end LK2
