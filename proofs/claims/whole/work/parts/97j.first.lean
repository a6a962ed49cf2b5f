
/-! first days -/
def Lst (Q : Int → Prop) (s v : Int) : Prop := (v = -1 ∧ ∀ d, s ≤ d → ¬ Q d) ∨ (s ≤ v ∧ Q v ∧ ∀ d, s ≤ d → d < v → ¬ Q d)
theorem Lst_u {Q : Int → Prop} {s v v' : Int} (h : Lst Q s v) (h' : Lst Q s v') : v = v' := by
  rcases h with ⟨a1, a2⟩ | ⟨a1, a2, a3⟩
  · rcases h' with ⟨b1, b2⟩ | ⟨b1, b2, b3⟩
    · rw [a1, b1]
    · exact absurd b2 (a2 v' b1)
  · rcases h' with ⟨b1, b2⟩ | ⟨b1, b2, b3⟩
    · exact absurd a2 (b2 v a1)
    · rcases Int.lt_or_le v v' with z | z
      · exact absurd a2 (b3 v a1 z)
      · rcases Int.lt_or_le v' v with y | y
        · exact absurd b2 (a3 v' b1 y)
        · omega
theorem pPar_step {c d : Int} : ∀ (PL : List (Int × Int × Int)) (acc : Int), (∀ e ∈ PL, e.2.1 ≠ d) → PL.foldl (pStep c d) acc = PL.foldl (pStep c (d - 1)) acc
  | [], _, _ => rfl
  | e :: PL, acc, h => by
    have he := h e (by simp)
    have e1 : pStep c d acc e = pStep c (d - 1) acc e := by
      unfold pStep
      by_cases g : d < e.2.1
      · have g' : d - 1 < e.2.1 := by omega
        rw [if_pos g, if_pos g']
      · have g' : ¬ d - 1 < e.2.1 := by omega
        rw [if_neg g, if_neg g']
    rw [List.foldl_cons, List.foldl_cons, e1]
    exact pPar_step PL _ (fun e he => h e (by simp [he]))
section FST
variable {S : RS} {PL : List (Int × Int × Int)}
/-- from a day on which it holds back to the start, or to a day of the log -/
theorem fst_desc {Q : Int → Prop} {c par s : Int} (hQ : ∀ d, s ≤ d - 1 → Q d → pPar PL c d = pPar PL c (d - 1) → Q (d - 1)) : ∀ (m : Nat) (d : Int), d = s + m → Q d → ∃ d', s ≤ d' ∧ d' ≤ d ∧ Q d' ∧ (d' = s ∨ (s < d' ∧ ∃ e ∈ PL, e.2.1 = d'))
  | 0, d, hd, h => ⟨d, by omega, Int.le_refl _, h, Or.inl (by omega)⟩
  | m + 1, d, hd, h => by
    by_cases g : ∃ e ∈ PL, e.2.1 = d
    · exact ⟨d, by omega, Int.le_refl _, h, Or.inr ⟨by omega, g⟩⟩
    · have hp : pPar PL c d = pPar PL c (d - 1) := pPar_step PL (-5) (fun e he z => g ⟨e, he, z⟩)
      obtain ⟨d', h1, h2, h3, h4⟩ := fst_desc (par := par) hQ m (d - 1) (by omega) (hQ d (by omega) h hp)
      exact ⟨d', h1, by omega, h3, h4⟩
theorem rFd_spec {c par st : Int} (hP : PLb (S 1) PL) (h0 : 0 ≤ st) : ∀ k : Nat, k ≤ PL.length → (rFd S c par st PL.length k = -1 ∧ ∀ (i : Nat) (e : Int × Int × Int), i < k → PL[i]? = some e → st < e.2.1 → ¬ (rEx S c e.2.1 ∧ pPar PL c e.2.1 = par)) ∨ (st < rFd S c par st PL.length k ∧ (rEx S c (rFd S c par st PL.length k) ∧ pPar PL c (rFd S c par st PL.length k) = par) ∧ (∃ e ∈ PL, e.2.1 = rFd S c par st PL.length k) ∧ ∀ (i : Nat) (e : Int × Int × Int), i < k → PL[i]? = some e → st < e.2.1 → e.2.1 < rFd S c par st PL.length k → ¬ (rEx S c e.2.1 ∧ pPar PL c e.2.1 = par))
  | 0, _ => Or.inl ⟨rfl, fun i e hi => by omega⟩
  | k + 1, hk => by
    have ih := rFd_spec hP h0 k (by omega) (c := c) (par := par) (st := st)
    have hq : PL[k]? = some PL[k] := List.getElem?_eq_getElem (by omega)
    obtain ⟨-, h2, -⟩ := hP.2 k _ hq
    have hm : PL[k] ∈ PL := List.getElem_mem _
    rw [rFd, h2, rPar_P hP]
    obtain ⟨w, hw⟩ : ∃ w, w = rFd S c par st PL.length k := ⟨_, rfl⟩
    rw [← hw] at ih ⊢
    by_cases g : PL[k].2.1 ≤ st ∨ (w ≠ -1 ∧ w ≤ PL[k].2.1) ∨ ¬ rEx S c PL[k].2.1 ∨ pPar PL c PL[k].2.1 ≠ par
    · rw [if_pos g]
      rcases ih with ⟨a1, a2⟩ | ⟨a1, a2, a3, a4⟩
      · refine Or.inl ⟨a1, fun i e hi he hs => ?_⟩
        by_cases ei : i = k
        · subst ei
          have : PL[i] = e := by rw [hq] at he; exact Option.some.inj he
          rw [← this] at hs ⊢
          rcases g with g | g | g | g
          · omega
          · omega
          · exact fun z => g z.1
          · exact fun z => g z.2
        · exact a2 i e (by omega) he hs
      · refine Or.inr ⟨a1, a2, a3, fun i e hi he hs hl => ?_⟩
        by_cases ei : i = k
        · subst ei
          have : PL[i] = e := by rw [hq] at he; exact Option.some.inj he
          rw [← this] at hs hl ⊢
          rcases g with g | g | g | g
          · omega
          · omega
          · exact fun z => g z.1
          · exact fun z => g z.2
        · exact a4 i e (by omega) he hs hl
    · rw [if_neg g]
      have g1 : st < PL[k].2.1 := by
        rcases Int.lt_or_le st PL[k].2.1 with z | z
        · exact z
        · exact absurd (Or.inl z) g
      have g3 : rEx S c PL[k].2.1 := Decidable.byContradiction (fun z => g (Or.inr (Or.inr (Or.inl z))))
      have g4 : pPar PL c PL[k].2.1 = par := Decidable.byContradiction (fun z => g (Or.inr (Or.inr (Or.inr z))))
      have g2 : w = -1 ∨ PL[k].2.1 < w := by
        by_cases z : w = -1
        · exact Or.inl z
        · right
          rcases Int.lt_or_le PL[k].2.1 w with y | y
          · exact y
          · exact absurd (Or.inr (Or.inl ⟨z, y⟩)) g
      refine Or.inr ⟨g1, ⟨g3, g4⟩, ⟨PL[k], hm, rfl⟩, fun i e hi he hs hl => ?_⟩
      by_cases ei : i = k
      · subst ei
        have : PL[i] = e := by rw [hq] at he; exact Option.some.inj he
        rw [← this] at hl; omega
      · rcases ih with ⟨a1, a2⟩ | ⟨a1, a2, a3, a4⟩
        · exact a2 i e (by omega) he hs
        · exact a4 i e (by omega) he hs (by omega)
theorem rFst_L {c par fr : Int} (hP : PLb (S 1) PL) (h0 : 0 ≤ fr) : Lst (fun d => rEx S c d ∧ pPar PL c d = par) (max fr (S 1 (15 + 78 * c + 1))) (rFst S c par fr PL.length) ∧ (rFst S c par fr PL.length = -1 ∨ rFst S c par fr PL.length = max fr (S 1 (15 + 78 * c + 1)) ∨ ∃ e ∈ PL, e.2.1 = rFst S c par fr PL.length) := by
  obtain ⟨s, hs⟩ : ∃ s, s = max fr (S 1 (15 + 78 * c + 1)) := ⟨_, rfl⟩
  have s0 : 0 ≤ s := by omega
  have sF : S 1 (15 + 78 * c + 1) ≤ s := by omega
  unfold rFst
  rw [← hs, rPar_P hP]
  by_cases g : rEx S c s ∧ pPar PL c s = par
  · rw [if_pos g]
    exact ⟨Or.inr ⟨Int.le_refl _, g, fun d h1 h2 => by omega⟩, Or.inr (Or.inl rfl)⟩
  · rw [if_neg g]
    have sp := rFd_spec (c := c) (par := par) hP s0 PL.length (Nat.le_refl _)
    obtain ⟨w, hw⟩ : ∃ w, w = rFd S c par s PL.length PL.length := ⟨_, rfl⟩
    rw [← hw] at sp ⊢
    have ds : ∀ d, s ≤ d → (rEx S c d ∧ pPar PL c d = par) → ∃ d', s < d' ∧ d' ≤ d ∧ (rEx S c d' ∧ pPar PL c d' = par) ∧ ∃ e ∈ PL, e.2.1 = d' := fun d hd hq => by
      obtain ⟨d', a1, a2, a3, a4⟩ := fst_desc (PL := PL) (Q := fun d => rEx S c d ∧ pPar PL c d = par) (c := c) (par := par) (s := s) (fun d h1 h2 h3 => by
        refine ⟨⟨by omega, ?_⟩, by rw [← h3]; exact h2.2⟩
        rcases h2.1.2 with z | z
        · exact Or.inl z
        · right; omega) (d - s).toNat d (by omega) hq
      rcases a4 with z | z
      · exact absurd (z ▸ a3) g
      · exact ⟨d', z.1, a2, a3, z.2⟩
    rcases sp with ⟨a1, a2⟩ | ⟨a1, a2, a3, a4⟩
    · refine ⟨Or.inl ⟨a1, fun d hd hq => ?_⟩, Or.inl a1⟩
      obtain ⟨d', b1, b2, b3, e, he, b4⟩ := ds d hd hq
      obtain ⟨i, hi, hie⟩ := List.mem_iff_getElem.mp he
      exact a2 i e hi (by rw [List.getElem?_eq_getElem hi, hie]) (by omega) (by rw [b4]; exact b3)
    · refine ⟨Or.inr ⟨by omega, a2, fun d hd hl hq => ?_⟩, Or.inr (Or.inr a3)⟩
      obtain ⟨d', b1, b2, b3, e, he, b4⟩ := ds d hd hq
      obtain ⟨i, hi, hie⟩ := List.mem_iff_getElem.mp he
      exact a4 i e hi (by rw [List.getElem?_eq_getElem hi, hie]) (by omega) (by omega) (by rw [b4]; exact b3)
end FST
/-- the class's first day -/
theorem tlFst_L {par day e : Int} (he : e ≤ 10000) : ∀ (l : List (Int × Int)) (q : Int × Int), tlSrt (q :: l) → (tlFst par day e (q :: l) = -1 ∧ ∀ d, q.1 ≤ d → day ≤ d → d < e → tlAt (q :: l) d ≠ par) ∨ (q.1 ≤ tlFst par day e (q :: l) ∧ day ≤ tlFst par day e (q :: l) ∧ tlFst par day e (q :: l) < e ∧ tlAt (q :: l) (tlFst par day e (q :: l)) = par ∧ ∀ d, q.1 ≤ d → day ≤ d → d < tlFst par day e (q :: l) → tlAt (q :: l) d ≠ par)
  | [], q, _ => by
    have at1 : ∀ d, q.1 ≤ d → tlAt [q] d = q.2 := fun d hd => by
      show (if q.1 ≤ d then q.2 else -5) = q.2
      rw [if_pos hd]
    rw [tlFst]
    by_cases g : q.2 = par ∧ max q.1 day < min (tlHd []) e
    · rw [if_pos g]
      refine Or.inr ⟨by omega, by omega, by omega, by rw [at1 _ (by omega)]; exact g.1, fun d h1 h2 h3 => by omega⟩
    · rw [if_neg g, tlFst]
      refine Or.inl ⟨rfl, fun d h1 h2 h3 h4 => g ⟨by rw [← at1 d h1]; exact h4, ?_⟩⟩
      show max q.1 day < min 10000 e
      omega
  | r :: l, q, hs => by
    have hs' := tlSrt_cons.mp hs
    have qr := hs'.1 r (by simp)
    have ih := tlFst_L he l r hs'.2 (par := par) (day := day)
    have lo : ∀ d, q.1 ≤ d → d < r.1 → tlAt (q :: r :: l) d = q.2 := fun d h1 h2 => by
      rw [tlF_at, tlF_cons, if_pos h1]
      refine tlF_none (fun z hz => ?_) _
      rcases List.mem_cons.mp hz with e1 | e1
      · rw [e1]; exact h2
      · have := (tlSrt_cons.mp hs'.2).1 z e1; omega
    have hi : ∀ d, r.1 ≤ d → tlAt (q :: r :: l) d = tlAt (r :: l) d := fun d h1 => by
      rw [tlF_at, tlF_cons, if_pos (by omega), tlF_at]
      exact tlF_hd h1
    have hd : tlHd (r :: l) = r.1 := rfl
    rw [tlFst, hd]
    by_cases g : q.2 = par ∧ max q.1 day < min r.1 e
    · rw [if_pos g]
      exact Or.inr ⟨by omega, by omega, by omega, by rw [lo _ (by omega) (by omega)]; exact g.1, fun d h1 h2 h3 => by omega⟩
    · rw [if_neg g]
      have low : ∀ d, q.1 ≤ d → day ≤ d → d < e → d < r.1 → tlAt (q :: r :: l) d ≠ par := fun d h1 h2 h3 h4 h5 => g ⟨by rw [← lo d h1 h4]; exact h5, by omega⟩
      rcases ih with ⟨a1, a2⟩ | ⟨a1, a2, a3, a4, a5⟩
      · refine Or.inl ⟨a1, fun d h1 h2 h3 => ?_⟩
        rcases Int.lt_or_le d r.1 with z | z
        · exact low d h1 h2 h3 z
        · rw [hi d z]; exact a2 d z h2 h3
      · refine Or.inr ⟨by omega, a2, a3, by rw [hi _ a1]; exact a4, fun d h1 h2 h3 => ?_⟩
        rcases Int.lt_or_le d r.1 with z | z
        · exact low d h1 h2 (by omega) z
        · rw [hi d z]; exact a5 d z h2 h3
section MRG
variable {S : RS} {n : Nat} {W : Nat → Pl} {mg sp : Int} {FN : List (Int × Int × Int)} {FO : List Nat} {NL : NLt} {PL : List (Int × Int × Int)}
theorem SimB_ex {q : Nat} {d : Int} (hs : SimB (S 1) n W mg sp FN FO NL PL) (hq : q < n) (he : plE (W q) ≠ -1) : rEx S q d ↔ (plF (W q) ≤ d ∧ (plE (W q) = -5 ∨ d < plE (W q))) := by
  obtain ⟨h0, h1, h2, -⟩ := hs.2.2.2.2.2.2.2.2.2.1 q hq
  show (S 1 (15 + 78 * (q : Int) + 1) ≤ d ∧ (S 1 (15 + 78 * (q : Int) + 2) = -1 ∨ d < S 1 (15 + 78 * (q : Int) + 2))) ↔ _
  rw [h1, h2]
  by_cases g : plE (W q) = -5
  · rw [if_pos g]; omega
  · rw [if_neg g]; omega
theorem rFst_eq {T : RS} {W' : Nat → Pl} {mg' sp' : Int} {FN' : List (Int × Int × Int)} {FO' : List Nat} {NL' : NLt} {q : Nat} {par y : Int} (hs : SimB (S 1) n W mg sp FN FO NL PL) (ht : SimB (T 1) n W' mg' sp' FN' FO' NL' PL) (hq : q < n) (he : plE (W q) ≠ -1) (e1 : plF (W' q) = plF (W q)) (e2 : plE (W' q) = plE (W q)) (hy : 0 ≤ y) : rFst T q par y PL.length = rFst S q par y PL.length := by
  have a := (rFst_L (c := q) (par := par) (fr := y) hs.2.2.1 hy).1
  have b := (rFst_L (c := q) (par := par) (fr := y) ht.2.2.1 hy).1
  have f1 := (hs.2.2.2.2.2.2.2.2.2.1 q hq).2.1
  have f2 := (ht.2.2.2.2.2.2.2.2.2.1 q hq).2.1
  rw [f1] at a
  rw [f2, e1] at b
  refine Lst_u (Q := fun d => rEx T q d ∧ pPar PL q d = par) b ?_
  have eq : ∀ d, (rEx T q d ∧ pPar PL q d = par) ↔ (rEx S q d ∧ pPar PL q d = par) := fun d => by
    rw [SimB_ex hs hq he, SimB_ex ht hq (by rw [e2]; exact he), e1, e2]
  rcases a with ⟨a1, a2⟩ | ⟨a1, a2, a3⟩
  · exact Or.inl ⟨a1, fun d hd z => a2 d hd ((eq d).mp z)⟩
  · exact Or.inr ⟨a1, (eq _).mpr a2, fun d h1 h2 z => a3 d h1 h2 ((eq d).mp z)⟩
theorem SimB_ml {p j : Nat} {y : Int} (hl : SimL n FN FO NL PL) (hs : SimB (S 1) n W mg sp FN FO NL PL) (he : ∀ q, q < n → plE (W q) ≠ -1) (hy : 0 ≤ y) : ∀ q : Nat, q ≤ n → SimB ((rMl S p j y PL.length q).1 1) n (fun c => if c < q ∧ rFst S c p y PL.length ≠ -1 then plHis (W c) (rFst S c p y PL.length, 8, j) else W c) mg sp FN FO NL PL ∧ (rMl S p j y PL.length q).2 = bCt (fun c => decide (rFst S c p y PL.length ≠ -1)) q
  | 0, _ => by
    rw [rMl]
    refine ⟨SimB_eq (fun c hc => ?_) hs, rfl⟩
    rw [if_neg (fun z => by omega)]
    exact pEq.rf
  | q + 1, hq => by
    obtain ⟨ih1, ih2⟩ := SimB_ml (p := p) (j := j) (y := y) hl hs he hy q (by omega)
    have eF := rFst_eq (q := q) (par := p) (y := y) hs ih1 (by omega) (he q (by omega)) (by rw [if_neg (fun z => by omega)]) (by rw [if_neg (fun z => by omega)]) hy
    rw [rMl, eF, bCt]
    by_cases g : rFst S q p y PL.length = -1
    · rw [if_pos g]
      refine ⟨SimB_eq (fun c hc => ?_) ih1, by rw [ih2]; simp [g]⟩
      by_cases ec : c = q
      · subst ec
        rw [if_neg (fun z => by omega), if_neg (fun z => z.2 g)]
        exact pEq.rf
      · by_cases gc : c < q ∧ rFst S c p y PL.length ≠ -1
        · rw [if_pos gc, if_pos ⟨by omega, gc.2⟩]; exact pEq.rf
        · rw [if_neg gc, if_neg (fun z => gc ⟨by omega, z.2⟩)]; exact pEq.rf
    · rw [if_neg g]
      have h := SimB_hap (p := q) (y := rFst S q p y PL.length) (so := 8) (nu := j) hl (by omega) ih1
      refine ⟨SimB_eq (fun c hc => ?_) h, by rw [ih2]; simp [g]⟩
      by_cases ec : c = q
      · subst ec
        rw [upF_s, if_neg (fun z => by omega), if_pos ⟨by omega, g⟩]
        exact pEq.rf
      · rw [upF_o ec]
        by_cases gc : c < q ∧ rFst S c p y PL.length ≠ -1
        · rw [if_pos gc, if_pos ⟨by omega, gc.2⟩]; exact pEq.rf
        · rw [if_neg gc, if_neg (fun z => gc ⟨by omega, z.2⟩)]; exact pEq.rf
end MRG
