
/-! merging: the block -/
section SBG
variable {S : RS} {n : Nat} {W : Nat → Pl} {mg sp : Int} {FN : List (Int × Int × Int)} {FO : List Nat} {NL : NLt} {PL : List (Int × Int × Int)}
/-- the first day, the same on both sides -/
theorem fst_ref {W2 : Nat → Pl} {c p : Nat} {y : Int} (hs : SimB (S 1) n W2 mg sp FN FO NL PL) (hPo : PLok n PL) (hc : c < n) (e1 : plF (W2 c) = plF (W c)) (e2 : plE (W2 c) = plE (W c)) (a1 : pI1 (W c)) (a3 : pI3 PL n W c (W c)) (hy : 0 ≤ y ∧ y ≤ 9999) (hF : plF (W c) ≤ 9999) : rFst S c p y PL.length = (if 0 ≤ tlFst p y (plEnd (W c)) (plT (W c)) then tlFst p y (plEnd (W c)) (plT (W c)) else -1) := by
  have hE : plE (W2 c) ≠ -1 := by
    rw [e2]
    obtain ⟨b1, b2, b3, b4, b5⟩ := a1
    omega
  obtain ⟨L, M⟩ := rFst_L (S := S) (c := c) (par := p) (fr := y) hs.2.2.1 hy.1
  have f1 := (hs.2.2.2.2.2.2.2.2.2.1 c hc).2.1
  rw [f1, e1] at L M
  have ex : ∀ d, d < 10000 → (rEx S c d ↔ plEx (W c) d = true) := fun d hd => by
    rw [SimB_ex hs hc hE, e1, e2, plEx_i]
    unfold plEnd
    by_cases g : plE (W c) = -5
    · rw [if_pos g]; omega
    · rw [if_neg g]; omega
  have hi : rFst S c p y PL.length = -1 ∨ rFst S c p y PL.length < 10000 := by
    rcases M with z | z | ⟨e, he, z⟩
    · exact Or.inl z
    · right; omega
    · have := (hPo e he).1.2; right; omega
  by_cases g : 0 ≤ tlFst p y (plEnd (W c)) (plT (W c))
  · rw [if_pos g]
    obtain ⟨v1, v2, v3, v4, v5, v6⟩ := fst_y a1 a3 g
    have vE := hd_mem a1 v3
    refine Lst_u L (Or.inr ⟨by omega, ⟨(ex _ vE.2).mpr v3, v5⟩, fun d h1 h2 hq => ?_⟩)
    have hx := (ex d (by omega)).mp hq.1
    exact v6 d (by omega) (by omega) h2 (by rw [a3.2.2.1 d hx]; exact hq.2)
  · rw [if_neg g]
    obtain ⟨-, f2⟩ := fst_n a1 a3 g
    rcases L with ⟨z, -⟩ | ⟨z1, z2, -⟩
    · exact z
    · rcases hi with z | z
      · exact z
      · exact absurd z2.2 (f2 _ (by omega) ((ex _ z).mp z2.1)).2
theorem SimB_mrg {p j : Nat} {y : Int} (hl : SimL n FN FO NL PL) (hP7 : PL.length < 700) (h : SimP n W mg NL PL) (hp : p < n) (hj : j < n) (hpj : p ≠ j) (hE : plE (W p) = -5) (hy : plL (W p) ≤ y ∧ y ≤ 9999) (hk : plK (W p) = plK (W j)) (hs : SimB (S 1) n W mg sp FN FO NL PL) : SimB (rMrg S p j y PL.length n 1) n (mrgW W p j y) (mg + 1) sp FN FO NL (PL ++ [(-1 - (p : Int), y, (j : Int))]) ∧ (rMl (rM0 S p j y) p j y PL.length n).2 = bCt (cPf (cM2 W p j y) p y) n := by
  have ap := (h.1 p hp).1
  have y0 : 0 ≤ y := by have := ap.2.1; have := ap.2.2.1; omega
  have k0 := ap.1.1
  have hjp : j ≠ p := fun e => hpj e.symm
  have s1 := SimB_lat (p := p) (y := y) hl hp hs
  have s2 := SimB_hap (p := p) (y := y) (so := 3) (nu := j) hl hp s1
  rw [upF_up, upF_s] at s2
  have s3 := SimB_hap (p := j) (y := y) (so := 6) (nu := p) hl hj s2
  rw [upF_o hjp] at s3
  obtain ⟨W2, hW2⟩ : ∃ W2, W2 = upF (upF W p (plHis (plSl (W p) y) (y, 3, (j : Int)))) j (plHis (W j) (y, 6, (p : Int))) := ⟨_, rfl⟩
  rw [← hW2] at s3
  obtain ⟨T, hT⟩ : ∃ T, T = rM0 S p j y := ⟨_, rfl⟩
  have s3' : SimB (T 1) n W2 mg sp FN FO NL PL := by rw [hT]; exact s3
  have w2p : W2 p = plHis (plSl (W p) y) (y, 3, (j : Int)) := by rw [hW2, upF_o hpj, upF_s]
  have w2j : W2 j = plHis (W j) (y, 6, (p : Int)) := by rw [hW2, upF_s]
  have w2o : ∀ c, c ≠ p → c ≠ j → W2 c = W c := fun c h1 h2 => by rw [hW2, upF_o h2, upF_o h1]
  have w2F : ∀ c, plF (W2 c) = plF (W c) ∧ plE (W2 c) = plE (W c) := fun c => by
    by_cases e : c = p
    · rw [e, w2p]; exact ⟨rfl, rfl⟩
    · by_cases e2 : c = j
      · rw [e2, w2j]; exact ⟨rfl, rfl⟩
      · rw [w2o c e e2]; exact ⟨rfl, rfl⟩
  have fr : ∀ c, c < n → rFst T c p y PL.length = (if 0 ≤ tlFst p y (plEnd (W c)) (plT (W c)) then tlFst p y (plEnd (W c)) (plT (W c)) else -1) := fun c hc => by
    obtain ⟨a1, a2, a3, a4, a5⟩ := h.1 c hc
    exact fst_ref (W := W) s3' h.2.1 hc (w2F c).1 (w2F c).2 a1 a3 ⟨y0, hy.2⟩ (by have := a1.2.2.1; have := a1.2.2.2.1; omega)
  have fpj : ∀ c, c = p ∨ c = j → c < n → ¬ 0 ≤ tlFst p y (plEnd (W c)) (plT (W c)) := fun c hcc hc => by
    obtain ⟨a1, a2, a3, a4, a5⟩ := h.1 c hc
    refine fst_kn a1 a3 ?_ k0
    rcases hcc with e | e
    · rw [e]; exact Int.le_refl _
    · rw [e, hk]; exact Int.le_refl _
  obtain ⟨m1, m2⟩ := SimB_ml (p := p) (j := j) (y := y) hl s3' (fun q hq => by
    rw [(w2F q).2]
    have := (h.1 q hq).1
    obtain ⟨b1, b2, b3, b4, b5⟩ := this
    omega) y0 n (Nat.le_refl _)
  have s4 := SimB_end (p := p) (y := y) hl hp (by omega) m1
  have s5 := SimB_int (p := p) (y := j) hl hp (by omega) s4
  have s6 := SimB_tell (p := -1 - (p : Int)) (y := y) (par := j) hl hP7 s5
  have s7 := SimB_mg (SimL_P hl hP7) s6
  refine ⟨?_, ?_⟩
  · unfold rMrg
    rw [← hT]
    refine SimB_eq (fun c hc => ?_) s7
    unfold mrgW
    by_cases e : c = p
    · subst e
      rw [if_pos rfl, upF_s, upF_s]
      have g := fr c hc
      rw [if_neg (fpj c (Or.inl rfl) hc)] at g
      rw [if_neg (fun z => z.2 g), w2p]
      exact ⟨rfl, rfl, rfl, rfl, rfl, rfl⟩
    · rw [if_neg e, upF_o e, upF_o e]
      by_cases e2 : c = j
      · subst e2
        have g := fr c hc
        rw [if_neg (fpj c (Or.inr rfl) hc)] at g
        rw [if_pos rfl, if_neg (fun z => z.2 g), w2j]
        exact pEq.rf
      · rw [if_neg e2]
        have g := fr c hc
        by_cases z : 0 ≤ tlFst p y (plEnd (W c)) (plT (W c))
        · rw [if_pos z] at g
          rw [if_pos z, g, if_pos ⟨hc, by omega⟩, w2o c e e2]
          exact ⟨rfl, rfl, rfl, rfl, rfl, rfl⟩
        · rw [if_neg z] at g
          rw [if_neg z, if_neg (fun q => q.2 g), w2o c e e2]
          exact pEq.rf
  · rw [← hT, m2]
    refine bCt_cg n (fun c hc => ?_)
    rw [(mrgW_e h hp hj hpj hE hy hk hc).2]
    have g := fr c hc
    by_cases z : 0 ≤ tlFst p y (plEnd (W c)) (plT (W c))
    · rw [if_pos z] at g
      rw [decide_eq_true (show rFst T c p y PL.length ≠ -1 by omega), decide_eq_true ⟨fun e => fpj c (Or.inl e) hc z, fun e => fpj c (Or.inr e) hc z, z⟩]
    · rw [if_neg z] at g
      rw [decide_eq_false (fun q => q g), decide_eq_false (fun q => z q.2.2)]
end SBG
