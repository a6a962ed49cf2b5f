
/-! what is read, on both sides -/
theorem pPar_b {n : Nat} {PL : List (Int × Int × Int)} (h : PLok n PL) (p y : Int) : pPar PL p y = -5 ∨ (0 ≤ pPar PL p y ∧ pPar PL p y < n) := by
  have : ∀ (L : List (Int × Int × Int)) (acc : Int), (∀ e ∈ L, e ∈ PL) → (acc = -5 ∨ (0 ≤ acc ∧ acc < n)) → (L.foldl (pStep p y) acc = -5 ∨ (0 ≤ L.foldl (pStep p y) acc ∧ L.foldl (pStep p y) acc < n)) := by
    intro L
    induction L with
    | nil => intro acc _ ha; exact ha
    | cons e L ih =>
      intro acc hL ha
      rw [List.foldl_cons]
      refine ih _ (fun x hx => hL x (by simp [hx])) ?_
      have he := (h e (hL e (by simp))).2.1
      unfold pStep
      repeat' split
      all_goals first | exact ha | exact Or.inr he
  exact this PL (-5) (fun _ z => z) (Or.inl rfl)
theorem SimK_RB {S : RS} {k : Nat} {C : CWs} {NL : NLt} {PL : List (Int × Int × Int)} (h : SimK k (S 1) C NL PL) (hk : k ≤ 690) : RB S (cn C) NL.length PL.length := by
  obtain ⟨hs, hp, h3, h4, h5, h6, h7, h8, h9, h10⟩ := h
  refine ⟨hs.1, h4, hs.2.1.1, hs.2.2.1.1, fun q q0 q1 => ?_, fun i hi => ?_, fun q hq => ?_, fun q q0 q1 => ?_, fun p y => ?_, fun p y hno hk0 => ?_, fun q q0 q1 => ?_⟩
  · obtain ⟨r, rfl⟩ : ∃ r : Nat, q = r := ⟨q.toNat, by omega⟩
    by_cases g : r < cn C
    · rw [(hs.2.2.2.2.2.2.2.2.2.1 r g).2.2.2.2.2.1]
      have := h10 r g
      omega
    · exact (hs.2.2.2.2.2.2.2.2.2.2 r (by omega) (by omega)).1
  · have hq := List.getElem?_eq_getElem hi
    obtain ⟨-, h2, -⟩ := hs.2.2.1.2 i _ hq
    have := (hp.2.1 _ (List.getElem_mem hi)).1
    rw [h2]; omega
  · by_cases g : q < cn C
    · rw [(hs.2.2.2.2.2.2.2.2.2.1 q g).2.1]
      have a1 := (hp.1 q g).1
      have := a1.2.1; have := a1.2.2.1; have := a1.2.2.2.1
      omega
    · exact (hs.2.2.2.2.2.2.2.2.2.2 q (by omega) hq).2
  · obtain ⟨r, rfl⟩ : ∃ r : Nat, q = r := ⟨q.toNat, by omega⟩
    rw [K_i hs (show r < cn C by omega)]
    have := (hp.1 r (by omega)).1.1
    omega
  · rw [rPar_P hs.2.2.1]
    have := pPar_b hp.2.1 p y
    omega
  · rw [rNoE_i hs hp] at hno
    obtain ⟨q, rfl, hq, hE, hy⟩ := cNoE_0i hno
    have hx := ex_of hp hq hE hy
    rw [K_i hs hq] at hk0
    obtain ⟨j, j1, j2, -⟩ := (hp.1 q hq).2.2.1.2.2.2.2.1 hk0 y hx
    rw [rPar_P hs.2.2.1, j1]
    omega
  · obtain ⟨r, rfl⟩ : ∃ r : Nat, q = r := ⟨q.toNat, by omega⟩
    rw [(hs.2.2.2.2.2.2.2.2.2.1 r (by omega)).2.2.2.2.1]
    have a1 := (hp.1 r (by omega)).1
    have := a1.2.1; have := a1.2.2.1
    omega
section RDR
variable {S : RS} {n : Nat} {W : Nat → Pl} {mg sp : Int} {FN : List (Int × Int × Int)} {FO : List Nat} {NL : NLt} {PL : List (Int × Int × Int)}
theorem heir_i (hs : SimB (S 1) n W mg sp FN FO NL PL) (hp : SimP n W mg NL PL) (hn : n ≤ 20) {y : Int} (hy : y < 10000) : ∃ τ, tauOk n W mg τ ∧ ∀ (k q : Nat), q < n → (plI (W q) = -5 → 1 ≤ k) → (plI (W q) ≠ -5 → mg - τ q + 1 ≤ k) → rHt S y k q ∧ rHei S y k q = cHe W n y k q := by
  obtain ⟨τ, ht⟩ := hp.2.2.2.1
  refine ⟨τ, ht, fun k => ?_⟩
  induction k with
  | zero =>
    intro q hq h1 h2
    by_cases g : plI (W q) = -5
    · have := h1 g; omega
    · have := h2 g; have := (ht q hq g).2.2; omega
  | succ k ih =>
    intro q hq h1 h2
    have a1 := (hp.1 q hq).1
    have ex := rEx_i hs hp hq hy
    have r3 := (hs.2.2.2.2.2.2.2.2.2.1 q hq)
    have f1 := r3.2.1
    have f3 := r3.2.2.2.1
    have live : (rEx S q y ∨ y < S 1 (15 + 78 * (q : Int) + 1)) ↔ y < plEnd (W q) := by
      rw [ex, plEx_i, f1]
      have : plF (W q) ≤ plEnd (W q) := by
        unfold plEnd
        have := a1.2.2.1; have := a1.2.2.2.1; have := a1.2.2.2.2
        split <;> omega
      omega
    have step : rHei S y (k + 1) q = if y < plEnd (W q) then (q : Int) else if plI (W q) = -5 then -5 else rHei S y k (plI (W q)) := by
      rw [rHei, f3]
      refine iteC live (fun g => ?_)
      by_cases g2 : plI (W q) = -5
      · rw [if_pos g2, if_pos g2, if_pos rfl]
      · obtain ⟨-, ⟨j, j1, -⟩, -⟩ := ht q hq g2
        rw [if_neg g2, if_neg g2, if_neg (show ¬ plI (W q) = -1 by omega)]
    have stepC : cHe W n y (k + 1) q = if y < plEnd (W q) then (q : Int) else cHe W n y k (plI (W q)) := by
      rw [cHe, if_neg (fun z => z ⟨by omega, by omega⟩), q_toN]
    have stepT : rHt S y (k + 1) q ↔ (y < plEnd (W q) ∨ plI (W q) = -5 ∨ rHt S y k (plI (W q))) := by
      rw [rHt, f3]
      by_cases g2 : plI (W q) = -5
      · rw [if_pos g2]
        exact ⟨fun z => Or.inr (Or.inl g2), fun z => ⟨by omega, by omega, Or.inr (Or.inr (Or.inl rfl))⟩⟩
      · obtain ⟨-, ⟨j, j1, -⟩, -⟩ := ht q hq g2
        rw [if_neg g2]
        constructor
        · rintro ⟨-, -, z | z | z | z⟩
          · exact Or.inl (live.mp (Or.inl z))
          · exact Or.inl (live.mp (Or.inr z))
          · omega
          · exact Or.inr (Or.inr z)
        · rintro (z | z | z)
          · exact ⟨by omega, by omega, by rcases live.mpr z with w | w; exact Or.inl w; exact Or.inr (Or.inl w)⟩
          · exact absurd z g2
          · exact ⟨by omega, by omega, Or.inr (Or.inr (Or.inr z))⟩
    by_cases g2 : plI (W q) = -5
    · refine ⟨stepT.mpr (Or.inr (Or.inl g2)), ?_⟩
      rw [step, stepC, if_pos g2, g2]
      refine iteC Iff.rfl (fun _ => ?_)
      cases k with
      | zero => rfl
      | succ k => rw [cHe, if_pos (by omega)]
    · obtain ⟨-, ⟨j, j1, j2, j3⟩, t0, t1⟩ := ht q hq g2
      have hk := h2 g2
      obtain ⟨i1, i2⟩ := ih j j2 (fun _ => by omega) (fun z => by have := j3 z; omega)
      rw [← j1] at i1 i2
      refine ⟨stepT.mpr (Or.inr (Or.inr i1)), ?_⟩
      rw [step, stepC, if_neg g2, i2]
theorem heir_21 (hs : SimB (S 1) n W mg sp FN FO NL PL) (hp : SimP n W mg NL PL) (hn : n ≤ 20) {y : Int} (hy : y < 10000) {q : Nat} (hq : q < n) : rHt S y 21 q ∧ rHei S y 21 q = cHe W n y 21 q := by
  obtain ⟨τ, ht, h⟩ := heir_i hs hp hn hy
  have hm : mg ≤ n := by
    have := bCt_le (fun p => decide (plI (W p) ≠ -5)) n
    rw [hp.2.2.2.2]; omega
  refine h 21 q hq (fun _ => by omega) (fun z => ?_)
  have := (ht q hq z).2.2
  omega
/-- the row of parents -/
def onR (n : Nat) (W : Nat → Pl) (y : Int) (v : Int) : Prop := v = -5 ∨ ∃ j : Nat, v = j ∧ j < n ∧ plEx (W j) y = true
theorem par_on (hp : SimP n W mg NL PL) {q : Nat} {y : Int} (hq : q < n) (hx : plEx (W q) y = true) : onR n W y (tlAt (plT (W q)) y) ∧ (∀ j : Nat, tlAt (plT (W q)) y = j → plK (W j) < plK (W q)) := by
  obtain ⟨a1, a2, a3, a4, a5⟩ := hp.1 q hq
  have e := a3.2.2.1 y hx
  by_cases g : plK (W q) = 0
  · have := a3.2.2.2.1 g y hx
    rw [e, this]
    exact ⟨Or.inl rfl, fun j z => by omega⟩
  · have k0 := a1.1.1
    obtain ⟨j, j1, j2, j3, j4⟩ := a3.2.2.2.2.1 (by omega) y hx
    rw [e, j1]
    exact ⟨Or.inr ⟨j, rfl, j2, j4⟩, fun i z => by have : i = j := by omega
                                                  rw [this]; exact j3⟩
theorem dep_i (hs : SimB (S 1) n W mg sp FN FO NL PL) (hp : SimP n W mg NL PL) {y : Int} : ∀ (k : Nat) (v : Int), onR n W y v → rDp S y PL.length k v = cPa W n y k v
  | 0, v, _ => rfl
  | k + 1, v, h => by
    rw [rDp, cPa]
    rcases h with rfl | ⟨j, rfl, j2, j3⟩
    · rw [if_pos (by omega), if_neg (by omega)]
    · rw [if_neg (by omega), if_pos ⟨by omega, by omega⟩, q_toN, rPar_i hs hp j2 j3]
      rw [dep_i hs hp k _ (par_on hp j2 j3).1]
theorem dt_i (hs : SimB (S 1) n W mg sp FN FO NL PL) (hp : SimP n W mg NL PL) {y : Int} : ∀ (k : Nat) (v : Int), onR n W y v → (∀ j : Nat, v = j → plK (W j) < k) → rDt S y PL.length k v
  | 0, v, h, hk => by
    rcases h with rfl | ⟨j, rfl, j2, j3⟩
    · show (-5 : Int) < 0
      decide
    · have := (hp.1 j j2).1.1.1
      have := hk j rfl
      omega
  | k + 1, v, h, hk => by
    rcases h with rfl | ⟨j, rfl, j2, j3⟩
    · exact Or.inl (by decide)
    · refine Or.inr ?_
      rw [rPar_i hs hp j2 j3]
      obtain ⟨o1, o2⟩ := par_on hp j2 j3
      exact dt_i hs hp k _ o1 (fun i hi => by have := o2 i hi; have := hk j rfl; omega)
theorem dt4 (hs : SimB (S 1) n W mg sp FN FO NL PL) (hp : SimP n W mg NL PL) {y : Int} {q : Nat} (hq : q < n) (hx : plEx (W q) y = true) : rDt S y PL.length 4 (rPar (S 1) q y PL.length) := by
  rw [rPar_i hs hp hq hx]
  obtain ⟨o1, o2⟩ := par_on hp hq hx
  exact dt_i hs hp 4 _ o1 (fun i hi => by have := o2 i hi; have := (hp.1 q hq).1.1.2; omega)
theorem chi_i (hs : SimB (S 1) n W mg sp FN FO NL PL) (hp : SimP n W mg NL PL) {y v : Int} (hy : y < 10000) : ∀ k : Nat, k ≤ n → rChi S v y PL.length k = (bCt (cLf W n 1 v y) k : Nat)
  | 0, _ => rfl
  | k + 1, h => by
    rw [rChi, chi_i hs hp hy k (by omega), bCt]
    have ex := rEx_i hs hp (p := k) (d := y) (by omega) hy
    have e : (rEx S k y ∧ rPar (S 1) k y PL.length = v) ↔ cLf W n 1 v y k = true := by
      unfold cLf cFi
      rw [Bool.and_eq_true, if_neg (show ¬ ((1 : Int) = 0) by decide), if_pos rfl, decide_eq_true_eq, ex]
      constructor
      · rintro ⟨z1, z2⟩
        exact ⟨z1, by rw [← rPar_i hs hp (by omega) z1]; exact z2⟩
      · rintro ⟨z1, z2⟩
        exact ⟨z1, by rw [rPar_i hs hp (by omega) z1]; exact z2⟩
    by_cases g : cLf W n 1 v y k = true
    · rw [if_pos g, bI_pos (e.mpr g)]; omega
    · rw [if_neg g, bI_neg (fun z => g (e.mp z))]; omega
theorem letter_i (hs : SimB (S 1) n W mg sp FN FO NL PL) (hp : SimP n W mg NL PL) {q : Nat} {y w : Int} (hq : q < n) (hy : plF (W q) ≤ y) (hw : 10 ≤ w) : (if w - 10 < S 1 (rNm (S 1) q y NL.length + 2) then S 1 (rNm (S 1) q y NL.length + 3 + w - 10) else -5) = (if wdAt (nmAt (plN (W q)) y).toNat (w - 10).toNat = 0 then (-5 : Int) else 96 + (wdAt (nmAt (plN (W q)) y).toNat (w - 10).toNat : Nat)) := by
  obtain ⟨i, e, h1, h2, h3, h4, h5, h6⟩ := nm_i hs hp hq hy
  rw [h2, h5, h3, Int.toNat_natCast, wdAt_pk h4.1 h4.2.2]
  by_cases g : (w - 10).toNat < e.2.2.length
  · have := isLt_at h4.1 g
    have e6 := h6 (w - 10).toNat _ (List.getElem?_eq_getElem g)
    rw [dif_pos g, if_pos (by omega), if_neg (by omega)]
    rw [show 1575 + 11 * (i : Int) + 3 + w - 10 = 1575 + 11 * (i : Int) + 3 + ((w - 10).toNat : Int) by omega, e6]
    omega
  · rw [dif_neg g, if_neg (by omega), if_pos rfl]
theorem on_i (hs : SimB (S 1) n W mg sp FN FO NL PL) (hp : SimP n W mg NL PL) (hn : n ≤ 20) {p y w : Int} : rOn S p y w PL.length NL.length n 21 4 = cOn W n p y w := by
  unfold rOn cOn
  rw [hs.1]
  refine iteC (by omega) (fun g => iteC (by omega) (fun g2 => ?_))
  obtain ⟨q, rfl⟩ : ∃ q : Nat, p = q := ⟨p.toNat, by omega⟩
  have hq : q < n := by omega
  have hy : y < 10000 := by omega
  have ex := rEx_i hs hp hq hy
  rw [q_toN]
  by_cases w0 : w = 0
  · rw [if_pos w0, if_pos w0]; exact bI_c ex
  · rw [if_neg w0, if_neg w0]
    by_cases w1 : w = 1
    · rw [if_pos w1, if_pos w1]; exact K_i hs hq
    · rw [if_neg w1, if_neg w1]
      by_cases w6 : w = 6
      · rw [if_pos w6, if_pos w6]; exact (heir_21 hs hp hn hy hq).2
      · rw [if_neg w6, if_neg w6]
        by_cases gx : plEx (W q) y = true
        · have hF := (plEx_i.mp gx).1
          rw [if_pos gx, if_neg (fun z => z (ex.mpr gx))]
          unfold cPt
          by_cases w2 : w = 2
          · rw [if_pos w2, if_pos w2]; exact rPar_i hs hp hq gx
          · rw [if_neg w2, if_neg w2]
            by_cases w3 : w = 3
            · rw [if_pos w3, if_pos w3]; exact nmLen_i hs hp hq hF
            · rw [if_neg w3, if_neg w3]
              by_cases w4 : w = 4
              · rw [if_pos w4, if_pos w4, rPar_i hs hp hq gx]
                exact dep_i hs hp 4 _ (par_on hp hq gx).1
              · rw [if_neg w4, if_neg w4]
                by_cases w5 : w = 5
                · rw [if_pos w5, if_pos w5]; exact chi_i hs hp hy n (Nat.le_refl _)
                · rw [if_neg w5, if_neg w5]
                  exact letter_i hs hp hq hF (by omega)
        · rw [if_neg gx, if_pos (fun z => gx (ex.mp z))]
theorem rTo_Nt {b : Int → Int} {NL : NLt} (h : NLb b NL) (p : Int) : ∀ k : Nat, k ≤ NL.length → rTo b 1575 11 p k = (nmL (NL.take k) p).length
  | 0, _ => rfl
  | k + 1, hk => by
    have hq : NL[k]? = some NL[k] := List.getElem?_eq_getElem (by omega)
    obtain ⟨h1, -⟩ := h.2 k _ hq
    rw [List.take_succ_eq_append_getElem (by omega), nmL_s, rTo, rTo_Nt h p k (by omega), h1]
    by_cases g : NL[k].1 = p
    · rw [bI_pos g, if_pos g, List.length_append]; rfl
    · rw [bI_neg g, if_neg g]; omega
theorem of_i (hs : SimB (S 1) n W mg sp FN FO NL PL) (hp : SimP n W mg NL PL) {p w : Int} : rOf S p w PL.length NL.length = cOf W n p w := by
  unfold rOf cOf
  rw [hs.1]
  by_cases g : 0 ≤ p ∧ p < n
  · obtain ⟨q, rfl⟩ : ∃ q : Nat, p = q := ⟨p.toNat, by omega⟩
    have hq : q < n := by omega
    obtain ⟨h0, h1, h2, h3, h4, h5, -⟩ := hs.2.2.2.2.2.2.2.2.2.1 q hq
    obtain ⟨a1, a2, a3, a4, a5⟩ := hp.1 q hq
    have e1 := plE_n1 a1
    have c0 : ¬ ¬ (0 ≤ (q : Int) ∧ (q : Int) < n) := fun z => z g
    rw [if_neg c0, q_toN]
    by_cases gw : 0 ≤ w ∧ w ≤ 5
    · rw [if_neg (show ¬ (¬ (0 ≤ (q : Int) ∧ (q : Int) ≤ (n : Int) - 1) ∨ ¬ (0 ≤ w ∧ w ≤ 5)) by omega)]
      by_cases w0 : w = 0
      · rw [if_pos w0, if_pos w0]; exact h1
      · rw [if_neg w0, if_neg w0]
        by_cases w1 : w = 1
        · rw [if_pos w1, if_pos w1, h2]
          by_cases z : plE (W q) = -5
          · rw [if_pos z, if_neg (fun q => q rfl), z]
          · rw [if_neg z, if_pos e1]
        · rw [if_neg w1, if_neg w1]
          by_cases w2 : w = 2
          · rw [if_pos w2, if_pos w2, rTo_Nt hs.2.1 q _ (Nat.le_refl _), List.take_length, ← a2.1]
          · rw [if_neg w2, if_neg w2]
            by_cases w3 : w = 3
            · rw [if_pos w3, if_pos w3, rTo_P hs.2.2.1, a3.2.2.2.2.2]
            · rw [if_neg w3, if_neg w3]
              by_cases w4 : w = 4
              · rw [if_pos w4, if_pos w4]; exact h4
              · rw [if_neg w4, if_neg w4, if_pos (show w = 5 by omega)]; exact h5
    · have m0 : ¬ w = 0 := by omega
      have m1 : ¬ w = 1 := by omega
      have m2 : ¬ w = 2 := by omega
      have m3 : ¬ w = 3 := by omega
      have m4 : ¬ w = 4 := by omega
      have m5 : ¬ w = 5 := by omega
      have c1 : ¬ (0 ≤ (q : Int) ∧ (q : Int) ≤ (n : Int) - 1) ∨ ¬ (0 ≤ w ∧ w ≤ 5) := Or.inr gw
      rw [if_pos c1, if_neg m0, if_neg m1, if_neg m2, if_neg m3, if_neg m4, if_neg m5]
  · have c1 : ¬ (0 ≤ p ∧ p ≤ (n : Int) - 1) ∨ ¬ (0 ≤ w ∧ w ≤ 5) := Or.inl (by omega)
    rw [if_pos c1, if_pos g]
theorem ev_i (hs : SimB (S 1) n W mg sp FN FO NL PL) {p i w : Int} : rEv S p i w = cEv W n p i w := by
  unfold rEv cEv
  rw [hs.1]
  by_cases g : 0 ≤ p ∧ p < n
  · obtain ⟨q, rfl⟩ : ∃ q : Nat, p = q := ⟨p.toNat, by omega⟩
    have hq : q < n := by omega
    obtain ⟨h0, h1, h2, h3, h4, h5, h6⟩ := hs.2.2.2.2.2.2.2.2.2.1 q hq
    rw [h5, q_toN]
    by_cases gi : 0 ≤ i ∧ i < (min (plH (W q)).length 24 : Nat)
    · have c1 : ¬ (¬ (0 ≤ (q : Int) ∧ (q : Int) < n) ∨ i < 0 ∨ ((min (plH (W q)).length 24 : Nat) : Int) ≤ i) := by omega
      rw [if_neg c1]
      have hi : i.toNat < (plH (W q)).length := by omega
      obtain ⟨b1, b2, b3⟩ := h6 i.toNat _ (by omega) (List.getElem?_eq_getElem hi)
      rw [show ((i.toNat : Nat) : Int) = i by omega] at b1 b2 b3
      have at_ : ∀ f : Int × Int × Int → Int, hiAt (plH (W q)) i f = f (plH (W q))[i.toNat] := fun f => by
        unfold hiAt
        rw [if_pos (by omega), List.getElem?_eq_getElem hi]; rfl
      by_cases gw : 0 ≤ w ∧ w ≤ 2
      · have c2 : ¬ (¬ (0 ≤ (q : Int) ∧ (q : Int) ≤ (n : Int) - 1) ∨ ¬ (0 ≤ i ∧ i ≤ 23) ∨ ((plH (W q)).length : Int) ≤ i ∨ ¬ (0 ≤ w ∧ w ≤ 2)) := by omega
        rw [if_neg c2]
        have hh : w = 0 ∨ w = 1 ∨ w = 2 := by omega
        rcases hh with rfl | rfl | rfl
        · rw [if_pos rfl, at_, show 6 + 3 * i + 0 = 6 + 3 * i by omega]; exact b1
        · rw [if_neg (by decide), if_pos rfl, at_]; exact b2
        · rw [if_neg (by decide), if_neg (by decide), if_pos rfl, at_]; exact b3
      · have c2 : ¬ (0 ≤ (q : Int) ∧ (q : Int) ≤ (n : Int) - 1) ∨ ¬ (0 ≤ i ∧ i ≤ 23) ∨ ((plH (W q)).length : Int) ≤ i ∨ ¬ (0 ≤ w ∧ w ≤ 2) := Or.inr (Or.inr (Or.inr gw))
        have n0 : ¬ w = 0 := by omega
        have n1 : ¬ w = 1 := by omega
        have n2 : ¬ w = 2 := by omega
        rw [if_pos c2, if_neg n0, if_neg n1, if_neg n2]
    · have c1 : ¬ (0 ≤ (q : Int) ∧ (q : Int) < n) ∨ i < 0 ∨ ((min (plH (W q)).length 24 : Nat) : Int) ≤ i := by omega
      have c2 : ¬ (0 ≤ (q : Int) ∧ (q : Int) ≤ (n : Int) - 1) ∨ ¬ (0 ≤ i ∧ i ≤ 23) ∨ ((plH (W q)).length : Int) ≤ i ∨ ¬ (0 ≤ w ∧ w ≤ 2) := by omega
      rw [if_pos c1, if_pos c2]
  · have c1 : ¬ (0 ≤ p ∧ p < n) ∨ i < 0 ∨ ((min (plH (W p.toNat)).length 24 : Nat) : Int) ≤ i := Or.inl g
    have c2 : ¬ (0 ≤ p ∧ p ≤ (n : Int) - 1) ∨ ¬ (0 ≤ i ∧ i ≤ 23) ∨ S 1 (15 + 78 * p + 5) ≤ i ∨ ¬ (0 ≤ w ∧ w ≤ 2) := Or.inl (by omega)
    rw [if_pos c1, if_pos c2]
theorem ag_i (hs : SimB (S 1) n W mg sp FN FO NL PL) (hp : SimP n W mg NL PL) {p y : Int} {l0 : List (Int × Int)} : rAg S p y PL.length = (if ¬ (0 ≤ p ∧ p < n) then -1 else if ¬ (0 ≤ y ∧ y < 10000) then -2 else if 24 < (plH (W p.toNat)).length then -3 else if (evFold y l0 (plH (W p.toNat))).2 = true then tlAt (evFold y l0 (plH (W p.toNat))).1 y else -5) := by
  unfold rAg
  rw [hs.1]
  refine iteC (by omega) (fun g => iteC (by omega) (fun g2 => ?_))
  obtain ⟨q, rfl⟩ : ∃ q : Nat, p = q := ⟨p.toNat, by omega⟩
  have hq : q < n := by omega
  have hy : y < 10000 := by omega
  have ex := rEx_i hs hp hq hy
  rw [q_toN, (hs.2.2.2.2.2.2.2.2.2.1 q hq).2.2.2.2.2.1]
  refine iteC (by omega) (fun g3 => ?_)
  obtain ⟨x1, x2, x3, x4⟩ := (hp.1 q hq).2.2.2.2 y l0 (by omega) (by omega)
  rw [x4]
  by_cases gx : plEx (W q) y = true
  · rw [if_pos gx, if_pos (ex.mpr gx), rPar_i hs hp hq gx, x3 y (plEx_i.mp gx).1 hy]
  · rw [if_neg gx, if_neg (fun z => gx (ex.mp z))]
end RDR
