
/-! the same refusals, the same answers -/
def SimF (FN : List (Int × Int × Int)) (FO : List Nat) : Prop := fOk FN ∧ (∀ v ∈ FO, v < FN.length) ∧ ∀ q ∈ FN, (0 ≤ q.1 ∧ q.1 ≤ 7) ∧ (q.1 ≤ 4 → 0 ≤ q.2.1 ∧ q.2.1 ≤ 9999)
section REF
variable {S : RS} {n : Nat} {W : Nat → Pl} {mg sp : Int} {FN : List (Int × Int × Int)} {FO : List Nat} {NL : NLt} {PL : List (Int × Int × Int)}
theorem iteC {A B : Prop} {h1 : Decidable A} {h2 : Decidable B} {x u v : Int} (h : A ↔ B) (k : ¬ A → u = v) : (@ite Int A h1 x u) = (@ite Int B h2 x v) := by
  by_cases g : A
  · rw [if_pos g, if_pos (h.mp g)]
  · rw [if_neg g, if_neg (fun z => g (h.mpr z)), k g]
theorem plE_n1 {P : Pl} (a1 : pI1 P) : plE P ≠ -1 := by
  obtain ⟨b1, b2, b3, b4, b5⟩ := a1
  omega
theorem rEx_i (hs : SimB (S 1) n W mg sp FN FO NL PL) (hp : SimP n W mg NL PL) {p : Nat} {d : Int} (hpn : p < n) (hd : d < 10000) : rEx S p d ↔ plEx (W p) d = true := by
  have a1 := (hp.1 p hpn).1
  rw [SimB_ex hs hpn (plE_n1 a1), plEx_i]
  unfold plEnd
  by_cases g : plE (W p) = -5
  · rw [if_pos g]; omega
  · rw [if_neg g]; omega
theorem rCb_i (hs : SimB (S 1) n W mg sp FN FO NL PL) (hp : SimP n W mg NL PL) {p : Nat} {d : Int} (hpn : p < n) : rCb S p d ↔ plSt (W p) d = true := by
  have a1 := plE_n1 (hp.1 p hpn).1
  obtain ⟨h0, h1, h2, -⟩ := hs.2.2.2.2.2.2.2.2.2.1 p hpn
  rw [plSt_i]
  show (S 1 (15 + 78 * (p : Int) + 1) ≤ d ∧ S 1 (15 + 78 * (p : Int) + 2) = -1) ↔ _
  rw [h1, h2]
  by_cases g : plE (W p) = -5
  · rw [if_pos g]; simp [g]
  · rw [if_neg g]; simp [g, a1]
theorem rNoE_i (hs : SimB (S 1) n W mg sp FN FO NL PL) (hp : SimP n W mg NL PL) {p y : Int} : rNoE S p y = cNoE W n p y := by
  unfold rNoE cNoE
  rw [hs.1]
  refine iteC (by omega) (fun g => ?_)
  obtain ⟨q, rfl⟩ : ∃ q : Nat, p = q := ⟨p.toNat, by omega⟩
  have hq : q < n := by omega
  have a1 := (hp.1 q hq).1
  have e1 := plE_n1 a1
  obtain ⟨b1, b2, b3, b4, b5⟩ := a1
  obtain ⟨h0, h1, h2, h3, h4, -⟩ := hs.2.2.2.2.2.2.2.2.2.1 q hq
  rw [h2, h4, q_toN]
  refine iteC ?_ (fun g2 => iteC (by omega) (fun _ => rfl))
  split <;> omega
theorem K_i (hs : SimB (S 1) n W mg sp FN FO NL PL) {q : Nat} (hq : q < n) : S 1 (15 + 78 * (q : Int) + 0) = plK (W q) := (hs.2.2.2.2.2.2.2.2.2.1 q hq).1
theorem cNoE_0i {p y : Int} (h : cNoE W n p y = 0) : ∃ q : Nat, p = q ∧ q < n ∧ plE (W q) = -5 ∧ plL (W q) ≤ y ∧ y ≤ 9999 := by
  unfold cNoE at h
  by_cases g : 0 ≤ p ∧ p < n
  · obtain ⟨q, rfl⟩ : ∃ q : Nat, p = q := ⟨p.toNat, by omega⟩
    rw [if_neg (fun z => z g), q_toN] at h
    by_cases g2 : plE (W q) = -5
    · rw [if_neg (fun z => z g2)] at h
      by_cases g3 : y < plL (W q) ∨ ¬ (0 ≤ y ∧ y < 10000)
      · rw [if_pos g3] at h; omega
      · exact ⟨q, rfl, by omega, g2, by omega, by omega⟩
    · rw [if_pos g2] at h; omega
  · rw [if_pos g] at h; omega
theorem ex_of {q : Nat} {y : Int} (hp : SimP n W mg NL PL) (hq : q < n) (hE : plE (W q) = -5) (hy : plL (W q) ≤ y ∧ y ≤ 9999) : plEx (W q) y = true := by
  have a1 := (hp.1 q hq).1
  exact plEx_i.mpr ⟨by have := a1.2.2.1; omega, by rw [plEnd_o hE]; omega⟩
theorem rPar_i (hs : SimB (S 1) n W mg sp FN FO NL PL) (hp : SimP n W mg NL PL) {q : Nat} {y : Int} (hq : q < n) (hx : plEx (W q) y = true) : rPar (S 1) q y PL.length = tlAt (plT (W q)) y := by
  rw [rPar_P hs.2.2.1, (hp.1 q hq).2.2.1.2.2.1 y hx]
theorem rNoM_i (hs : SimB (S 1) n W mg sp FN FO NL PL) (hp : SimP n W mg NL PL) {p par y : Int} : rNoM S p par y = cNoM W n p par y := by
  unfold rNoM cNoM
  rw [hs.1, rNoE_i hs hp]
  refine iteC (by omega) (fun g => ?_)
  obtain ⟨q, rfl⟩ : ∃ q : Nat, p = q := ⟨p.toNat, by omega⟩
  obtain ⟨r, rfl⟩ : ∃ r : Nat, par = r := ⟨par.toNat, by omega⟩
  rw [K_i hs (show q < n by omega), K_i hs (show r < n by omega), q_toN, q_toN]
  exact iteC Iff.rfl (fun _ => iteC Iff.rfl (fun _ => iteC (rCb_i hs hp (by omega)) (fun _ => rfl)))
theorem rNoG_i (hs : SimB (S 1) n W mg sp FN FO NL PL) (hp : SimP n W mg NL PL) {p par y : Int} : rNoG S p par y = cNoG W n p par y := by
  unfold rNoG cNoG
  rw [hs.1, rNoE_i hs hp]
  refine iteC (by omega) (fun g => ?_)
  obtain ⟨q, rfl⟩ : ∃ q : Nat, p = q := ⟨p.toNat, by omega⟩
  obtain ⟨r, rfl⟩ : ∃ r : Nat, par = r := ⟨par.toNat, by omega⟩
  rw [K_i hs (show q < n by omega), K_i hs (show r < n by omega), q_toN, q_toN]
  exact iteC Iff.rfl (fun _ => iteC Iff.rfl (fun _ => iteC Iff.rfl (fun _ => iteC (rCb_i hs hp (by omega)) (fun _ => rfl))))
theorem rNoF_i (hs : SimB (S 1) n W mg sp FN FO NL PL) (hp : SimP n W mg NL PL) {k par y wd : Int} (hk : 0 ≤ k) (hw : wd ≠ 0) : rNoF S k par y = if k = 0 then cNoR n y wd else cNoF W n k par y wd := by
  unfold rNoF cNoR cNoF
  rw [hs.1]
  have fin : (if (n : Int) = 20 then (6 : Int) else 0) = if n = 20 then 6 else 0 := iteC (by omega) (fun _ => rfl)
  by_cases g : k = 0
  · have n0 : ¬ 0 < k := by omega
    rw [if_pos g, if_neg (fun z => n0 z.1), if_neg hw]
    refine iteC (by omega) (fun g2 => ?_)
    rw [if_neg (fun z => n0 z.1), if_neg (fun z => n0 z.1)]
    exact fin
  · rw [if_neg g, if_neg hw]
    refine iteC (by omega) (fun g1 => ?_)
    obtain ⟨r, rfl⟩ : ∃ r : Nat, par = r := ⟨par.toNat, by omega⟩
    rw [K_i hs (show r < n by omega), q_toN]
    refine iteC (by omega) (fun g2 => iteC (by omega) (fun g4 => iteC ?_ (fun _ => fin)))
    have := rCb_i hs hp (p := r) (d := y) (by omega)
    exact ⟨fun z q => z.2 (this.mpr q), fun z => ⟨by omega, fun q => z (this.mp q)⟩⟩
theorem rNoS_i (hs : SimB (S 1) n W mg sp FN FO NL PL) (hp : SimP n W mg NL PL) {p y : Int} : rNoS S p y PL.length = cNoS W n p y := by
  unfold rNoS cNoS
  rw [rNoE_i hs hp, hs.1]
  refine iteC Iff.rfl (fun g2 => ?_)
  obtain ⟨q, rfl, hq, hE, hy⟩ := cNoE_0i (Decidable.not_not.mp g2)
  have hx := ex_of hp hq hE hy
  obtain ⟨a1, a2, a3, a4, a5⟩ := hp.1 q hq
  rw [K_i hs hq, rPar_i hs hp hq hx, q_toN]
  refine iteC ?_ (fun _ => iteC (by omega) (fun _ => rfl))
  have k0 := a1.1.1
  by_cases g : plK (W q) = 0
  · have e5 := a3.2.2.2.1 g y hx
    rw [← a3.2.2.1 y hx] at e5
    rw [e5]
    exact ⟨fun z => by omega, fun z => by omega⟩
  · obtain ⟨j, j1, j2, j3, j4⟩ := a3.2.2.2.2.1 (by omega) y hx
    rw [← a3.2.2.1 y hx] at j1
    rw [j1, q_toN]
    have := rCb_i hs hp (p := j) (d := y) j2
    exact ⟨fun z => ⟨by omega, fun q => z.2 (this.mpr q)⟩, fun z => ⟨by omega, fun q => z.2 (this.mp q)⟩⟩
theorem rNoC_i (hs : SimB (S 1) n W mg sp FN FO NL PL) (hp : SimP n W mg NL PL) {p y : Int} : rNoC S p y PL.length n = cNoC W n p y := by
  unfold rNoC cNoC
  rw [rNoE_i hs hp]
  by_cases g2 : cNoE W n p y ≠ 0
  · rw [if_pos g2, if_pos g2]
  · rw [if_neg g2, if_neg g2]
    obtain ⟨q, rfl, hq, hE, hy⟩ := cNoE_0i (Decidable.not_not.mp g2)
    have aq := (hp.1 q hq).1
    have y0 : 0 ≤ y := by have := aq.2.1; have := aq.2.2.1; omega
    have ea : (List.range n).any (cPf W q y) = rAnyF S q y PL.length n := by
      unfold rAnyF
      refine Bool.eq_iff_iff.mpr ?_
      rw [List.any_eq_true, List.any_eq_true]
      have one : ∀ c, c < n → (cPf W q y c = true ↔ decide (rFst S c q y PL.length ≠ -1) = true) := fun c hc => by
        obtain ⟨a1, a2, a3, a4, a5⟩ := hp.1 c hc
        have f := fst_ref (W := W) hs hp.2.1 (p := q) hc rfl rfl a1 a3 ⟨y0, hy.2⟩ (by have := a1.2.2.1; have := a1.2.2.2.1; omega)
        unfold cPf
        rw [decide_eq_true_eq, decide_eq_true_eq, f]
        by_cases z : 0 ≤ tlFst q y (plEnd (W c)) (plT (W c))
        · rw [if_pos z]; omega
        · rw [if_neg z]; omega
      constructor
      · rintro ⟨c, hc, h⟩
        exact ⟨c, hc, (one c (List.mem_range.mp hc)).mp h⟩
      · rintro ⟨c, hc, h⟩
        exact ⟨c, hc, (one c (List.mem_range.mp hc)).mpr h⟩
    rw [ea]
/-- the name on a day -/
theorem nIx_none {p y : Int} {NL : NLt} : ∀ k : Nat, nIx p y NL k = -1 → ∀ (i : Nat) (e : Int × Int × List Int), i < k → NL[i]? = some e → ¬ (e.1 = p ∧ e.2.1 ≤ y)
  | 0, _, i, e, hi, _ => by omega
  | k + 1, h, i, e, hi, he => by
    rw [nIx] at h
    by_cases ei : i = k
    · subst ei
      rw [he] at h
      simp only at h
      by_cases g : e.1 = p ∧ e.2.1 ≤ y
      · rw [if_pos g] at h; omega
      · exact g
    · refine nIx_none k ?_ i e (by omega) he
      split at h
      · split at h
        · omega
        · exact h
      · exact h
theorem nm_i (hs : SimB (S 1) n W mg sp FN FO NL PL) (hp : SimP n W mg NL PL) {q : Nat} {y : Int} (hq : q < n) (hy : plF (W q) ≤ y) : ∃ (i : Nat) (e : Int × Int × List Int), NL[i]? = some e ∧ rNm (S 1) q y NL.length = 1575 + 11 * (i : Int) ∧ nmAt (plN (W q)) y = (pkW e.2.2 : Int) ∧ lOk e.2.2 ∧ S 1 (1575 + 11 * (i : Int) + 2) = e.2.2.length ∧ ∀ (j : Nat) (c : Int), e.2.2[j]? = some c → S 1 (1575 + 11 * (i : Int) + 3 + j) = c := by
  obtain ⟨a1, ⟨c1, ⟨w, r, c2⟩, c3, c4⟩, a3, a4, a5⟩ := hp.1 q hq
  have r1 := rNm_ix hs.2.1 q y NL.length (Nat.le_refl _)
  rcases nIx_at NL q y NL.length (Nat.le_refl _) with ⟨z, -⟩ | ⟨i, e, i1, i2, i3, i4, i5, i6⟩
  · exfalso
    have hm : (plF (W q), w) ∈ nmL NL q := by rw [← c1, c2]; simp
    unfold nmL at hm
    obtain ⟨e, he, ee⟩ := List.mem_map.mp hm
    obtain ⟨he1, he2⟩ := List.mem_filter.mp he
    obtain ⟨i, hi, hie⟩ := List.mem_iff_getElem.mp he1
    have e1 : e.2.1 = plF (W q) := congrArg Prod.fst ee
    exact nIx_none NL.length z i e hi (by rw [List.getElem?_eq_getElem hi, hie]) ⟨of_decide_eq_true he2, by omega⟩
  · rw [i1, if_neg (by omega)] at r1
    obtain ⟨b1, b2, b3, b4⟩ := hs.2.1.2 i e i3
    exact ⟨i, e, i3, r1, by rw [c1]; rw [List.take_length] at i6; exact i6, (hp.2.2.1 e (List.mem_of_getElem? i3)).1, b3, b4⟩
theorem nmLen_i (hs : SimB (S 1) n W mg sp FN FO NL PL) (hp : SimP n W mg NL PL) {q : Nat} {y : Int} (hq : q < n) (hy : plF (W q) ≤ y) : S 1 (rNm (S 1) q y NL.length + 2) = (wdLen (nmAt (plN (W q)) y).toNat 8 : Nat) := by
  obtain ⟨i, e, h1, h2, h3, h4, h5, h6⟩ := nm_i hs hp hq hy
  rw [h2, h5, h3, Int.toNat_natCast, wdLen_pk h4.1 h4.2.2]
end REF
