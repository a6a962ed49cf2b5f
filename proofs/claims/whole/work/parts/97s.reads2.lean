
/-! changed, account, fits -/
theorem bSet_cg {f g : Nat → Bool} : ∀ n : Nat, (∀ q, q < n → f q = g q) → bSet f n = bSet g n
  | 0, _ => rfl
  | n + 1, h => by rw [bSet, bSet, bSet_cg n (fun q hq => h q (by omega)), h n (by omega)]
theorem rEqs_i {b : Int → Int} {n o : Int} : ∀ k : Nat, rEqs b n o k = true ↔ (b (n + 2) = b (o + 2) ∧ ∀ j : Nat, j < k → b (n + 3 + j) = b (o + 3 + j))
  | 0 => by
    rw [rEqs, decide_eq_true_eq]
    exact ⟨fun h => ⟨h, fun j hj => by omega⟩, fun h => h.1⟩
  | k + 1 => by
    rw [rEqs, Bool.and_eq_true, rEqs_i k, decide_eq_true_eq]
    constructor
    · rintro ⟨⟨h1, h2⟩, h3⟩
      refine ⟨h1, fun j hj => ?_⟩
      by_cases e : j = k
      · rw [e]; exact h3
      · exact h2 j (by omega)
    · rintro ⟨h1, h2⟩
      exact ⟨⟨h1, fun j hj => h2 j (by omega)⟩, h2 k (by omega)⟩
section RD2
variable {S : RS} {n : Nat} {W : Nat → Pl} {mg sp : Int} {FN : List (Int × Int × Int)} {FO : List Nat} {NL : NLt} {PL : List (Int × Int × Int)}
theorem lk_i (hs : SimB (S 1) n W mg sp FN FO NL PL) (hp : SimP n W mg NL PL) {q r : Nat} {y z : Int} (hq : q < n) (hr : r < n) (hy : plF (W q) ≤ y) (hz : plF (W r) ≤ z) : rLk (S 1) (rNm (S 1) q y NL.length) (rNm (S 1) r z NL.length) = true ↔ nmAt (plN (W q)) y = nmAt (plN (W r)) z := by
  obtain ⟨i, e, h1, h2, h3, h4, h5, h6⟩ := nm_i hs hp hq hy
  obtain ⟨i', e', h1', h2', h3', h4', h5', h6'⟩ := nm_i hs hp hr hz
  unfold rLk
  rw [h2, h2', h3, h3', h5, Int.toNat_natCast, rEqs_i, h5, h5']
  constructor
  · rintro ⟨a1, a2⟩
    have el : e.2.2 = e'.2.2 := List.ext_getElem (by omega) (fun j j1 j2 => by
      rw [← h6 j _ (List.getElem?_eq_getElem j1), ← h6' j _ (List.getElem?_eq_getElem j2)]
      exact a2 j j1)
    rw [el]
  · intro h
    have el := pk_inj h4.1 h4'.1 h4.2.2 h4'.2.2 (by omega)
    refine ⟨by rw [el], fun j hj => ?_⟩
    have hj' : j < e'.2.2.length := by rw [← el]; exact hj
    rw [h6 j _ (List.getElem?_eq_getElem hj), h6' j _ (List.getElem?_eq_getElem hj')]
    have := congrArg (fun l : List Int => l[j]?) el
    simp only [List.getElem?_eq_getElem hj, List.getElem?_eq_getElem hj', Option.some.injEq] at this
    exact this
theorem ng_i (hs : SimB (S 1) n W mg sp FN FO NL PL) (hp : SimP n W mg NL PL) : rNg S n NL.length := fun p y hpn hx _ hy => by
  have gx := (rEx_i hs hp hpn (by omega)).mp hx
  obtain ⟨i, e, h1, h2, h3, h4, h5, h6⟩ := nm_i hs hp hpn (plEx_i.mp gx).1
  rw [h2, h5]
  have := h4.2.2
  exact ⟨by omega, by omega, by omega⟩
theorem ch_i (hs : SimB (S 1) n W mg sp FN FO NL PL) (hp : SimP n W mg NL PL) {y z : Int} : rCh S y z PL.length NL.length n = (if ¬ (0 ≤ y ∧ y < 10000) ∨ ¬ (0 ≤ z ∧ z < 10000) then (-2 : Int) else (bSet (cCh W y z) n : Nat)) := by
  unfold rCh
  refine iteC (by omega) (fun g => ?_)
  refine congrArg Int.ofNat (bSet_cg n (fun q hq => ?_))
  unfold rCf cCh plDf
  have e1 := rEx_i hs hp (d := y) hq (by omega)
  have e2 := rEx_i hs hp (d := z) hq (by omega)
  refine Bool.eq_iff_iff.mpr ?_
  rw [decide_eq_true_eq, Bool.and_eq_true, Bool.and_eq_true, decide_eq_true_eq, e1, e2]
  constructor
  · rintro ⟨x1, x2, x3⟩
    refine ⟨⟨x1, x2⟩, ?_⟩
    rw [rPar_i hs hp hq x1, rPar_i hs hp hq x2, lk_i hs hp hq hq (plEx_i.mp x1).1 (plEx_i.mp x2).1] at x3
    exact x3
  · rintro ⟨⟨x1, x2⟩, x3⟩
    refine ⟨x1, x2, ?_⟩
    rw [rPar_i hs hp hq x1, rPar_i hs hp hq x2, lk_i hs hp hq hq (plEx_i.mp x1).1 (plEx_i.mp x2).1]
    exact x3
theorem fn_i (hs : SimB (S 1) n W mg sp FN FO NL PL) (hp : SimP n W mg NL PL) {y : Int} {p : Nat} (hpn : p < n) (hy : y < 10000) : (rEx S p y ∧ rFn S y NL.length p = true) ↔ cFn W y p = true := by
  unfold cFn rFn
  rw [Bool.and_eq_true, rEx_i hs hp hpn hy, List.all_eq_true, List.all_eq_true]
  have one : plEx (W p) y = true → ∀ q, q < p → ((!(decide (rEx S q y) && rLk (S 1) (rNm (S 1) q y NL.length) (rNm (S 1) p y NL.length))) = true ↔ (!(plEx (W q) y && decide (nmAt (plN (W q)) y = nmAt (plN (W p)) y))) = true) := fun hx q hq => by
    have eq := rEx_i hs hp (p := q) (d := y) (by omega) hy
    rw [Bool.not_eq_true', Bool.not_eq_true', Bool.and_eq_false_iff, Bool.and_eq_false_iff, decide_eq_false_iff_not, decide_eq_false_iff_not, eq]
    by_cases g : plEx (W q) y = true
    · have lk := lk_i hs hp (q := q) (r := p) (y := y) (z := y) (by omega) hpn (plEx_i.mp g).1 (plEx_i.mp hx).1
      rw [← lk]
      simp [g]
    · simp [g]
  constructor
  · rintro ⟨x1, x2⟩
    exact ⟨x1, fun q hq => (one x1 q (List.mem_range.mp hq)).mp (x2 q hq)⟩
  · rintro ⟨x1, x2⟩
    exact ⟨x1, fun q hq => (one x1 q (List.mem_range.mp hq)).mpr (x2 q hq)⟩
theorem bCt_z {f : Nat → Bool} : ∀ n : Nat, (∀ q, q < n → f q = false) → bCt f n = 0
  | 0, _ => rfl
  | n + 1, h => by rw [bCt, bCt_z n (fun q hq => h q (by omega)), h n (by omega)]; rfl
theorem noChi (hp : SimP n W mg NL PL) {y : Int} {p : Nat} (hpn : p < n) (hx : ¬ plEx (W p) y = true) : bCt (cLf W n 1 p y) n = 0 := by
  refine bCt_z n (fun q hq => ?_)
  refine Bool.eq_false_iff.mpr (fun z => ?_)
  unfold cLf cFi at z
  rw [Bool.and_eq_true, if_neg (show ¬ ((1 : Int) = 0) by decide), if_pos rfl, decide_eq_true_eq] at z
  rcases (par_on hp hq z.1).1 with e | ⟨j, j1, j2, j3⟩
  · omega
  · have : j = p := by omega
    rw [this] at j3
    exact hx j3
theorem acc_i (hs : SimB (S 1) n W mg sp FN FO NL PL) (hp : SimP n W mg NL PL) {y w : Int} : rAcc S y w PL.length NL.length n = cAc W n y w := by
  unfold rAcc cAc
  refine iteC (by omega) (fun g => iteC (by omega) (fun g2 => ?_))
  have hy : y < 10000 := by omega
  have cnt : ∀ (f : Nat → Bool) (F : Nat → Prop) (dF : ∀ p, Decidable (F p)), (∀ p, p < n → (F p ↔ f p = true)) → ∀ (R : Nat → Int), R 0 = 0 → (∀ p, p < n → R (p + 1) = R p + @bI (F p) (dF p)) → R n = (bCt f n : Nat) := fun f F dF hF R r0 rs => by
    have : ∀ k, k ≤ n → R k = (bCt f k : Nat) := by
      intro k
      induction k with
      | zero => intro _; rw [r0]; rfl
      | succ k ih =>
        intro hk
        rw [rs k (by omega), ih (by omega), bCt]
        by_cases z : f k = true
        · rw [if_pos z, bI_pos ((hF k (by omega)).mpr z)]; omega
        · rw [if_neg z, bI_neg (fun q => z ((hF k (by omega)).mp q))]; omega
    exact this n (Nat.le_refl _)
  by_cases w4 : w = 4
  · rw [if_pos w4]
    refine cnt (cEx W y) (fun p => rEx S p y) inferInstance (fun p hpn => rEx_i hs hp hpn hy) (rAc S y w PL.length NL.length n) rfl (fun p _ => ?_)
    rw [rAc, if_pos w4]
  · rw [if_neg w4]
    by_cases w5 : w = 5
    · rw [if_pos w5]
      refine cnt (cNf W y) (fun p => y < S 1 (15 + 78 * (p : Int) + 1)) inferInstance (fun p hpn => ?_) (rAc S y w PL.length NL.length n) rfl (fun p _ => ?_)
      · rw [(hs.2.2.2.2.2.2.2.2.2.1 p hpn).2.1]; unfold cNf; rw [decide_eq_true_eq]
      · rw [rAc, if_neg w4, if_pos w5]
    · rw [if_neg w5]
      by_cases w6 : w = 6
      · rw [if_pos w6]
        refine cnt (cEd W y) (fun p => S 1 (15 + 78 * (p : Int) + 2) ≠ -1 ∧ S 1 (15 + 78 * (p : Int) + 2) ≤ y) inferInstance (fun p hpn => ?_) (rAc S y w PL.length NL.length n) rfl (fun p _ => ?_)
        · rw [(hs.2.2.2.2.2.2.2.2.2.1 p hpn).2.2.1]
          unfold cEd plEnd
          rw [decide_eq_true_eq]
          have e1 := plE_n1 (hp.1 p hpn).1
          by_cases z : plE (W p) = -5
          · rw [if_pos z, if_pos z]; omega
          · rw [if_neg z, if_neg z]; omega
        · rw [rAc, if_neg w4, if_neg w5, if_pos w6]
      · rw [if_neg w6]
        by_cases w7 : w = 7
        · rw [if_pos w7]
          refine cnt (cFn W y) (fun p => rEx S p y ∧ rFn S y NL.length p = true) inferInstance (fun p hpn => fn_i hs hp hpn hy) (rAc S y w PL.length NL.length n) rfl (fun p _ => ?_)
          rw [rAc, if_neg w4, if_neg w5, if_neg w6, if_pos w7]
        · rw [if_neg w7]
          by_cases w8 : w = 8
          · rw [if_pos w8]
            have : ∀ k, k ≤ n → rAc S y w PL.length NL.length n k = (cMx W n y k : Nat) := by
              intro k
              induction k with
              | zero => intro _; rfl
              | succ k ih =>
                intro hk
                rw [rAc, if_neg w4, if_neg w5, if_neg w6, if_neg w7, if_pos w8, ih (by omega), chi_i hs hp hy n (Nat.le_refl _), cMx]
                have ex := rEx_i hs hp (p := k) (d := y) (by omega) hy
                by_cases z : plEx (W k) y = true
                · by_cases z2 : ((cMx W n y k : Nat) : Int) < ((bCt (cLf W n 1 k y) n : Nat) : Int)
                  · rw [if_pos ⟨ex.mpr z, z2⟩]; omega
                  · rw [if_neg (fun q => z2 q.2)]; omega
                · rw [if_neg (fun q => z (ex.mp q.1)), noChi hp (show k < n by omega) z]; omega
            exact this n (Nat.le_refl _)
          · rw [if_neg w8]
            refine cnt (cLf W n 0 w y) (fun p => rEx S p y ∧ S 1 (15 + 78 * (p : Int) + 0) = w) inferInstance (fun p hpn => ?_) (rAc S y w PL.length NL.length n) rfl (fun p _ => ?_)
            · unfold cLf cFi
              rw [Bool.and_eq_true, if_pos rfl, decide_eq_true_eq, rEx_i hs hp hpn hy, K_i hs hpn]
            · rw [rAc, if_neg w4, if_neg w5, if_neg w6, if_neg w7, if_neg w8]
theorem under_i (hs : SimB (S 1) n W mg sp FN FO NL PL) (hp : SimP n W mg NL PL) {y v : Int} (hv : 0 ≤ v) : ∀ (k : Nat) (q : Int), onR n W y q → (∀ j : Nat, q = j → plK (W j) < k) → rAb S y PL.length v k q = cUn W n y v k q
  | 0, q, h, hk => by
    rw [rAb, cUn]
    rcases h with rfl | ⟨j, rfl, j2, j3⟩
    · exact (decide_eq_false (by omega)).symm
    · have := (hp.1 j j2).1.1.1
      have := hk j rfl
      omega
  | k + 1, q, h, hk => by
    rw [rAb, cUn]
    rcases h with rfl | ⟨j, rfl, j2, j3⟩
    · rw [if_pos (by decide), if_neg (by omega), if_neg (by omega)]
      have : ∀ k : Nat, cUn W n y v k (-5) = false := by
        intro k
        induction k with
        | zero => rw [cUn]; exact decide_eq_false (by omega)
        | succ k ih => rw [cUn, if_neg (by omega), if_neg (by omega)]; exact ih
      exact (this k).symm
    · rw [if_neg (show ¬ ((j : Int) < 0) by omega)]
      by_cases g : (j : Int) = v
      · rw [if_pos g, if_pos g]
      · rw [if_neg g, if_neg g, if_pos (show 0 ≤ (j : Int) ∧ (j : Int) < n by omega), q_toN, rPar_i hs hp j2 j3]
        obtain ⟨o1, o2⟩ := par_on hp j2 j3
        exact under_i hs hp hv k _ o1 (fun i hi => by have := o2 i hi; have := hk j rfl; omega)
theorem nV_s {N : List (Int × Int × Int)} {y : Int} {t p : Nat} : ∀ K : Nat, t < K → nV W n y N K t p = nF1 W n y (nV W n y N t) (N.getD t (0, 0, 0)) p
  | 0, h => by omega
  | K + 1, h => by
    rw [nV]
    by_cases e : t = K
    · rw [e, upF_s]
    · rw [upF_o e, nV_s K (by omega)]
theorem fit_i (hs : SimB (S 1) n W mg sp FN FO NL PL) (hp : SimP n W mg NL PL) (hf : SimF FN FO) {y : Int} {p : Nat} (hpn : p < n) (hy : y < 10000) : ∀ (k t : Nat), t < FN.length → t < k → ∀ K : Nat, t < K → nV W n y FN K t p = (plEx (W p) y && rFit S p y PL.length NL.length 4 k t)
  | 0, t, _, h2, _, _ => by omega
  | k + 1, t, h1, h2, K, hK => by
    have hq : FN[t]? = some FN[t] := List.getElem?_eq_getElem h1
    obtain ⟨b1, b2, b3⟩ := hs.2.2.2.2.2.2.2.2.1 t _ hq
    obtain ⟨f1, f2, f3⟩ := hf
    obtain ⟨k0, kv⟩ := f3 FN[t] (List.getElem_mem h1)
    have fo := f1 t _ hq
    rw [nV_s K hK, rFit, b1, b2]
    have gd : FN.getD t (0, 0, 0) = FN[t] := by rw [List.getD_eq_getElem?_getD, hq]; rfl
    rw [gd]
    unfold nF1
    by_cases x : plEx (W p) y = true
    · rw [x, Bool.true_and]
      have hF := (plEx_i.mp x).1
      have prx := rPar_i hs hp hpn x
      have hl : cLf W n FN[t].1 FN[t].2.1 y p = cFi W n y p FN[t].1 FN[t].2.1 := by unfold cLf; rw [x, Bool.true_and]
      by_cases c5 : FN[t].1 = 5
      · obtain ⟨⟨m1, m2⟩, m3, m4⟩ := fo.1 (Or.inl c5)
        have n0 : ¬ FN[t].1 = 0 := by omega
        have n1 : ¬ FN[t].1 = 1 := by omega
        have n2 : ¬ FN[t].1 = 2 := by omega
        have n3 : ¬ FN[t].1 = 3 := by omega
        have n4 : ¬ FN[t].1 = 4 := by omega
        have i1 := fit_i hs hp ⟨f1, f2, f3⟩ hpn hy k FN[t].2.1.toNat (by omega) (by omega) t (by omega)
        have i2 := fit_i hs hp ⟨f1, f2, f3⟩ hpn hy k FN[t].2.2.toNat (by omega) (by omega) t (by omega)
        rw [x, Bool.true_and, show ((FN[t].2.1.toNat : Nat) : Int) = FN[t].2.1 by omega] at i1
        rw [x, Bool.true_and, show ((FN[t].2.2.toNat : Nat) : Int) = FN[t].2.2 by omega] at i2
        rw [if_pos c5, if_neg n0, if_neg n1, if_neg n2, if_neg n3, if_neg n4, if_pos c5, b3 (by omega), i1, i2]
      · rw [if_neg c5]
        by_cases c6 : FN[t].1 = 6
        · obtain ⟨⟨m1, m2⟩, m3, m4⟩ := fo.1 (Or.inr c6)
          have n0 : ¬ FN[t].1 = 0 := by omega
          have n1 : ¬ FN[t].1 = 1 := by omega
          have n2 : ¬ FN[t].1 = 2 := by omega
          have n3 : ¬ FN[t].1 = 3 := by omega
          have n4 : ¬ FN[t].1 = 4 := by omega
          have i1 := fit_i hs hp ⟨f1, f2, f3⟩ hpn hy k FN[t].2.1.toNat (by omega) (by omega) t (by omega)
          have i2 := fit_i hs hp ⟨f1, f2, f3⟩ hpn hy k FN[t].2.2.toNat (by omega) (by omega) t (by omega)
          rw [x, Bool.true_and, show ((FN[t].2.1.toNat : Nat) : Int) = FN[t].2.1 by omega] at i1
          rw [x, Bool.true_and, show ((FN[t].2.2.toNat : Nat) : Int) = FN[t].2.2 by omega] at i2
          rw [if_pos c6, if_neg n0, if_neg n1, if_neg n2, if_neg n3, if_neg n4, if_neg c5, if_pos c6, b3 (by omega), i1, i2]
        · rw [if_neg c6]
          by_cases c7 : FN[t].1 = 7
          · obtain ⟨m1, m2⟩ := fo.2 c7
            have n0 : ¬ FN[t].1 = 0 := by omega
            have n1 : ¬ FN[t].1 = 1 := by omega
            have n2 : ¬ FN[t].1 = 2 := by omega
            have n3 : ¬ FN[t].1 = 3 := by omega
            have n4 : ¬ FN[t].1 = 4 := by omega
            have i1 := fit_i hs hp ⟨f1, f2, f3⟩ hpn hy k FN[t].2.1.toNat (by omega) (by omega) t (by omega)
            rw [x, Bool.true_and, show ((FN[t].2.1.toNat : Nat) : Int) = FN[t].2.1 by omega] at i1
            have cx : cEx W y p = true := x
            rw [if_pos c7, if_neg n0, if_neg n1, if_neg n2, if_neg n3, if_neg n4, if_neg c5, if_neg c6, i1, cx, Bool.true_and]
          · obtain ⟨v0, v1⟩ := kv (by omega)
            rw [if_neg c7, hl]
            unfold cFi
            by_cases n0 : FN[t].1 = 0
            · rw [if_pos n0, if_pos n0, K_i hs hpn]
            · rw [if_neg n0, if_neg n0]
              by_cases n1 : FN[t].1 = 1
              · rw [if_pos n1, if_pos n1, prx]
              · rw [if_neg n1, if_neg n1]
                by_cases n2 : FN[t].1 = 2
                · rw [if_pos n2, if_pos n2, nmLen_i hs hp hpn hF]
                · rw [if_neg n2, if_neg n2]
                  by_cases n3 : FN[t].1 = 3
                  · rw [if_pos n3, if_pos n3, (hs.2.2.2.2.2.2.2.2.2.1 p hpn).2.1]
                  · rw [if_neg n3, if_neg n3, if_pos (show FN[t].1 = 4 by omega), prx]
                    obtain ⟨o1, o2⟩ := par_on hp hpn x
                    exact (under_i hs hp v0 4 _ o1 (fun i hi => by have := o2 i hi; have := (hp.1 p hpn).1.1.2; omega)).symm
    · have xf : plEx (W p) y = false := Bool.eq_false_iff.mpr x
      rw [xf, Bool.false_and]
      have hl : cLf W n FN[t].1 FN[t].2.1 y p = false := by unfold cLf; rw [xf, Bool.false_and]
      have cx : cEx W y p = false := xf
      by_cases c5 : FN[t].1 = 5
      · obtain ⟨⟨m1, m2⟩, m3, m4⟩ := fo.1 (Or.inl c5)
        have i1 := fit_i hs hp ⟨f1, f2, f3⟩ hpn hy k FN[t].2.1.toNat (by omega) (by omega) t (by omega)
        rw [xf, Bool.false_and] at i1
        rw [if_pos c5, i1, Bool.false_and]
      · rw [if_neg c5]
        by_cases c6 : FN[t].1 = 6
        · obtain ⟨⟨m1, m2⟩, m3, m4⟩ := fo.1 (Or.inr c6)
          have i1 := fit_i hs hp ⟨f1, f2, f3⟩ hpn hy k FN[t].2.1.toNat (by omega) (by omega) t (by omega)
          have i2 := fit_i hs hp ⟨f1, f2, f3⟩ hpn hy k FN[t].2.2.toNat (by omega) (by omega) t (by omega)
          rw [xf, Bool.false_and] at i1 i2
          rw [if_pos c6, i1, i2]; rfl
        · rw [if_neg c6]
          by_cases c7 : FN[t].1 = 7
          · rw [if_pos c7, cx, Bool.false_and]
          · rw [if_neg c7, hl]
theorem pk_i (hs : SimB (S 1) n W mg sp FN FO NL PL) (hf : SimF FN FO) : rPk S FN.length := fun t ht => by
  have hq : FN[t]? = some FN[t] := List.getElem?_eq_getElem ht
  obtain ⟨b1, b2, b3⟩ := hs.2.2.2.2.2.2.2.2.1 t _ hq
  obtain ⟨f1, f2, f3⟩ := hf
  obtain ⟨k0, kv⟩ := f3 FN[t] (List.getElem_mem ht)
  have fo := f1 t _ hq
  rw [b1, b2]
  refine ⟨k0.1, k0.2, fun h => ?_, fun h h2 => ?_⟩
  · by_cases e : FN[t].1 = 7
    · exact fo.2 e
    · exact (fo.1 (by omega)).1
  · rw [b3 (by omega)]; exact (fo.1 (by omega)).2
end RD2
