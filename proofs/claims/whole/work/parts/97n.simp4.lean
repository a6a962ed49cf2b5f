
/-! merging: a world and its logs -/
theorem tlRep_hdE {y p j : Int} {l : List (Int × Int)} {f : Int} (h : ∃ v r, l = (f, v) :: r) : ∃ v r, tlRep y p j l = (f, v) :: r := by
  obtain ⟨v, r, rfl⟩ := h
  rw [tlRep]
  split
  · split
    · exact ⟨v, _, rfl⟩
    · exact ⟨j, _, rfl⟩
  · exact ⟨v, _, rfl⟩
theorem bCt_up {f g : Nat → Bool} {p : Nat} (hf : f p = false) (hg : g p = true) (ho : ∀ q, q ≠ p → g q = f q) : ∀ n : Nat, bCt g n = bCt f n + if p < n then 1 else 0
  | 0 => by rw [bCt, bCt, if_neg (by omega)]
  | n + 1 => by
    rw [bCt, bCt, bCt_up hf hg ho n]
    by_cases e : n = p
    · subst e
      rw [hf, hg, if_neg (by omega), if_pos rfl, if_neg (by decide), if_pos (by omega)]
    · rw [ho n e]
      by_cases g2 : p < n
      · have g3 : p < n + 1 := by omega
        rw [if_pos g2, if_pos g3]; omega
      · have g3 : ¬ p < n + 1 := by omega
        rw [if_neg g2, if_neg g3]; omega
section SPG
variable {n : Nat} {W : Nat → Pl} {mg : Int} {NL : NLt} {PL : List (Int × Int × Int)}
/-- what tlFst says of the existing days -/
theorem fst_y {PL : List (Int × Int × Int)} {P : Pl} {c p : Nat} {y : Int} (a1 : pI1 P) (a3 : pI3 PL n W c P) (h : 0 ≤ tlFst p y (plEnd P) (plT P)) : plF P ≤ tlFst p y (plEnd P) (plT P) ∧ y ≤ tlFst p y (plEnd P) (plT P) ∧ plEx P (tlFst p y (plEnd P) (plT P)) = true ∧ tlAt (plT P) (tlFst p y (plEnd P) (plT P)) = p ∧ pPar PL c (tlFst p y (plEnd P) (plT P)) = p ∧ ∀ d, plF P ≤ d → y ≤ d → d < tlFst p y (plEnd P) (plT P) → tlAt (plT P) d ≠ p := by
  obtain ⟨d1, ⟨v, r, d2⟩, d3, d4, d5, d6⟩ := a3
  have L := tlFst_L (par := p) (day := y) (plEnd_le a1) r (plF P, v) (by rw [← d2]; exact d1)
  rw [← d2] at L
  rcases L with ⟨e1, e2⟩ | ⟨e1, e2, e3, e4, e5⟩
  · omega
  · have hx : plEx P (tlFst p y (plEnd P) (plT P)) = true := plEx_i.mpr ⟨e1, e3⟩
    exact ⟨e1, e2, hx, e4, by rw [← d3 _ hx]; exact e4, e5⟩
theorem fst_n {PL : List (Int × Int × Int)} {P : Pl} {c p : Nat} {y : Int} (a1 : pI1 P) (a3 : pI3 PL n W c P) (h : ¬ 0 ≤ tlFst p y (plEnd P) (plT P)) : tlFst p y (plEnd P) (plT P) = -1 ∧ ∀ d, y ≤ d → plEx P d = true → tlAt (plT P) d ≠ p ∧ pPar PL c d ≠ p := by
  obtain ⟨d1, ⟨v, r, d2⟩, d3, d4, d5, d6⟩ := a3
  have L := tlFst_L (par := p) (day := y) (plEnd_le a1) r (plF P, v) (by rw [← d2]; exact d1)
  rw [← d2] at L
  obtain ⟨b1, b2, b3, b4, b5⟩ := a1
  rcases L with ⟨e1, e2⟩ | ⟨e1, e2, e3, e4, e5⟩
  · refine ⟨e1, fun d hd hx => ?_⟩
    have hx' := plEx_i.mp hx
    have := e2 d hx'.1 hd hx'.2
    exact ⟨this, by rw [← d3 d hx]; exact this⟩
  · have e1' : plF P ≤ tlFst p y (plEnd P) (plT P) := e1
    omega
/-- who never has p as its parent -/
theorem fst_k {PL : List (Int × Int × Int)} {P : Pl} {c p : Nat} {y : Int} (a1 : pI1 P) (a3 : pI3 PL n W c P) (hk : plK P ≤ plK (W p)) (k0 : 0 ≤ plK (W p)) : ∀ d, plEx P d = true → pPar PL c d ≠ p := fun d hd hz => by
  obtain ⟨d1, ⟨v, r, d2⟩, d3, d4, d5, d6⟩ := a3
  by_cases g : plK P = 0
  · rw [d4 g d hd] at hz; omega
  · obtain ⟨j, j1, j2, j3, j4⟩ := d5 (by have := a1.1.1; omega) d hd
    have : j = p := by omega
    rw [this] at j3; omega
theorem fst_kn {PL : List (Int × Int × Int)} {P : Pl} {c p : Nat} {y : Int} (a1 : pI1 P) (a3 : pI3 PL n W c P) (hk : plK P ≤ plK (W p)) (k0 : 0 ≤ plK (W p)) : ¬ 0 ≤ tlFst p y (plEnd P) (plT P) := fun h => by
  obtain ⟨-, -, hx, -, hp, -⟩ := fst_y a1 a3 h
  exact fst_k (y := y) a1 a3 hk k0 _ hx hp
/-- what a merge leaves of each -/
def mrgW (W : Nat → Pl) (p j : Nat) (y : Int) (c : Nat) : Pl := if c = p then plRem (plSi (plSe (W p) y) j) y 3 j else if c = j then plHis (W j) (y, 6, p) else if 0 ≤ tlFst p y (plEnd (W c)) (plT (W c)) then tkP p j y (W c) else W c
theorem mrgW_f {p j : Nat} {y : Int} (hpj : p ≠ j) (c : Nat) : plK (mrgW W p j y c) = plK (W c) ∧ plF (mrgW W p j y c) = plF (W c) ∧ plN (mrgW W p j y c) = plN (W c) ∧ plE (mrgW W p j y c) = (if c = p then y else plE (W c)) ∧ plI (mrgW W p j y c) = (if c = p then (j : Int) else plI (W c)) := by
  unfold mrgW
  by_cases e : c = p
  · rw [if_pos e, if_pos e, if_pos e, e]; exact ⟨rfl, rfl, rfl, rfl, rfl⟩
  · rw [if_neg e, if_neg e, if_neg e]
    by_cases e2 : c = j
    · rw [if_pos e2, e2]; exact ⟨rfl, rfl, rfl, rfl, rfl⟩
    · rw [if_neg e2]
      split
      · exact ⟨rfl, rfl, rfl, rfl, rfl⟩
      · exact ⟨rfl, rfl, rfl, rfl, rfl⟩
theorem mrgW_e {p j : Nat} {y : Int} (h : SimP n W mg NL PL) (hp : p < n) (hj : j < n) (hpj : p ≠ j) (hE : plE (W p) = -5) (hy : plL (W p) ≤ y ∧ y ≤ 9999) (hk : plK (W p) = plK (W j)) {c : Nat} (hc : c < n) : cTk (cM2 W p j y) p j y 0 n (cM2 W p j y) c = mrgW W p j y c ∧ cPf (cM2 W p j y) p y c = decide (c ≠ p ∧ c ≠ j ∧ 0 ≤ tlFst p y (plEnd (W c)) (plT (W c))) := by
  obtain ⟨a1, a2, a3, a4, a5⟩ := h.1 c hc
  have ap := (h.1 p hp).1
  have y0 : 0 ≤ y := by have := ap.2.1; have := ap.2.2.1; omega
  have k0 := ap.1.1
  have M1 : cM1 W p j y p = plRem (plSi (plSe (W p) y) j) y 3 j := upF_s
  have Mp : cM2 W p j y p = plRem (plSi (plSe (W p) y) j) y 3 j := by unfold cM2; rw [upF_o hpj]; exact M1
  have Mj : cM2 W p j y j = plHis (W j) (y, 6, p) := by unfold cM2; rw [upF_s]; unfold cM1; rw [upF_o (fun e => hpj e.symm)]
  have Mo : ∀ q, q ≠ p → q ≠ j → cM2 W p j y q = W q := fun q h1 h2 => by unfold cM2; rw [upF_o h2]; unfold cM1; rw [upF_o h1]
  have fp : ¬ cPf (cM2 W p j y) p y p = true := fun z => by
    unfold cPf at z
    rw [decide_eq_true_eq, Mp] at z
    have eE : plEnd (plRem (plSi (plSe (W p) y) j) y 3 j) = y := plEnd_e (show y ≠ -5 by omega)
    rw [eE] at z
    obtain ⟨b1, b2, b3, b4, b5⟩ := h.1 p hp
    obtain ⟨d1, ⟨v, r, d2⟩, -⟩ := b3
    have L := tlFst_L (par := p) (day := y) (show y ≤ 10000 by omega) r (plF (W p), v) (by rw [← d2]; exact d1)
    rw [← d2] at L
    have z' : 0 ≤ tlFst p y y (plT (W p)) := z
    rcases L with ⟨e1, e2⟩ | ⟨e1, e2, e3, -⟩
    · omega
    · omega
  have fj : ¬ cPf (cM2 W p j y) p y j = true := fun z => by
    unfold cPf at z
    rw [decide_eq_true_eq, Mj] at z
    obtain ⟨b1, b2, b3, b4, b5⟩ := h.1 j hj
    exact fst_kn b1 b3 (by omega) k0 z
  have fo : c ≠ p → c ≠ j → (cPf (cM2 W p j y) p y c = true ↔ 0 ≤ tlFst p y (plEnd (W c)) (plT (W c))) := fun h1 h2 => by
    unfold cPf
    rw [decide_eq_true_eq, Mo c h1 h2]
  unfold cTk mrgW
  by_cases e : c = p
  · rw [e, if_neg (fun z => fp z.2.2), if_pos rfl]
    refine ⟨Mp, ?_⟩
    rw [decide_eq_false (fun z => z.1 rfl)]
    exact Bool.eq_false_iff.mpr fp
  · by_cases e2 : c = j
    · rw [e2, if_neg (fun z => fj z.2.2), if_neg (fun z => hpj z.symm), if_pos rfl]
      refine ⟨Mj, ?_⟩
      rw [decide_eq_false (fun z => z.2.1 rfl)]
      exact Bool.eq_false_iff.mpr fj
    · rw [if_neg e, if_neg e2, Mo c e e2]
      by_cases g : 0 ≤ tlFst p y (plEnd (W c)) (plT (W c))
      · rw [if_pos ⟨Nat.zero_le _, hc, (fo e e2).mpr g⟩, if_pos g, decide_eq_true ⟨e, e2, g⟩]
        exact ⟨rfl, (fo e e2).mpr g⟩
      · rw [if_neg (fun z => g ((fo e e2).mp z.2.2)), if_neg g, decide_eq_false (fun z => g z.2.2)]
        exact ⟨rfl, Bool.eq_false_iff.mpr (fun z => g ((fo e e2).mp z))⟩
theorem SimP_mrg {p j : Nat} {y : Int} (hn20 : n ≤ 20) (h : SimP n W mg NL PL) (hp : p < n) (hj : j < n) (hpj : p ≠ j) (hE : plE (W p) = -5) (hy : plL (W p) ≤ y ∧ y ≤ 9999) (hk : plK (W p) = plK (W j)) (hst : plSt (W j) y = true) : SimP n (mrgW W p j y) (mg + 1) NL (PL ++ [(-1 - (p : Int), y, (j : Int))]) := by
  have h' := h
  obtain ⟨h1, h2, h3, ⟨τ, h4⟩, h5⟩ := h
  have ap := (h1 p hp).1
  have y0 : 0 ≤ y := by have := ap.2.1; have := ap.2.2.1; omega
  have k0 := ap.1.1
  obtain ⟨s1, s2⟩ := plSt_i.mp hst
  have jI : plI (W j) = -5 := by
    by_cases g : plI (W j) = -5
    · exact g
    · exact absurd s2 (h4 j hj g).1
  have pI : plI (W p) = -5 := by
    by_cases g : plI (W p) = -5
    · exact g
    · exact absurd hE (h4 p hp g).1
  have F := fun c => mrgW_f (W := W) (y := y) hpj c
  have cnt : ∀ c : Nat, ((PL ++ [(-1 - (p : Int), y, (j : Int))]).filter (fun e => decide (e.1 = (c : Int)))).length = (PL.filter (fun e => decide (e.1 = (c : Int)))).length := fun c => cnt_o (by omega)
  have Xo : ∀ i d, i ≠ p → plEx (mrgW W p j y i) d = plEx (W i) d := fun i d hi => by
    obtain ⟨f1, f2, f3, f4, f5⟩ := F i
    rw [if_neg hi] at f4
    exact plEx_c f2 f4 d
  have Xp : ∀ d, d < y → plEx (W p) d = true → plEx (mrgW W p j y p) d = true := fun d hd hx => by
    obtain ⟨f1, f2, f3, f4, f5⟩ := F p
    rw [if_pos rfl] at f4
    exact plEx_i.mpr ⟨by rw [f2]; exact (plEx_i.mp hx).1, by rw [plEnd_e (by rw [f4]; omega), f4]; exact hd⟩
  have hW : ∀ d (i : Nat), plEx (W i) d = true → (i = p → d < y) → plK (mrgW W p j y i) = plK (W i) ∧ plEx (mrgW W p j y i) d = true := fun d i hx hi => by
    refine ⟨(F i).1, ?_⟩
    by_cases e : i = p
    · subst e; exact Xp d (hi rfl) hx
    · rw [Xo i d e]; exact hx
  have Xj : ∀ d, y ≤ d → d < 10000 → plEx (mrgW W p j y j) d = true := fun d h1 h2 => by
    rw [Xo j d (fun e => hpj e.symm)]
    exact plEx_i.mpr ⟨by omega, by rw [plEnd_o s2]; exact h2⟩
  refine ⟨fun c hc => ?_, ?_, h3, ⟨upF τ p mg, fun c hc hi => ?_⟩, ?_⟩
  · obtain ⟨a1, a2, a3, a4, a5⟩ := h1 c hc
    by_cases e : c = p
    · subst e
      have Q : mrgW W c j y c = plRem (plSi (plSe (W c) y) j) y 3 j := if_pos rfl
      rw [Q]
      refine pIs_end (h1 c hc) hE hy rfl rfl rfl rfl rfl rfl rfl rfl (Or.inl rfl) (Or.inr ⟨by omega, by omega⟩) (fun d hd hx => ?_) (cnt c) (fun d i hd hi hin hx => hW d i hx (fun _ => hd))
      rw [pPar_m, if_neg (fun z => by omega)]
    · by_cases e2 : c = j
      · subst e2
        have Q : mrgW W p c y c = plHis (W c) (y, 6, p) := by unfold mrgW; rw [if_neg e, if_pos rfl]
        rw [Q]
        refine ⟨a1, a2, pI3_keep a3 rfl rfl rfl rfl (Nat.le_refl _) (fun d hd => ⟨hd, ?_⟩) (cnt c) (fun d i hd hi hin hx => hW d i hx (fun z => ?_)), fun x hx => ?_, pI5_ev (e := (y, 6, (p : Int))) a5 ⟨(show (6 : Int) ≠ 0 by decide), (show (6 : Int) ≠ 2 by decide), (show (6 : Int) ≠ 8 by decide), (show (6 : Int) ≠ 3 by decide), (show (6 : Int) ≠ 4 by decide)⟩ rfl rfl rfl rfl⟩
        · rw [pPar_m, if_neg (fun z => fst_k (y := y) a1 a3 (by omega) k0 d hd z.2)]
        · exact absurd (z ▸ hi) (fst_k (y := y) a1 a3 (by omega) k0 d hd)
        · rcases List.mem_append.mp (show x ∈ plH (W c) ++ [(y, 6, (p : Int))] from hx) with z | z
          · exact a4 x z
          · rw [List.mem_singleton.mp z]
            exact ⟨⟨y0, by show y < 10000; omega⟩, ⟨(by decide : (0 : Int) ≤ 6), (by decide : (6 : Int) < 9)⟩, Or.inr ⟨by show (0 : Int) ≤ p; omega, by show (p : Int) < 10000; omega⟩⟩
      · by_cases g : 0 ≤ tlFst p y (plEnd (W c)) (plT (W c))
        · have Q : mrgW W p j y c = tkP p j y (W c) := by unfold mrgW; rw [if_neg e, if_neg e2, if_pos g]
          rw [Q]
          obtain ⟨v1, v2, v3, v4, v5, v6⟩ := fst_y a1 a3 g
          obtain ⟨v, hv⟩ : ∃ v, v = tlFst p y (plEnd (W c)) (plT (W c)) := ⟨_, rfl⟩
          rw [← hv] at v1 v2 v3 v4 v5 v6 g
          have vE := hd_mem a1 v3
          obtain ⟨d1, ⟨u, r, d2⟩, d3, d4, d5, d6⟩ := a3
          have rep : ∀ d, plF (W c) ≤ d → d < 10000 → tlAt (tlRep y p j (plT (W c))) d = if y ≤ d ∧ tlAt (plT (W c)) d = p then (j : Int) else tlAt (plT (W c)) d := fun d h1 h2 => by
            rw [d2]
            exact tlRep_at (by rw [← d2]; exact d1) h1 h2
          have QT : plT (tkP p j y (W c)) = tlRep y p j (plT (W c)) := rfl
          have QH : plH (tkP p j y (W c)) = plH (W c) ++ [(v, 8, (j : Int))] := by rw [hv]; rfl
          have kc : plK (W p) < plK (W c) := by
            by_cases z : plK (W c) ≤ plK (W p)
            · exact absurd v5 (fst_k (y := y) a1 ⟨d1, ⟨u, r, d2⟩, d3, d4, d5, d6⟩ z k0 v v3)
            · omega
          refine ⟨a1, a2, ⟨by rw [QT]; exact tlRep_srt _ d1, by rw [QT]; exact tlRep_hdE ⟨u, r, d2⟩, fun d hd => ?_, fun kk => ?_, fun kk d hd => ?_, ?_⟩, fun x hx => ?_, fun day l0 h0 h9 => ?_⟩
          · have hd' : plEx (W c) d = true := hd
            have hm := hd_mem a1 hd'
            rw [QT, rep d hm.1 hm.2, pPar_m, d3 d hd']
          · exfalso
            have : plK (W c) = 0 := kk
            omega
          · have hd' : plEx (W c) d = true := hd
            have hm := hd_mem a1 hd'
            rw [pPar_m]
            by_cases z : y ≤ d ∧ pPar PL c d = p
            · rw [if_pos z]
              exact ⟨j, rfl, hj, by rw [(F j).1, ← hk]; exact kc, Xj d z.1 hm.2⟩
            · rw [if_neg z]
              obtain ⟨i, i1, i2, i3, i4⟩ := d5 (show 0 < plK (W c) from kk) d hd'
              obtain ⟨w1, w2⟩ := hW d i i4 (fun q => by
                rcases Int.lt_or_le d y with z2 | z2
                · exact z2
                · exact absurd ⟨z2, by rw [i1, q]⟩ z)
              exact ⟨i, i1, i2, by rw [w1]; exact i3, w2⟩
          · rw [cnt c]; exact d6
          · rw [QH] at hx
            rcases List.mem_append.mp hx with z | z
            · exact a4 x z
            · rw [List.mem_singleton.mp z]
              exact ⟨⟨by show 0 ≤ v; omega, vE.2⟩, ⟨(by decide : (0 : Int) ≤ 8), (by decide : (8 : Int) < 9)⟩, Or.inr ⟨by show (0 : Int) ≤ j; omega, by show (j : Int) < 10000; omega⟩⟩
          · obtain ⟨x1, ⟨u2, r2, x2⟩, x3, x4⟩ := a5 day l0 h0 h9
            have av := x3 v v1 vE.2
            have es : evFold day l0 (plH (tkP p j y (W c))) = (tlRep v p j (evFold day l0 (plH (W c))).1, (evFold day l0 (plH (W c))).2) := by
              rw [QH, evFold_s]
              unfold evStep
              rw [if_neg (show ¬ ((8 : Int) = 0) by decide), if_neg (show ¬ ((8 : Int) = 2) by decide), if_pos (show ((8 : Int) = 8) by decide), av, v4]
            rw [es, QT]
            refine ⟨tlRep_srt _ x1, tlRep_hdE ⟨u2, r2, x2⟩, fun d hd1 hd2 => ?_, x4⟩
            have hd1' : plF (W c) ≤ d := hd1
            rw [rep d hd1' hd2]
            have : tlAt (tlRep v p j (evFold day l0 (plH (W c))).1) d = if v ≤ d ∧ tlAt (evFold day l0 (plH (W c))).1 d = p then (j : Int) else tlAt (evFold day l0 (plH (W c))).1 d := by
              rw [x2]
              exact tlRep_at (by rw [← x2]; exact x1) hd1' hd2
            show tlAt (tlRep v p j (evFold day l0 (plH (W c))).1) d = _
            rw [this, x3 d hd1' hd2]
            by_cases z : tlAt (plT (W c)) d = p
            · by_cases z2 : v ≤ d
              · rw [if_pos ⟨z2, z⟩, if_pos ⟨by omega, z⟩]
              · rw [if_neg (fun q => z2 q.1)]
                by_cases z3 : y ≤ d
                · exact absurd z (v6 d hd1' z3 (by omega))
                · rw [if_neg (fun q => z3 q.1)]
            · rw [if_neg (fun q => z q.2), if_neg (fun q => z q.2)]
        · have Q : mrgW W p j y c = W c := by unfold mrgW; rw [if_neg e, if_neg e2, if_neg g]
          rw [Q]
          obtain ⟨-, f2⟩ := fst_n a1 a3 g
          refine ⟨a1, a2, pI3_keep a3 rfl rfl rfl rfl (Nat.le_refl _) (fun d hd => ⟨hd, ?_⟩) (cnt c) (fun d i hd hi hin hx => hW d i hx (fun z => ?_)), a4, a5⟩
          · rw [pPar_m, if_neg (fun z => (f2 d z.1 hd).2 z.2)]
          · rcases Int.lt_or_le d y with z2 | z2
            · exact z2
            · exact absurd (z ▸ hi) (f2 d z2 hd).2
  · intro e he
    rcases List.mem_append.mp he with z | z
    · exact h2 e z
    · rw [List.mem_singleton.mp z]
      exact ⟨⟨y0, hy.2⟩, ⟨by show (0 : Int) ≤ j; omega, by show (j : Int) < n; omega⟩, by show -1 - (p : Int) < n; omega, by show -1 - (-1 - (p : Int)) < n; omega⟩
  · obtain ⟨f1, f2, f3, f4, f5⟩ := F c
    have mg0 : 0 ≤ mg := by rw [h5]; omega
    by_cases e : c = p
    · subst e
      rw [if_pos rfl] at f4 f5
      rw [f4, f5, upF_s]
      refine ⟨by omega, ⟨j, rfl, hj, fun z => ?_⟩, mg0, by omega⟩
      rw [(F j).2.2.2.2, if_neg (fun q => hpj q.symm)] at z
      exact absurd jI z
    · rw [if_neg e] at f4 f5
      rw [f5] at hi
      obtain ⟨x1, ⟨i, i1, i2, i3⟩, x3, x4⟩ := h4 c hc hi
      rw [f4, f5, upF_o e]
      refine ⟨x1, ⟨i, i1, i2, fun z => ?_⟩, x3, by omega⟩
      by_cases e2 : i = p
      · rw [e2, upF_s]; exact x4
      · rw [upF_o e2]
        rw [(F i).2.2.2.2, if_neg e2] at z
        exact i3 z
  · have := bCt_up (f := fun c => decide (plI (W c) ≠ -5)) (g := fun c => decide (plI (mrgW W p j y c) ≠ -5)) (p := p) (decide_eq_false (fun z => z pI)) (decide_eq_true (by rw [(F p).2.2.2.2, if_pos rfl]; omega)) (fun q hq => by
      show decide (plI (mrgW W p j y q) ≠ -5) = decide (plI (W q) ≠ -5)
      rw [(F q).2.2.2.2, if_neg hq]) n
    rw [this, if_pos hp, h5]; rfl
end SPG
