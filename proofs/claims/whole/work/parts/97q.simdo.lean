
/-! an order, on both sides -/
def ccO (so : Int) : Int := if so = 0 then 102 else if so = 1 then 114 else if so = 2 then 109 else if so = 3 then 115 else if so = 4 then 103 else 99
def SimK (k : Nat) (b : Int → Int) (C : CWs) (NL : NLt) (PL : List (Int × Int × Int)) : Prop := SimB b (cn C) (cW C) (cmg C) (csp C) (cFN C) (cFO C) NL PL ∧ SimP (cn C) (cW C) (cmg C) NL PL ∧ SimF (cFN C) (cFO C) ∧ cn C ≤ 20 ∧ (cFO C).length ≤ 8 ∧ NL.length ≤ k ∧ PL.length ≤ k ∧ (cFN C).length ≤ k ∧ (0 ≤ csp C ∧ csp C ≤ k) ∧ ∀ p, p < cn C → (plT (cW C p)).length ≤ k + 1 ∧ (plH (cW C p)).length ≤ k + 3
theorem SimK_L {k : Nat} {b : Int → Int} {C : CWs} {NL : NLt} {PL : List (Int × Int × Int)} (h : SimK k b C NL PL) (hk : k ≤ 690) : SimL (cn C) (cFN C) (cFO C) NL PL := by
  obtain ⟨h1, h2, h3, h4, h5, h6, h7, h8, h9, h10⟩ := h
  exact ⟨h4, by omega, h5, by omega, by omega, fun e he => (h2.2.2.1 e he).1.2.2⟩
theorem SimP_ext {n : Nat} {W W' : Nat → Pl} {mg : Int} {NL : NLt} {PL : List (Int × Int × Int)} (h : ∀ c, c < n → W' c = W c) (hp : SimP n W mg NL PL) : SimP n W' mg NL PL := by
  obtain ⟨h1, h2, h3, ⟨τ, h4⟩, h5⟩ := hp
  refine ⟨fun p hpn => ?_, h2, h3, ⟨τ, fun p hpn hi => ?_⟩, ?_⟩
  · rw [h p hpn]
    obtain ⟨a1, a2, a3, a4, a5⟩ := h1 p hpn
    exact ⟨a1, a2, pI3_keep a3 rfl rfl rfl rfl (Nat.le_refl _) (fun d hd => ⟨hd, rfl⟩) rfl (fun d j _ _ jn hx => by rw [h j jn]; exact ⟨rfl, hx⟩), a4, a5⟩
  · rw [h p hpn] at hi ⊢
    obtain ⟨x1, ⟨j, j1, j2, j3⟩, x3⟩ := h4 p hpn hi
    exact ⟨x1, ⟨j, j1, j2, by rw [h j j2]; exact j3⟩, x3⟩
  · rw [h5]
    exact congrArg Int.ofNat (bCt_cg n (fun q hq => by rw [h q hq]))
section SDO
variable {S : RS} {k : Nat} {C : CWs} {NL : NLt} {PL : List (Int × Int × Int)}
theorem rNo_i {so a b y wd : Int} (h : SimK k (S 1) C NL PL) (hso : 0 ≤ so ∧ so ≤ 5) (hw : (so = 0 ∨ so = 1 ∨ so = 3) → wd ≠ 0) (ha : so = 0 → 0 ≤ a) : rNo S (ccO so) a b y PL.length (cn C) = cNo (cW C) (cn C) (so, a, b, y, wd) := by
  obtain ⟨hs, hp, -⟩ := h
  have hh : so = 0 ∨ so = 1 ∨ so = 2 ∨ so = 3 ∨ so = 4 ∨ so = 5 := by omega
  rcases hh with rfl | rfl | rfl | rfl | rfl | rfl
  · exact rNoF_i hs hp (ha rfl) (hw (Or.inl rfl))
  · have w := hw (Or.inr (Or.inl rfl))
    show rNoE S a y = if wd = 0 then 9 else cNoE (cW C) (cn C) a y
    rw [if_neg w]; exact rNoE_i hs hp
  · exact rNoM_i hs hp
  · have w := hw (Or.inr (Or.inr rfl))
    show rNoS S a y PL.length = if wd = 0 then 9 else cNoS (cW C) (cn C) a y
    rw [if_neg w]; exact rNoS_i hs hp
  · exact rNoG_i hs hp
  · exact rNoC_i hs hp
theorem upB {n : Nat} {W : Nat → Pl} {p : Nat} {Q : Pl} {k : Nat} (h : ∀ q, q < n → (plT (W q)).length ≤ k + 1 ∧ (plH (W q)).length ≤ k + 3) (hQ : (plT Q).length ≤ k + 2 ∧ (plH Q).length ≤ k + 4) : ∀ q, q < n → (plT (upF W p Q q)).length ≤ k + 1 + 1 ∧ (plH (upF W p Q q)).length ≤ k + 1 + 3 := fun q hq => by
  by_cases e : q = p
  · rw [e, upF_s]; omega
  · rw [upF_o e]; have := h q hq; omega
theorem sim_do {so a b y wd : Int} {ls : List Int} (h : SimK k (S 1) C NL PL) (hk : k ≤ 690) (hso : 0 ≤ so ∧ so ≤ 5) (hno : cNo (cW C) (cn C) (so, a, b, y, wd) = 0) (hw : (so = 0 ∨ so = 1 ∨ so = 3) → wd = (pkW ls : Nat) ∧ lOk ls ∧ S 0 9 = ls.length ∧ ∀ (i : Nat) (c : Int), ls[i]? = some c → S 3 i = c) (ha : so = 0 → 0 ≤ a ∧ a ≤ 3) : ∃ NL' PL', SimK (k + 1) (rOp S (ccO so) a b y PL.length (cn C) 1) (cDo C (so, a, b, y, wd)).1 NL' PL' ∧ rAn S (ccO so) a b y NL.length PL.length (cn C) = (cDo C (so, a, b, y, wd)).2 := by
  have hl := SimK_L h hk
  obtain ⟨hs, hp, h3, h4, h5, h6, h7, h8, h9, h10⟩ := h
  have hh : so = 0 ∨ so = 1 ∨ so = 2 ∨ so = 3 ∨ so = 4 ∨ so = 5 := by omega
  rcases hh with rfl | rfl | rfl | rfl | rfl | rfl
  · obtain ⟨rfl, w1, w2, w3⟩ := hw (Or.inl rfl)
    obtain ⟨n1, n2, n3, n4⟩ := cNo_0 hno
    have a0 := ha rfl
    have hn : cn C < 20 := by omega
    have hpar : 0 < a → ∃ j : Nat, b = j ∧ j < cn C ∧ plK (cW C j) < a ∧ plSt (cW C j) y = true := fun g => by
      obtain ⟨m1, m2, m3⟩ := n4 (by omega)
      refine ⟨b.toNat, by omega, by omega, m2, m3⟩
    have sb := SimB_fou (k := a) (par := b) (y := y) (ls := ls) hl hn (by omega) (by omega) w2 w1.2.2 w3 hs
    have sp := SimP_fou (k := a) (par := b) (y := y) (ls := ls) hp hn a0 ⟨by omega, by omega⟩ w1 hpar
    refine ⟨_, _, ⟨sb, sp, h3, by show cn C + 1 ≤ 20; omega, h5, by simp; omega, ?_, by show (cFN C).length ≤ k + 1; omega, ⟨h9.1, by show csp C ≤ ((k + 1 : Nat) : Int); have := h9.2; omega⟩, fun q hq => ?_⟩, rfl⟩
    · split
      · simp; omega
      · omega
    · have hq' : q < cn C + 1 := hq
      show (plT (upF (cW C) (cn C) (plNew a (if a = 0 then -5 else b) y (pkW ls : Nat)) q)).length ≤ k + 1 + 1 ∧ (plH (upF (cW C) (cn C) (plNew a (if a = 0 then -5 else b) y (pkW ls : Nat)) q)).length ≤ k + 1 + 3
      by_cases e : q = cn C
      · rw [e, upF_s]
        exact ⟨by show 1 ≤ k + 1 + 1; omega, by show 1 ≤ k + 1 + 3; omega⟩
      · rw [upF_o e]; have := h10 q (by omega); omega
  · obtain ⟨rfl, w1, w2, w3⟩ := hw (Or.inr (Or.inl rfl))
    obtain ⟨n1, n2⟩ := cNo_1 hno
    obtain ⟨p, rfl, hpn, hE, hy⟩ := cNoE_0i n1
    have sb := SimB_ren (p := p) (y := y) (ls := ls) hl hpn (by omega) w2 w1.2.2 w3 hs
    have sp := SimP_ren (p := p) (y := y) (ls := ls) hp hpn hE hy w1
    have wl : wdLen (pkW ls) 8 = ls.length := wdLen_pk w1.1 w1.2.2
    have e : (cDo C (1, (p : Int), b, y, ((pkW ls : Nat) : Int))) = cDoN (cW C) C.2 p y (pkW ls : Nat) := rfl
    have a1 := (hp.1 p hpn).1
    refine ⟨NL ++ [((p : Int), y, ls)], PL, ⟨?_, ?_, h3, h4, h5, by simp; omega, by omega, by show (cFN C).length ≤ k + 1; omega, ⟨h9.1, by show csp C ≤ ((k + 1 : Nat) : Int); have := h9.2; omega⟩, ?_⟩, ?_⟩
    · rw [e]; show SimB (rRen S p y 1) (cn C) (upF (cW C) p (plRem (plNam (cW C p) (y, ((pkW ls : Nat) : Int))) y 1 (wdLen ((pkW ls : Nat) : Int).toNat 8 : Nat))) _ _ _ _ _ _
      rw [Int.toNat_natCast, wl]; exact sb
    · rw [e]; show SimP (cn C) (upF (cW C) p (plRem (plNam (cW C p) (y, ((pkW ls : Nat) : Int))) y 1 (wdLen ((pkW ls : Nat) : Int).toNat 8 : Nat))) _ _ _
      rw [Int.toNat_natCast, wl]; exact sp
    · rw [e]
      refine upB h10 ⟨by have := h10 p hpn; show (plT (cW C p)).length ≤ k + 2; omega, ?_⟩
      have := h10 p hpn
      show (plH (cW C p) ++ [_]).length ≤ k + 4
      simp; omega
    · rw [e]
      exact nmLen_i hs hp hpn (by have := a1.2.2.1; omega)
  · obtain ⟨n1, n2, n3, n4⟩ := cNo_2 hno
    obtain ⟨p, rfl, hpn, hE, hy⟩ := cNoE_0i n1
    obtain ⟨j, rfl⟩ : ∃ j : Nat, b = j := ⟨b.toNat, by omega⟩
    rw [q_toN] at n3 n4
    rw [q_toN] at n3
    have hj : j < cn C := by omega
    have sp := SimP_mov (p := p) (j := j) (y := y) h4 hp hpn hj hE hy n3 n4
    have sb := SimB_mov (p := p) (y := y) (par := j) (X := plSg (plPar (cW C p) (tlPut (plT (cW C p)) y j)) (plG (cW C p) + 1)) hl hpn (by omega) ⟨rfl, rfl, rfl, rfl, rfl, rfl⟩ hs
    have e : (cDo C (2, (p : Int), (j : Int), y, wd)) = cDoM (cW C) C.2 p j y := rfl
    have hx := ex_of hp hpn hE hy
    refine ⟨NL, PL ++ [((p : Int), y, (j : Int))], ⟨by rw [e]; exact sb, by rw [e]; exact sp, h3, h4, h5, by omega, by simp; omega, by show (cFN C).length ≤ k + 1; omega, ⟨h9.1, by show csp C ≤ ((k + 1 : Nat) : Int); have := h9.2; omega⟩, ?_⟩, ?_⟩
    · rw [e]
      have := h10 p hpn
      refine upB h10 ⟨?_, ?_⟩
      · have t := tlPut_len (plT (cW C p)) y j
        show (tlPut (plT (cW C p)) y j).length ≤ k + 2
        omega
      · show (plH (cW C p) ++ [_]).length ≤ k + 4
        simp; omega
    · rw [e]
      exact rPar_i hs hp hpn hx
  · obtain ⟨rfl, w1, w2, w3⟩ := hw (Or.inr (Or.inr rfl))
    obtain ⟨n1, n2, n3, n4⟩ := cNo_3 hno
    obtain ⟨p, rfl, hpn, hE, hy⟩ := cNoE_0i n1
    rw [q_toN] at n4
    have hn : cn C < 20 := by omega
    have hx := ex_of hp hpn hE hy
    obtain ⟨a1, a2, a3, a4, a5⟩ := hp.1 p hpn
    have ep := a3.2.2.1 y hx
    obtain ⟨par, hpar⟩ : ∃ par, par = tlAt (plT (cW C p)) y := ⟨_, rfl⟩
    have er : rPar (S 1) p y PL.length = par := by rw [rPar_i hs hp hpn hx, hpar]
    have sb := SimB_spl (p := p) (y := y) (ls := ls) (N := PL.length) (k := plK (cW C p)) (par := par) hl hpn hn (by omega) (by omega) w2 w1.2.2 w3 rfl er (fun g => by rw [hpar, ep]; exact a3.2.2.2.1 g y hx) hs
    have sp := SimP_spl (p := p) (par := par) (y := y) (ls := ls) hp hpn hn hE hy w1 (by rw [hpar, ep]) (fun g j j1 j2 => by
      have := n4 ⟨by rw [← hpar]; omega, by rw [← hpar]; omega⟩
      rw [← hpar, j1, q_toN] at this
      exact this)
    have e : (cDo C (3, (p : Int), b, y, ((pkW ls : Nat) : Int))) = cDoP (cW C) (cn C) (cmg C) (csp C) C.2.2.2.2 p y (pkW ls : Nat) := rfl
    have eW : cSp (cW C) (cn C) p y (pkW ls : Nat) = upF (upF (cW C) (cn C) (plRem (plNew (plK (cW C p)) par y (pkW ls : Nat)) y 5 p)) p (plRem (cW C p) y 7 (cn C)) := by rw [hpar]; rfl
    refine ⟨NL ++ [((cn C : Int), y, ls)], (if 0 < plK (cW C p) then PL ++ [((cn C : Int), y, par)] else PL), ⟨?_, ?_, h3, by show cn C + 1 ≤ 20; omega, h5, ?_, ?_, by show (cFN C).length ≤ k + 1; omega, ⟨by show 0 ≤ csp C + 1; have := h9.1; omega, by show csp C + 1 ≤ ((k + 1 : Nat) : Int); have := h9.2; omega⟩, fun q hq => ?_⟩, ?_⟩
    rotate_left 2
    · show (NL ++ [((cn C : Int), y, ls)]).length ≤ k + 1
      simp; omega
    · show (if 0 < plK (cW C p) then PL ++ [((cn C : Int), y, par)] else PL).length ≤ k + 1
      split
      · simp; omega
      · omega
    · have hq' : q < cn C + 1 := hq
      rw [e]
      show (plT (cSp (cW C) (cn C) p y (pkW ls : Nat) q)).length ≤ k + 1 + 1 ∧ (plH (cSp (cW C) (cn C) p y (pkW ls : Nat) q)).length ≤ k + 1 + 3
      rw [eW]
      have := h10 p hpn
      by_cases e1 : q = p
      · rw [e1, upF_s]
        refine ⟨by show (plT (cW C p)).length ≤ k + 1 + 1; omega, ?_⟩
        show (plH (cW C p) ++ [_]).length ≤ k + 1 + 3
        simp; omega
      · rw [upF_o e1]
        by_cases e2 : q = cn C
        · rw [e2, upF_s]
          exact ⟨by show 1 ≤ k + 1 + 1; omega, by show 2 ≤ k + 1 + 3; omega⟩
        · rw [upF_o e2]; have := h10 q (by omega); omega
    · rw [e]; rfl
    · rw [e]
      show SimB (rSpl S p y PL.length 1) (cn C + 1) (cSp (cW C) (cn C) p y (pkW ls : Nat)) (cmg C) (csp C + 1) _ _ _ _
      rw [eW]; exact sb
    · rw [e]
      show SimP (cn C + 1) (cSp (cW C) (cn C) p y (pkW ls : Nat)) (cmg C) _ _
      rw [eW]; exact sp
  · obtain ⟨n1, n2, n3, n4, n5⟩ := cNo_4 hno
    obtain ⟨p, rfl, hpn, hE, hy⟩ := cNoE_0i n1
    obtain ⟨j, rfl⟩ : ∃ j : Nat, b = j := ⟨b.toNat, by omega⟩
    rw [q_toN] at n5
    rw [q_toN, q_toN] at n4
    have hj : j < cn C := by omega
    have hpj : p ≠ j := by omega
    have sp := SimP_mrg (p := p) (j := j) (y := y) h4 hp hpn hj hpj hE hy n4 n5
    obtain ⟨sb, sc⟩ := SimB_mrg (S := S) (p := p) (j := j) (y := y) hl (by omega) hp hpn hj hpj hE hy n4 hs
    have e : (cDo C (4, (p : Int), (j : Int), y, wd)) = cDoG (cW C) (cn C) (cmg C) (csp C) C.2.2.2.2 p j y := rfl
    have eW : ∀ c, c < cn C → cTk (cM2 (cW C) p j y) p j y 0 (cn C) (cM2 (cW C) p j y) c = mrgW (cW C) p j y c := fun c hc => (mrgW_e hp hpn hj hpj hE hy n4 hc).1
    refine ⟨NL, PL ++ [(-1 - (p : Int), y, (j : Int))], ⟨?_, ?_, h3, h4, h5, by omega, by simp; omega, by show (cFN C).length ≤ k + 1; omega, ⟨h9.1, by show csp C ≤ ((k + 1 : Nat) : Int); have := h9.2; omega⟩, fun q hq => ?_⟩, ?_⟩
    · rw [e]
      refine SimB_eq (fun c hc => ?_) sb
      show pEq (mrgW (cW C) p j y c) (cTk (cM2 (cW C) p j y) p j y 0 (cn C) (cM2 (cW C) p j y) c)
      rw [eW c hc]; exact pEq.rf
    · rw [e]
      exact SimP_ext (fun c hc => eW c hc) sp
    · rw [e]
      show (plT (cTk (cM2 (cW C) p j y) p j y 0 (cn C) (cM2 (cW C) p j y) q)).length ≤ k + 1 + 1 ∧ (plH (cTk (cM2 (cW C) p j y) p j y 0 (cn C) (cM2 (cW C) p j y) q)).length ≤ k + 1 + 3
      rw [eW q hq]
      have := h10 q hq
      unfold mrgW
      split
      · rename_i g
        rw [← g]
        refine ⟨by show (plT (cW C q)).length ≤ k + 1 + 1; omega, ?_⟩
        show (plH (cW C q) ++ [_]).length ≤ k + 1 + 3
        simp; omega
      · split
        · rename_i g
          rw [← g]
          refine ⟨by show (plT (cW C q)).length ≤ k + 1 + 1; omega, ?_⟩
          show (plH (cW C q) ++ [_]).length ≤ k + 1 + 3
          simp; omega
        · split
          · have t := tlRep_len1 (day := y) (old := p) (par := j) (plT (cW C q)) (hp.1 q hq).2.2.1.1
            refine ⟨by show (tlRep y p j (plT (cW C q))).length ≤ k + 1 + 1; omega, ?_⟩
            show (plH (cW C q) ++ [_]).length ≤ k + 1 + 3
            simp; omega
          · omega
    · rw [e]
      exact congrArg Int.ofNat sc
  · obtain ⟨n1, n2⟩ := cNo_5 hno
    obtain ⟨p, rfl, hpn, hE, hy⟩ := cNoE_0i n1
    have a1 := (hp.1 p hpn).1
    have y0 : 0 ≤ y := by have := a1.2.1; have := a1.2.2.1; omega
    have sb := SimB_clo (p := p) (y := y) hl hpn (by omega) hs
    have sp := SimP_clo (p := p) (y := y) hp hpn hE hy (fun c hc d hd hx hz => by
      obtain ⟨c1, c2, c3, c4, c5⟩ := hp.1 c hc
      by_cases g : 0 ≤ tlFst p y (plEnd (cW C c)) (plT (cW C c))
      · exact n2 (List.any_eq_true.mpr ⟨c, List.mem_range.mpr hc, decide_eq_true g⟩)
      · exact ((fst_n c1 c3 g).2 d hd hx).2 hz)
    have e : (cDo C (5, (p : Int), b, y, wd)) = cDoC (cW C) C.2 p y := rfl
    refine ⟨NL, PL, ⟨by rw [e]; exact sb, by rw [e]; exact sp, h3, h4, h5, by omega, by omega, by show (cFN C).length ≤ k + 1; omega, ⟨h9.1, by show csp C ≤ ((k + 1 : Nat) : Int); have := h9.2; omega⟩, ?_⟩, ?_⟩
    · rw [e]
      have := h10 p hpn
      refine upB h10 ⟨by show (plT (cW C p)).length ≤ k + 2; omega, ?_⟩
      show (plH (cW C p) ++ [_]).length ≤ k + 4
      simp; omega
    · rw [e]
      show y - S 1 (15 + 78 * (p : Int) + 1) = y - plF (cW C p)
      rw [(hs.2.2.2.2.2.2.2.2.2.1 p hpn).2.1]
end SDO
