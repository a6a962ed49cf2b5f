
/-! both sides side by side -/
def REL (S : RS) (J J2 : List Od) (ms : List Int) (hs lr : Int) (hl : List Nat) (tl pp : List Int) : Prop := RG S ∧ RJ J (S 1) ∧ MRK S J ms ∧ (S 0 2 = hs ∧ (hs = 0 ∨ hs = 1)) ∧ (hs = 1 → RJ J2 (bk S 7)) ∧ S 0 7 = lr ∧ (S 0 13 = hl.length ∧ hl.length ≤ 20 ∧ ∀ (i v : Nat), hl[i]? = some v → S 5 i = v) ∧ TPr S tl ∧ (S 0 16 = pp.length ∧ pp.length ≤ 384 ∧ ∀ (i : Nat) (v : Int), pp[i]? = some v → S 7 i = v)
def pot (c1 c2 c3 : Nat) (cN cT c : Nat → Nat) (cR cP : Nat) : Nat := c1 + c2 + c3 + poS cN cT c + cR + cP
def JI (m t0 k : Nat) (X : QM) : Prop := ∃ (S : RS) (g cN cT c : Nat → Nat) (e1 c1 : Nat) (L1 : List Nat) (e2 c2 : Nat) (L2 : List Nat) (e3 c3 eP cP cR : Nat) (f : Nat → Int) (l0 : List (Int × Int)) (W0 : Nat → Pl) (J J2 : List Od) (ms : List Int) (hs lr : Int) (hl : List Nat) (tl pp : List Int), CLX m t0 X g cN cT c e1 c1 L1 e2 c2 L2 e3 c3 eP cP cR f l0 (cRun (C0 W0) J) J J2 ms hs lr hl tl pp ∧ CBg W0 ∧ ov m S X = X ∧ RK m X ∧ REL S J J2 ms hs lr hl tl pp ∧ (5 * J.length + tl.length ≤ 5 * k ∧ 5 * J2.length + tl.length ≤ 5 * k) ∧ q_nc X + 212 ≤ 252 + pot c1 c2 c3 cN cT c cR cP + 82 * k ∧ q_ns X + 848 ≤ 125221 + 4 * pot c1 c2 c3 cN cT c cR cP + 410 * k
/-- one call of the law, on both sides -/
def STP (m t0 k : Nat) (X : QM) (ic ir : Nat) (as : List CV) : Prop := ∃ (v : Int) (X1 X2 : QM), q_i32 v ∧ q_C 1000 ic (qr t0 :: as) X (some (qi v)) X1 ∧ q_C 1000 ir (qr m :: as) X1 (some (qi v)) X2 ∧ JI m t0 (k + 1) X2 ∧ q_fr (fun x => t0 ≤ x) X X2 ∧ RK m X1 ∧ q_fr (fun x => t0 ≤ x) X X1
section REL1
variable {m t0 k ic ir : Nat} {X X1 : QM} {S T : RS} {g g' cN cT c cN' cT' c' : Nat → Nat} {e1 c1 e2 c2 e3 c3 eP cP cR e1' c1' e2' c2' e3' c3' eP' cP' cR' : Nat} {L1 L2 L1' L2' : List Nat} {f f' : Nat → Int} {l0 l0' : List (Int × Int)} {C C' : CWs} {W0 W0' : Nat → Pl} {J J2 J' J2' : List Od} {ms ms' : List Int} {hs lr hs' lr' : Int} {hl hl' : List Nat} {tl pp tl' pp' : List Int} {as : List CV} {v : Int}
theorem REL_mk (h : REL S J J2 ms hs lr hl tl pp) (hJ2 : J2.length ≤ 600) (hR : RG T) (hJ : RJ J' (T 1)) (hM : MRK T J' ms') (h2 : T 0 2 = S 0 2) (h7 : ∀ j : Int, 13475 * 7 ≤ j → j < 13475 * 8 → T 1 j = S 1 j) (hlr : T 0 7 = lr') (h13 : T 0 13 = S 0 13) (h5 : T 5 = S 5) (hT : TPr T tl') (h16 : T 0 16 = S 0 16) (h7' : T 7 = S 7) : REL T J' J2 ms' hs lr' hl tl' pp := by
  obtain ⟨a1, a2, a3, ⟨a4, a4'⟩, a5, a6, ⟨a7, a8, a9⟩, a10, a11, a12, a13⟩ := h
  exact ⟨hR, hJ, hM, ⟨by rw [h2, a4], a4'⟩, fun z => RJ_c (a5 z) hJ2 (fun j j0 j1 => h7 _ (by omega) (by omega)), hlr, ⟨by rw [h13, a7], a8, fun i v hv => by rw [h5]; exact a9 i v hv⟩, hT, by rw [h16, a11], a12, fun i v hv => by rw [h7']; exact a13 i v hv⟩
/-- what the class did and what the reference did, put together -/
theorem STP_mk (hX : CLX m t0 X g cN cT c e1 c1 L1 e2 c2 L2 e3 c3 eP cP cR f l0 C J J2 ms hs lr hl tl pp) (hov : ov m S X = X) (hK : RK m X) (r1 : q_nc X + 212 ≤ 252 + pot c1 c2 c3 cN cT c cR cP + 82 * k) (r2 : q_ns X + 848 ≤ 125221 + 4 * pot c1 c2 c3 cN cT c cR cP + 410 * k) (hc : q_C 1000 ic (qr t0 :: as) X (some (qi v)) X1) (hX1 : CLX m t0 X1 g' cN' cT' c' e1' c1' L1' e2' c2' L2' e3' c3' eP' cP' cR' f' l0' (cRun (C0 W0') J') J' J2' ms' hs' lr' hl' tl' pp') (hF : FO m t0 X X1) (hg : q_nc X1 + pot c1 c2 c3 cN cT c cR cP ≤ q_nc X + pot c1' c2' c3' cN' cT' c' cR' cP' + 82 ∧ q_ns X1 + 4 * pot c1 c2 c3 cN cT c cR cP ≤ q_ns X + 4 * pot c1' c2' c3' cN' cT' c' cR' cP' + 410) (hr : ∀ P : QP, q_T 1000 ir (qr m :: as) (ov m S X1) P = P (some (qi v)) (ov m T X1)) (hREL : REL T J' J2' ms' hs' lr' hl' tl' pp') (hW : CBg W0') (hb : 5 * J'.length + tl'.length ≤ 5 * (k + 1) ∧ 5 * J2'.length + tl'.length ≤ 5 * (k + 1)) (hv : q_i32 v) : STP m t0 k X ic ir as := by
  have hO := hX.2.2.2.2.2.2.2.2
  have hm : m + 8 ≤ q_top X := hO.2.2.2.2.2.2.2.1
  have tm : t0 ≤ m := hO.2.2.2.2.2.2.2.2.1
  have hK1 := FO_RK hF hm hK
  have e1 := FO_ov hF hm hov
  refine ⟨v, X1, ov m T X1, hv, hc, ?_, ⟨T, g', cN', cT', c', e1', c1', L1', e2', c2', L2', e3', c3', eP', cP', cR', f', l0', W0', J', J2', ms', hs', lr', hl', tl', pp', CLX_ov hK1 hX1, hW, ov_ov, hK1, hREL, hb, ?_, ?_⟩, ?_, hK1, hF.wk (fun x _ z => z.1)⟩
  · have := C_of hr
    rw [e1] at this
    exact this
  · rw [q_nc_ov]; omega
  · rw [q_ns_ov]; omega
  · refine (hF.wk (fun x _ z => z.1)).tr ⟨Nat.le_refl _, rfl, fun _ _ => rfl, fun b _ hb j => ov_fo ?_⟩
    have : ¬ t0 ≤ b := hb
    omega
/-- calls that only read -/
theorem STP_ro (hX : CLX m t0 X g cN cT c e1 c1 L1 e2 c2 L2 e3 c3 eP cP cR f l0 (cRun (C0 W0) J) J J2 ms hs lr hl tl pp) (hW : CBg W0) (hov : ov m S X = X) (hK : RK m X) (hREL : REL S J J2 ms hs lr hl tl pp) (hb : 5 * J.length + tl.length ≤ 5 * k ∧ 5 * J2.length + tl.length ≤ 5 * k) (r1 : q_nc X + 212 ≤ 252 + pot c1 c2 c3 cN cT c cR cP + 82 * k) (r2 : q_ns X + 848 ≤ 125221 + 4 * pot c1 c2 c3 cN cT c cR cP + 410 * k) (hc : ∀ P : QP, q_T 1000 ic (qr t0 :: as) X P = P (some (qi v)) X) (hr : ∀ P : QP, q_T 1000 ir (qr m :: as) (ov m S X) P = P (some (qi v)) (ov m S X)) (hv : q_i32 v) : STP m t0 k X ic ir as :=
  STP_mk hX hov hK r1 r2 (C_of hc) hX q_fr.rf ⟨by omega, by omega⟩ hr hREL hW ⟨by omega, by omega⟩ hv
/-- the world of the class and the block of the reference -/
theorem REL_W (h : RJ J (S 1)) (hk : J.length ≤ 600) (hW : CBg W0) : ∃ NL PL, SimK J.length (S 1) (cRun (C0 W0) J) NL PL ∧ CB (cRun (C0 W0) J) := by
  obtain ⟨NL, PL, k1, g1⟩ := h.1 W0
  exact ⟨NL, PL, k1, SimK_CB k1 hk g1 hW⟩
theorem RG_rOp2 {cc a b y : Int} {n N NP : Nat} (hR : RG S) (hw : cc = 102 ∨ cc = 114 ∨ cc = 115 → ∃ w : Nat, S 0 9 = w ∧ w ≤ 8) (hb : RB S n N NP) (hN : N < 700) (hNP : NP < 700) (hs5 : S 1 5 ≤ 1000000) (hs6 : S 1 6 ≤ 1000000) (hc : cOk cc a b y) (g : rNo S cc a b y NP n = 0) : RG (rOp S cc a b y NP n) ∧ ∀ j : Int, 13475 ≤ j → rOp S cc a b y NP n 1 j = S 1 j := by
  by_cases gw : cc = 102 ∨ cc = 114 ∨ cc = 115
  · obtain ⟨w, w1, w2⟩ := hw gw
    exact ⟨RG_rOp hR w1 w2 hb hN hNP hs5 hs6 hc g, fun j hj => rOp_hi hj (by omega) hb hN hNP hc.2 g⟩
  · -- the word's length is of no matter
    obtain ⟨hn, hn2, x1, x2, b5, b6, b7, b8, b9, b10, b11⟩ := hb
    obtain ⟨-, rc⟩ := hc
    have hE : rNoE S a y = 0 → (0 ≤ a ∧ a < n) ∧ (-1000000 ≤ y ∧ y ≤ 1000000) ∧ 0 ≤ S 1 (15 + 78 * a + 5) ∧ S 1 (15 + 78 * a + 5) ≤ 100000 := by
      intro h
      obtain ⟨f1, f2, f3, f4, f5⟩ := rNoE_0 h
      have h5 := b5 a (by omega) (by omega)
      have h4 := b11 a (by omega) (by omega)
      exact ⟨by omega, by omega, h5⟩
    have hh : cc = 109 ∨ cc = 103 ∨ cc = 99 := by omega
    rcases hh with rfl | rfl | rfl
    · have g' : rNoM S a b y = 0 := g
      obtain ⟨f1, f2, f3, f4, f5⟩ := rNoM_0 g'
      obtain ⟨h1, h2, h3, h4⟩ := hE f3
      refine ⟨?_, fun j hj => ?_⟩
      · show RG (rMov S a b y)
        unfold rMov
        refine RG_rHap (RG_up (RG_rTell hR (by omega) h2 (by omega) (by omega)) (by omega) (by omega)) h2 (by omega) (by omega) ?_
        rw [up_j (by omega), rTell_o (by omega) (by omega)]; omega
      · show rMov S a b y 1 j = _
        unfold rMov
        rw [rHap_hi (by omega) hj, up_j (by omega), rTell_hi (by omega) hj]
    · have g' : rNoG S a b y = 0 := g
      obtain ⟨f1, f2, f3, f4, f5, f6⟩ := rNoG_0 g'
      obtain ⟨h1, h2, h3, h4⟩ := hE f4
      refine ⟨(RG_rMrg hR hn hn2 x2 hNP (by omega) (by omega) h2 b5 b6 b7 hs5).1, fun j hj => ?_⟩
      have z5 : ∀ q : Nat, q < 20 → 0 ≤ rM0 S a b y 1 (15 + 78 * (q : Int) + 5) := fun q hq => by
        have w1 : ∀ q : Int, 0 ≤ q → q < 20 → 0 ≤ up S 1 (15 + 78 * a + 4) y 1 (15 + 78 * q + 5) := fun q h1 h2 => by rw [up_j (by omega)]; exact (b5 q h1 h2).1
        have w2 : ∀ q : Int, 0 ≤ q → q < 20 → 0 ≤ rHap (up S 1 (15 + 78 * a + 4) y) a y 3 b 1 (15 + 78 * q + 5) := fun q h1 h2 => by
          by_cases e : q = a
          · rw [e, rHap_5 (w1 a (by omega) (by omega))]; have := w1 a (by omega) (by omega); omega
          · rw [rHap_o (w1 a (by omega) (by omega)) (by omega)]; exact w1 q h1 h2
        unfold rM0
        by_cases e : (q : Int) = b
        · rw [e, rHap_5 (w2 b (by omega) (by omega))]; have := w2 b (by omega) (by omega); omega
        · rw [rHap_o (w2 b (by omega) (by omega)) (by omega)]; exact w2 q (by omega) (by omega)
      have z2 : rM0 S a b y 1 2 = S 1 2 := by
        have y1 : 0 ≤ up S 1 (15 + 78 * a + 4) y 1 (15 + 78 * a + 5) := by rw [up_j (by omega)]; exact (b5 a (by omega) (by omega)).1
        have y2 : 0 ≤ rHap (up S 1 (15 + 78 * a + 4) y) a y 3 b 1 (15 + 78 * b + 5) := by rw [rHap_o y1 (by omega), up_j (by omega)]; exact (b5 b (by omega) (by omega)).1
        unfold rM0
        rw [rHap_o y2 (by omega), rHap_o y1 (by omega), up_j (by omega)]
      show rMrg S a b y NP n 1 j = _
      unfold rMrg
      dsimp only
      rw [up_j (by omega), rTell_hi (by rw [up_j (by omega), up_j (by omega), (rMl_2 z5 n hn2).1, z2]; omega) hj, up_j (by omega), up_j (by omega), rMl_hi hj n hn2]
      unfold rM0
      rw [rHap_hi (by omega) hj, rHap_hi (by omega) hj, up_j (by omega)]
    · have g' : rNoC S a y NP n = 0 := g
      obtain ⟨f1, f2⟩ := rNoC_0 g'
      obtain ⟨h1, h2, h3, h4⟩ := hE f1
      refine ⟨?_, fun j hj => ?_⟩
      · show RG (rClo S a y)
        unfold rClo
        refine RG_rHap (RG_up (RG_up hR (by omega) (by omega)) (by omega) (by omega)) h2 (by omega) (by omega) ?_
        rw [up_j (by omega), up_j (by omega)]; omega
      · show rClo S a y 1 j = _
        unfold rClo
        rw [rHap_hi (by omega) hj, up_j (by omega), up_j (by omega)]
/-- an order that the reference carries out is one that the class carries out -/
theorem RJ_op {U : RS} {n NP : Nat} {so a b y wd : Int} {ls : List Int} (hJ : RJ J (U 1)) (hk : J.length ≤ 600) (hn : U 1 0 = n) (hP : U 1 2 = NP) (hso : 0 ≤ so ∧ so ≤ 5) (hno : rNo U (ccO so) a b y NP n = 0) (hw : (so = 0 ∨ so = 1 ∨ so = 3) → wd = (pkW ls : Nat) ∧ lOk ls ∧ U 0 9 = ls.length ∧ ∀ (i : Nat) (c : Int), ls[i]? = some c → U 3 i = c) (hwd : (so = 0 ∨ so = 1 ∨ so = 3) → wd ≠ 0) (ha : so = 0 → 0 ≤ a ∧ a ≤ 3) : RJ (J ++ [(so, a, b, y, wd)]) (rOp U (ccO so) a b y NP n 1) ∧ ∀ C NL PL, SimK J.length (U 1) C NL PL → cwh C (so, a, b, y, wd) = 0 ∧ rAn U (ccO so) a b y NL.length NP n = (cDo C (so, a, b, y, wd)).2 := by
  have hst : ∀ C NL PL, SimK J.length (U 1) C NL PL → cn C = n ∧ PL.length = NP ∧ cwh C (so, a, b, y, wd) = 0 := fun C NL PL h => by
    have q1 : cn C = n := by have := h.1.1; omega
    have q2 : PL.length = NP := by have := h.1.2.2.1.1; omega
    refine ⟨q1, q2, ?_⟩
    have := rNo_i (wd := wd) (b := b) (y := y) h hso hwd (fun z => (ha z).1)
    rw [q1, q2] at this
    show cNo (cW C) (cn C) _ = 0
    rw [q1, ← this]; exact hno
  refine ⟨RJ_step hJ hk (fun C NL PL h => ?_), fun C NL PL h => ?_⟩
  · obtain ⟨q1, q2, q3⟩ := hst C NL PL h
    obtain ⟨NL', PL', s1, -⟩ := sim_do h (by omega) hso q3 hw ha
    rw [q1, q2] at s1
    exact ⟨Or.inl ⟨hso, q3, fun z => ha z⟩, NL', PL', s1⟩
  · obtain ⟨q1, q2, q3⟩ := hst C NL PL h
    obtain ⟨NL', PL', -, s2⟩ := sim_do h (by omega) hso q3 hw ha
    rw [q1, q2] at s2
    exact ⟨q3, s2⟩
end REL1
