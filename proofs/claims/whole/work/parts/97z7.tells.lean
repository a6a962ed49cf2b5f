
/-! orders told, on both sides -/
theorem SimK_c {k : Nat} {b b' : Int → Int} {C : CWs} {NL : NLt} {PL : List (Int × Int × Int)} (h : SimK k b C NL PL) (hk : k ≤ 690) (e : ∀ j : Int, 0 ≤ j → j < 13475 → b' j = b j) : SimK k b' C NL PL := ⟨SimB_c (SimK_L h hk) e h.1, h.2⟩
theorem TPr_c {S T : RS} {l : List Int} (h : TPr S l) (h4 : T 0 4 = S 0 4) (h2 : T 2 = S 2) : TPr T l := by
  obtain ⟨a1, a2, a3, a4⟩ := h
  exact ⟨by rw [h4, a1], a2, fun i v hv => by rw [h2]; exact a3 i v hv, a4⟩
theorem TPr_0 {S : RS} (h4 : S 0 4 = 0) : TPr S [] := ⟨by rw [h4]; rfl, by simp, fun i v hv => by simp at hv, fun v hv => by simp at hv⟩
section TEL
variable {m t0 k ic ir : Nat} {X X1 : QM} {S T U : RS} {g g' cN cT c cN' cT' c' : Nat → Nat} {e1 c1 e2 c2 e3 c3 eP cP cR e1' c1' e2' c2' e3' c3' eP' cP' cR' : Nat} {L1 L2 L1' L2' : List Nat} {f f' : Nat → Int} {l0 l0' : List (Int × Int)} {C C' : CWs} {W0 W0' : Nat → Pl} {J J2 J' J2' : List Od} {ms ms' : List Int} {hs lr hs' lr' : Int} {hl hl' : List Nat} {tl pp tl' pp' : List Int} {as : List CV} {v : Int}
theorem MRK_e (h : MRK S J ms) (hk : J.length ≤ 600) (e1 : U 1 = S 1) (e0 : U 0 1 = S 0 1) : MRK U J ms := by
  have := MRK_c (os := []) hk h e0 (fun j _ _ => by rw [e1])
  rw [List.append_nil] at this
  exact this
/-- a refusal changes the reason -/
theorem REL_no {r : Int} (h : REL S J J2 ms hs lr hl tl pp) (hJ : J.length ≤ 600) (hJ2 : J2.length ≤ 600) (e1 : U 1 = S 1) (e0 : ∀ j, j ≠ 4 → j ≠ 5 → j ≠ 6 → j ≠ 9 → U 0 j = S 0 j) (e5 : U 5 = S 5) (e7 : U 7 = S 7) (hT : TPr U tl') (RU : RG U) (h1 : -2147483648 ≤ r) (h2 : r < 2147483648) : REL (up U 0 7 r) J J2 ms hs r hl tl' pp := by
  refine REL_mk h hJ2 (RG_up RU h1 h2) (by rw [up_k (by omega), e1]; exact h.2.1) (MRK_e h.2.2.1 hJ (by rw [up_k (by omega), e1]) (by rw [up_j (by omega), e0 1 (by omega) (by omega) (by omega) (by omega)])) (by rw [up_j (by omega), e0 2 (by omega) (by omega) (by omega) (by omega)]) (fun j _ _ => by rw [up_k (by omega), e1]) up_s (by rw [up_j (by omega), e0 13 (by omega) (by omega) (by omega) (by omega)]) (by rw [up_k (by omega), e5]) (TPr_c hT (up_j (by omega)) (up_k (by omega))) (by rw [up_j (by omega), e0 16 (by omega) (by omega) (by omega) (by omega)]) (by rw [up_k (by omega), e7])
theorem REL_same (h : REL S J J2 ms hs lr hl tl pp) (hJ : J.length ≤ 600) (hJ2 : J2.length ≤ 600) (e1 : U 1 = S 1) (e0 : ∀ j, j ≠ 4 → j ≠ 5 → j ≠ 6 → j ≠ 9 → U 0 j = S 0 j) (e5 : U 5 = S 5) (e7 : U 7 = S 7) (hT : TPr U tl') (RU : RG U) : REL U J J2 ms hs lr hl tl' pp := by
  refine REL_mk h hJ2 RU (by rw [e1]; exact h.2.1) (MRK_e h.2.2.1 hJ e1 (e0 1 (by omega) (by omega) (by omega) (by omega))) (e0 2 (by omega) (by omega) (by omega) (by omega)) (fun j _ _ => by rw [e1]) ?_ (e0 13 (by omega) (by omega) (by omega) (by omega)) e5 hT (e0 16 (by omega) (by omega) (by omega) (by omega)) e7
  rw [e0 7 (by omega) (by omega) (by omega) (by omega)]; exact h.2.2.2.2.2.1
/-- what the reference tells changes as what the class tells -/
theorem REL_upd {V : RS} (h : REL S J J2 ms hs lr hl tl pp) (hJ : J.length ≤ 511) (hJ2 : J2.length ≤ 600) (e1 : U 1 = S 1) (e0 : ∀ j, j ≠ 4 → j ≠ 5 → j ≠ 6 → j ≠ 9 → U 0 j = S 0 j) (e5 : U 5 = S 5) (e7 : U 7 = S 7) (hT : TPr U tl') (RT : RG T) (ek : ∀ k, k ≠ 1 → T k = rKeep U k) (eh : ∀ j : Int, 13475 ≤ j → T 1 j = rKeep U 1 j) (hJ' : RJ (J ++ J') (T 1)) : REL T (J ++ J') J2 (kpM ms J.length) hs lr hl tl' pp := by
  have hM := h.2.2.1
  have z0 : ∀ j : Int, j ≠ 4 → j ≠ 5 → j ≠ 6 → j ≠ 9 → j ≠ 1 → T 0 j = S 0 j := fun j h4 h5 h6 h9 h1 => by rw [ek 0 (by omega), rKeep_0 h1, e0 j h4 h5 h6 h9]
  have c0 : 0 ≤ U 0 1 ∧ U 0 1 ≤ 6 := by rw [e0 1 (by omega) (by omega) (by omega) (by omega)]; have := hM.1; have := hM.2.1; omega
  have hMU : MRK U J ms := MRK_e hM (by omega) e1 (e0 1 (by omega) (by omega) (by omega) (by omega))
  have hMK := MRK_keep (by omega) (by rw [e1]; exact h.2.1) hMU
  refine REL_mk h hJ2 RT hJ' (MRK_c (by omega) hMK (by rw [ek 0 (by omega)]) (fun j j0 _ => eh j j0)) (z0 2 (by omega) (by omega) (by omega) (by omega) (by omega)) (fun j j0 _ => by rw [eh j (by omega), rKeep_7 c0 j0, e1]) ?_ (z0 13 (by omega) (by omega) (by omega) (by omega) (by omega)) (by rw [ek 5 (by omega), rKeep_k (by omega) (by omega), e5]) (TPr_c hT (by rw [ek 0 (by omega), rKeep_0 (by omega)]) (by rw [ek 2 (by omega), rKeep_k (by omega) (by omega)])) (z0 16 (by omega) (by omega) (by omega) (by omega) (by omega)) (by rw [ek 7 (by omega), rKeep_k (by omega) (by omega), e7])
  rw [z0 7 (by omega) (by omega) (by omega) (by omega) (by omega)]; exact h.2.2.2.2.2.1
theorem ccO_c {so a b y : Int} (hso : 0 ≤ so ∧ so ≤ 5) (ha : so = 0 → 0 ≤ a ∧ a ≤ 3) : cOk (ccO so) a b y ∧ (ccO so = 102 ∨ ccO so = 114 ∨ ccO so = 115 → so = 0 ∨ so = 1 ∨ so = 3) := by
  have hh : so = 0 ∨ so = 1 ∨ so = 2 ∨ so = 3 ∨ so = 4 ∨ so = 5 := by omega
  rcases hh with rfl | rfl | rfl | rfl | rfl | rfl
  · exact ⟨⟨fun _ => ha rfl, Or.inl rfl⟩, fun _ => Or.inl rfl⟩
  · exact ⟨⟨fun z => absurd z (by decide), by decide⟩, fun _ => by decide⟩
  · exact ⟨⟨fun z => absurd z (by decide), by decide⟩, fun z => absurd z (by decide)⟩
  · exact ⟨⟨fun z => absurd z (by decide), by decide⟩, fun _ => by decide⟩
  · exact ⟨⟨fun z => absurd z (by decide), by decide⟩, fun z => absurd z (by decide)⟩
  · exact ⟨⟨fun z => absurd z (by decide), by decide⟩, fun z => absurd z (by decide)⟩
theorem REL_tell {n NP : Nat} {so a b y wd : Int} {ls : List Int} (h : REL S J J2 ms hs lr hl tl pp) (hJ : J.length ≤ 511) (hJ2 : J2.length ≤ 600) (hW : CBg W0) (e1 : U 1 = S 1) (e0 : ∀ j, j ≠ 4 → j ≠ 5 → j ≠ 6 → j ≠ 9 → U 0 j = S 0 j) (e5 : U 5 = S 5) (e7 : U 7 = S 7) (hT : TPr U tl') (RU : RG U) (hn : S 1 0 = n) (hP : S 1 2 = NP) (hso : 0 ≤ so ∧ so ≤ 5) (hno : rNo U (ccO so) a b y NP n = 0) (hw : (so = 0 ∨ so = 1 ∨ so = 3) → wd = (pkW ls : Nat) ∧ lOk ls ∧ U 0 9 = ls.length ∧ ∀ (i : Nat) (c : Int), ls[i]? = some c → U 3 i = c) (hwd : (so = 0 ∨ so = 1 ∨ so = 3) → wd ≠ 0) (ha : so = 0 → 0 ≤ a ∧ a ≤ 3) : REL (rOp (rKeep U) (ccO so) a b y NP n) (J ++ [(so, a, b, y, wd)]) J2 (kpM ms J.length) hs lr hl tl' pp ∧ ∀ C NL PL, SimK J.length (S 1) C NL PL → cwh C (so, a, b, y, wd) = 0 ∧ rAn (rKeep U) (ccO so) a b y NL.length NP n = (cDo C (so, a, b, y, wd)).2 := by
  have hM := h.2.2.1
  have c0 : 0 ≤ U 0 1 ∧ U 0 1 ≤ 6 := by rw [e0 1 (by omega) (by omega) (by omega) (by omega)]; have := hM.1; have := hM.2.1; omega
  have RV := RG_rKeep RU c0
  have kb : ∀ j : Int, j < 13475 → rKeep U 1 j = S 1 j := fun j hj => by rw [rKeep_b c0.1 hj, e1]
  obtain ⟨NL0, PL0, k0, -⟩ := REL_W h.2.1 (by omega) hW
  have kU : SimK J.length (U 1) (cRun (C0 W0) J) NL0 PL0 := by rw [e1]; exact k0
  have kV := SimK_c k0 (by omega) (fun j _ hj => kb j hj)
  have q1 : cn (cRun (C0 W0) J) = n := by have := k0.1.1; omega
  have q2 : PL0.length = NP := by have := k0.1.2.2.1.1; omega
  have hnoV : rNo (rKeep U) (ccO so) a b y NP n = 0 := by
    have x1 := rNo_i (a := a) (b := b) (y := y) kV hso hwd (fun z => (ha z).1)
    have x2 := rNo_i (a := a) (b := b) (y := y) kU hso hwd (fun z => (ha z).1)
    rw [q1, q2] at x1 x2
    rw [x1, ← x2]; exact hno
  have hbV := SimK_RB kV (by omega)
  rw [q1, q2] at hbV
  obtain ⟨hcO, hcw⟩ := ccO_c (b := b) (y := y) hso ha
  obtain ⟨-, hp, -, n20, -, nl, pl, -, csp1, -⟩ := id kV
  have s5 : rKeep U 1 5 ≤ 1000000 := by
    rw [kV.1.2.2.2.2.2.1]
    have := hp.2.2.2.2
    have := bCt_le (fun p => decide (plI (cW (cRun (C0 W0) J) p) ≠ -5)) (cn (cRun (C0 W0) J))
    omega
  have s6 : rKeep U 1 6 ≤ 1000000 := by
    rw [kV.1.2.2.2.2.2.2.1]; omega
  have u9 : rKeep U 0 9 = U 0 9 := rKeep_0 (by omega)
  have u3 : rKeep U 3 = U 3 := rKeep_k (by omega) (by omega)
  obtain ⟨RT, hi⟩ := RG_rOp2 RV (fun z => ⟨ls.length, by rw [u9]; exact (hw (hcw z)).2.2.1, (hw (hcw z)).2.1.2.2⟩) hbV (by omega) (by omega) s5 s6 hcO hnoV
  have hJV : RJ J (rKeep U 1) := RJ_c h.2.1 (by omega) (fun j _ hj => kb j hj)
  obtain ⟨j1, j2⟩ := RJ_op (U := rKeep U) (wd := wd) (ls := ls) hJV (by omega) (by rw [kb _ (by omega), hn]) (by rw [kb _ (by omega), hP]) hso hnoV (fun z => by rw [u9, u3]; exact hw z) hwd ha
  exact ⟨REL_upd (V := S) h hJ hJ2 e1 e0 e5 e7 hT RT (fun k hk => rOp_k hk) hi j1, fun C NL PL hC => j2 C NL PL (SimK_c hC (by omega) (fun j _ hj => kb j hj))⟩
/-- the register after an order was told -/
theorem CLX_w (hX : CLX m t0 X g cN cT c e1 c1 L1 e2 c2 L2 e3 c3 eP cP cR f l0 C J J2 ms hs lr hl tl pp) (hI' : CRI X1 g' cN' cT' c' e1' c1' L1' e2 c2 L2 C' J' J2 ms' hs lr' hl.length) (hT' : TP X1 (g 1) (g 2) tl') (hf : q_fr (fun x => x = g 1 ∨ tFr g e1 c1 x) X X1) (hE : gE X g g' e1 c1 e1' c1') : CLX m t0 X1 g' cN' cT' c' e1' c1' L1' e2 c2 L2 e3 c3 eP cP cR f l0 C' J' J2 ms' hs lr' hl tl' pp ∧ FO m t0 X X1 := by
  have hf2 : q_fr (fun x => (∃ s, s < 244 ∧ (s = 1 ∨ tS s) ∧ x = g s) ∨ (x = e1 ∧ 0 < c1) ∨ (x = e2 ∧ 0 < c2)) X X1 := hf.wk (fun x _ z => by
    rcases z with z | ⟨s, hs, z, e⟩ | z
    · exact Or.inl ⟨1, by omega, Or.inl rfl, z⟩
    · exact Or.inl ⟨s, hs, Or.inr z, e⟩
    · exact Or.inr (Or.inl z))
  have hD := RDI_mv (Z := fun s => s = 1 ∨ tS s) (g' := g') (e1' := e1') (c1' := c1') (e2' := e2) (c2' := c2) hX.1 hX.2.2.2.2.2.2.2.1 ⟨by unfold tS carS; omega, by unfold tS carS; omega⟩ hf2 (hE.1.1 3 (by omega)) (hE.1.1 4 (by omega)) hE.2 (Or.inl ⟨rfl, rfl⟩)
  exact CLX_gen (Z := fun s => s = 1 ∨ tS s) (b3 := False) hX hI' hT' (fun s z => by unfold tS carS at z; omega) (hf2.wk (fun x _ z => by
    rcases z with z | z | z
    · exact Or.inl z
    · exact Or.inr (Or.inl z)
    · exact Or.inr (Or.inr (Or.inl z)))) hE.1 hE.2 (Or.inl ⟨rfl, rfl⟩) (Or.inl ⟨rfl, rfl⟩) hD
theorem TP_w (hX : CLX m t0 X g cN cT c e1 c1 L1 e2 c2 L2 e3 c3 eP cP cR f l0 C J J2 ms hs lr hl tl pp) (hf : q_fr (tFr g e1 c1) X X1) : TP X1 (g 1) (g 2) tl := by
  obtain ⟨hg, hw, hk, -, -, -, -, hJ, -⟩ := hX.1
  have nt : ∀ s, s = 1 ∨ s = 2 → ¬ tFr g e1 c1 (g s) := fun s hs z => by
    rcases z with ⟨u, hu, hS, e⟩ | ⟨e, hc⟩
    · have := hg.1 s u (by omega) hu e
      unfold tS carS at hS; omega
    · exact (hk s (by omega)).1 (by rw [e, AL_k5 hJ.1 hc])
  exact TP_fr hw hX.2.1 hf (nt 1 (Or.inl rfl)) (nt 2 (Or.inr rfl))
def tlX (m t0 : Nat) (X X1 : QM) (c1 c2 c3 : Nat) (cN cT c : Nat → Nat) (e2 : Nat) (L2 : List Nat) (e3 eP cP cR : Nat) (f : Nat → Int) (l0 : List (Int × Int)) (C : CWs) (J J2 : List Od) (ms : List Int) (hs lr : Int) (hl : List Nat) (tl pp : List Int) (q : Od) : Prop := ∃ (g' cN' cT' c' : Nat → Nat) (e1' c1' : Nat) (L1' : List Nat), CLX m t0 X1 g' cN' cT' c' e1' c1' L1' e2 c2 L2 e3 c3 eP cP cR f l0 (tlC C q) (tlJ C J q) J2 (tlM C J ms q) hs (tlR C q lr) hl tl pp ∧ FO m t0 X X1 ∧ q_gu X X1 (c1 + poS cN cT c) (c1' + poS cN' cT' c') 1 5
theorem CLX_tOut {q : Od} (hX : CLX m t0 X g cN cT c e1 c1 L1 e2 c2 L2 e3 c3 eP cP cR f l0 C J J2 ms hs lr hl tl pp) (h : tOut X X1 g cN cT c e1 c1 e2 c2 L2 C J J2 ms hs lr hl.length q) : tlX m t0 X X1 c1 c2 c3 cN cT c e2 L2 e3 eP cP cR f l0 C J J2 ms hs lr hl tl pp q := by
  obtain ⟨g', cN', cT', c', e1', c1', L1', a1, a2, a3, a4⟩ := h
  obtain ⟨b1, b2⟩ := CLX_w hX a1 (TP_w hX a2) (a2.wk (fun x _ z => Or.inr z)) a3
  exact ⟨g', cN', cT', c', e1', c1', L1', b1, b2, a4⟩
theorem CLX_wOut {q : Od} (hX : CLX m t0 X g cN cT c e1 c1 L1 e2 c2 L2 e3 c3 eP cP cR f l0 C J J2 ms hs lr hl tl pp) (h : wOut X X1 g cN cT c e1 c1 e2 c2 L2 C J J2 ms hs lr hl.length q) : tlX m t0 X X1 c1 c2 c3 cN cT c e2 L2 e3 eP cP cR f l0 C J J2 ms hs lr hl [] pp q := by
  obtain ⟨g', cN', cT', c', e1', c1', L1', a1, a1', a2, a3, a4⟩ := h
  obtain ⟨b1, b2⟩ := CLX_w hX a1 a1' a2 a3
  exact ⟨g', cN', cT', c', e1', c1', L1', b1, b2, a4⟩
/-- an order told, on both sides -/
theorem STP_tl {q : Od} (hX : CLX m t0 X g cN cT c e1 c1 L1 e2 c2 L2 e3 c3 eP cP cR f l0 (cRun (C0 W0) J) J J2 ms hs lr hl tl pp) (hW : CBg W0) (hov : ov m S X = X) (hK : RK m X) (hb : 5 * J.length + tl.length ≤ 5 * k ∧ 5 * J2.length + tl.length ≤ 5 * k) (r1 : q_nc X + 212 ≤ 252 + pot c1 c2 c3 cN cT c cR cP + 82 * k) (r2 : q_ns X + 848 ≤ 125221 + 4 * pot c1 c2 c3 cN cT c cR cP + 410 * k) (hc : q_C 1000 ic (qr t0 :: as) X (some (qi (tlA (cRun (C0 W0) J) q))) X1) (hX1 : tlX m t0 X X1 c1 c2 c3 cN cT c e2 L2 e3 eP cP cR f l0 (cRun (C0 W0) J) J J2 ms hs lr hl tl' pp q) (hN : cwh (cRun (C0 W0) J) q ≠ 0 → RK m X1 → ∃ U', (∀ P : QP, q_T 1000 ir (qr m :: as) (ov m S X1) P = P (some (qi (-3))) (ov m U' X1)) ∧ REL U' J J2 ms hs (cwh (cRun (C0 W0) J) q) hl tl' pp) (hY : cwh (cRun (C0 W0) J) q = 0 → RK m X1 → ∃ U', (∀ P : QP, q_T 1000 ir (qr m :: as) (ov m S X1) P = P (some (qi (cDo (cRun (C0 W0) J) q).2)) (ov m U' X1)) ∧ q_i32 (cDo (cRun (C0 W0) J) q).2 ∧ REL U' (J ++ [q]) J2 (kpM ms J.length) hs lr hl tl' pp) (htl : tl'.length ≤ tl.length) : STP m t0 k X ic ir as := by
  obtain ⟨g', cN', cT', c', e1', c1', L1', b1, b2, b3⟩ := hX1
  have hm : m + 8 ≤ q_top X := hX.2.2.2.2.2.2.2.2.2.2.2.2.2.2.2.1
  have hK1 := FO_RK b2 hm hK
  obtain ⟨u1, u2, u3⟩ := b3
  by_cases g0 : cwh (cRun (C0 W0) J) q = 0
  · obtain ⟨U', y1, y2, y3⟩ := hY g0 hK1
    unfold tlC tlJ tlM tlR at b1
    rw [if_pos g0, if_pos g0, if_pos g0, if_pos g0, ← cRun_a] at b1
    unfold tlA at hc
    rw [if_pos g0] at hc
    refine STP_mk hX hov hK r1 r2 hc b1 b2 ⟨?_, ?_⟩ y1 y3 hW ⟨?_, ?_⟩ y2
    · unfold pot; omega
    · unfold pot; omega
    · rw [List.length_append]; simp; omega
    · omega
  · obtain ⟨U', y1, y3⟩ := hN g0 hK1
    unfold tlC tlJ tlM tlR at b1
    rw [if_neg g0, if_neg g0, if_neg g0, if_neg g0] at b1
    unfold tlA at hc
    rw [if_neg g0] at hc
    refine STP_mk hX hov hK r1 r2 hc b1 b2 ⟨?_, ?_⟩ y1 y3 hW ⟨?_, ?_⟩ ⟨by omega, by omega⟩
    · unfold pot; omega
    · unfold pot; omega
    · omega
    · omega
end TEL
