
/-! filters, on both sides -/
section CAF
variable {m t0 k : Nat} {X X1 : QM} {S : RS} {g g' cN cT c cN' cT' c' : Nat → Nat} {e1 c1 e2 c2 e3 c3 eP cP cR e2' c2' : Nat} {L1 L2 L2' : List Nat} {f : Nat → Int} {l0 : List (Int × Int)} {C C' : CWs} {W0 : Nat → Pl} {J J2 J2' : List Od} {ms : List Int} {hs lr hs' lr' : Int} {hl : List Nat} {tl pp tl' : List Int}
theorem RG_rPrt {w a b : Int} (hR : RG S) (h3 : S 1 3 < 700) (h4 : S 1 4 < 8) (hw : q_i32 w) (ha : q_i32 a) (hb : q_i32 b) : RG (rPrt S w a b) := by
  have z3 := hR 1 3
  have z4 := hR 1 4
  unfold rPrt
  exact RG_up (RG_up (RG_up (RG_up (RG_up (RG_up hR hw.1 hw.2) ha.1 ha.2) hb.1 hb.2) (by omega) (by omega)) (by omega) (by omega)) (by omega) (by omega)
theorem rPrt_k {w a b : Int} {t : Nat} (h : t ≠ 1) : rPrt S w a b t = S t := by
  unfold rPrt
  rw [up_k h, up_k h, up_k h, up_k h, up_k h, up_k h]
/-- one filter more -/
theorem RJ_prt {U : RS} {w a b : Int} {q : Od} {F : CWs → Int × Int × Int} (hJ : RJ J (U 1)) (hk : J.length ≤ 511) (h4 : U 1 4 < 8) (hq : ∀ C NL PL, SimK J.length (U 1) C NL PL → (cFO C).length < 8 → oOk C q ∧ (cDo C q).1 = (cW C, cn C, cmg C, csp C, cFN C ++ [F C], cFO C ++ [(cFN C).length]) ∧ (F C).1 = w ∧ (F C).2.1 = a ∧ (w ≠ 7 → b = (F C).2.2) ∧ ((F C).1 = 5 ∨ (F C).1 = 6 → (0 ≤ (F C).2.1 ∧ (F C).2.1 < (cFN C).length) ∧ 0 ≤ (F C).2.2 ∧ (F C).2.2 < (cFN C).length) ∧ ((F C).1 = 7 → 0 ≤ (F C).2.1 ∧ (F C).2.1 < (cFN C).length) ∧ (0 ≤ (F C).1 ∧ (F C).1 ≤ 7) ∧ ((F C).1 ≤ 4 → 0 ≤ (F C).2.1 ∧ (F C).2.1 ≤ 9999)) : RJ (J ++ [q]) (rPrt U w a b 1) := by
  refine RJ_step hJ (by omega) (fun C NL PL h => ?_)
  have hl := SimK_L h (by omega)
  obtain ⟨sB, sP, sF, n20, fo8, nl, pl, fnl, spb, tbd⟩ := id h
  have f4 : (cFO C).length < 8 := by have := sB.2.2.2.2.1; omega
  obtain ⟨ok, ed, e1, e2, e3, x1, x2, x3, x4⟩ := hq C NL PL h f4
  refine ⟨ok, NL, PL, ?_⟩
  rw [ed]
  have hB := SimB_prt (w := w) (a := a) (b := b) (b' := (F C).2.2) hl (by omega) f4 e3 sB
  have eF : (w, a, (F C).2.2) = F C := by rw [← e1, ← e2]
  rw [eF] at hB
  have lO : (cFO C ++ [(cFN C).length]).length ≤ 8 := by rw [List.length_append]; simp; omega
  have lN : (cFN C ++ [F C]).length ≤ J.length + 1 := by rw [List.length_append]; simp; omega
  exact ⟨hB, sP, SimF_ap sF x1 x2 x3 x4, n20, lO, by omega, by omega, lN, ⟨spb.1, by have := spb.2; show csp C ≤ _; omega⟩, fun p hp => by have := tbd p hp; show (plT (cW C p)).length ≤ _ ∧ (plH (cW C p)).length ≤ _; omega⟩
/-- cells that are the register's own, no one else's -/
theorem CLX_z {Z : Nat → Prop} (hX : CLX m t0 X g cN cT c e1 c1 L1 e2 c2 L2 e3 c3 eP cP cR f l0 C J J2 ms hs lr hl tl pp) (hI' : CRI X1 g cN cT c e1 c1 L1 e2' c2' L2' C J J2' ms hs' lr' hl.length) (hZ : ∀ s, Z s → ¬ ((1 ≤ s ∧ s ≤ 11) ∨ s = 15)) (hf : q_fr (fun x => (∃ s, s < 244 ∧ Z s ∧ x = g s) ∨ (x = e2 ∧ 0 < c2)) X X1) (h2 : (e2' = e2 ∧ c2' = c2) ∨ q_top X ≤ e2') : CLX m t0 X1 g cN cT c e1 c1 L1 e2' c2' L2' e3 c3 eP cP cR f l0 C J J2' ms hs' lr' hl tl pp ∧ FO m t0 X X1 := by
  obtain ⟨hg, hw, hk, -, -, -, -, hJ, hJ2, -⟩ := id hX.1
  have hf2 : q_fr (fun x => (∃ s, s < 244 ∧ Z s ∧ x = g s) ∨ (x = e1 ∧ 0 < c1) ∨ (x = e2 ∧ 0 < c2)) X X1 := hf.wk (fun x _ z => by
    rcases z with z | z
    · exact Or.inl z
    · exact Or.inr (Or.inr z))
  have nt : ∀ s, s = 1 ∨ s = 2 → ¬ ((∃ u, u < 244 ∧ Z u ∧ g s = g u) ∨ (g s = e2 ∧ 0 < c2)) := fun s hs z => by
    rcases z with ⟨u, hu, hS, e⟩ | ⟨e, hc⟩
    · have := hg.1 s u (by omega) hu e
      exact hZ u hS (Or.inl (by omega))
    · exact (hk s (by omega)).1 (by rw [e, AL_k5 hJ2.1 hc])
  have hD := RDI_mv (Z := Z) (g' := g) (e1' := e1) (c1' := c1) (e2' := e2') (c2' := c2') hX.1 hX.2.2.2.2.2.2.2.1 ⟨fun z => hZ 3 z (Or.inl (by omega)), fun z => hZ 4 z (Or.inl (by omega))⟩ hf2 rfl rfl (Or.inl ⟨rfl, rfl⟩) h2
  exact CLX_gen (Z := Z) (b3 := False) hX hI' (TP_fr hw hX.2.1 hf (nt 1 (Or.inl rfl)) (nt 2 (Or.inr rfl))) (fun s z y => hZ s z (by omega)) (hf2.wk (fun x _ z => by
    rcases z with z | z | z
    · exact Or.inl z
    · exact Or.inr (Or.inl z)
    · exact Or.inr (Or.inr (Or.inl z)))) gO.rf (Or.inl ⟨rfl, rfl⟩) h2 (Or.inl ⟨rfl, rfl⟩) hD
theorem jnd_i {FO : List Nat} {FN : List (Int × Int × Int)} {n : Nat} {W : Nat → Pl} {mg sp : Int} {NL : NLt} {PL : List (Int × Int × Int)} {b : Int → Int} {a : Int} (hs : SimB b n W mg sp FN FO NL PL) (hf : SimF FN FO) (ha : 0 ≤ a ∧ a < FO.length) : b (7 + a) = jnd FO a ∧ 0 ≤ jnd FO a ∧ jnd FO a < FN.length := by
  have il : a.toNat < FO.length := by omega
  have hq := List.getElem?_eq_getElem il
  have h7 := hs.2.2.2.2.2.2.2.1 a.toNat _ hq
  rw [show ((a.toNat : Nat) : Int) = a by omega] at h7
  have ej : jnd FO a = ((FO[a.toNat] : Nat) : Int) := by
    unfold jnd
    rw [if_pos ha, List.getD_eq_getElem?_getD, hq]; rfl
  have := hf.2.1 _ (List.getElem_mem il)
  rw [ej, h7]
  exact ⟨rfl, by omega, by omega⟩
theorem J_filter {s v : Int} (h : JI m t0 k X) (hk : k ≤ 511) (hs1 : q_i32 s) (hv : q_i32 v) : STP m t0 k X iX12_filter iX13_filter [qi s, qi v] := by
  obtain ⟨S, g, cN, cT, c, e1, c1, L1, e2, c2, L2, e3, c3, eP, cP, cR, f, l0, W0, J, J2, ms, hs, lr, hl, tl, pp, hX, hW, hov, hK, hREL, hb, r1, r2⟩ := h
  have jl : J.length ≤ 511 := by omega
  have j2l : J2.length ≤ 511 := by omega
  have g0 : g 0 = t0 := hX.2.2.2.2.2.2.2.2.1
  obtain ⟨hRG, hRJ, hMR, hHS, hR7, hLR, hHT, hTP, hPP⟩ := id hREL
  obtain ⟨NL, PL, hS, hCB⟩ := REL_W hRJ (by omega) hW
  obtain ⟨sB, sP, sF, n20, fo8, nl, pl, fnl, spb, tbd⟩ := id hS
  have hbS := SimK_RB hS (by omega)
  have c0 : 0 ≤ S 0 1 ∧ S 0 1 ≤ 6 := by have := hMR.1; have := hMR.2.1; omega
  have hn0 : S 1 0 = cn (cRun (C0 W0) J) := sB.1
  have hP0 : S 1 2 = PL.length := sB.2.2.1.1
  have hN0 : S 1 1 = NL.length := sB.2.1.1
  have tp4 : S 0 4 = tl.length := hTP.1
  have tp80 : tl.length ≤ 80 := hTP.2.1
  have h3 : S 1 3 = (cFN (cRun (C0 W0) J)).length := sB.2.2.2.1
  have h4 : S 1 4 = (cFO (cRun (C0 W0) J)).length := sB.2.2.2.2.1
  by_cases hn : cFtN (cRun (C0 W0) J) s v = 0
  · obtain ⟨X1, hc, hO⟩ := vX12_filterY (d := 992) hX.1 hs1 hv hn hCB (by omega)
    rw [g0] at hc
    have g1 : 0 ≤ s ∧ s ≤ 4 := by unfold cFtN at hn; repeat' split at hn <;> omega
    have g2 : 0 ≤ v ∧ v ≤ 9999 := by unfold cFtN at hn; repeat' split at hn <;> omega
    have g3 : (cFO (cRun (C0 W0) J)).length < 8 := by unfold cFtN at hn; repeat' split at hn <;> omega
    have k3 : rKeep S 1 3 = S 1 3 := rKeep_b c0.1 (by omega)
    have k4 : rKeep S 1 4 = S 1 4 := rKeep_b c0.1 (by omega)
    have hJV : RJ J (rKeep S 1) := RJ_c hRJ (by omega) (fun j _ hj => rKeep_b c0.1 hj)
    refine STP_tl hX hW hov hK hb r1 r2 hc (CLX_tOut hX hO) (fun z => absurd rfl z) (fun _ hK1 => ⟨rPrt (rKeep S) s v 0, fun P => ?_, ?_, ?_⟩) (Nat.le_refl _)
    · have := tX13_filterY (d := 997) (x := P) hK1 hRG g1 g2 c0 (by omega) (by omega)
      rw [h4] at this
      exact this
    · show q_i32 ((cFO (cRun (C0 W0) J)).length : Int)
      exact ⟨by omega, by omega⟩
    · refine REL_upd (U := S) (V := S) hREL jl (by omega) rfl (fun _ _ _ _ _ => rfl) rfl rfl hTP (RG_rPrt (RG_rKeep hRG c0) (by omega) (by omega) hs1 hv ⟨by omega, by omega⟩) (fun t ht => rPrt_k ht) (fun j hj => rPrt_hi (by omega) (by omega) hj) ?_
      exact RJ_prt (F := fun _ => (s, v, 0)) hJV jl (by omega) (fun C NL PL hC hf8 => ⟨Or.inr (Or.inl ⟨rfl, hf8⟩), rfl, rfl, rfl, fun _ => rfl, fun z => by have z' : s = 5 ∨ s = 6 := z; omega, fun z => by have z' : s = 7 := z; omega, ⟨g1.1, by show s ≤ 7; omega⟩, fun _ => g2⟩)
  · have u := fun P : QP => uX12_filterN (d := 998) (x := P) hX.1 hs1 hv hn
    rw [g0] at u
    have gN : ¬ (0 ≤ s ∧ s ≤ 4) ∨ ¬ (0 ≤ v ∧ v ≤ 9999) ∨ S 1 4 = 8 := by
      unfold cFtN at hn
      repeat' split at hn
      all_goals omega
    have e : (if ¬ (0 ≤ s ∧ s ≤ 4) then (-1 : Int) else if ¬ (0 ≤ v ∧ v ≤ 9999) then -2 else -4) = cFtN (cRun (C0 W0) J) s v := by
      unfold cFtN
      repeat' split
      all_goals omega
    refine STP_ro hX hW hov hK hREL hb r1 r2 u (fun P => ?_) ?_
    · rw [← e]
      exact tX13_filterN (d := 997) hK hRG hs1.1 hs1.2 hv.1 hv.2 gN
    · rw [← e]
      repeat' split
      all_goals exact ⟨by omega, by omega⟩
theorem J_join {w a b : Int} (h : JI m t0 k X) (hk : k ≤ 511) (hw1 : q_i32 w) (ha : q_i32 a) (hb1 : q_i32 b) : STP m t0 k X iX12_join iX13_join [qi w, qi a, qi b] := by
  obtain ⟨S, g, cN, cT, c, e1, c1, L1, e2, c2, L2, e3, c3, eP, cP, cR, f, l0, W0, J, J2, ms, hs, lr, hl, tl, pp, hX, hW, hov, hK, hREL, hb, r1, r2⟩ := h
  have jl : J.length ≤ 511 := by omega
  have j2l : J2.length ≤ 511 := by omega
  have g0 : g 0 = t0 := hX.2.2.2.2.2.2.2.2.1
  obtain ⟨hRG, hRJ, hMR, hHS, hR7, hLR, hHT, hTP, hPP⟩ := id hREL
  obtain ⟨NL, PL, hS, hCB⟩ := REL_W hRJ (by omega) hW
  obtain ⟨sB, sP, sF, n20, fo8, nl, pl, fnl, spb, tbd⟩ := id hS
  have hbS := SimK_RB hS (by omega)
  have c0 : 0 ≤ S 0 1 ∧ S 0 1 ≤ 6 := by have := hMR.1; have := hMR.2.1; omega
  have hn0 : S 1 0 = cn (cRun (C0 W0) J) := sB.1
  have hP0 : S 1 2 = PL.length := sB.2.2.1.1
  have hN0 : S 1 1 = NL.length := sB.2.1.1
  have tp4 : S 0 4 = tl.length := hTP.1
  have tp80 : tl.length ≤ 80 := hTP.2.1
  have h3 : S 1 3 = (cFN (cRun (C0 W0) J)).length := sB.2.2.2.1
  have h4 : S 1 4 = (cFO (cRun (C0 W0) J)).length := sB.2.2.2.2.1
  by_cases hn : cJnN (cRun (C0 W0) J) w a b = 0
  · obtain ⟨X1, hc, hO⟩ := vX12_joinY (d := 992) hX.1 hw1 ha hb1 hn hCB (by omega)
    rw [g0] at hc
    have g1 : 0 ≤ w ∧ w ≤ 2 := by unfold cJnN at hn; repeat' split at hn <;> omega
    have g2 : 0 ≤ a ∧ a < (cFO (cRun (C0 W0) J)).length := by unfold cJnN at hn; repeat' split at hn <;> omega
    have g2' : w < 2 → 0 ≤ b ∧ b < (cFO (cRun (C0 W0) J)).length := by unfold cJnN at hn; repeat' split at hn <;> omega
    have g3 : (cFO (cRun (C0 W0) J)).length < 8 := by unfold cJnN at hn; repeat' split at hn <;> omega
    have k3 : rKeep S 1 3 = S 1 3 := rKeep_b c0.1 (by omega)
    have k4 : rKeep S 1 4 = S 1 4 := rKeep_b c0.1 (by omega)
    have ka : rKeep S 1 (7 + a) = S 1 (7 + a) := rKeep_b c0.1 (by omega)
    have kb : w < 2 → rKeep S 1 (7 + b) = S 1 (7 + b) := fun z => by have := g2' z; exact rKeep_b c0.1 (by omega)
    have hJV : RJ J (rKeep S 1) := RJ_c hRJ (by omega) (fun j _ hj => rKeep_b c0.1 hj)
    refine STP_tl hX hW hov hK hb r1 r2 hc (CLX_tOut hX hO) (fun z => absurd rfl z) (fun _ hK1 => ⟨rPrt (rKeep S) (5 + w) (S 1 (7 + a)) (if w = 2 then 0 else S 1 (7 + b)), fun P => ?_, ?_, ?_⟩) (Nat.le_refl _)
    · have := tX13_joinY (d := 997) (x := P) (w := w) (a := a) (b := b) hK1 hRG hb1.1 hb1.2 g1 (by omega) (fun z => by have := g2' z; omega) c0 (by omega) (by omega)
      rw [h4] at this
      exact this
    · show q_i32 ((cFO (cRun (C0 W0) J)).length : Int)
      exact ⟨by omega, by omega⟩
    · refine REL_upd (U := S) (V := S) hREL jl (by omega) rfl (fun _ _ _ _ _ => rfl) rfl rfl hTP (RG_rPrt (RG_rKeep hRG c0) (by omega) (by omega) ⟨by omega, by omega⟩ (hRG 1 _) (by split; exact ⟨by omega, by omega⟩; exact hRG 1 _)) (fun t ht => rPrt_k ht) (fun j hj => rPrt_hi (by omega) (by omega) hj) ?_
      refine RJ_prt (F := fun C => (5 + w, jnd (cFO C) a, jnd (cFO C) b)) hJV jl (by omega) (fun C NL PL hC hf8 => ?_)
      have q4 := hC.1.2.2.2.2.1
      obtain ⟨ja1, ja2, ja3⟩ := jnd_i hC.1 hC.2.2.1 (a := a) ⟨g2.1, by omega⟩
      have jb : w < 2 → rKeep S 1 (7 + b) = jnd (cFO C) b ∧ 0 ≤ jnd (cFO C) b ∧ jnd (cFO C) b < (cFN C).length := fun z => jnd_i hC.1 hC.2.2.1 (a := b) ⟨(g2' z).1, by have := (g2' z).2; omega⟩
      refine ⟨Or.inr (Or.inr (Or.inl ⟨rfl, hf8, g1, g2.1, by show a < ((cFO C).length : Int); omega⟩)), rfl, rfl, by show jnd (cFO C) a = S 1 (7 + a); rw [← ka, ja1], fun z => ?_, fun z => ?_, fun z => ⟨ja2, ja3⟩, ⟨by show 0 ≤ 5 + w; omega, by show 5 + w ≤ 7; omega⟩, fun z => ?_⟩
      · show (if w = 2 then 0 else S 1 (7 + b)) = jnd (cFO C) b
        rw [if_neg (by omega), ← kb (by omega), (jb (by omega)).1]
      · have z' : 5 + w = 5 ∨ 5 + w = 6 := z
        exact ⟨⟨ja2, ja3⟩, (jb (by omega)).2⟩
      · have z' : 5 + w ≤ 4 := z
        omega
  · have u := fun P : QP => uX12_joinN (d := 998) (x := P) hX.1 hw1 ha hb1 hn
    rw [g0] at u
    have gN : ¬ (0 ≤ w ∧ w ≤ 2) ∨ ¬ (0 ≤ a ∧ a ≤ S 1 4 - 1) ∨ (w < 2 ∧ ¬ (0 ≤ b ∧ b ≤ S 1 4 - 1)) ∨ S 1 4 = 8 := by
      unfold cJnN at hn
      repeat' split at hn
      all_goals omega
    have e : (if ¬ (0 ≤ w ∧ w ≤ 2) ∨ ¬ (0 ≤ a ∧ a ≤ S 1 4 - 1) ∨ (w < 2 ∧ ¬ (0 ≤ b ∧ b ≤ S 1 4 - 1)) then (-1 : Int) else -4) = cJnN (cRun (C0 W0) J) w a b := by
      unfold cJnN
      repeat' split
      all_goals omega
    refine STP_ro hX hW hov hK hREL hb r1 r2 u (fun P => ?_) ?_
    · rw [← e]
      exact tX13_joinN (d := 997) hK hRG (by omega) (by omega) hw1.1 hw1.2 ha.1 ha.2 hb1.1 hb1.2 gN
    · rw [← e]
      split
      all_goals exact ⟨by omega, by omega⟩
theorem J_drop {a : Int} (h : JI m t0 k X) (hk : k ≤ 511) (ha : q_i32 a) : STP m t0 k X iX12_drop iX13_drop [qi a] := by
  obtain ⟨S, g, cN, cT, c, e1, c1, L1, e2, c2, L2, e3, c3, eP, cP, cR, f, l0, W0, J, J2, ms, hs, lr, hl, tl, pp, hX, hW, hov, hK, hREL, hb, r1, r2⟩ := h
  have jl : J.length ≤ 511 := by omega
  have j2l : J2.length ≤ 511 := by omega
  have g0 : g 0 = t0 := hX.2.2.2.2.2.2.2.2.1
  obtain ⟨hRG, hRJ, hMR, hHS, hR7, hLR, hHT, hTP, hPP⟩ := id hREL
  obtain ⟨NL, PL, hS, hCB⟩ := REL_W hRJ (by omega) hW
  obtain ⟨sB, sP, sF, n20, fo8, nl, pl, fnl, spb, tbd⟩ := id hS
  have hbS := SimK_RB hS (by omega)
  have c0 : 0 ≤ S 0 1 ∧ S 0 1 ≤ 6 := by have := hMR.1; have := hMR.2.1; omega
  have hn0 : S 1 0 = cn (cRun (C0 W0) J) := sB.1
  have hP0 : S 1 2 = PL.length := sB.2.2.1.1
  have hN0 : S 1 1 = NL.length := sB.2.1.1
  have tp4 : S 0 4 = tl.length := hTP.1
  have tp80 : tl.length ≤ 80 := hTP.2.1
  have h4 : S 1 4 = (cFO (cRun (C0 W0) J)).length := sB.2.2.2.2.1
  by_cases hn : 0 ≤ a ∧ a < (cFO (cRun (C0 W0) J)).length
  · obtain ⟨X1, hc, hO⟩ := vX12_dropY (d := 992) hX.1 ha hn hCB (by omega)
    rw [g0] at hc
    obtain ⟨fa, rfl⟩ : ∃ fa : Nat, a = fa := ⟨a.toNat, by omega⟩
    obtain ⟨cc, hcc⟩ : ∃ cc : Nat, fa + cc + 1 = (cFO (cRun (C0 W0) J)).length := ⟨(cFO (cRun (C0 W0) J)).length - fa - 1, by omega⟩
    have k4 : rKeep S 1 4 = S 1 4 := rKeep_b c0.1 (by omega)
    have hJV : RJ J (rKeep S 1) := RJ_c hRJ (by omega) (fun j _ hj => rKeep_b c0.1 hj)
    refine STP_tl hX hW hov hK hb r1 r2 hc (CLX_tOut hX hO) (fun z => absurd rfl z) (fun _ hK1 => ⟨rDr (up (rKeep S) 1 4 (S 1 4 - 1)) fa cc, fun P => ?_, ?_, ?_⟩) (Nat.le_refl _)
    · have := tX13_dropY (d := 997) (x := P) (f := fa) (c := cc) hK1 hRG (by omega) (by omega) c0 (by omega)
      have ec : (cDo (cRun (C0 W0) J) (8, (fa : Int), 0, 0, 0)).2 = S 1 4 - 1 := by rw [h4]; rfl
      rw [ec]
      exact this
    · show q_i32 (((cFO (cRun (C0 W0) J)).length : Int) - 1)
      exact ⟨by omega, by omega⟩
    · refine REL_upd (U := S) (V := S) hREL jl (by omega) rfl (fun _ _ _ _ _ => rfl) rfl rfl hTP (RG_rDr (RG_up (RG_rKeep hRG c0) (by omega) (by omega))) (fun t ht => ?_) (fun j hj => ?_) ?_
      · funext j
        unfold rDr
        rw [if_neg (fun z => ht z.1), up_k ht]
      · rw [rDr_hi (by omega) hj, up_j (by omega)]
      · refine RJ_step hJV (by omega) (fun C NL PL hC => ?_)
        have hl' := SimK_L hC (by omega)
        obtain ⟨sB', sP', sF', n20', fo8', nl', pl', fnl', spb', tbd'⟩ := id hC
        have f4 : (cFO C).length = (cFO (cRun (C0 W0) J)).length := by have := sB'.2.2.2.2.1; omega
        refine ⟨Or.inr (Or.inr (Or.inr ⟨rfl, by show (0 : Int) ≤ fa; omega, by show (fa : Int) < ((cFO C).length : Int); omega⟩)), NL, PL, ?_⟩
        have hB := SimB_dr (S := rKeep S) (f := fa) (c := cc) hl' (by omega) (by omega) sB'
        rw [k4] at hB
        have ed : (cDo C (8, (fa : Int), 0, 0, 0)).1 = (cW C, cn C, cmg C, csp C, cFN C, (cFO C).eraseIdx fa) := rfl
        rw [ed]
        have le : ((cFO C).eraseIdx fa).length ≤ 8 := by rw [List.length_eraseIdx]; split <;> omega
        exact ⟨hB, sP', SimF_dr sF', n20', le, by omega, by omega, by show (cFN C).length ≤ _; omega, ⟨spb'.1, by show csp C ≤ _; have := spb'.2; omega⟩, fun p hp => by have := tbd' p hp; show (plT (cW C p)).length ≤ _ ∧ (plH (cW C p)).length ≤ _; omega⟩
  · have u := fun P : QP => uX12_dropN (d := 998) (x := P) hX.1 ha hn
    rw [g0] at u
    exact STP_ro hX hW hov hK hREL hb r1 r2 u (fun P => tX13_dropN (d := 997) hK hRG (by omega) (by omega) ha.1 ha.2 (by omega)) ⟨by omega, by omega⟩
theorem J_fits {a y : Int} (h : JI m t0 k X) (hk : k ≤ 511) (ha : q_i32 a) (hy : q_i32 y) : STP m t0 k X iX12_fits iX13_fits [qi a, qi y] := by
  obtain ⟨S, g, cN, cT, c, e1, c1, L1, e2, c2, L2, e3, c3, eP, cP, cR, f, l0, W0, J, J2, ms, hs, lr, hl, tl, pp, hX, hW, hov, hK, hREL, hb, r1, r2⟩ := h
  have jl : J.length ≤ 511 := by omega
  have j2l : J2.length ≤ 511 := by omega
  have g0 : g 0 = t0 := hX.2.2.2.2.2.2.2.2.1
  obtain ⟨hRG, hRJ, hMR, hHS, hR7, hLR, hHT, hTP, hPP⟩ := id hREL
  obtain ⟨NL, PL, hS, hCB⟩ := REL_W hRJ (by omega) hW
  obtain ⟨sB, sP, sF, n20, fo8, nl, pl, fnl, spb, tbd⟩ := id hS
  have hbS := SimK_RB hS (by omega)
  have c0 : 0 ≤ S 0 1 ∧ S 0 1 ≤ 6 := by have := hMR.1; have := hMR.2.1; omega
  have hn0 : S 1 0 = cn (cRun (C0 W0) J) := sB.1
  have hP0 : S 1 2 = PL.length := sB.2.2.1.1
  have hN0 : S 1 1 = NL.length := sB.2.1.1
  have tp4 : S 0 4 = tl.length := hTP.1
  have tp80 : tl.length ≤ 80 := hTP.2.1
  have h3 : S 1 3 = (cFN (cRun (C0 W0) J)).length := sB.2.2.2.1
  have h4 : S 1 4 = (cFO (cRun (C0 W0) J)).length := sB.2.2.2.2.1
  have hff : ∀ i : Int, 0 ≤ i → i < S 1 4 → 0 ≤ S 1 (7 + i) ∧ S 1 (7 + i) < (cFN (cRun (C0 W0) J)).length := fun i i0 i1 => by
    obtain ⟨z1, z2, z3⟩ := jnd_i sB sF (a := i) ⟨i0, by omega⟩
    rw [z1]; exact ⟨z2, z3⟩
  have run : ∀ (X1 : QM), RK m X1 → ∀ P : QP, q_T 1000 iX13_fits [qr m, qi a, qi y] (ov m S X1) P = P (some (qi (rFs S a y PL.length NL.length 4 (cn (cRun (C0 W0) J))))) (ov m S X1) := fun X1 hK1 P => by
    have := tX13_fits (d := 996 - (cFN (cRun (C0 W0) J)).length) (x := P) (kd := 4) hK1 hRG hn0 n20 hP0 (by omega) hN0 (by omega) h3 (by omega) (pk_i sB sF) (by omega) (by omega) hff (fun p hp y0 y1 hx => dt4 sB sP hp ((rEx_i sB sP hp (by omega)).mp hx)) ha.1 ha.2 hy.1 hy.2
    rw [show 996 - (cFN (cRun (C0 W0) J)).length + (cFN (cRun (C0 W0) J)).length + 4 = 1000 by omega] at this
    exact this
  by_cases hn : cFsN (cRun (C0 W0) J) a y = 0
  · have ga : 0 ≤ a ∧ a < (cFO (cRun (C0 W0) J)).length := by unfold cFsN at hn; repeat' split at hn <;> omega
    have gy : 0 ≤ y ∧ y < 10000 := by unfold cFsN at hn; repeat' split at hn <;> omega
    obtain ⟨fa, rfl⟩ : ∃ fa : Nat, a = fa := ⟨a.toNat, by omega⟩
    have il : fa < (cFO (cRun (C0 W0) J)).length := by omega
    obtain ⟨w, hw⟩ : ∃ w, (cFO (cRun (C0 W0) J))[fa]? = some w := ⟨_, List.getElem?_eq_getElem il⟩
    have wl := sF.2.1 w (List.mem_of_getElem? hw)
    obtain ⟨X1, hc, hI', hG, hQ⟩ := vX12_fitsY (d := 993) hX.1 sF.1 hw gy
    rw [g0] at hc
    obtain ⟨b1, b2⟩ := CLX_z (Z := fun s => s = 22) (e2' := e2) (c2' := c2) hX hI' (fun s z => by omega) (hG.1.wk (fun x _ z => Or.inl z)) (Or.inl ⟨rfl, rfl⟩)
    have hm : m + 8 ≤ q_top X := hX.2.2.2.2.2.2.2.2.2.2.2.2.2.2.2.1
    have hK1 := FO_RK b2 hm hK
    have e : rFs S (fa : Int) y PL.length NL.length 4 (cn (cRun (C0 W0) J)) = ((bSet (nV (cW (cRun (C0 W0) J)) (cn (cRun (C0 W0) J)) y (cFN (cRun (C0 W0) J)) (w + 1) w) (cn (cRun (C0 W0) J)) : Nat) : Int) := by
      unfold rFs
      rw [if_neg (by omega), if_neg (by omega)]
      refine congrArg (fun z : Nat => (z : Int)) (bSet_cg _ (fun p hp => ?_))
      have s7 := sB.2.2.2.2.2.2.2.1 fa w hw
      unfold rSf
      rw [s7, h3, Int.toNat_natCast, fit_i sB sP sF hp gy.2 (cFN (cRun (C0 W0) J)).length w wl wl (w + 1) (by omega)]
      refine Bool.eq_iff_iff.mpr ?_
      rw [decide_eq_true_eq, Bool.and_eq_true, rEx_i sB sP hp gy.2]
    refine STP_mk hX hov hK r1 r2 hc b1 b2 ⟨?_, ?_⟩ (fun P => ?_) hREL hW ⟨by omega, by omega⟩ (bSet_R _ n20)
    · have := hQ.2.2.1; omega
    · have := hQ.2.2.2; omega
    · rw [← e]; exact run X1 hK1 P
  · have u := fun P : QP => uX12_fitsN (d := 998) (x := P) hX.1 ha hy hn
    rw [g0] at u
    have e : rFs S a y PL.length NL.length 4 (cn (cRun (C0 W0) J)) = cFsN (cRun (C0 W0) J) a y := by
      unfold cFsN at hn ⊢
      unfold rFs
      by_cases q1 : 0 ≤ a ∧ a < (cFO (cRun (C0 W0) J)).length
      · rw [if_neg (fun z => z q1)] at hn
        have q2 : ¬ (0 ≤ y ∧ y < 10000) := fun z => hn (by rw [if_neg (fun w => w z)])
        rw [if_neg (show ¬ ¬ (0 ≤ a ∧ a ≤ S 1 4 - 1) by omega), if_pos (show ¬ (0 ≤ y ∧ y ≤ 9999) by omega), if_neg (fun z => z q1), if_pos q2]
      · rw [if_pos (show ¬ (0 ≤ a ∧ a ≤ S 1 4 - 1) by omega), if_pos q1]
    refine STP_ro hX hW hov hK hREL hb r1 r2 u (fun P => by rw [← e]; exact run X hK P) ?_
    unfold cFsN
    repeat' split
    all_goals exact ⟨by omega, by omega⟩
end CAF
