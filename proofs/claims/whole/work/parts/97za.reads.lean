
/-! calls that read, on both sides -/
section CAR
variable {m t0 k : Nat} {X : QM}
theorem rHei_R {S : RS} (hR : RG S) {y : Int} : ∀ (k : Nat) (q : Int), q_i32 q → q_i32 (rHei S y k q)
  | 0, q, h => h
  | k + 1, q, h => by
    rw [rHei]
    split
    · exact h
    · split
      · exact ⟨by omega, by omega⟩
      · exact rHei_R hR k _ (hR 1 _)
theorem rDp_b {S : RS} {y : Int} {N : Nat} : ∀ (k : Nat) (q : Int), 0 ≤ rDp S y N k q ∧ rDp S y N k q ≤ k
  | 0, q => by rw [rDp]; omega
  | k + 1, q => by
    have := rDp_b (S := S) (y := y) (N := N) k (rPar (S 1) q y N)
    rw [rDp]
    split <;> omega
theorem rTo_b {b : Int → Int} {f w p : Int} : ∀ k : Nat, 0 ≤ rTo b f w p k ∧ rTo b f w p k ≤ k
  | 0 => by rw [rTo]; omega
  | k + 1 => by
    have := rTo_b (b := b) (f := f) (w := w) (p := p) k
    have h1 : bI (b (f + w * (k : Int)) = p) = 0 ∨ bI (b (f + w * (k : Int)) = p) = 1 := bI_01
    rw [rTo]
    omega
theorem bSet_R (f : Nat → Bool) {n : Nat} (hn : n ≤ 20) : q_i32 ((bSet f n : Nat) : Int) := by
  have h1 := bSet_lt f n
  have h2 : 2 ^ n ≤ 2 ^ 20 := Nat.pow_le_pow_right (by omega) hn
  have h3 : (2 : Nat) ^ 20 = 1048576 := by decide
  exact ⟨by omega, by omega⟩
theorem i32_ite {c : Prop} {h : Decidable c} {a b : Int} (h1 : c → q_i32 a) (h2 : ¬ c → q_i32 b) : q_i32 (@ite Int c h a b) := by
  by_cases g : c
  · rw [if_pos g]; exact h1 g
  · rw [if_neg g]; exact h2 g
theorem J_reason (h : JI m t0 k X) (hk : k ≤ 511) : STP m t0 k X iX12_reason iX13_reason [] := by
  obtain ⟨S, g, cN, cT, c, e1, c1, L1, e2, c2, L2, e3, c3, eP, cP, cR, f, l0, W0, J, J2, ms, hs, lr, hl, tl, pp, hX, hW, hov, hK, hREL, hb, r1, r2⟩ := h
  have jl : J.length ≤ 511 := by omega
  have j2l : J2.length ≤ 511 := by omega
  have g0 : g 0 = t0 := hX.2.2.2.2.2.2.2.2.1
  obtain ⟨hRG, hRJ, hMR, hHS, hR7, hLR, hHT, hTP, hPP⟩ := id hREL
  obtain ⟨NL, PL, hS, hCB⟩ := REL_W hRJ (by omega) hW
  obtain ⟨sB, sP, sF, n20, fo8, nl, pl, fnl, spb, tbd⟩ := id hS
  have hbS := SimK_RB hS (by omega)
  have c0 : 0 ≤ S 0 1 ∧ S 0 1 ≤ 6 := by have := hMR.1; have := hMR.2.1; omega
  have hn0 : S 1 0 = cn (cRun (C0 W0) J) := sB.1
  have hP0 : S 1 2 = PL.length := sB.2.2.1.1
  have hN0 : S 1 1 = NL.length := sB.2.1.1
  have tp4 : S 0 4 = tl.length := hTP.1
  have tp80 : tl.length ≤ 80 := hTP.2.1
  have u := fun P : QP => uX12_reason (d := 999) (x := P) hX.1.2.2.2.2.1 hX.1.2.2.2.2.2.2.1.1.1
  rw [g0] at u
  refine STP_ro hX hW hov hK hREL hb r1 r2 u (fun P => ?_) (by rw [← hLR]; exact hRG 0 7)
  rw [← hLR]
  exact tX13_reason (d := 999) hK hRG
theorem J_on {p y w : Int} (h : JI m t0 k X) (hk : k ≤ 511) (hp : q_i32 p) (hy : q_i32 y) (hw : q_i32 w) : STP m t0 k X iX12_on iX13_on [qi p, qi y, qi w] := by
  obtain ⟨S, g, cN, cT, c, e1, c1, L1, e2, c2, L2, e3, c3, eP, cP, cR, f, l0, W0, J, J2, ms, hs, lr, hl, tl, pp, hX, hW, hov, hK, hREL, hb, r1, r2⟩ := h
  have jl : J.length ≤ 511 := by omega
  have j2l : J2.length ≤ 511 := by omega
  have g0 : g 0 = t0 := hX.2.2.2.2.2.2.2.2.1
  obtain ⟨hRG, hRJ, hMR, hHS, hR7, hLR, hHT, hTP, hPP⟩ := id hREL
  obtain ⟨NL, PL, hS, hCB⟩ := REL_W hRJ (by omega) hW
  obtain ⟨sB, sP, sF, n20, fo8, nl, pl, fnl, spb, tbd⟩ := id hS
  have hbS := SimK_RB hS (by omega)
  have c0 : 0 ≤ S 0 1 ∧ S 0 1 ≤ 6 := by have := hMR.1; have := hMR.2.1; omega
  have hn0 : S 1 0 = cn (cRun (C0 W0) J) := sB.1
  have hP0 : S 1 2 = PL.length := sB.2.2.1.1
  have hN0 : S 1 1 = NL.length := sB.2.1.1
  have tp4 : S 0 4 = tl.length := hTP.1
  have tp80 : tl.length ≤ 80 := hTP.2.1
  have u := fun P : QP => uX12_on (d := 993) (x := P) hX.1.2.2.2.2.1 hX.1.2.2.2.2.2.2.1.1.1 hp.1 hp.2 hy.1 hy.2 hw.1 hw.2
  rw [g0] at u
  have ng := ng_i sB sP
  have e : rOn S p y w PL.length NL.length (cn (cRun (C0 W0) J)) 21 4 = cOn (cW (cRun (C0 W0) J)) (cn (cRun (C0 W0) J)) p y w := on_i sB sP n20
  refine STP_ro hX hW hov hK hREL hb r1 r2 u (fun P => ?_) ?_
  · rw [← e]
    refine tX13_on (d := 995) hK hRG hn0 n20 hP0 (by omega) hN0 (by omega) hp.1 hp.2 hy.1 hy.2 hw.1 hw.2 (fun q0 q1 y0 y1 => ?_) (fun q0 q1 y0 y1 hx => ?_) (fun i hi => ?_) (fun q0 q1 y0 y1 hx => ?_)
    · obtain ⟨q, rfl⟩ : ∃ q : Nat, p = q := ⟨p.toNat, by omega⟩
      exact (heir_21 sB sP n20 (by omega) (by omega)).1
    · obtain ⟨q, rfl⟩ : ∃ q : Nat, p = q := ⟨p.toNat, by omega⟩
      exact dt4 sB sP (by omega) ((rEx_i sB sP (by omega) (by omega)).mp hx)
    · have hq := List.getElem?_eq_getElem hi
      obtain ⟨-, -, h3, -⟩ := sB.2.1.2 i _ hq
      rw [h3]
      have := (SimK_L hS (by omega)).2.2.2.2.2 _ (List.getElem_mem hi)
      omega
    · obtain ⟨q, rfl⟩ : ∃ q : Nat, p = q := ⟨p.toNat, by omega⟩
      obtain ⟨z1, z2, z3⟩ := ng q y (by omega) hx y0 y1
      exact ⟨z1, z3⟩
  · rw [← e]
    have b1 := rHei_R hRG (y := y) 21 p hp
    have b2 := rPar_R hRG p y PL.length
    have b3 := rDp_b (S := S) (y := y) (N := PL.length) 4 (rPar (S 1) p y PL.length)
    have b4 := rChi_b S p y PL.length (cn (cRun (C0 W0) J))
    unfold rOn
    refine i32_ite (fun _ => ⟨by omega, by omega⟩) (fun _ => i32_ite (fun _ => ⟨by omega, by omega⟩) (fun _ => i32_ite (fun _ => ⟨bI_lo, bI_hi⟩) (fun _ => i32_ite (fun _ => hRG 1 _) (fun _ => i32_ite (fun _ => b1) (fun _ => i32_ite (fun _ => ⟨by omega, by omega⟩) (fun _ => i32_ite (fun _ => b2) (fun _ => i32_ite (fun _ => hRG 1 _) (fun _ => i32_ite (fun _ => ⟨by omega, by omega⟩) (fun _ => i32_ite (fun _ => ⟨by omega, by omega⟩) (fun _ => i32_ite (fun _ => hRG 1 _) (fun _ => ⟨by omega, by omega⟩)))))))))))
theorem J_of {p w : Int} (h : JI m t0 k X) (hk : k ≤ 511) (hp : q_i32 p) (hw : q_i32 w) : STP m t0 k X iX12_of iX13_of [qi p, qi w] := by
  obtain ⟨S, g, cN, cT, c, e1, c1, L1, e2, c2, L2, e3, c3, eP, cP, cR, f, l0, W0, J, J2, ms, hs, lr, hl, tl, pp, hX, hW, hov, hK, hREL, hb, r1, r2⟩ := h
  have jl : J.length ≤ 511 := by omega
  have j2l : J2.length ≤ 511 := by omega
  have g0 : g 0 = t0 := hX.2.2.2.2.2.2.2.2.1
  obtain ⟨hRG, hRJ, hMR, hHS, hR7, hLR, hHT, hTP, hPP⟩ := id hREL
  obtain ⟨NL, PL, hS, hCB⟩ := REL_W hRJ (by omega) hW
  obtain ⟨sB, sP, sF, n20, fo8, nl, pl, fnl, spb, tbd⟩ := id hS
  have hbS := SimK_RB hS (by omega)
  have c0 : 0 ≤ S 0 1 ∧ S 0 1 ≤ 6 := by have := hMR.1; have := hMR.2.1; omega
  have hn0 : S 1 0 = cn (cRun (C0 W0) J) := sB.1
  have hP0 : S 1 2 = PL.length := sB.2.2.1.1
  have hN0 : S 1 1 = NL.length := sB.2.1.1
  have tp4 : S 0 4 = tl.length := hTP.1
  have tp80 : tl.length ≤ 80 := hTP.2.1
  have u := fun P : QP => uX12_of (d := 998) (x := P) hX.1.2.2.2.2.1 hX.1.2.2.2.2.2.2.1.1.1 hp.1 hp.2 hw.1 hw.2
  rw [g0] at u
  have e : rOf S p w PL.length NL.length = cOf (cW (cRun (C0 W0) J)) (cn (cRun (C0 W0) J)) p w := of_i sB sP
  refine STP_ro hX hW hov hK hREL hb r1 r2 u (fun P => ?_) ?_
  · rw [← e]
    exact tX13_of (d := 997) hK hRG hn0 n20 hP0 (by omega) hN0 (by omega) hp.1 hp.2 hw.1 hw.2
  · rw [← e]
    have b1 := rTo_b (b := S 1) (f := 1575) (w := 11) (p := p) NL.length
    have b2 := rTo_b (b := S 1) (f := 9275) (w := 3) (p := p) PL.length
    unfold rOf
    repeat' split
    all_goals first | exact hRG 1 _ | exact ⟨by omega, by omega⟩
theorem J_event {p i w : Int} (h : JI m t0 k X) (hk : k ≤ 511) (hp : q_i32 p) (hi : q_i32 i) (hw : q_i32 w) : STP m t0 k X iX12_event iX13_event [qi p, qi i, qi w] := by
  obtain ⟨S, g, cN, cT, c, e1, c1, L1, e2, c2, L2, e3, c3, eP, cP, cR, f, l0, W0, J, J2, ms, hs, lr, hl, tl, pp, hX, hW, hov, hK, hREL, hb, r1, r2⟩ := h
  have jl : J.length ≤ 511 := by omega
  have j2l : J2.length ≤ 511 := by omega
  have g0 : g 0 = t0 := hX.2.2.2.2.2.2.2.2.1
  obtain ⟨hRG, hRJ, hMR, hHS, hR7, hLR, hHT, hTP, hPP⟩ := id hREL
  obtain ⟨NL, PL, hS, hCB⟩ := REL_W hRJ (by omega) hW
  obtain ⟨sB, sP, sF, n20, fo8, nl, pl, fnl, spb, tbd⟩ := id hS
  have hbS := SimK_RB hS (by omega)
  have c0 : 0 ≤ S 0 1 ∧ S 0 1 ≤ 6 := by have := hMR.1; have := hMR.2.1; omega
  have hn0 : S 1 0 = cn (cRun (C0 W0) J) := sB.1
  have hP0 : S 1 2 = PL.length := sB.2.2.1.1
  have hN0 : S 1 1 = NL.length := sB.2.1.1
  have tp4 : S 0 4 = tl.length := hTP.1
  have tp80 : tl.length ≤ 80 := hTP.2.1
  have u := fun P : QP => uX12_event (d := 997) (x := P) hX.1.2.2.2.2.1 hX.1.2.2.2.2.2.2.1.1.1 hp.1 hp.2 hi.1 hi.2 hw.1 hw.2
  rw [g0] at u
  have e : rEv S p i w = cEv (cW (cRun (C0 W0) J)) (cn (cRun (C0 W0) J)) p i w := ev_i sB
  refine STP_ro hX hW hov hK hREL hb r1 r2 u (fun P => ?_) ?_
  · rw [← e]
    exact tX13_event (d := 997) hK hRG hn0 n20 hp.1 hp.2 hi.1 hi.2 hw.1 hw.2
  · rw [← e]
    unfold rEv
    split
    · exact ⟨by omega, by omega⟩
    · exact hRG 1 _
theorem J_changed {y z : Int} (h : JI m t0 k X) (hk : k ≤ 511) (hy : q_i32 y) (hz : q_i32 z) : STP m t0 k X iX12_changed iX13_changed [qi y, qi z] := by
  obtain ⟨S, g, cN, cT, c, e1, c1, L1, e2, c2, L2, e3, c3, eP, cP, cR, f, l0, W0, J, J2, ms, hs, lr, hl, tl, pp, hX, hW, hov, hK, hREL, hb, r1, r2⟩ := h
  have jl : J.length ≤ 511 := by omega
  have j2l : J2.length ≤ 511 := by omega
  have g0 : g 0 = t0 := hX.2.2.2.2.2.2.2.2.1
  obtain ⟨hRG, hRJ, hMR, hHS, hR7, hLR, hHT, hTP, hPP⟩ := id hREL
  obtain ⟨NL, PL, hS, hCB⟩ := REL_W hRJ (by omega) hW
  obtain ⟨sB, sP, sF, n20, fo8, nl, pl, fnl, spb, tbd⟩ := id hS
  have hbS := SimK_RB hS (by omega)
  have c0 : 0 ≤ S 0 1 ∧ S 0 1 ≤ 6 := by have := hMR.1; have := hMR.2.1; omega
  have hn0 : S 1 0 = cn (cRun (C0 W0) J) := sB.1
  have hP0 : S 1 2 = PL.length := sB.2.2.1.1
  have hN0 : S 1 1 = NL.length := sB.2.1.1
  have tp4 : S 0 4 = tl.length := hTP.1
  have tp80 : tl.length ≤ 80 := hTP.2.1
  have u := fun P : QP => uX12_changed (d := 995) (x := P) hX.1.2.2.2.2.1 hX.1.2.2.2.2.2.2.1.1.1 hy.1 hy.2 hz.1 hz.2
  rw [g0] at u
  have e := ch_i sB sP (y := y) (z := z)
  refine STP_ro hX hW hov hK hREL hb r1 r2 u (fun P => ?_) ?_
  · rw [← e]
    exact tX13_changed (d := 996) hK hRG hn0 n20 hP0 (by omega) hN0 (by omega) (ng_i sB sP) hy.1 hy.2 hz.1 hz.2
  · split
    · exact ⟨by omega, by omega⟩
    · exact bSet_R _ n20
theorem J_account {y w : Int} (h : JI m t0 k X) (hk : k ≤ 511) (hy : q_i32 y) (hw : q_i32 w) : STP m t0 k X iX12_account iX13_account [qi y, qi w] := by
  obtain ⟨S, g, cN, cT, c, e1, c1, L1, e2, c2, L2, e3, c3, eP, cP, cR, f, l0, W0, J, J2, ms, hs, lr, hl, tl, pp, hX, hW, hov, hK, hREL, hb, r1, r2⟩ := h
  have jl : J.length ≤ 511 := by omega
  have j2l : J2.length ≤ 511 := by omega
  have g0 : g 0 = t0 := hX.2.2.2.2.2.2.2.2.1
  obtain ⟨hRG, hRJ, hMR, hHS, hR7, hLR, hHT, hTP, hPP⟩ := id hREL
  obtain ⟨NL, PL, hS, hCB⟩ := REL_W hRJ (by omega) hW
  obtain ⟨sB, sP, sF, n20, fo8, nl, pl, fnl, spb, tbd⟩ := id hS
  have hbS := SimK_RB hS (by omega)
  have c0 : 0 ≤ S 0 1 ∧ S 0 1 ≤ 6 := by have := hMR.1; have := hMR.2.1; omega
  have hn0 : S 1 0 = cn (cRun (C0 W0) J) := sB.1
  have hP0 : S 1 2 = PL.length := sB.2.2.1.1
  have hN0 : S 1 1 = NL.length := sB.2.1.1
  have tp4 : S 0 4 = tl.length := hTP.1
  have tp80 : tl.length ≤ 80 := hTP.2.1
  have u := fun P : QP => uX12_account (d := 993) (x := P) hX.1.2.2.2.2.1 hX.1.2.2.2.2.2.2.1.1.1 hy.1 hy.2 hw.1 hw.2
  rw [g0] at u
  have e : rAcc S y w PL.length NL.length (cn (cRun (C0 W0) J)) = cAc (cW (cRun (C0 W0) J)) (cn (cRun (C0 W0) J)) y w := acc_i sB sP
  refine STP_ro hX hW hov hK hREL hb r1 r2 u (fun P => ?_) ?_
  · rw [← e]
    exact tX13_account (d := 995) hK hRG hn0 n20 hP0 (by omega) hN0 (by omega) (ng_i sB sP) hy.1 hy.2 hw.1 hw.2
  · rw [← e]
    have b := rAc_b S y w PL.length NL.length (cn (cRun (C0 W0) J)) n20 (cn (cRun (C0 W0) J)) n20
    unfold rAcc
    repeat' split
    all_goals exact ⟨by omega, by omega⟩
theorem J_sought {i : Int} (h : JI m t0 k X) (hk : k ≤ 511) (hi : q_i32 i) : STP m t0 k X iX12_sought iX13_sought [qi i] := by
  obtain ⟨S, g, cN, cT, c, e1, c1, L1, e2, c2, L2, e3, c3, eP, cP, cR, f, l0, W0, J, J2, ms, hs, lr, hl, tl, pp, hX, hW, hov, hK, hREL, hb, r1, r2⟩ := h
  have jl : J.length ≤ 511 := by omega
  have j2l : J2.length ≤ 511 := by omega
  have g0 : g 0 = t0 := hX.2.2.2.2.2.2.2.2.1
  obtain ⟨hRG, hRJ, hMR, hHS, hR7, hLR, hHT, hTP, hPP⟩ := id hREL
  obtain ⟨NL, PL, hS, hCB⟩ := REL_W hRJ (by omega) hW
  obtain ⟨sB, sP, sF, n20, fo8, nl, pl, fnl, spb, tbd⟩ := id hS
  have hbS := SimK_RB hS (by omega)
  have c0 : 0 ≤ S 0 1 ∧ S 0 1 ≤ 6 := by have := hMR.1; have := hMR.2.1; omega
  have hn0 : S 1 0 = cn (cRun (C0 W0) J) := sB.1
  have hP0 : S 1 2 = PL.length := sB.2.2.1.1
  have hN0 : S 1 1 = NL.length := sB.2.1.1
  have tp4 : S 0 4 = tl.length := hTP.1
  have tp80 : tl.length ≤ 80 := hTP.2.1
  have u := fun P : QP => uX12_sought (d := 999) (x := P) hX.1.2.2.2.2.1 hX.2.2.1 hi
  rw [g0] at u
  obtain ⟨h13, h20, h5⟩ := hHT
  have e : (if i < 0 then -1 else if i < S 0 13 then S 5 i else -5) = cSo hl i := by
    unfold cSo
    rw [h13]
    by_cases z : i < 0
    · rw [if_pos z, if_pos z]
    · rw [if_neg z, if_neg z]
      by_cases z2 : i < hl.length
      · rw [if_pos z2, if_pos z2]
        have il : i.toNat < hl.length := by omega
        have := h5 i.toNat _ (List.getElem?_eq_getElem il)
        rw [show ((i.toNat : Nat) : Int) = i by omega] at this
        rw [this, List.getD_eq_getElem?_getD, List.getElem?_eq_getElem il]
        rfl
      · rw [if_neg z2, if_neg z2]
  refine STP_ro hX hW hov hK hREL hb r1 r2 u (fun P => ?_) ?_
  · rw [← e]
    exact tX13_sought (d := 999) hK hRG hi.1 hi.2 (by omega)
  · rw [← e]
    repeat' split
    all_goals first | exact hRG 5 _ | exact ⟨by omega, by omega⟩
theorem J_paper {i : Int} (h : JI m t0 k X) (hk : k ≤ 511) (hi : q_i32 i) : STP m t0 k X iX12_paper iX13_paper [qi i] := by
  obtain ⟨S, g, cN, cT, c, e1, c1, L1, e2, c2, L2, e3, c3, eP, cP, cR, f, l0, W0, J, J2, ms, hs, lr, hl, tl, pp, hX, hW, hov, hK, hREL, hb, r1, r2⟩ := h
  have jl : J.length ≤ 511 := by omega
  have j2l : J2.length ≤ 511 := by omega
  have g0 : g 0 = t0 := hX.2.2.2.2.2.2.2.2.1
  obtain ⟨hRG, hRJ, hMR, hHS, hR7, hLR, hHT, hTP, hPP⟩ := id hREL
  obtain ⟨NL, PL, hS, hCB⟩ := REL_W hRJ (by omega) hW
  obtain ⟨sB, sP, sF, n20, fo8, nl, pl, fnl, spb, tbd⟩ := id hS
  have hbS := SimK_RB hS (by omega)
  have c0 : 0 ≤ S 0 1 ∧ S 0 1 ≤ 6 := by have := hMR.1; have := hMR.2.1; omega
  have hn0 : S 1 0 = cn (cRun (C0 W0) J) := sB.1
  have hP0 : S 1 2 = PL.length := sB.2.2.1.1
  have hN0 : S 1 1 = NL.length := sB.2.1.1
  have tp4 : S 0 4 = tl.length := hTP.1
  have tp80 : tl.length ≤ 80 := hTP.2.1
  have u := fun P : QP => uX12_paper (d := 995) (x := P) hX.1 hX.2.2.2.2.2.1 hi
  rw [g0] at u
  obtain ⟨h16, h384, h7⟩ := hPP
  have e : (if i < 0 then -1 else if i < S 0 16 then S 7 i else -5) = pprA pp i := by
    unfold pprA
    rw [h16]
    by_cases z : i < 0
    · rw [if_pos z, if_pos z]
    · rw [if_neg z, if_neg z]
      by_cases z2 : i < pp.length
      · rw [if_pos z2, if_pos z2]
        have il : i.toNat < pp.length := by omega
        have := h7 i.toNat _ (List.getElem?_eq_getElem il)
        rw [show ((i.toNat : Nat) : Int) = i by omega] at this
        rw [this, List.getD_eq_getElem?_getD, List.getElem?_eq_getElem il]
        rfl
      · rw [if_neg z2, if_neg z2]
  refine STP_ro hX hW hov hK hREL hb r1 r2 u (fun P => ?_) ?_
  · rw [← e]
    exact tX13_paper (d := 999) hK hRG hi.1 hi.2 (by omega)
  · rw [← e]
    repeat' split
    all_goals first | exact hRG 7 _ | exact ⟨by omega, by omega⟩
theorem J_count {w : Int} (h : JI m t0 k X) (hk : k ≤ 511) (hw : q_i32 w) : STP m t0 k X iX12_count iX13_count [qi w] := by
  obtain ⟨S, g, cN, cT, c, e1, c1, L1, e2, c2, L2, e3, c3, eP, cP, cR, f, l0, W0, J, J2, ms, hs, lr, hl, tl, pp, hX, hW, hov, hK, hREL, hb, r1, r2⟩ := h
  have jl : J.length ≤ 511 := by omega
  have j2l : J2.length ≤ 511 := by omega
  have g0 : g 0 = t0 := hX.2.2.2.2.2.2.2.2.1
  obtain ⟨hRG, hRJ, hMR, hHS, hR7, hLR, hHT, hTP, hPP⟩ := id hREL
  obtain ⟨NL, PL, hS, hCB⟩ := REL_W hRJ (by omega) hW
  obtain ⟨sB, sP, sF, n20, fo8, nl, pl, fnl, spb, tbd⟩ := id hS
  have hbS := SimK_RB hS (by omega)
  have c0 : 0 ≤ S 0 1 ∧ S 0 1 ≤ 6 := by have := hMR.1; have := hMR.2.1; omega
  have hn0 : S 1 0 = cn (cRun (C0 W0) J) := sB.1
  have hP0 : S 1 2 = PL.length := sB.2.2.1.1
  have hN0 : S 1 1 = NL.length := sB.2.1.1
  have tp4 : S 0 4 = tl.length := hTP.1
  have tp80 : tl.length ≤ 80 := hTP.2.1
  have u := fun P : QP => uX12_count (d := 998) (x := P) hX.1 hX.2.1 hw
  rw [g0] at u
  have e : rCo S w = cCo (cRun (C0 W0) J) tl ms w := by
    unfold rCo cCo
    rw [hn0, sB.2.2.2.2.1, tp4, hMR.1, sB.2.2.2.2.2.1, sB.2.2.2.2.2.2.1]
  refine STP_ro hX hW hov hK hREL hb r1 r2 u (fun P => ?_) ?_
  · rw [← e]
    exact tX13_count (d := 999) hK hRG hw.1 hw.2
  · rw [← e]
    unfold rCo
    repeat' split
    all_goals first | exact hRG 1 _ | exact hRG 0 _ | exact ⟨by omega, by omega⟩
theorem J_longest {p w : Int} (h : JI m t0 k X) (hk : k ≤ 511) (hp : q_i32 p) (hw : q_i32 w) : STP m t0 k X iX12_longest iX13_longest [qi p, qi w] := by
  obtain ⟨S, g, cN, cT, c, e1, c1, L1, e2, c2, L2, e3, c3, eP, cP, cR, f, l0, W0, J, J2, ms, hs, lr, hl, tl, pp, hX, hW, hov, hK, hREL, hb, r1, r2⟩ := h
  have jl : J.length ≤ 511 := by omega
  have j2l : J2.length ≤ 511 := by omega
  have g0 : g 0 = t0 := hX.2.2.2.2.2.2.2.2.1
  obtain ⟨hRG, hRJ, hMR, hHS, hR7, hLR, hHT, hTP, hPP⟩ := id hREL
  obtain ⟨NL, PL, hS, hCB⟩ := REL_W hRJ (by omega) hW
  obtain ⟨sB, sP, sF, n20, fo8, nl, pl, fnl, spb, tbd⟩ := id hS
  have hbS := SimK_RB hS (by omega)
  have c0 : 0 ≤ S 0 1 ∧ S 0 1 ≤ 6 := by have := hMR.1; have := hMR.2.1; omega
  have hn0 : S 1 0 = cn (cRun (C0 W0) J) := sB.1
  have hP0 : S 1 2 = PL.length := sB.2.2.1.1
  have hN0 : S 1 1 = NL.length := sB.2.1.1
  have tp4 : S 0 4 = tl.length := hTP.1
  have tp80 : tl.length ≤ 80 := hTP.2.1
  have hbb : ∀ i : Nat, i < NL.length → -1 ≤ S 1 (1575 + 11 * (i : Int) + 1) ∧ S 1 (1575 + 11 * (i : Int) + 1) ≤ 10000 := fun i hi => by
    have hq := List.getElem?_eq_getElem hi
    obtain ⟨-, h2, -⟩ := sB.2.1.2 i _ hq
    have := (sP.2.2.1 _ (List.getElem_mem hi)).2.2
    rw [h2]; omega
  have hee : 0 ≤ p → p < cn (cRun (C0 W0) J) → -1 ≤ S 1 (15 + 78 * p + 2) ∧ S 1 (15 + 78 * p + 2) ≤ 10000 := fun q0 q1 => by
    obtain ⟨q, rfl⟩ : ∃ q : Nat, p = q := ⟨p.toNat, by omega⟩
    rw [(sB.2.2.2.2.2.2.2.2.2.1 q (by omega)).2.2.1]
    obtain ⟨a1, a2, a3, a4, a5⟩ := (sP.1 q (by omega)).1
    split <;> omega
  have run := fun P : QP => tX13_longest (d := 997) (x := P) hK hRG hn0 n20 hN0 (by omega) hp.1 hp.2 hw.1 hw.2 hbb hee
  have rng : q_i32 (rLg S p w NL.length) := by
    unfold rLg
    by_cases g : ¬ (0 ≤ p ∧ p ≤ S 1 0 - 1) ∨ ¬ (0 ≤ w ∧ w ≤ 2)
    · rw [if_pos g]; exact ⟨by omega, by omega⟩
    · rw [if_neg g]
      obtain ⟨i1, i2, i3, i4⟩ := rLs_b (p := p) hbb NL.length (Nat.le_refl _)
      have he := hee (by omega) (by omega)
      have := rLu_b (b := S 1) (u := if S 1 (15 + 78 * p + 2) ≠ -1 then S 1 (15 + 78 * p + 2) else 10000) i1 i2 i3 (by split <;> omega) i4
      repeat' split
      · exact hRG 1 _
      · unfold rLe; exact ⟨by omega, by omega⟩
      · exact hRG 1 _
  by_cases g : 0 ≤ p ∧ p < cn (cRun (C0 W0) J)
  · obtain ⟨q, rfl⟩ : ∃ q : Nat, p = q := ⟨p.toNat, by omega⟩
    have hq : q < cn (cRun (C0 W0) J) := by omega
    obtain ⟨a1, a2, a3, -⟩ := sP.1 q hq
    have ne : 0 < (plN (cW (cRun (C0 W0) J) q)).length := by
      obtain ⟨w', r, e⟩ := a2.2.1
      rw [e]; simp
    have u := fun P : QP => uX12_longestY (d := 996) (x := P) hX.1.2.2.2.2.1 hX.1.2.2.2.2.2.2.1.1.1 hq ne (by have := (hCB.1 q (by omega)).1; omega) hw
    rw [g0] at u
    have e := lg_i sB sP (w := w) hq
    refine STP_ro hX hW hov hK hREL hb r1 r2 u (fun P => ?_) ?_
    · rw [← e]; exact run P
    · rw [← e]; exact rng
  · have u := fun P : QP => uX12_longestN (d := 998) (x := P) (what := w) hX.1.2.2.2.2.1 hX.1.2.2.2.2.2.2.1.1.1 hp.1 hp.2 g
    rw [g0] at u
    have e : rLg S p w NL.length = -1 := by unfold rLg; rw [if_pos (Or.inl (by omega))]
    refine STP_ro hX hW hov hK hREL hb r1 r2 u (fun P => ?_) ⟨by omega, by omega⟩
    rw [← e]; exact run P
end CAR
