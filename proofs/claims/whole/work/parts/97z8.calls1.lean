
/-! orders: move, merge, close -/
section CA1
variable {m t0 k : Nat} {X : QM}
theorem J_move {p e y : Int} (h : JI m t0 k X) (hk : k ≤ 511) (hp : q_i32 p) (he : q_i32 e) (hy : q_i32 y) : STP m t0 k X iX12_move iX13_move [qi p, qi e, qi y] := by
  obtain ⟨S, g, cN, cT, c, e1, c1, L1, e2, c2, L2, e3, c3, eP, cP, cR, f, l0, W0, J, J2, ms, hs, lr, hl, tl, pp, hX, hW, hov, hK, hREL, hb, r1, r2⟩ := h
  have jl : J.length ≤ 511 := by omega
  have j2l : J2.length ≤ 511 := by omega
  have g0 : g 0 = t0 := hX.2.2.2.2.2.2.2.2.1
  obtain ⟨hRG, hRJ, hMR, hHS, hR7, hLR, hHT, hTP, hPP⟩ := id hREL
  obtain ⟨NL, PL, hS, hCB⟩ := REL_W hRJ (by omega) hW
  obtain ⟨sB, sP, sF, n20, fo8, nl, pl, fnl, spb, tbd⟩ := id hS
  have hbS := SimK_RB hS (by omega)
  have c0 : 0 ≤ S 0 1 ∧ S 0 1 ≤ 6 := by have := hMR.1; have := hMR.2.1; omega
  have hn0 : S 1 0 = cn (cRun (C0 W0) J) := sB.1
  have hP0 : S 1 2 = PL.length := sB.2.2.1.1
  have hN0 : S 1 1 = NL.length := sB.2.1.1
  have tp4 : S 0 4 = tl.length := hTP.1
  have tp80 : tl.length ≤ 80 := hTP.2.1
  obtain ⟨X1, hc, hO⟩ := vX12_move (d := 992) hX.1 hp he hy hCB (by omega)
  rw [g0] at hc
  have eq : rNoM S p e y = cwh (cRun (C0 W0) J) (2, p, e, y, 0) := rNo_i (so := 2) (wd := 0) (a := p) (b := e) (y := y) hS ⟨by omega, by omega⟩ (fun z => by omega) (fun z => by omega)
  refine STP_tl hX hW hov hK hb r1 r2 hc (CLX_tOut hX hO) (fun hn hK1 => ⟨up S 0 7 (rNoM S p e y), fun P => tX13_moveR (d := 994) hK1 hRG hbS (by omega) hp he hy (fun z => hn (by rw [← eq]; exact z)), ?_⟩) (fun hn hK1 => ?_) (Nat.le_refl _)
  · have nb := rNo_b (S := S) (cc := 109) (a := p) (b := e) (y := y) (NP := 0) (n := 0)
    have nb' : 0 ≤ rNoM S p e y ∧ rNoM S p e y ≤ 9 := nb
    have := REL_no (U := S) (r := rNoM S p e y) hREL (by omega) (by omega) rfl (fun _ _ _ _ _ => rfl) rfl rfl hTP hRG (by omega) (by omega)
    rw [eq] at this ⊢
    exact this
  · have hno : rNoM S p e y = 0 := by rw [eq]; exact hn
    obtain ⟨R', aC⟩ := REL_tell (U := S) (so := 2) (a := p) (b := e) (y := y) (wd := 0) (ls := []) hREL jl (by omega) hW rfl (fun _ _ _ _ _ => rfl) rfl rfl hTP hRG hn0 hP0 ⟨by omega, by omega⟩ hno (fun z => by omega) (fun z => by omega) (fun z => by omega)
    obtain ⟨-, ans⟩ := aC _ _ _ hS
    have run := fun P : QP => tX13_moveY (d := 994) (x := P) hK1 hRG c0 hbS (by omega) (by omega) hno
    refine ⟨_, fun P => ?_, ?_, R'⟩
    · rw [← ans]; exact run P
    · rw [← ans]
      exact rPar_R (RG_rKeep hRG c0) p y PL.length
theorem J_merge {p e y : Int} (h : JI m t0 k X) (hk : k ≤ 511) (hp : q_i32 p) (he : q_i32 e) (hy : q_i32 y) : STP m t0 k X iX12_merge iX13_merge [qi p, qi e, qi y] := by
  obtain ⟨S, g, cN, cT, c, e1, c1, L1, e2, c2, L2, e3, c3, eP, cP, cR, f, l0, W0, J, J2, ms, hs, lr, hl, tl, pp, hX, hW, hov, hK, hREL, hb, r1, r2⟩ := h
  have jl : J.length ≤ 511 := by omega
  have j2l : J2.length ≤ 511 := by omega
  have g0 : g 0 = t0 := hX.2.2.2.2.2.2.2.2.1
  obtain ⟨hRG, hRJ, hMR, hHS, hR7, hLR, hHT, hTP, hPP⟩ := id hREL
  obtain ⟨NL, PL, hS, hCB⟩ := REL_W hRJ (by omega) hW
  obtain ⟨sB, sP, sF, n20, fo8, nl, pl, fnl, spb, tbd⟩ := id hS
  have hbS := SimK_RB hS (by omega)
  have c0 : 0 ≤ S 0 1 ∧ S 0 1 ≤ 6 := by have := hMR.1; have := hMR.2.1; omega
  have hn0 : S 1 0 = cn (cRun (C0 W0) J) := sB.1
  have hP0 : S 1 2 = PL.length := sB.2.2.1.1
  have hN0 : S 1 1 = NL.length := sB.2.1.1
  have tp4 : S 0 4 = tl.length := hTP.1
  have tp80 : tl.length ≤ 80 := hTP.2.1
  obtain ⟨X1, hc, hO⟩ := vX12_merge (d := 992) hX.1 hp he hy hCB (by omega)
  rw [g0] at hc
  have eq : rNoG S p e y = cwh (cRun (C0 W0) J) (4, p, e, y, 0) := rNo_i (so := 4) (wd := 0) (a := p) (b := e) (y := y) hS ⟨by omega, by omega⟩ (fun z => by omega) (fun z => by omega)
  refine STP_tl hX hW hov hK hb r1 r2 hc (CLX_tOut hX hO) (fun hn hK1 => ⟨up S 0 7 (rNoG S p e y), fun P => tX13_mergeR (d := 994) hK1 hRG hbS (by omega) hp he hy (fun z => hn (by rw [← eq]; exact z)), ?_⟩) (fun hn hK1 => ?_) (Nat.le_refl _)
  · have nb := rNo_b (S := S) (cc := 103) (a := p) (b := e) (y := y) (NP := 0) (n := 0)
    have nb' : 0 ≤ rNoG S p e y ∧ rNoG S p e y ≤ 9 := nb
    have := REL_no (U := S) (r := rNoG S p e y) hREL (by omega) (by omega) rfl (fun _ _ _ _ _ => rfl) rfl rfl hTP hRG (by omega) (by omega)
    rw [eq] at this ⊢
    exact this
  · have hno : rNoG S p e y = 0 := by rw [eq]; exact hn
    obtain ⟨R', aC⟩ := REL_tell (U := S) (so := 4) (a := p) (b := e) (y := y) (wd := 0) (ls := []) hREL jl (by omega) hW rfl (fun _ _ _ _ _ => rfl) rfl rfl hTP hRG hn0 hP0 ⟨by omega, by omega⟩ hno (fun z => by omega) (fun z => by omega) (fun z => by omega)
    obtain ⟨-, ans⟩ := aC _ _ _ hS
    have run := fun P : QP => tX13_mergeY (d := 994) (x := P) hK1 hRG c0 hbS (by omega) (by omega) hno
    refine ⟨_, fun P => ?_, ?_, R'⟩
    · rw [← ans]; exact run P
    · have ec : (cDo (cRun (C0 W0) J) (4, p, e, y, 0)).2 = ((bCt (cPf (cM2 (cW (cRun (C0 W0) J)) p.toNat e.toNat y) p.toNat y) (cn (cRun (C0 W0) J)) : Nat) : Int) := rfl
      have := bCt_le (cPf (cM2 (cW (cRun (C0 W0) J)) p.toNat e.toNat y) p.toNat y) (cn (cRun (C0 W0) J))
      rw [ec]
      exact ⟨by omega, by omega⟩
theorem J_close {p y : Int} (h : JI m t0 k X) (hk : k ≤ 511) (hp : q_i32 p) (hy : q_i32 y) : STP m t0 k X iX12_close iX13_close [qi p, qi y] := by
  obtain ⟨S, g, cN, cT, c, e1, c1, L1, e2, c2, L2, e3, c3, eP, cP, cR, f, l0, W0, J, J2, ms, hs, lr, hl, tl, pp, hX, hW, hov, hK, hREL, hb, r1, r2⟩ := h
  have jl : J.length ≤ 511 := by omega
  have j2l : J2.length ≤ 511 := by omega
  have g0 : g 0 = t0 := hX.2.2.2.2.2.2.2.2.1
  obtain ⟨hRG, hRJ, hMR, hHS, hR7, hLR, hHT, hTP, hPP⟩ := id hREL
  obtain ⟨NL, PL, hS, hCB⟩ := REL_W hRJ (by omega) hW
  obtain ⟨sB, sP, sF, n20, fo8, nl, pl, fnl, spb, tbd⟩ := id hS
  have hbS := SimK_RB hS (by omega)
  have c0 : 0 ≤ S 0 1 ∧ S 0 1 ≤ 6 := by have := hMR.1; have := hMR.2.1; omega
  have hn0 : S 1 0 = cn (cRun (C0 W0) J) := sB.1
  have hP0 : S 1 2 = PL.length := sB.2.2.1.1
  have hN0 : S 1 1 = NL.length := sB.2.1.1
  have tp4 : S 0 4 = tl.length := hTP.1
  have tp80 : tl.length ≤ 80 := hTP.2.1
  obtain ⟨X1, hc, hO⟩ := vX12_close (d := 992) hX.1 hp hy hCB (by omega)
  rw [g0] at hc
  have eq : rNoC S p y PL.length (cn (cRun (C0 W0) J)) = cwh (cRun (C0 W0) J) (5, p, 0, y, 0) := rNo_i (so := 5) (wd := 0) (a := p) (b := 0) (y := y) hS ⟨by omega, by omega⟩ (fun z => by omega) (fun z => by omega)
  refine STP_tl hX hW hov hK hb r1 r2 hc (CLX_tOut hX hO) (fun hn hK1 => ⟨up S 0 7 (rNoC S p y PL.length (cn (cRun (C0 W0) J))), fun P => tX13_closeR (d := 994) hK1 hRG hbS (by omega) hp hy (fun z => hn (by rw [← eq]; exact z)), ?_⟩) (fun hn hK1 => ?_) (Nat.le_refl _)
  · have nb := rNo_b (S := S) (cc := 99) (a := p) (b := 0) (y := y) (NP := PL.length) (n := cn (cRun (C0 W0) J))
    have nb' : 0 ≤ rNoC S p y PL.length (cn (cRun (C0 W0) J)) ∧ rNoC S p y PL.length (cn (cRun (C0 W0) J)) ≤ 9 := nb
    have := REL_no (U := S) (r := rNoC S p y PL.length (cn (cRun (C0 W0) J))) hREL (by omega) (by omega) rfl (fun _ _ _ _ _ => rfl) rfl rfl hTP hRG (by omega) (by omega)
    rw [eq] at this ⊢
    exact this
  · have hno : rNoC S p y PL.length (cn (cRun (C0 W0) J)) = 0 := by rw [eq]; exact hn
    obtain ⟨R', aC⟩ := REL_tell (U := S) (so := 5) (a := p) (b := 0) (y := y) (wd := 0) (ls := []) hREL jl (by omega) hW rfl (fun _ _ _ _ _ => rfl) rfl rfl hTP hRG hn0 hP0 ⟨by omega, by omega⟩ hno (fun z => by omega) (fun z => by omega) (fun z => by omega)
    obtain ⟨-, ans⟩ := aC _ _ _ hS
    have run := fun P : QP => tX13_closeY (d := 994) (x := P) hK1 hRG c0 hbS (by omega) (by omega) hno
    refine ⟨_, fun P => ?_, ?_, R'⟩
    · rw [← ans]; exact run P
    · have ec : (cDo (cRun (C0 W0) J) (5, p, 0, y, 0)).2 = y - plF (cW (cRun (C0 W0) J) p.toNat) := rfl
      rw [ec]
      obtain ⟨z1, z2⟩ := rNoC_0 hno
      obtain ⟨y1, y2, y3, y4, y5⟩ := rNoE_0 z1
      have pn : p.toNat < cn (cRun (C0 W0) J) := by omega
      obtain ⟨q1, q2, q3, q4, -⟩ := (sP.1 p.toNat pn).1
      have k4 := (sB.2.2.2.2.2.2.2.2.2.1 p.toNat pn).2.2.2.2.1
      rw [show ((p.toNat : Nat) : Int) = p by omega] at k4
      exact ⟨by omega, by omega⟩
end CA1
