
/-! orders with a word: found, rename, split -/
section CA2
variable {m t0 k : Nat} {X : QM}
theorem pkW_n0 {l : List Int} (h : lOk l) : ((pkW l : Nat) : Int) ≠ 0 := fun z => by
  have h1 := wdLen_pk h.1 h.2.2
  have h2 : pkW l = 0 := by omega
  rw [h2] at h1
  have h3 : wdLen 0 8 = 0 := rfl
  have := h.2.1
  omega
/-- what taking the word leaves -/
theorem rOw_f {S : RS} {tl : List Int} (hR : RG S) (hT : TPr S tl) : rOw S 1 = S 1 ∧ (∀ j, j ≠ 4 → j ≠ 5 → j ≠ 6 → j ≠ 9 → rOw S 0 j = S 0 j) ∧ rOw S 5 = S 5 ∧ rOw S 7 = S 7 ∧ TPr (rOw S) [] ∧ RG (rOw S) ∧ (lOk tl → rOw S 0 9 = tl.length ∧ ∀ (i : Nat) (c : Int), tl[i]? = some c → rOw S 3 i = c) := by
  refine ⟨rOw_k (by omega) (by omega), fun j h4 h5 h6 h9 => rOw_0 h4 h5 h6 h9, rOw_k (by omega) (by omega), rOw_k (by omega) (by omega), TPr_0 rOw_4, RG_rOw hR, fun hl => ?_⟩
  have hw := (oneW_i hT).mpr hl
  refine ⟨by rw [rOw_9 hw, hT.1], fun i c hc => ?_⟩
  have il := getE_lt hc
  rw [rOw_3 hw (by omega) (by rw [hT.1]; omega)]
  exact hT.2.2.1 i c hc
theorem J_found {a p y : Int} (h : JI m t0 k X) (hk : k ≤ 511) (ha : q_i32 a) (hp : q_i32 p) (hy : q_i32 y) : STP m t0 k X iX12_found iX13_found [qi a, qi p, qi y] := by
  obtain ⟨S, g, cN, cT, c, e1, c1, L1, e2, c2, L2, e3, c3, eP, cP, cR, f, l0, W0, J, J2, ms, hs, lr, hl, tl, pp, hX, hW, hov, hK, hREL, hb, r1, r2⟩ := h
  have jl : J.length ≤ 511 := by omega
  have j2l : J2.length ≤ 511 := by omega
  have g0 : g 0 = t0 := hX.2.2.2.2.2.2.2.2.1
  obtain ⟨hRG, hRJ, hMR, hHS, hR7, hLR, hHT, hTP, hPP⟩ := id hREL
  obtain ⟨NL, PL, hS, hCB⟩ := REL_W hRJ (by omega) hW
  obtain ⟨sB, sP, sF, n20, fo8, nl, pl, fnl, spb, tbd⟩ := id hS
  have hbS := SimK_RB hS (by omega)
  have c0 : 0 ≤ S 0 1 ∧ S 0 1 ≤ 6 := by have := hMR.1; have := hMR.2.1; omega
  have hn0 : S 1 0 = cn (cRun (C0 W0) J) := sB.1
  have hP0 : S 1 2 = PL.length := sB.2.2.1.1
  have hN0 : S 1 1 = NL.length := sB.2.1.1
  have tp4 : S 0 4 = tl.length := hTP.1
  have tp80 : tl.length ≤ 80 := hTP.2.1
  obtain ⟨u1, u0, u5, u7, uT, uR, uW⟩ := rOw_f hRG hTP
  by_cases hk4 : 0 ≤ a ∧ a ≤ 3
  · obtain ⟨X1, hc, hO⟩ := vX12_foundY (d := 992) hX.1 hX.2.1 hk4 hp hy hCB (by omega)
    rw [g0] at hc
    have kU : SimK J.length (rOw S 1) (cRun (C0 W0) J) NL PL := by rw [u1]; exact hS
    by_cases hl : lOk tl
    · have wd := tkW_i.1 hl
      have wn : ((tkW tl : Nat) : Int) ≠ 0 := by rw [wd]; exact pkW_n0 hl
      have hw := (oneW_i hTP).mpr hl
      obtain ⟨w9, w3⟩ := uW hl
      have eq : rNoF (rOw S) a p y = cwh (cRun (C0 W0) J) (0, a, p, y, (tkW tl : Nat)) := rNo_i (so := 0) (wd := (tkW tl : Nat)) (a := a) (b := p) (y := y) kU ⟨by omega, by omega⟩ (fun _ => wn) (fun _ => hk4.1)
      refine STP_tl hX hW hov hK hb r1 r2 hc (CLX_wOut hX hO) (fun hn hK1 => ⟨up (rOw S) 0 7 (rNoF (rOw S) a p y), fun P => ?_, ?_⟩) (fun hn hK1 => ?_) (Nat.zero_le _)
      · have := tX13_foundR (d := 994) (x := P) hK1 hRG (by omega) (by omega) hbS hk4 hp hy (fun z => hn (by rw [← eq]; exact z.2))
        rw [if_pos hw] at this
        exact this
      · have nb := rNo_b (S := rOw S) (cc := 102) (a := a) (b := p) (y := y) (NP := 0) (n := 0)
        have nb' : 0 ≤ rNoF (rOw S) a p y ∧ rNoF (rOw S) a p y ≤ 9 := nb
        have := REL_no (U := rOw S) (r := rNoF (rOw S) a p y) hREL (by omega) (by omega) u1 u0 u5 u7 uT uR (by omega) (by omega)
        rw [eq] at this ⊢
        exact this
      · have hno : rNoF (rOw S) a p y = 0 := by rw [eq]; exact hn
        obtain ⟨R', aC⟩ := REL_tell (U := rOw S) (so := 0) (a := a) (b := p) (y := y) (wd := (tkW tl : Nat)) (ls := tl) hREL jl (by omega) hW u1 u0 u5 u7 uT uR hn0 hP0 ⟨by omega, by omega⟩ hno (fun _ => ⟨by rw [wd], hl, w9, w3⟩) (fun _ => wn) (fun _ => hk4)
        obtain ⟨-, ans⟩ := aC _ _ _ hS
        have run := fun P : QP => tX13_foundY (d := 994) (x := P) hK1 hRG (by omega) (by omega) c0 hbS (by omega) (by omega) hk4 hp hw hno
        refine ⟨_, fun P => ?_, ?_, R'⟩
        · rw [← ans]; exact run P
        · have ec : (cDo (cRun (C0 W0) J) (0, a, p, y, (tkW tl : Nat))).2 = ((cn (cRun (C0 W0) J) : Nat) : Int) := rfl
          rw [ec]; exact ⟨by omega, by omega⟩
    · have wd := tkW_i.2 hl
      have hw : ¬ oneW S = true := fun z => hl ((oneW_i hTP).mp z)
      have eq : cwh (cRun (C0 W0) J) (0, a, p, y, (tkW tl : Nat)) = 9 := by
        rw [wd]
        show (if a = 0 then cNoR (cn (cRun (C0 W0) J)) y ((0 : Nat) : Int) else cNoF (cW (cRun (C0 W0) J)) (cn (cRun (C0 W0) J)) a p y ((0 : Nat) : Int)) = 9
        split
        · rfl
        · rfl
      refine STP_tl hX hW hov hK hb r1 r2 hc (CLX_wOut hX hO) (fun hn hK1 => ⟨up (rOw S) 0 7 9, fun P => ?_, ?_⟩) (fun hn hK1 => ?_) (Nat.zero_le _)
      · have := tX13_foundR (d := 994) (x := P) hK1 hRG (by omega) (by omega) hbS hk4 hp hy (fun z => hw z.1)
        rw [if_neg hw] at this
        exact this
      · rw [eq]
        exact REL_no (U := rOw S) hREL (by omega) (by omega) u1 u0 u5 u7 uT uR (by omega) (by omega)
      · rw [eq] at hn; omega
  · obtain ⟨hc, hT', hI'⟩ := vX12_foundN (d := 992) (p := p) (y := y) hX.1 hX.2.1 ha (by omega)
    rw [g0] at hc
    obtain ⟨b1, b2⟩ := CLX_w (X1 := q_wr X (g 1) 1 (qi 0)) hX hI' hT' (q_fr.wr (Or.inl rfl)) gE.rf
    have hm : m + 8 ≤ q_top X := hX.2.2.2.2.2.2.2.2.2.2.2.2.2.2.2.1
    have hK1 := FO_RK b2 hm hK
    refine STP_mk hX hov hK r1 r2 hc b1 b2 ⟨?_, ?_⟩ (fun P => tX13_foundK (d := 995) hK1 hRG (by omega) (by omega) ha.1 ha.2 hk4) (REL_same (U := rOw S) hREL (by omega) (by omega) u1 u0 u5 u7 uT uR) hW ⟨?_, ?_⟩ ⟨by omega, by omega⟩
    · rw [q_nc_wr]; omega
    · rw [q_ns_wr]; omega
    · simp; omega
    · simp; omega
theorem J_rename {p y : Int} (h : JI m t0 k X) (hk : k ≤ 511) (hp : q_i32 p) (hy : q_i32 y) : STP m t0 k X iX12_rename iX13_rename [qi p, qi y] := by
  obtain ⟨S, g, cN, cT, c, e1, c1, L1, e2, c2, L2, e3, c3, eP, cP, cR, f, l0, W0, J, J2, ms, hs, lr, hl, tl, pp, hX, hW, hov, hK, hREL, hb, r1, r2⟩ := h
  have jl : J.length ≤ 511 := by omega
  have j2l : J2.length ≤ 511 := by omega
  have g0 : g 0 = t0 := hX.2.2.2.2.2.2.2.2.1
  obtain ⟨hRG, hRJ, hMR, hHS, hR7, hLR, hHT, hTP, hPP⟩ := id hREL
  obtain ⟨NL, PL, hS, hCB⟩ := REL_W hRJ (by omega) hW
  obtain ⟨sB, sP, sF, n20, fo8, nl, pl, fnl, spb, tbd⟩ := id hS
  have hbS := SimK_RB hS (by omega)
  have c0 : 0 ≤ S 0 1 ∧ S 0 1 ≤ 6 := by have := hMR.1; have := hMR.2.1; omega
  have hn0 : S 1 0 = cn (cRun (C0 W0) J) := sB.1
  have hP0 : S 1 2 = PL.length := sB.2.2.1.1
  have hN0 : S 1 1 = NL.length := sB.2.1.1
  have tp4 : S 0 4 = tl.length := hTP.1
  have tp80 : tl.length ≤ 80 := hTP.2.1
  obtain ⟨u1, u0, u5, u7, uT, uR, uW⟩ := rOw_f hRG hTP
  obtain ⟨X1, hc, hO⟩ := vX12_rename (d := 992) hX.1 hX.2.1 hp hy hCB (by omega)
  rw [g0] at hc
  have kU : SimK J.length (rOw S 1) (cRun (C0 W0) J) NL PL := by rw [u1]; exact hS
  by_cases hl : lOk tl
  · have wd := tkW_i.1 hl
    have wn : ((tkW tl : Nat) : Int) ≠ 0 := by rw [wd]; exact pkW_n0 hl
    have hw := (oneW_i hTP).mpr hl
    obtain ⟨w9, w3⟩ := uW hl
    have eq : rNoE (rOw S) p y = cwh (cRun (C0 W0) J) (1, p, 0, y, (tkW tl : Nat)) := rNo_i (so := 1) (wd := (tkW tl : Nat)) (a := p) (b := 0) (y := y) kU ⟨by omega, by omega⟩ (fun _ => wn) (fun z => by omega)
    refine STP_tl hX hW hov hK hb r1 r2 hc (CLX_wOut hX hO) (fun hn hK1 => ⟨up (rOw S) 0 7 (rNoE (rOw S) p y), fun P => ?_, ?_⟩) (fun hn hK1 => ?_) (Nat.zero_le _)
    · have := tX13_renameR (d := 994) (x := P) hK1 hRG (by omega) (by omega) hbS (by omega) hp hy (fun z => hn (by rw [← eq]; exact z.2))
      rw [if_pos hw] at this
      exact this
    · have nb' := rNoE_b (rOw S) p y
      have := REL_no (U := rOw S) (r := rNoE (rOw S) p y) hREL (by omega) (by omega) u1 u0 u5 u7 uT uR (by omega) (by omega)
      rw [eq] at this ⊢
      exact this
    · have hno : rNoE (rOw S) p y = 0 := by rw [eq]; exact hn
      obtain ⟨R', aC⟩ := REL_tell (U := rOw S) (so := 1) (a := p) (b := 0) (y := y) (wd := (tkW tl : Nat)) (ls := tl) hREL jl (by omega) hW u1 u0 u5 u7 uT uR hn0 hP0 ⟨by omega, by omega⟩ hno (fun _ => ⟨by rw [wd], hl, w9, w3⟩) (fun _ => wn) (fun z => by omega)
      obtain ⟨-, ans⟩ := aC _ _ _ hS
      have run := fun P : QP => tX13_renameY (d := 994) (x := P) hK1 hRG (by omega) (by omega) c0 hbS (by omega) (by omega) hw hno
      refine ⟨_, fun P => ?_, ?_, R'⟩
      · rw [← ans]; exact run P
      · rw [← ans]
        exact (RG_rKeep uR (by rw [u0 1 (by omega) (by omega) (by omega) (by omega)]; exact c0)) 1 _
  · have wd := tkW_i.2 hl
    have hw : ¬ oneW S = true := fun z => hl ((oneW_i hTP).mp z)
    have eq : cwh (cRun (C0 W0) J) (1, p, 0, y, (tkW tl : Nat)) = 9 := by
      rw [wd]; rfl
    refine STP_tl hX hW hov hK hb r1 r2 hc (CLX_wOut hX hO) (fun hn hK1 => ⟨up (rOw S) 0 7 9, fun P => ?_, ?_⟩) (fun hn hK1 => ?_) (Nat.zero_le _)
    · have := tX13_renameR (d := 994) (x := P) hK1 hRG (by omega) (by omega) hbS (by omega) hp hy (fun z => hw z.1)
      rw [if_neg hw] at this
      exact this
    · rw [eq]
      exact REL_no (U := rOw S) hREL (by omega) (by omega) u1 u0 u5 u7 uT uR (by omega) (by omega)
    · rw [eq] at hn; omega
theorem J_split {p y : Int} (h : JI m t0 k X) (hk : k ≤ 511) (hp : q_i32 p) (hy : q_i32 y) : STP m t0 k X iX12_split iX13_split [qi p, qi y] := by
  obtain ⟨S, g, cN, cT, c, e1, c1, L1, e2, c2, L2, e3, c3, eP, cP, cR, f, l0, W0, J, J2, ms, hs, lr, hl, tl, pp, hX, hW, hov, hK, hREL, hb, r1, r2⟩ := h
  have jl : J.length ≤ 511 := by omega
  have j2l : J2.length ≤ 511 := by omega
  have g0 : g 0 = t0 := hX.2.2.2.2.2.2.2.2.1
  obtain ⟨hRG, hRJ, hMR, hHS, hR7, hLR, hHT, hTP, hPP⟩ := id hREL
  obtain ⟨NL, PL, hS, hCB⟩ := REL_W hRJ (by omega) hW
  obtain ⟨sB, sP, sF, n20, fo8, nl, pl, fnl, spb, tbd⟩ := id hS
  have hbS := SimK_RB hS (by omega)
  have c0 : 0 ≤ S 0 1 ∧ S 0 1 ≤ 6 := by have := hMR.1; have := hMR.2.1; omega
  have hn0 : S 1 0 = cn (cRun (C0 W0) J) := sB.1
  have hP0 : S 1 2 = PL.length := sB.2.2.1.1
  have hN0 : S 1 1 = NL.length := sB.2.1.1
  have tp4 : S 0 4 = tl.length := hTP.1
  have tp80 : tl.length ≤ 80 := hTP.2.1
  obtain ⟨u1, u0, u5, u7, uT, uR, uW⟩ := rOw_f hRG hTP
  obtain ⟨X1, hc, hO⟩ := vX12_split (d := 992) hX.1 hX.2.1 hp hy hCB (by omega)
  rw [g0] at hc
  have kU : SimK J.length (rOw S 1) (cRun (C0 W0) J) NL PL := by rw [u1]; exact hS
  by_cases hl : lOk tl
  · have wd := tkW_i.1 hl
    have wn : ((tkW tl : Nat) : Int) ≠ 0 := by rw [wd]; exact pkW_n0 hl
    have hw := (oneW_i hTP).mpr hl
    obtain ⟨w9, w3⟩ := uW hl
    have eq : rNoS (rOw S) p y PL.length = cwh (cRun (C0 W0) J) (3, p, 0, y, (tkW tl : Nat)) := rNo_i (so := 3) (wd := (tkW tl : Nat)) (a := p) (b := 0) (y := y) kU ⟨by omega, by omega⟩ (fun _ => wn) (fun z => by omega)
    refine STP_tl hX hW hov hK hb r1 r2 hc (CLX_wOut hX hO) (fun hn hK1 => ⟨up (rOw S) 0 7 (rNoS (rOw S) p y PL.length), fun P => ?_, ?_⟩) (fun hn hK1 => ?_) (Nat.zero_le _)
    · have := tX13_splitR (d := 994) (x := P) hK1 hRG (by omega) (by omega) hbS (by omega) hp hy (fun z => hn (by rw [← eq]; exact z.2))
      rw [if_pos hw] at this
      exact this
    · have nb := rNo_b (S := rOw S) (cc := 115) (a := p) (b := 0) (y := y) (NP := PL.length) (n := 0)
      have nb' : 0 ≤ rNoS (rOw S) p y PL.length ∧ rNoS (rOw S) p y PL.length ≤ 9 := nb
      have := REL_no (U := rOw S) (r := rNoS (rOw S) p y PL.length) hREL (by omega) (by omega) u1 u0 u5 u7 uT uR (by omega) (by omega)
      rw [eq] at this ⊢
      exact this
    · have hno : rNoS (rOw S) p y PL.length = 0 := by rw [eq]; exact hn
      obtain ⟨R', aC⟩ := REL_tell (U := rOw S) (so := 3) (a := p) (b := 0) (y := y) (wd := (tkW tl : Nat)) (ls := tl) hREL jl (by omega) hW u1 u0 u5 u7 uT uR hn0 hP0 ⟨by omega, by omega⟩ hno (fun _ => ⟨by rw [wd], hl, w9, w3⟩) (fun _ => wn) (fun z => by omega)
      obtain ⟨-, ans⟩ := aC _ _ _ hS
      have run := fun P : QP => tX13_splitY (d := 994) (x := P) hK1 hRG (by omega) (by omega) c0 hbS (by omega) (by omega) hw hno
      refine ⟨_, fun P => ?_, ?_, R'⟩
      · rw [← ans]; exact run P
      · have ec : (cDo (cRun (C0 W0) J) (3, p, 0, y, (tkW tl : Nat))).2 = ((cn (cRun (C0 W0) J) : Nat) : Int) := rfl
        rw [ec]; exact ⟨by omega, by omega⟩
  · have wd := tkW_i.2 hl
    have hw : ¬ oneW S = true := fun z => hl ((oneW_i hTP).mp z)
    have eq : cwh (cRun (C0 W0) J) (3, p, 0, y, (tkW tl : Nat)) = 9 := by
      rw [wd]; rfl
    refine STP_tl hX hW hov hK hb r1 r2 hc (CLX_wOut hX hO) (fun hn hK1 => ⟨up (rOw S) 0 7 9, fun P => ?_, ?_⟩) (fun hn hK1 => ?_) (Nat.zero_le _)
    · have := tX13_splitR (d := 994) (x := P) hK1 hRG (by omega) (by omega) hbS (by omega) hp hy (fun z => hw z.1)
      rw [if_neg hw] at this
      exact this
    · rw [eq]
      exact REL_no (U := rOw S) hREL (by omega) (by omega) u1 u0 u5 u7 uT uR (by omega) (by omega)
    · rw [eq] at hn; omega
end CA2
