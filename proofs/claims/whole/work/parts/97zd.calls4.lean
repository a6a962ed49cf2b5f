
/-! lookup, write, back, image, undo, on both sides -/
theorem wAll_cg {ev ev' : Nat → Int × Int × Int} : ∀ i : Nat, (∀ j, j < i → ev j = ev' j) → wAll ev i = wAll ev' i
  | 0, _ => rfl
  | i + 1, h => by rw [wAll, wAll, wAll_cg i (fun j hj => h j (by omega)), h i (by omega)]
section CA4
variable {m t0 k : Nat} {X : QM}
theorem J_lookup {y t : Int} (h : JI m t0 k X) (hk : k ≤ 511) (hy : q_i32 y) (ht : q_i32 t) : STP m t0 k X iX12_lookup iX13_lookup [qi y, qi t] := by
  obtain ⟨S, g, cN, cT, c, e1, c1, L1, e2, c2, L2, e3, c3, eP, cP, cR, f, l0, W0, J, J2, ms, hs, lr, hl, tl, pp, hX, hW, hov, hK, hREL, hb, r1, r2⟩ := h
  have jl : J.length ≤ 511 := by omega
  have j2l : J2.length ≤ 511 := by omega
  have g0 : g 0 = t0 := hX.2.2.2.2.2.2.2.2.1
  obtain ⟨hRG, hRJ, hMR, hHS, hR7, hLR, hHT, hTP, hPP⟩ := id hREL
  obtain ⟨NL, PL, hS, hCB⟩ := REL_W hRJ (by omega) hW
  obtain ⟨sB, sP, sF, n20, fo8, nl, pl, fnl, spb, tbd⟩ := id hS
  have hbS := SimK_RB hS (by omega)
  have c0 : 0 ≤ S 0 1 ∧ S 0 1 ≤ 6 := by have := hMR.1; have := hMR.2.1; omega
  have hn0 : S 1 0 = cn (cRun (C0 W0) J) := sB.1
  have hP0 : S 1 2 = PL.length := sB.2.2.1.1
  have hN0 : S 1 1 = NL.length := sB.2.1.1
  have tp4 : S 0 4 = tl.length := hTP.1
  have tp80 : tl.length ≤ 80 := hTP.2.1
  obtain ⟨u1, u0, u5, u7, uT, uR, uW⟩ := rOw_f hRG hTP
  obtain ⟨X1, f', hc, hI', hH', hS', hT', hf, hQ⟩ := vX12_lookup (d := 994) hX.1 hX.2.1 hX.2.2.1 hX.2.2.2.1 hy ht
  rw [g0] at hc
  obtain ⟨hgI, hw, -⟩ := id hX.1
  obtain ⟨hL, hLs, hLl⟩ := hX.2.2.2.2.1
  have nA : ∀ s, s < 244 → ¬ (s = 0 ∨ s = 1 ∨ s = 6 ∨ s = 15) → ¬ (g s = g 0 ∨ g s = g 1 ∨ g s = g 6 ∨ g s = g 15) := fun s hs hz z => by
    rcases z with z | z | z | z
    · have := hgI.1 s _ hs (by omega) z; omega
    · have := hgI.1 s _ hs (by omega) z; omega
    · have := hgI.1 s _ hs (by omega) z; omega
    · have := hgI.1 s _ hs (by omega) z; omega
  have own3 := hX.2.2.2.2.2.2.2.2.2.2.1
  have nP : ¬ (eP = g 0 ∨ eP = g 1 ∨ eP = g 6 ∨ eP = g 15) := fun z => by
    rcases z with z | z | z | z
    · exact own3 _ (by omega) (by omega) z.symm
    · exact own3 _ (by omega) (by omega) z.symm
    · exact own3 _ (by omega) (by omega) z.symm
    · exact own3 _ (by omega) (by omega) z.symm
  obtain ⟨b1, b2⟩ := CLX_parts (Z := fun s => s = 0 ∨ s = 1 ∨ s = 6 ∨ s = 15) (bP := False) (g' := g) (eP' := eP) (cP' := cP) (pp' := pp) (tl' := []) (hl' := lkL (cRun (C0 W0) J) hl (tkW tl : Nat) y t) (f' := f') (cR' := cR) (l0' := l0) hX hI' ⟨by omega, by omega⟩ (hf.wk (fun x _ z => by
    rcases z with z | z | z | z
    · exact Or.inl ⟨0, by omega, by omega, z⟩
    · exact Or.inl ⟨1, by omega, by omega, z⟩
    · exact Or.inl ⟨6, by omega, by omega, z⟩
    · exact Or.inl ⟨15, by omega, by omega, z⟩)) (fun _ _ => rfl) (fun _ _ => Or.inl rfl) (Or.inl rfl) hT' hH' hS' ⟨TL_fr hw hL hf (nA 7 (by omega) (by omega)) (nA 8 (by omega) (by omega)) (nA 9 (by omega) (by omega)), hLs, hLl⟩ (SBm_fr hw hX.2.2.2.2.2.1 hf (nA 10 (by omega) (by omega)) nP)
  have hm : m + 8 ≤ q_top X := hX.2.2.2.2.2.2.2.2.2.2.2.2.2.2.2.1
  have hK1 := FO_RK b2 hm hK
  have rm : q_nc X1 + pot c1 c2 c3 cN cT c cR cP ≤ q_nc X + pot c1 c2 c3 cN cT c cR cP + 82 ∧ q_ns X1 + 4 * pot c1 c2 c3 cN cT c cR cP ≤ q_ns X + 4 * pot c1 c2 c3 cN cT c cR cP + 410 := by
    have q1 := hQ.2.2.1
    have q2 := hQ.2.2.2
    exact ⟨by omega, by omega⟩
  have z0 : 5 * J.length + ([] : List Int).length ≤ 5 * (k + 1) ∧ 5 * J2.length + ([] : List Int).length ≤ 5 * (k + 1) := by
    rw [List.length_nil]; omega
  by_cases hbad : lkBad y t
  · unfold lkL lkR at b1
    rw [if_pos hbad, if_pos hbad] at b1
    unfold lkA at hc
    rw [if_pos hbad] at hc
    exact STP_mk hX hov hK r1 r2 hc b1 b2 rm (fun P => tX13_lookupB (d := 995) hK1 hRG (by omega) (by omega) hy.1 hy.2 ht.1 ht.2 (by unfold lkBad at hbad; omega)) (REL_same (U := rOw S) hREL (by omega) (by omega) u1 u0 u5 u7 uT uR) hW z0 ⟨by omega, by omega⟩
  · have gy : 0 ≤ y ∧ y ≤ 9999 := by unfold lkBad at hbad; omega
    have gt : 0 ≤ t ∧ t ≤ 3 := by unfold lkBad at hbad; omega
    unfold lkL lkR at b1
    rw [if_neg hbad, if_neg hbad] at b1
    unfold lkA at hc
    rw [if_neg hbad] at hc
    by_cases hl' : lOk tl
    · have wd := tkW_i.1 hl'
      have wn : ((tkW tl : Nat) : Int) ≠ 0 := by rw [wd]; exact pkW_n0 hl'
      have hw1 := (oneW_i hTP).mpr hl'
      obtain ⟨w9, w3⟩ := uW hl'
      rw [if_neg wn, if_neg wn] at b1
      rw [if_neg wn] at hc
      obtain ⟨ff, hFR, hq⟩ := tX13_lookupY (d := 995) hK1 hRG (y := y) (w := t) (c := tl.length) (by omega) (by omega) gy gt hw1 hn0 n20 hN0 (by omega) tp4 (ng_i sB sP)
      have eL : lkN (lkh S (rOw S) y NL.length tl.length) (cn (cRun (C0 W0) J)) (t + 1).toNat = lkF (cRun (C0 W0) J) (tkW tl : Nat) y (t.toNat + 1) := by
        rw [lkF_i n20, show (t + 1).toNat = t.toNat + 1 by omega, wd]
        exact lkN_cg (fun a p hp => lkh_i sB sP u1 hl' w3 (by omega) hp a) _
      rw [eL] at hq
      have h20 : (lkF (cRun (C0 W0) J) (tkW tl : Nat) y (t.toNat + 1)).length ≤ 20 := b1.2.2.1.2.1
      obtain ⟨L, hLd⟩ : ∃ L, L = lkF (cRun (C0 W0) J) (tkW tl : Nat) y (t.toNat + 1) := ⟨_, rfl⟩
      rw [← hLd] at hq hc b1 h20
      have mem : ∀ p ∈ L, p < cn (cRun (C0 W0) J) := fun p hp => by
        rw [hLd, ← eL] at hp
        exact lkN_mem _ hp
      have RT : RG (rLq (rOw S) (lkI L) ff) := RG_rLq uR hFR (fun c hc => by
        unfold lkI at hc
        obtain ⟨p, hp, rfl⟩ := List.mem_map.mp hc
        have := mem p hp
        omega) (by rw [lkI_len]; omega)
      have e1 : rLq (rOw S) (lkI L) ff 1 = S 1 := by rw [rLq_k (by omega) (by omega) (by omega), u1]
      have e0 : ∀ j : Int, j ≠ 4 → j ≠ 5 → j ≠ 6 → j ≠ 9 → j ≠ 13 → rLq (rOw S) (lkI L) ff 0 j = S 0 j := fun j h4 h5 h6 h9 h13 => by rw [rLq_0 h13, u0 j h4 h5 h6 h9]
      refine STP_mk hX hov hK r1 r2 hc b1 b2 rm (T := rLq (rOw S) (lkI L) ff) (fun P => T_of hq P) ⟨RT, by rw [e1]; exact hRJ, MRK_e hMR (by omega) e1 (e0 1 (by omega) (by omega) (by omega) (by omega) (by omega)), ⟨by rw [e0 2 (by omega) (by omega) (by omega) (by omega) (by omega)]; exact hHS.1, hHS.2⟩, fun z => RJ_c (hR7 z) (by omega) (fun j _ _ => by unfold bk; rw [e1]), by rw [e0 7 (by omega) (by omega) (by omega) (by omega) (by omega)]; exact hLR, ⟨by rw [rLq_13, lkI_len], h20, fun i v hv => ?_⟩, TPr_0 (by rw [rLq_0 (by omega)]; exact rOw_4), ⟨by rw [e0 16 (by omega) (by omega) (by omega) (by omega) (by omega)]; exact hPP.1, hPP.2.1, fun i v hv => by rw [rLq_k (by omega) (by omega) (by omega), u7]; exact hPP.2.2 i v hv⟩⟩ hW z0 ⟨by omega, by omega⟩
      have il := getE_lt hv
      rw [rLq_5 (by rw [lkI_len]; exact il)]
      have ev : L[i] = v := by rw [List.getElem?_eq_getElem il] at hv; exact Option.some.inj hv
      unfold lkI
      rw [List.getElem_map, ev]
    · have wd := tkW_i.2 hl'
      have w0 : ((tkW tl : Nat) : Int) = 0 := by rw [wd]; rfl
      have hw1 : ¬ oneW S = true := fun z => hl' ((oneW_i hTP).mp z)
      rw [if_pos w0, if_pos w0] at b1
      rw [if_pos w0] at hc
      exact STP_mk hX hov hK r1 r2 hc b1 b2 rm (fun P => tX13_lookupW (d := 995) hK1 hRG (by omega) (by omega) gy gt hw1) (REL_no (U := rOw S) hREL (by omega) (by omega) u1 u0 u5 u7 uT uR (by omega) (by omega)) hW z0 ⟨by omega, by omega⟩
theorem J_write {p : Int} (h : JI m t0 k X) (hk : k ≤ 511) (hp : q_i32 p) : STP m t0 k X iX12_write iX13_write [qi p] := by
  obtain ⟨S, g, cN, cT, c, e1, c1, L1, e2, c2, L2, e3, c3, eP, cP, cR, f, l0, W0, J, J2, ms, hs, lr, hl, tl, pp, hX, hW, hov, hK, hREL, hb, r1, r2⟩ := h
  have jl : J.length ≤ 511 := by omega
  have j2l : J2.length ≤ 511 := by omega
  have g0 : g 0 = t0 := hX.2.2.2.2.2.2.2.2.1
  obtain ⟨hRG, hRJ, hMR, hHS, hR7, hLR, hHT, hTP, hPP⟩ := id hREL
  obtain ⟨NL, PL, hS, hCB⟩ := REL_W hRJ (by omega) hW
  obtain ⟨sB, sP, sF, n20, fo8, nl, pl, fnl, spb, tbd⟩ := id hS
  have hbS := SimK_RB hS (by omega)
  have c0 : 0 ≤ S 0 1 ∧ S 0 1 ≤ 6 := by have := hMR.1; have := hMR.2.1; omega
  have hn0 : S 1 0 = cn (cRun (C0 W0) J) := sB.1
  have hP0 : S 1 2 = PL.length := sB.2.2.1.1
  have hN0 : S 1 1 = NL.length := sB.2.1.1
  have tp4 : S 0 4 = tl.length := hTP.1
  have tp80 : tl.length ≤ 80 := hTP.2.1
  by_cases hn : 0 ≤ p ∧ p < cn (cRun (C0 W0) J)
  · obtain ⟨pN, rfl⟩ : ∃ pN : Nat, p = pN := ⟨p.toNat, by omega⟩
    have pl' : pN < cn (cRun (C0 W0) J) := by omega
    have i4 := (sP.1 pN pl').2.2.2.1
    obtain ⟨H, hHd⟩ : ∃ H, H = plH (cW (cRun (C0 W0) J) pN) := ⟨_, rfl⟩
    have i4' : ∀ e ∈ H, (0 ≤ e.1 ∧ e.1 < 10000) ∧ (0 ≤ e.2.1 ∧ e.2.1 < 9) ∧ (e.2.2 = -5 ∨ (0 ≤ e.2.2 ∧ e.2.2 < 10000)) := by rw [hHd]; exact i4
    have hk4 : hOk H := fun i hi _ => i4' _ (List.getElem_mem hi)
    obtain ⟨X1, e', cap', hc, hB', hf, hwf, hgr, hfe⟩ := vX12_writeY (d := 993) (p := (pN : Int)) hX.1 hX.2.2.2.2.2.1 hX.2.2.2.2.2.2.1 hn (by rw [Int.toNat_natCast, ← hHd]; exact hk4)
    rw [g0, Int.toNat_natCast, ← hHd] at hc
    rw [Int.toNat_natCast, ← hHd] at hB'
    obtain ⟨hgI, hw, -⟩ := id hX.1
    obtain ⟨hL, hLs, hLl⟩ := hX.2.2.2.2.1
    have own3 := hX.2.2.2.2.2.2.2.2.2.2.1
    have nA : ∀ s, s < 244 → ¬ (s = 10 ∨ s = 11) → ¬ (g s = g 10 ∨ g s = eP) := fun s hs hz z => by
      rcases z with z | z
      · have := hgI.1 s _ hs (by omega) z; omega
      · exact own3 s hs (by omega) z
    have kP : (q_kd X eP).1 = 4 := by rw [hX.2.2.2.2.2.1.2.2.2.2.1]
    have hI' := CRI_p hX.1 hf hwf kP own3
    obtain ⟨b1, b2⟩ := CLX_parts (Z := fun s => s = 10) (bP := True) (g' := g) (eP' := e') (cP' := cap') (pp' := wAll (hEv H) (min H.length 24)) (tl' := tl) (hl' := hl) (f' := f) (cR' := cR) (l0' := l0) hX hI' ⟨by omega, by omega⟩ (hf.wk (fun x _ z => by
      rcases z with z | z
      · exact Or.inl ⟨10, by omega, rfl, z⟩
      · exact Or.inr ⟨trivial, z⟩)) (fun _ _ => rfl) (fun _ _ => Or.inl rfl) (hfe.imp_right (fun z => ⟨z, rfl⟩)) (TP_fr hw hX.2.1 hf (nA 1 (by omega) (by omega)) (nA 2 (by omega) (by omega))) (HT_fr hgI hX.2.2.1 hf (nA 15 (by omega) (by omega)) rfl) (SPm_fr hw hX.2.2.2.1 hf (nA 5 (by omega) (by omega)) (nA 6 (by omega) (by omega))) ⟨TL_fr hw hL hf (nA 7 (by omega) (by omega)) (nA 8 (by omega) (by omega)) (nA 9 (by omega) (by omega)), hLs, hLl⟩ hB'
    have hm : m + 8 ≤ q_top X := hX.2.2.2.2.2.2.2.2.2.2.2.2.2.2.2.1
    have hK1 := FO_RK b2 hm hK
    obtain ⟨-, -, -, -, -, P5, P6⟩ := sB.2.2.2.2.2.2.2.2.2.1 pN pl'
    rw [← hHd] at P5 P6
    obtain ⟨N, hN⟩ : ∃ N, N = min H.length 24 := ⟨_, rfl⟩
    have hN' : N = min 24 (S 1 (15 + 78 * (pN : Int) + 5)).toNat := by rw [P5, Int.toNat_natCast]; omega
    have evE : ∀ j, j < N → rEvs S pN j = hEv H j := fun j hj => by
      have jl' : j < H.length := by omega
      obtain ⟨q1, q2, q3⟩ := P6 j _ (by omega) (List.getElem?_eq_getElem jl')
      rw [hEv_e jl']
      unfold rEvs
      rw [q1, q2, q3]
    have eW : wAll (rEvs S pN) N = wAll (hEv H) N := wAll_cg N evE
    have he : ∀ j, j < N → ((0 ≤ (rEvs S pN j).1 ∧ (rEvs S pN j).1 ≤ 9999) ∧ ((rEvs S pN j).2.2 = -5 ∨ (0 ≤ (rEvs S pN j).2.2 ∧ (rEvs S pN j).2.2 ≤ 9999))) := fun j hj => by
      have jl' : j < H.length := by omega
      have := i4' _ (List.getElem_mem jl')
      rw [evE j hj, hEv_e jl']
      omega
    have run := fun P : QP => tX13_writeY (d := 994) (x := P) (p := (pN : Int)) (N := N) hK1 hRG (by omega) (by omega) (by omega) hN' (by rw [P5]; omega) he
    rw [eW] at run
    have len := wAll_len (hEv H) N
    have lr' := wAll_R (ev := rEvs S pN) N (fun j hj => by have := he j hj; omega)
    rw [eW] at lr'
    rw [← hN] at hc b1
    obtain ⟨q1, q2, q3⟩ := hgr
    refine STP_mk hX hov hK r1 r2 hc b1 b2 ⟨?_, ?_⟩ run ⟨RG_rPp hRG lr' (by omega), by rw [rPp_1 (by omega) (by omega)]; exact hRJ, MRK_e hMR (by omega) (rPp_1 (by omega) (by omega)) (rPp_0 (by omega)), ⟨by rw [rPp_0 (by omega)]; exact hHS.1, hHS.2⟩, fun z => RJ_c (hR7 z) (by omega) (fun j _ _ => by unfold bk; rw [rPp_1 (by omega) (by omega)]), by rw [rPp_0 (by omega)]; exact hLR, ⟨by rw [rPp_0 (by omega)]; exact hHT.1, hHT.2.1, fun i v hv => by rw [rPp_1 (by omega) (by omega)]; exact hHT.2.2 i v hv⟩, TPr_c hTP (rPp_0 (by omega)) (rPp_1 (by omega) (by omega)), ⟨rPp_16, by omega, fun i v hv => ?_⟩⟩ hW ⟨by omega, by omega⟩ ⟨by omega, by omega⟩
    · unfold pot; omega
    · unfold pot; omega
    · have il := getE_lt hv
      rw [rPp_7 il]
      rw [List.getElem?_eq_getElem il] at hv
      exact Option.some.inj hv
  · have u := fun P : QP => uX12_writeN (d := 998) (x := P) hX.1 hp hn
    rw [g0] at u
    exact STP_ro hX hW hov hK hREL hb r1 r2 u (fun P => tX13_writeN (d := 994) hK hRG (by omega) (by omega) hp.1 hp.2 (by omega)) ⟨by omega, by omega⟩
theorem J_back (h : JI m t0 k X) (hk : k ≤ 511) : STP m t0 k X iX12_back iX13_back [] := by
  obtain ⟨S, g, cN, cT, c, e1, c1, L1, e2, c2, L2, e3, c3, eP, cP, cR, f, l0, W0, J, J2, ms, hs, lr, hl, tl, pp, hX, hW, hov, hK, hREL, hb, r1, r2⟩ := h
  have jl : J.length ≤ 511 := by omega
  have j2l : J2.length ≤ 511 := by omega
  have g0 : g 0 = t0 := hX.2.2.2.2.2.2.2.2.1
  obtain ⟨hRG, hRJ, hMR, hHS, hR7, hLR, hHT, hTP, hPP⟩ := id hREL
  obtain ⟨NL, PL, hS, hCB⟩ := REL_W hRJ (by omega) hW
  obtain ⟨sB, sP, sF, n20, fo8, nl, pl, fnl, spb, tbd⟩ := id hS
  have hbS := SimK_RB hS (by omega)
  have c0 : 0 ≤ S 0 1 ∧ S 0 1 ≤ 6 := by have := hMR.1; have := hMR.2.1; omega
  have hn0 : S 1 0 = cn (cRun (C0 W0) J) := sB.1
  have hP0 : S 1 2 = PL.length := sB.2.2.1.1
  have hN0 : S 1 1 = NL.length := sB.2.1.1
  have tp4 : S 0 4 = tl.length := hTP.1
  have tp80 : tl.length ≤ 80 := hTP.2.1
  by_cases hn : ms.length = 0
  · have u := fun P : QP => uX12_backN (d := 999) (x := P) hX.1 hn
    rw [g0] at u
    exact STP_ro hX hW hov hK hREL hb r1 r2 u (fun P => tX13_backN (d := 998) hK hRG (by have := hMR.1; omega)) ⟨by omega, by omega⟩
  · obtain ⟨kk, hkk⟩ : ∃ kk, ms.length = kk + 1 := ⟨ms.length - 1, by omega⟩
    obtain ⟨hM1, hM2, hM3, hMs⟩ := id hMR
    obtain ⟨v, hv⟩ : ∃ v, ms[kk]? = some v := ⟨_, List.getElem?_eq_getElem (by omega)⟩
    obtain ⟨mN, rfl, hmJ, hr⟩ := hM3 kk v hv
    obtain ⟨X1, g', cN', cT', c', hc, hI', hf, hgO, hgr⟩ := vX12_backY (d := 993) hX.1 hkk hv hmJ (by omega) (jOk_J hr.2 (CB_g hCB))
    rw [g0] at hc
    obtain ⟨b1, b2⟩ := CLX_w hX hI' (TP_w hX hf) (hf.wk (fun x _ z => Or.inr z)) ⟨hgO, Or.inl ⟨rfl, rfl⟩⟩
    have hm : m + 8 ≤ q_top X := hX.2.2.2.2.2.2.2.2.2.2.2.2.2.2.2.1
    have hK1 := FO_RK b2 hm hK
    have s01 : S 0 1 = (kk : Int) + 1 := by omega
    have run := fun P : QP => tX13_backY (d := 998) (x := P) hK1 hRG (by omega)
    have tk : (J.take mN).length = mN := by rw [List.length_take]; omega
    have mk' : (ms.take kk).length = kk := by rw [List.length_take]; omega
    obtain ⟨w1, w2, w3⟩ := hgr
    obtain ⟨T, hT⟩ : ∃ T, T = up (rCpN S (S 0 1) 0 13475) 0 1 (S 0 1 - 1) := ⟨_, rfl⟩
    rw [← hT] at run
    have T1 : ∀ j, T 1 j = rCpN S (S 0 1) 0 13475 1 j := fun j => by rw [hT, up_k (by omega)]
    have T0 : ∀ j : Int, j ≠ 1 → T 0 j = S 0 j := fun j hj => by rw [hT, up_j hj, rCpN_k (by omega)]
    have Tk : ∀ t, t ≠ 0 → t ≠ 1 → T t = S t := fun t h0 h1 => by rw [hT, up_k h0, rCpN_k h1]
    have T01 : T 0 1 = kk := by rw [hT, up_s]; omega
    have Tb : ∀ j : Int, 0 ≤ j → j < 13475 → T 1 j = bk S ((kk : Int) + 1) j := fun j j0 j1 => by
      have := rCpN_i (S := S) (f := S 0 1) (t := 0) (n := 13475) j0 (by omega)
      rw [show 13475 * (0 : Int) + j = j by omega] at this
      rw [T1, this, s01]; rfl
    have Th : ∀ j : Int, 13475 ≤ j → T 1 j = S 1 j := fun j hj => by rw [T1, rCpN_o (by omega)]
    refine STP_mk hX hov hK r1 r2 hc b1 b2 (W0' := cW (cRun (C0 W0) J)) (T := T) ⟨?_, ?_⟩ (fun P => ?_) (REL_mk hREL (by omega) (by rw [hT]; exact RG_up (RG_rCpN hRG) (by omega) (by omega)) (RJ_c hr (by omega) (fun j j0 j1 => Tb j j0 j1)) ⟨by rw [T01, mk'], by omega, fun i w hw => ?_, hMs.sublist (List.take_sublist _ _)⟩ (T0 2 (by omega)) (fun j j0 _ => Th j (by omega)) (by rw [T0 7 (by omega)]; exact hLR) (T0 13 (by omega)) (Tk 5 (by omega) (by omega)) (TPr_c hTP (T0 4 (by omega)) (Tk 2 (by omega) (by omega))) (T0 16 (by omega)) (Tk 7 (by omega) (by omega))) (CB_g hCB) ⟨by omega, by omega⟩ ⟨by omega, by omega⟩
    · unfold pot; omega
    · unfold pot; omega
    · have := run P
      rw [show S 0 1 - 1 = (kk : Int) by omega] at this
      exact this
    · have il := getE_lt hw
      rw [mk'] at il
      rw [List.getElem?_take, if_pos il] at hw
      obtain ⟨mi, rfl, hmi, hri⟩ := hM3 i w hw
      have le : mi ≤ mN := by
        have h1 := List.pairwise_iff_getElem.mp hMs i kk (by omega) (by omega) il
        rw [List.getElem?_eq_getElem (by omega)] at hw hv
        rw [Option.some.inj hw, Option.some.inj hv] at h1
        omega
      refine ⟨mi, rfl, by omega, ?_⟩
      rw [List.take_take, Nat.min_eq_left le]
      exact RJ_c hri (by rw [List.length_take]; omega) (fun j j0 _ => by unfold bk; exact Th _ (by omega))
theorem J_image (h : JI m t0 k X) (hk : k ≤ 511) : STP m t0 k X iX12_image iX13_image [] := by
  obtain ⟨S, g, cN, cT, c, e1, c1, L1, e2, c2, L2, e3, c3, eP, cP, cR, f, l0, W0, J, J2, ms, hs, lr, hl, tl, pp, hX, hW, hov, hK, hREL, hb, r1, r2⟩ := h
  have jl : J.length ≤ 511 := by omega
  have j2l : J2.length ≤ 511 := by omega
  have g0 : g 0 = t0 := hX.2.2.2.2.2.2.2.2.1
  obtain ⟨hRG, hRJ, hMR, hHS, hR7, hLR, hHT, hTP, hPP⟩ := id hREL
  obtain ⟨NL, PL, hS, hCB⟩ := REL_W hRJ (by omega) hW
  obtain ⟨sB, sP, sF, n20, fo8, nl, pl, fnl, spb, tbd⟩ := id hS
  have hbS := SimK_RB hS (by omega)
  have c0 : 0 ≤ S 0 1 ∧ S 0 1 ≤ 6 := by have := hMR.1; have := hMR.2.1; omega
  have hn0 : S 1 0 = cn (cRun (C0 W0) J) := sB.1
  have hP0 : S 1 2 = PL.length := sB.2.2.1.1
  have hN0 : S 1 1 = NL.length := sB.2.1.1
  have tp4 : S 0 4 = tl.length := hTP.1
  have tp80 : tl.length ≤ 80 := hTP.2.1
  obtain ⟨X1, e2', c2', hc, hI', hf, hgr, hfe⟩ := vX12_image (d := 992) hX.1 (by omega)
  rw [g0] at hc
  obtain ⟨b1, b2⟩ := CLX_z (Z := fun s => s = 0 ∨ s = 13) hX hI' (fun s z => by omega) (hf.wk (fun x _ z => by
    rcases z with z | z | z
    · exact Or.inl ⟨0, by omega, Or.inl rfl, z⟩
    · exact Or.inl ⟨13, by omega, Or.inr rfl, z⟩
    · exact Or.inr z)) hfe
  have hm : m + 8 ≤ q_top X := hX.2.2.2.2.2.2.2.2.2.2.2.2.2.2.2.1
  have hK1 := FO_RK b2 hm hK
  have run := fun P : QP => tX13_image (d := 998) (x := P) hK1 hRG
  obtain ⟨w1, w2, w3⟩ := hgr
  obtain ⟨T, hT⟩ : ∃ T, T = rCpN (up S 0 2 1) 0 7 13475 := ⟨_, rfl⟩
  rw [← hT] at run
  have Tl : ∀ j : Int, j < 13475 * 7 → T 1 j = S 1 j := fun j hj => by rw [hT, rCpN_o (by omega), up_k (by omega)]
  have T0 : ∀ j : Int, j ≠ 2 → T 0 j = S 0 j := fun j hj => by rw [hT, rCpN_k (by omega), up_j hj]
  have T02 : T 0 2 = 1 := by rw [hT, rCpN_k (by omega), up_s]
  have Tk : ∀ t, t ≠ 0 → t ≠ 1 → T t = S t := fun t h0 h1 => by rw [hT, rCpN_k h1, up_k h0]
  have T7 : ∀ j : Int, 0 ≤ j → j < 13475 → bk T 7 j = S 1 j := fun j j0 j1 => by
    have := rCpN_i (S := up S 0 2 1) (f := 0) (t := 7) (n := 13475) j0 (by omega)
    unfold bk
    rw [hT, this, up_k (by omega)]
    exact congrArg _ (by omega)
  refine STP_mk hX hov hK r1 r2 hc b1 b2 (T := T) ⟨?_, ?_⟩ (fun P => ?_) ⟨by rw [hT]; exact RG_rCpN (RG_up hRG (by omega) (by omega)), RJ_c hRJ (by omega) (fun j _ j1 => Tl j (by omega)), ?_, ⟨T02, Or.inr rfl⟩, fun _ => RJ_c hRJ (by omega) T7, by rw [T0 7 (by omega)]; exact hLR, ⟨by rw [T0 13 (by omega)]; exact hHT.1, hHT.2.1, fun i v hv => by rw [Tk 5 (by omega) (by omega)]; exact hHT.2.2 i v hv⟩, TPr_c hTP (T0 4 (by omega)) (Tk 2 (by omega) (by omega)), ⟨by rw [T0 16 (by omega)]; exact hPP.1, hPP.2.1, fun i v hv => by rw [Tk 7 (by omega) (by omega)]; exact hPP.2.2 i v hv⟩⟩ hW ⟨by omega, by omega⟩ ⟨by omega, by omega⟩
  · unfold pot; omega
  · unfold pot; omega
  · rw [← hn0]; exact run P
  · have := MRK_c (os := []) (by omega) hMR (T0 1 (by omega)) (fun j _ j1 => Tl j j1)
    rw [List.append_nil] at this
    exact this
theorem J_undo (h : JI m t0 k X) (hk : k ≤ 511) : STP m t0 k X iX12_undo iX13_undo [] := by
  obtain ⟨S, g, cN, cT, c, e1, c1, L1, e2, c2, L2, e3, c3, eP, cP, cR, f, l0, W0, J, J2, ms, hs, lr, hl, tl, pp, hX, hW, hov, hK, hREL, hb, r1, r2⟩ := h
  have jl : J.length ≤ 511 := by omega
  have j2l : J2.length ≤ 511 := by omega
  have g0 : g 0 = t0 := hX.2.2.2.2.2.2.2.2.1
  obtain ⟨hRG, hRJ, hMR, hHS, hR7, hLR, hHT, hTP, hPP⟩ := id hREL
  obtain ⟨NL, PL, hS, hCB⟩ := REL_W hRJ (by omega) hW
  obtain ⟨sB, sP, sF, n20, fo8, nl, pl, fnl, spb, tbd⟩ := id hS
  have hbS := SimK_RB hS (by omega)
  have c0 : 0 ≤ S 0 1 ∧ S 0 1 ≤ 6 := by have := hMR.1; have := hMR.2.1; omega
  have hn0 : S 1 0 = cn (cRun (C0 W0) J) := sB.1
  have hP0 : S 1 2 = PL.length := sB.2.2.1.1
  have hN0 : S 1 1 = NL.length := sB.2.1.1
  have tp4 : S 0 4 = tl.length := hTP.1
  have tp80 : tl.length ≤ 80 := hTP.2.1
  rcases hHS.2 with hz | hz
  · have u := fun P : QP => uX12_undoN (d := 999) (x := P) hX.1 hz
    rw [g0] at u
    exact STP_ro hX hW hov hK hREL hb r1 r2 u (fun P => tX13_undoN (d := 998) hK hRG (by rw [hHS.1, hz])) ⟨by omega, by omega⟩
  · have hr := hR7 hz
    obtain ⟨X1, g', cN', cT', c', e1', c1', hc, hI', hf, hgE, hgr⟩ := vX12_undoY (d := 992) hX.1 hz (by omega) (jOk_J hr.2 (CB_g hCB))
    rw [g0] at hc
    obtain ⟨b1, b2⟩ := CLX_w hX hI' (TP_w hX hf) (hf.wk (fun x _ z => Or.inr z)) hgE
    have hm : m + 8 ≤ q_top X := hX.2.2.2.2.2.2.2.2.2.2.2.2.2.2.2.1
    have hK1 := FO_RK b2 hm hK
    have run := fun P : QP => tX13_undoY (d := 998) (x := P) hK1 hRG (by rw [hHS.1, hz])
    obtain ⟨w1, w2, w3⟩ := hgr
    obtain ⟨NL', PL', k', -⟩ := hr.1 (cW (cRun (C0 W0) J))
    have k0 : S 1 (13475 * 7 + 0) = cn (cRun (C0 (cW (cRun (C0 W0) J))) J2) := k'.1.1
    have k20 := k'.2.2.2.1
    obtain ⟨T, hT⟩ : ∃ T, T = up (rCpN S 7 0 13475) 0 1 0 := ⟨_, rfl⟩
    rw [← hT] at run
    have T1 : ∀ j, T 1 j = rCpN S 7 0 13475 1 j := fun j => by rw [hT, up_k (by omega)]
    have T0 : ∀ j : Int, j ≠ 1 → T 0 j = S 0 j := fun j hj => by rw [hT, up_j hj, rCpN_k (by omega)]
    have Tk : ∀ t, t ≠ 0 → t ≠ 1 → T t = S t := fun t h0 h1 => by rw [hT, up_k h0, rCpN_k h1]
    have T01 : T 0 1 = 0 := by rw [hT, up_s]
    have Tb : ∀ j : Int, 0 ≤ j → j < 13475 → T 1 j = bk S 7 j := fun j j0 j1 => by
      have := rCpN_i (S := S) (f := 7) (t := 0) (n := 13475) j0 (by omega)
      rw [show 13475 * (0 : Int) + j = j by omega] at this
      rw [T1, this]; rfl
    have Th : ∀ j : Int, 13475 ≤ j → T 1 j = S 1 j := fun j hj => by rw [T1, rCpN_o (by omega)]
    refine STP_mk hX hov hK r1 r2 hc b1 b2 (W0' := cW (cRun (C0 W0) J)) (T := T) ⟨?_, ?_⟩ (fun P => ?_) (REL_mk hREL (by omega) (by rw [hT]; exact RG_up (RG_rCpN hRG) (by omega) (by omega)) (RJ_c hr (by omega) (fun j j0 j1 => Tb j j0 j1)) ⟨by rw [T01]; rfl, by simp, fun i w hw => by simp at hw, List.Pairwise.nil⟩ (T0 2 (by omega)) (fun j j0 _ => Th j (by omega)) (by rw [T0 7 (by omega)]; exact hLR) (T0 13 (by omega)) (Tk 5 (by omega) (by omega)) (TPr_c hTP (T0 4 (by omega)) (Tk 2 (by omega) (by omega))) (T0 16 (by omega)) (Tk 7 (by omega) (by omega))) (CB_g hCB) ⟨by omega, by omega⟩ ⟨?_, ?_⟩
    · unfold pot; omega
    · unfold pot; omega
    · have := run P
      rw [k0] at this
      exact this
    · have e : (clrC (cRun (C0 W0) J)) = C0 (cW (cRun (C0 W0) J)) := rfl
      rw [e]; omega
    · have e : (clrC (cRun (C0 W0) J)) = C0 (cW (cRun (C0 W0) J)) := rfl
      rw [e]; omega
end CA4
