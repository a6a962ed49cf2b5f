
/-! a text, on both sides: the call -/
theorem ov_cg {m : Nat} {S S' : RS} {M : QM} (h : ∀ (t j : Nat), S' t j = S t j) : ov m S' M = ov m S M := by
  unfold ov
  refine congrArg (Prod.mk _) (congrArg (fun f => Prod.mk f _) ?_)
  funext b j
  by_cases hb : m ≤ b ∧ b < m + 8
  · rw [if_pos hb, if_pos hb]
    by_cases e : b = m
    · rw [if_pos e, if_pos e]
      unfold rfi
      split <;> first | rfl | rw [h]
    · rw [if_neg e, if_neg e, h]
  · rw [if_neg hb, if_neg hb]
theorem pW_u (h : Int → Int) (c f s dd a : Int) : (pW h c f s dd a).1 ≤ a + 11 := by
  have := wCnt_le h 9 (a + 1)
  unfold pW
  repeat' split
  all_goals (show _ ≤ a + 11; dsimp only; omega)
theorem pD_u (h : Int → Int) (c f s a : Int) : (pD h c f s a).1 ≤ a + 16 := by
  have d1 := dRun_a h 4 (a + 1) 0
  have := pW_u h c f s (dRun h 4 (a + 1) 0).2 (dRun h 4 (a + 1) 0).1
  unfold pD
  repeat' split
  all_goals first | omega | (show _ ≤ a + 16; dsimp only; omega)
theorem pS_u (h : Int → Int) (c f a : Int) : (pS h c f a).1 ≤ a + 21 := by
  have d1 := dRun_a h 4 (a + 1) 0
  have := pD_u h c f (dRun h 4 (a + 1) 0).2 (dRun h 4 (a + 1) 0).1
  have := pD_u h c f 0 a
  unfold pS
  repeat' split
  all_goals first | omega | (show _ ≤ a + 21; dsimp only; omega)
theorem pCmd_u (h : Int → Int) (a : Int) : (pCmd h a).1 ≤ a + 26 := by
  have d1 := dRun_a h 4 (a + 1) 0
  have := pS_u h (h a) (dRun h 4 (a + 1) 0).2 (dRun h 4 (a + 1) 0).1
  have := pS_u h (h a) (h (a + 1) - 48) (a + 2)
  unfold pCmd
  repeat' split
  all_goals first | omega | (show _ ≤ a + 26; dsimp only; omega)
theorem pAll_eb {h : Int → Int} {n : Int} (hn : ∀ i, n ≤ i → h i = -1) : ∀ (k : Nat) (a e : Int), 0 ≤ a → a ≤ n → pAll h n k a = (e, none) → 0 ≤ e ∧ e ≤ n + 26
  | 0, a, e, h0, ha, hh => by
    have : a = e := congrArg Prod.fst hh
    omega
  | k + 1, a, e, h0, ha, hh => by
    have u := pCmd_u h a
    have l := pCmd_e h a
    rw [pAll] at hh
    split at hh
    · rename_i e1 hc
      have e2 : e1 = e := congrArg Prod.fst hh
      rw [hc] at u l
      have u' : e1 ≤ a + 26 := u
      have l' : a ≤ e1 := l
      omega
    · rename_i a' q hc
      rw [hc] at u l
      have u' : a' ≤ a + 26 := u
      have l' : a ≤ a' := l
      split at hh
      · rename_i g
        have := lt_n hn (a := a') (by omega)
        split at hh
        · rename_i e1 hp
          have e2 : e1 = e := congrArg Prod.fst hh
          rw [← e2]
          exact pAll_eb hn k (a' + 1) e1 (by omega) (by omega) hp
        · exact absurd (congrArg Prod.snd hh) (by simp)
      · split at hh
        · have e2 : a' = e := congrArg Prod.fst hh
          omega
        · exact absurd (congrArg Prod.snd hh) (by simp)
theorem rnR_ib : ∀ (os : List Od) (C C' : CWs) (k i : Nat) (y : Int), rnR C os k = (C', some (i, y)) → k ≤ i ∧ i < k + os.length
  | [], C, C', k, i, y, h => by
    rw [rnR] at h
    exact absurd (congrArg Prod.snd h) (by simp)
  | q :: os, C, C', k, i, y, h => by
    rw [rnR] at h
    rw [List.length_cons]
    split at h
    · have := rnR_ib os _ C' (k + 1) i y h
      omega
    · have e := Option.some.inj (congrArg Prod.snd h)
      have e1 : k = i := congrArg Prod.fst e
      omega
section RNA
variable {h : Int → Int} {J : List Od} {b : Int → Int} {W0 : Nat → Pl} {ls : List pQ} {C' : CWs}
theorem rnR_n (hJ : RJ J b) (hW : CBg W0) (hl : J.length + ls.length ≤ 600) (hq : ∀ q ∈ ls, qOk h q) (hr : rnR (cRun (C0 W0) J) (ls.map (pOd h)) 0 = (C', none)) : C' = cRun (C0 W0) (J ++ ls.map (pOd h)) := by
  obtain ⟨-, -, -, i4, i5⟩ := run_sim (h := h) hJ.2 hW ls 0 J (fun t j => if t = 4 then cmA h ls j else (fun _ => b) t j) hJ hl (fun i q hi => cmA_R hq hi) hq
  cases ho : (rDoA ls 0 (fun t j => if t = 4 then cmA h ls j else (fun _ => b) t j)).2 with
  | none =>
    have := (i4 ho).1
    rw [hr] at this
    exact congrArg Prod.fst this
  | some iy =>
    obtain ⟨-, C2, -, e⟩ := i5 iy.1 iy.2 ho
    rw [hr] at e
    exact absurd (congrArg Prod.snd e) (by simp)
theorem rnR_s {i : Nat} {y : Int} (hJ : RJ J b) (hW : CBg W0) (hl : J.length + ls.length ≤ 600) (hq : ∀ q ∈ ls, qOk h q) (hr : rnR (cRun (C0 W0) J) (ls.map (pOd h)) 0 = (C', some (i, y))) : CBg (cW C') ∧ 0 ≤ y ∧ y ≤ 9 := by
  obtain ⟨-, -, -, i4, i5⟩ := run_sim (h := h) hJ.2 hW ls 0 J (fun t j => if t = 4 then cmA h ls j else (fun _ => b) t j) hJ hl (fun i q hi => cmA_R hq hi) hq
  cases ho : (rDoA ls 0 (fun t j => if t = 4 then cmA h ls j else (fun _ => b) t j)).2 with
  | none =>
    have := (i4 ho).1
    rw [hr] at this
    exact absurd (congrArg Prod.snd this) (by simp)
  | some iy =>
    obtain ⟨yb, C2, hC2, e⟩ := i5 iy.1 iy.2 ho
    rw [hr] at e
    have e1 : C' = C2 := congrArg Prod.fst e
    have e2 : (i, y) = (iy.1, iy.2) := Option.some.inj (congrArg Prod.snd e)
    have e3 : y = iy.2 := congrArg Prod.snd e2
    rw [e1, e3]
    exact ⟨hC2, yb⟩
end RNA
section CRU
variable {m t0 k : Nat} {X X1 : QM} {S : RS} {g g' cN cT c cN' cT' c' : Nat → Nat} {e1 c1 e2 c2 e3 c3 eP cP cR : Nat} {L1 L2 : List Nat} {f : Nat → Int} {l0 : List (Int × Int)} {C C' : CWs} {J J2 J' : List Od} {ms ms' : List Int} {hs lr lr' : Int} {hl : List Nat} {tl pp : List Int}
theorem CLX_run (hX : CLX m t0 X g cN cT c e1 c1 L1 e2 c2 L2 e3 c3 eP cP cR f l0 C J J2 ms hs lr hl tl pp) (h : runO X X1 g cN cT c e1 c1 e2 c2 L2 e3 c3 J2 hs hl.length C' J' ms' lr') : ∃ g' cN' cT' c' e1' c1' L1' e3' c3', CLX m t0 X1 g' cN' cT' c' e1' c1' L1' e2 c2 L2 e3' c3' eP cP cR f l0 C' J' J2 ms' hs lr' hl [] pp ∧ FO m t0 X X1 ∧ q_gu X X1 (c1 + poS cN cT c + c3) (c1' + poS cN' cT' c' + c3') 81 405 := by
  obtain ⟨g', cN', cT', c', e1', c1', L1', e3', c3', a1, a2, a3, a4, a5, a6, a7⟩ := h
  have hD : RDI X1 g' e1' c1' e2 c2 e3' c3' := by
    unfold RDI at a3 ⊢
    rw [a5.1.1 3 (by omega), a5.1.1 4 (by omega)]
    exact a3
  obtain ⟨b1, b2⟩ := CLX_gen (Z := rnS) (b3 := True) hX a1 a2 (fun s z => by unfold rnS carS at z; omega) (a4.wk (fun x _ z => by
    rcases z with z | z | z
    · exact Or.inl z
    · exact Or.inr (Or.inl z)
    · exact Or.inr (Or.inr (Or.inr ⟨trivial, z⟩)))) a5.1 a5.2 (Or.inl ⟨rfl, rfl⟩) a6 hD
  exact ⟨g', cN', cT', c', e1', c1', L1', e3', c3', b1, b2, a7⟩
set_option maxHeartbeats 2000000 in
theorem J_run (h : JI m t0 k X) (hk : k ≤ 511) : STP m t0 k X iX12_run iX13_run [] := by
  obtain ⟨S, g, cN, cT, c, e1, c1, L1, e2, c2, L2, e3, c3, eP, cP, cR, f, l0, W0, J, J2, ms, hs, lr, hl, tl, pp, hX, hW, hov, hK, hREL, hb, r1, r2⟩ := h
  have jl : J.length ≤ 511 := by omega
  have j2l : J2.length ≤ 511 := by omega
  have g0 : g 0 = t0 := hX.2.2.2.2.2.2.2.2.1
  obtain ⟨hRG, hRJ, hMR, hHS, hR7, hLR, hHT, hTP, hPP⟩ := id hREL
  obtain ⟨NL, PL, hS, hCB⟩ := REL_W hRJ (by omega) hW
  obtain ⟨sB, sP, sF, n20, fo8, nl, pl, fnl, spb, tbd⟩ := id hS
  have hbS := SimK_RB hS (by omega)
  have c0 : 0 ≤ S 0 1 ∧ S 0 1 ≤ 6 := by have := hMR.1; have := hMR.2.1; omega
  have hn0 : S 1 0 = cn (cRun (C0 W0) J) := sB.1
  have hP0 : S 1 2 = PL.length := sB.2.2.1.1
  have hN0 : S 1 1 = NL.length := sB.2.1.1
  have tp4 : S 0 4 = tl.length := hTP.1
  have tp80 : tl.length ≤ 80 := hTP.2.1
  obtain ⟨S', hS'⟩ : ∃ S' : RS, S' = fun t j => if t = 2 ∧ j < 0 then -1 else S t j := ⟨_, rfl⟩
  have sN : ∀ (t j : Nat), S' t j = S t j := fun t j => by rw [hS']; exact if_neg (fun z => by omega)
  have sK : ∀ t, t ≠ 2 → S' t = S t := fun t ht => by rw [hS']; funext j; exact if_neg (fun z => ht z.1)
  have s04 : S' 0 4 = tl.length := by rw [sK 0 (by omega), tp4]
  have hR' : RG S' := fun t j => by
    rw [hS']
    show -2147483648 ≤ (if t = 2 ∧ j < 0 then (-1 : Int) else S t j) ∧ (if t = 2 ∧ j < 0 then (-1 : Int) else S t j) < 2147483648
    split
    · omega
    · exact hRG t j
  have eov : ∀ M : QM, ov m S' M = ov m S M := fun M => ov_cg sN
  have hH : rHr (S' 2) (S' 0 4) = tpH tl := by
    funext i
    by_cases hi : i < 0
    · unfold rHr tpH
      rw [if_pos (by omega), if_pos hi, hS']
      exact if_pos ⟨rfl, hi⟩
    · obtain ⟨n, rfl⟩ : ∃ n : Nat, i = n := ⟨i.toNat, by omega⟩
      have := hr_i hTP (i := n)
      unfold rHr at this ⊢
      rw [sN, s04, ← tp4, this]
      unfold tpH
      rw [if_neg hi, Int.toNat_natCast]
  have hbnd : ∀ i, -1000 ≤ tpH tl i ∧ tpH tl i < 1000 := fun i => by
    unfold tpH
    split
    · omega
    · cases ho : tl[i.toNat]? with
      | none => show -1000 ≤ (-1 : Int) ∧ (-1 : Int) < 1000; omega
      | some v =>
        have := hTP.2.2.2 v (List.mem_of_getElem? ho)
        show -1000 ≤ v ∧ v < 1000
        omega
  have hneg : ∀ i, (tl.length : Int) ≤ i → tpH tl i = -1 := fun i hi => by
    unfold tpH
    rw [if_neg (by omega), List.getElem?_eq_none (by omega)]
    rfl
  have pq : ∀ e ls, pAll (tpH tl) tl.length 81 0 = (e, some ls) → (J.length + ls.length ≤ 512 ∧ 5 * ls.length ≤ tl.length + 1) ∧ ∀ q ∈ ls, qOk (tpH tl) q := fun e ls hpa => by
    have h5 := pAll_5 hneg 81 0 e ls (by omega) hpa
    exact ⟨⟨by omega, by omega⟩, pAll_a 81 0 e ls (by omega) hpa⟩
  obtain ⟨X1, ans, hc, hP⟩ := vX12_run (d := 991) (h := tpH tl) hX.1 hX.2.1 hX.2.2.2.2.2.2.2.1 (fun i _ => rfl) hbnd hneg (by omega) (fun e ls hpa => ⟨(pq e ls hpa).1.1, osOk_all hRJ hW (by have := (pq e ls hpa).1.1; omega) (pq e ls hpa).2⟩)
  rw [g0] at hc
  have hm : m + 8 ≤ q_top X := hX.2.2.2.2.2.2.2.2.2.2.2.2.2.2.2.1
  have c0' : 0 ≤ S' 0 1 ∧ S' 0 1 ≤ 6 := by rw [sK 0 (by omega)]; exact c0
  have ref : ∀ (Q : QP), RK m X1 → (match pAll (rHr (S' 2) (S' 0 4)) (S' 0 4) 81 0 with
      | (e, none) => ∀ T, rSc 0 S' T → Q (some (qi (-100 - e))) (ov m (up T 0 4 0) X1)
      | (_, some l) => ∀ T, rSc 0 S' T → T 0 11 = l.length → (∀ i (h : i < l.length), cRec T S' (13 * (i : Int)) l[i]) → rOkA l 0 (rCpN (up T 0 4 0) 0 8 13475) ∧ (match rDoA l 0 (rCpN (up T 0 4 0) 0 8 13475) with
          | (U, none) => RG U → Q (some (qi l.length)) (ov m (rCpN (rKeep U) 8 (rKeep U 0 1) 13475) X1)
          | (U, some r) => RG U → Q (some (qi (-200 - r.1))) (ov m (up (rCpN U 8 0 13475) 0 7 r.2) X1))) → q_T 1000 iX13_run [qr m] (ov m S X1) Q := fun Q hK1 hx => by
    rw [← eov]
    exact tX13_run (d := 993) hK1 hR' (by omega) (by omega) c0' hx
  rw [hH, s04] at ref
  -- what the reading leaves
  have rs : ∀ T, rSc 0 S' T → T 1 = S 1 ∧ T 5 = S 5 ∧ T 7 = S 7 ∧ (∀ j : Int, j ≠ 5 → j ≠ 6 → j ≠ 9 → j ≠ 11 → T 0 j = S 0 j) ∧ RG T := fun T hT => ⟨by rw [hT.1, sK 1 (by omega)], by rw [hT.2.2.1, sK 5 (by omega)], by rw [hT.2.2.2.1, sK 7 (by omega)], fun j h5 h6 h9 h11 => by rw [hT.2.2.2.2.1 j h5 h6 h9 h11, sK 0 (by omega)], hT.2.2.2.2.2.2⟩
  have z0 : ∀ n : Nat, 5 * n ≤ 5 * (k + 1) → 5 * n + ([] : List Int).length ≤ 5 * (k + 1) := fun n hn => by rw [List.length_nil]; omega
  -- both sides put together
  have fin : ∀ (J' : List Od) (ms' : List Int) (lr' : Int) (W0' : Nat → Pl), runO X X1 g cN cT c e1 c1 e2 c2 L2 e3 c3 J2 hs hl.length (cRun (C0 W0') J') J' ms' lr' → CBg W0' → 5 * J'.length ≤ 5 * (k + 1) → q_i32 ans → (RK m X1 → q_T 1000 iX13_run [qr m] (ov m S X1) (fun r M' => ∃ F, r = some (qi ans) ∧ M' = ov m F X1 ∧ REL F J' J2 ms' hs lr' hl [] pp)) → STP m t0 k X iX12_run iX13_run [] := fun J' ms' lr' W0' hO hW' hJ' hans hq => by
    obtain ⟨g', cN', cT', c', e1', c1', L1', e3', c3', b1, b2, w1, w2, w3⟩ := CLX_run hX hO
    have hK1 := FO_RK b2 hm hK
    obtain ⟨r, M', q1, F, rfl, rfl, q3⟩ := hq hK1
    refine STP_mk hX hov hK r1 r2 hc b1 b2 (T := F) ⟨?_, ?_⟩ (fun P => T_of q1 P) q3 hW' ⟨z0 _ hJ', z0 _ (by omega)⟩ hans
    · unfold pot; omega
    · unfold pot; omega
  generalize hpa : pAll (tpH tl) tl.length 81 0 = p at hP ref pq
  obtain ⟨e, o⟩ := p
  cases o with
  | none =>
    obtain ⟨rfl, hO⟩ := hP
    have e1' := pAll_eb hneg 81 0 e (by omega) (by omega) hpa
    refine fin J ms lr W0 hO hW (by omega) ⟨by omega, by omega⟩ (fun hK1 => ref _ hK1 (fun T hT => ?_))
    obtain ⟨t1, t5, t7, t0', tR⟩ := rs T hT
    have F1 : up T 0 4 0 1 = S 1 := by rw [up_k (by omega), t1]
    have F0 : ∀ j : Int, j ≠ 4 → j ≠ 5 → j ≠ 6 → j ≠ 9 → j ≠ 11 → up T 0 4 0 0 j = S 0 j := fun j h4 h5 h6 h9 h11 => by rw [up_j h4, t0' j h5 h6 h9 h11]
    refine ⟨up T 0 4 0, rfl, rfl, REL_mk hREL (by omega) (RG_up tR (by omega) (by omega)) (by rw [F1]; exact hRJ) (MRK_e hMR (by omega) F1 (F0 1 (by omega) (by omega) (by omega) (by omega) (by omega))) (F0 2 (by omega) (by omega) (by omega) (by omega) (by omega)) (fun j _ _ => by rw [F1]) ?_ (F0 13 (by omega) (by omega) (by omega) (by omega) (by omega)) (by rw [up_k (by omega), t5]) (TPr_0 up_s) (F0 16 (by omega) (by omega) (by omega) (by omega) (by omega)) (by rw [up_k (by omega), t7])⟩
    rw [F0 7 (by omega) (by omega) (by omega) (by omega) (by omega)]; exact hLR
  | some ls =>
    obtain ⟨⟨len1, len2⟩, hq⟩ := pq e ls rfl
    have ml : (ls.map (pOd (tpH tl))).length = ls.length := List.length_map ..
    have hP' : match rnR (cRun (C0 W0) J) (ls.map (pOd (tpH tl))) 0 with
      | (C', none) => ans = ls.length ∧ runO X X1 g cN cT c e1 c1 e2 c2 L2 e3 c3 J2 hs hl.length C' (J ++ ls.map (pOd (tpH tl))) (kpM ms J.length) lr
      | (C', some (i, y)) => ans = -200 - i ∧ runO X X1 g cN cT c e1 c1 e2 c2 L2 e3 c3 J2 hs hl.length (cRun (clrC C') J) J ms y := hP
    -- the state before the orders
    have sim : ∀ T, rSc 0 S' T → (∀ i (h : i < ls.length), cRec T S' (13 * (i : Int)) ls[i]) → (∀ j : Int, j < 13475 * 8 → rCpN (up T 0 4 0) 0 8 13475 1 j = S 1 j) ∧ (∀ j : Int, 0 ≤ j → j < 13475 → rCpN (up T 0 4 0) 0 8 13475 1 (13475 * 8 + j) = S 1 j) ∧ rOkA ls 0 (rCpN (up T 0 4 0) 0 8 13475) ∧ (∀ j : Int, 13475 ≤ j → (rDoA ls 0 (rCpN (up T 0 4 0) 0 8 13475)).1 1 j = rCpN (up T 0 4 0) 0 8 13475 1 j) ∧ ((rDoA ls 0 (rCpN (up T 0 4 0) 0 8 13475)).2 = none → rnR (cRun (C0 W0) J) (ls.map (pOd (tpH tl))) 0 = (cRun (C0 W0) (J ++ ls.map (pOd (tpH tl))), none) ∧ RJ (J ++ ls.map (pOd (tpH tl))) ((rDoA ls 0 (rCpN (up T 0 4 0) 0 8 13475)).1 1)) ∧ ∀ i y, (rDoA ls 0 (rCpN (up T 0 4 0) 0 8 13475)).2 = some (i, y) → (0 ≤ y ∧ y ≤ 9) ∧ ∃ C', CBg (cW C') ∧ rnR (cRun (C0 W0) J) (ls.map (pOd (tpH tl))) 0 = (C', some (i, y)) := fun T hT hrec => by
      obtain ⟨t1, t5, t7, t0', tR⟩ := rs T hT
      have v1 : ∀ j : Int, j < 13475 * 8 → rCpN (up T 0 4 0) 0 8 13475 1 j = S 1 j := fun j hj => by rw [rCpN_o (by omega), up_k (by omega), t1]
      have v8 : ∀ j : Int, 0 ≤ j → j < 13475 → rCpN (up T 0 4 0) 0 8 13475 1 (13475 * 8 + j) = S 1 j := fun j j0 j1 => by
        have := rCpN_i (S := up T 0 4 0) (f := 0) (t := 8) (n := 13475) j0 (by omega)
        rw [this, up_k (by omega), t1]
        exact congrArg _ (by omega)
      have v4 : rCpN (up T 0 4 0) 0 8 13475 4 = T 4 := by rw [rCpN_k (by omega), up_k (by omega)]
      refine ⟨v1, v8, ?_⟩
      obtain ⟨i1, i2, i3, i4, i5⟩ := run_sim (h := tpH tl) hRJ.2 hW ls 0 J (rCpN (up T 0 4 0) 0 8 13475) (RJ_c hRJ (by omega) (fun j _ hj => v1 j (by omega))) (by omega) (fun i q hi => by
        have il := getE_lt hi
        have eq : ls[i] = q := by rw [List.getElem?_eq_getElem il] at hi; exact Option.some.inj hi
        obtain ⟨d0, d1, d2, d3, d4, d5⟩ := hrec i il
        rw [eq] at d4 d5
        unfold cRq
        rw [v4, Nat.zero_add]
        refine ⟨d4, fun hw t ht => ?_⟩
        rw [d5 t ht]
        obtain ⟨w1, w2⟩ := (hq q (List.mem_of_getElem? hi)).2.2.2.2.2.2.2 hw
        have hlt := wCnt_at (tpH tl) 9 q.2.2.2.2.1 t (by rw [w2]; exact ht)
        rw [← hH] at hlt ⊢
        unfold rHr at hlt ⊢
        by_cases g9 : q.2.2.2.2.1 + (t : Int) < S' 0 4
        · rw [if_pos g9]
        · rw [if_neg g9] at hlt; omega) hq
      exact ⟨i1, i3, i4, i5⟩
    cases hr : rnR (cRun (C0 W0) J) (ls.map (pOd (tpH tl))) 0 with
    | mk C' o2 =>
      rw [hr] at hP'
      cases o2 with
      | none =>
        obtain ⟨rfl, hO⟩ := hP'
        have eC := rnR_n hRJ hW (by omega) hq hr
        rw [eC] at hO
        refine fin (J ++ ls.map (pOd (tpH tl))) (kpM ms J.length) lr W0 hO hW (by rw [List.length_append, ml]; omega) ⟨by omega, by omega⟩ (fun hK1 => ref _ hK1 (fun T hT _ hrec => ?_))
        obtain ⟨t1, t5, t7, t0', tR⟩ := rs T hT
        obtain ⟨v1, v8, i1, i3, i4, i5⟩ := sim T hT hrec
        refine ⟨i1, ?_⟩
        have hf := rDoA_f ls 0 (rCpN (up T 0 4 0) 0 8 13475)
        generalize hU : rDoA ls 0 (rCpN (up T 0 4 0) 0 8 13475) = r at i3 i4 i5 hf ⊢
        obtain ⟨U, o3⟩ := r
        cases o3 with
        | some iy =>
          obtain ⟨-, C2, -, e2⟩ := i5 iy.1 iy.2 rfl
          rw [hr] at e2
          exact absurd (congrArg Prod.snd e2) (by simp)
        | none =>
          intro RU
          obtain ⟨-, hJ'⟩ := i4 rfl
          have hJ' : RJ (J ++ ls.map (pOd (tpH tl))) (U 1) := hJ'
          have i3 : ∀ j : Int, 13475 ≤ j → U 1 j = rCpN (up T 0 4 0) 0 8 13475 1 j := i3
          obtain ⟨f2, f4, f5, f7, f0⟩ := hf
          have f0 : ∀ j : Int, j ≠ 9 → U 0 j = rCpN (up T 0 4 0) 0 8 13475 0 j := f0
          have f5 : U 5 = rCpN (up T 0 4 0) 0 8 13475 5 := f5
          have f7 : U 7 = rCpN (up T 0 4 0) 0 8 13475 7 := f7
          have U0 : ∀ j : Int, j ≠ 4 → j ≠ 5 → j ≠ 6 → j ≠ 9 → j ≠ 11 → U 0 j = S 0 j := fun j h4 h5 h6 h9 h11 => by rw [f0 j h9, rCpN_k (by omega), up_j h4, t0' j h5 h6 h9 h11]
          have U01 := U0 1 (by omega) (by omega) (by omega) (by omega) (by omega)
          have cU : 0 ≤ U 0 1 ∧ U 0 1 ≤ 6 := by rw [U01]; exact c0
          have kU : 1 ≤ rKeep U 0 1 ∧ rKeep U 0 1 ≤ 6 := by
            rw [rKeep_01]
            split <;> omega
          have F0 : ∀ j : Int, j ≠ 1 → j ≠ 4 → j ≠ 5 → j ≠ 6 → j ≠ 9 → j ≠ 11 → rCpN (rKeep U) 8 (rKeep U 0 1) 13475 0 j = S 0 j := fun j h1 h4 h5 h6 h9 h11 => by rw [rCpN_k (by omega), rKeep_0 h1, U0 j h4 h5 h6 h9 h11]
          refine ⟨rCpN (rKeep U) 8 (rKeep U 0 1) 13475, rfl, rfl, REL_mk hREL (by omega) (RG_rCpN (RG_rKeep RU cU)) (RJ_c hJ' (by rw [List.length_append, ml]; omega) (fun j j0 j1 => ?_)) (MRK_run (by omega) hRJ hMR U01 (fun j j0 j1 => ?_) (fun j j0 j1 => ?_)) (F0 2 (by omega) (by omega) (by omega) (by omega) (by omega) (by omega)) (fun j j0 j1 => ?_) ?_ (F0 13 (by omega) (by omega) (by omega) (by omega) (by omega) (by omega)) ?_ (TPr_0 ?_) (F0 16 (by omega) (by omega) (by omega) (by omega) (by omega) (by omega)) ?_⟩
          · rw [rCpN_o (by omega), rKeep_b cU.1 (by omega)]
          · rw [i3 j j0, v1 j (by omega)]
          · rw [i3 _ (by omega), v8 j j0 j1]
          · rw [rCpN_o (by omega), rKeep_7 cU (by omega), i3 j (by omega), v1 j (by omega)]
          · rw [F0 7 (by omega) (by omega) (by omega) (by omega) (by omega) (by omega)]; exact hLR
          · rw [rCpN_k (by omega), rKeep_k (by omega) (by omega), f5, rCpN_k (by omega), up_k (by omega), t5]
          · rw [rCpN_k (by omega), rKeep_0 (by omega), f0 4 (by omega), rCpN_k (by omega), up_s]
          · rw [rCpN_k (by omega), rKeep_k (by omega) (by omega), f7, rCpN_k (by omega), up_k (by omega), t7]
      | some iy =>
        obtain ⟨i, y⟩ := iy
        obtain ⟨rfl, hO⟩ := hP'
        obtain ⟨hCW, yb⟩ := rnR_s hRJ hW (by omega) hq hr
        have hO' : runO X X1 g cN cT c e1 c1 e2 c2 L2 e3 c3 J2 hs hl.length (cRun (C0 (cW C')) J) J ms y := hO
        have il : i < ls.length := by have := rnR_ib _ _ _ _ _ _ hr; rw [ml] at this; omega
        refine fin J ms y (cW C') hO' hCW (by omega) ⟨by omega, by omega⟩ (fun hK1 => ref _ hK1 (fun T hT _ hrec => ?_))
        obtain ⟨t1, t5, t7, t0', tR⟩ := rs T hT
        obtain ⟨v1, v8, i1, i3, i4, i5⟩ := sim T hT hrec
        refine ⟨i1, ?_⟩
        have hf := rDoA_f ls 0 (rCpN (up T 0 4 0) 0 8 13475)
        generalize hU : rDoA ls 0 (rCpN (up T 0 4 0) 0 8 13475) = r at i3 i4 i5 hf ⊢
        obtain ⟨U, o3⟩ := r
        cases o3 with
        | none =>
          have e2 := (i4 rfl).1
          rw [hr] at e2
          exact absurd (congrArg Prod.snd e2) (by simp)
        | some iy2 =>
          obtain ⟨i2, y2⟩ := iy2
          obtain ⟨-, C2, -, e2⟩ := i5 i2 y2 rfl
          rw [hr] at e2
          have e3 : (i, y) = (i2, y2) := Option.some.inj (congrArg Prod.snd e2)
          have e4 : i = i2 := congrArg Prod.fst e3
          have e5 : y = y2 := congrArg Prod.snd e3
          rw [← e4, ← e5]
          intro RU
          have i3 : ∀ j : Int, 13475 ≤ j → U 1 j = rCpN (up T 0 4 0) 0 8 13475 1 j := i3
          obtain ⟨f2, f4, f5, f7, f0⟩ := hf
          have f0 : ∀ j : Int, j ≠ 9 → U 0 j = rCpN (up T 0 4 0) 0 8 13475 0 j := f0
          have f5 : U 5 = rCpN (up T 0 4 0) 0 8 13475 5 := f5
          have f7 : U 7 = rCpN (up T 0 4 0) 0 8 13475 7 := f7
          have F0 : ∀ j : Int, j ≠ 7 → j ≠ 4 → j ≠ 5 → j ≠ 6 → j ≠ 9 → j ≠ 11 → up (rCpN U 8 0 13475) 0 7 y 0 j = S 0 j := fun j h7 h4 h5 h6 h9 h11 => by rw [up_j h7, rCpN_k (by omega), f0 j h9, rCpN_k (by omega), up_j h4, t0' j h5 h6 h9 h11]
          have Fh : ∀ j : Int, 13475 ≤ j → j < 13475 * 8 → up (rCpN U 8 0 13475) 0 7 y 1 j = S 1 j := fun j j0 j1 => by rw [up_k (by omega), rCpN_o (by omega), i3 j j0, v1 j j1]
          refine ⟨up (rCpN U 8 0 13475) 0 7 y, rfl, rfl, REL_mk hREL (by omega) (RG_up (RG_rCpN RU) (by omega) (by omega)) (RJ_c hRJ (by omega) (fun j j0 j1 => ?_)) ?_ (F0 2 (by omega) (by omega) (by omega) (by omega) (by omega) (by omega)) (fun j j0 j1 => Fh j (by omega) j1) up_s (F0 13 (by omega) (by omega) (by omega) (by omega) (by omega) (by omega)) ?_ (TPr_0 ?_) (F0 16 (by omega) (by omega) (by omega) (by omega) (by omega) (by omega)) ?_⟩
          · have := rCpN_i (S := U) (f := 8) (t := 0) (n := 13475) j0 (by omega)
            rw [show 13475 * (0 : Int) + j = j by omega] at this
            rw [up_k (by omega), this, i3 _ (by omega), v8 j j0 j1]
          · have := MRK_c (os := []) (by omega) hMR (F0 1 (by omega) (by omega) (by omega) (by omega) (by omega) (by omega)) (fun j j0 j1 => Fh j j0 (by omega))
            rw [List.append_nil] at this
            exact this
          · rw [up_k (by omega), rCpN_k (by omega), f5, rCpN_k (by omega), up_k (by omega), t5]
          · rw [up_j (by omega), rCpN_k (by omega), f0 4 (by omega), rCpN_k (by omega), up_s]
          · rw [up_k (by omega), rCpN_k (by omega), f7, rCpN_k (by omega), up_k (by omega), t7]
end CRU
