
/-! a text, on both sides -/
def cRq (h : Int → Int) (U : RS) (B : Int) (q : pQ) : Prop := U 4 (B + 4) = q.2.2.2.2.2 ∧ ((q.1 = 102 ∨ q.1 = 114 ∨ q.1 = 115) → ∀ i : Nat, i < q.2.2.2.2.2 → U 4 (B + 5 + i) = h (q.2.2.2.2.1 + i))
theorem sF_c {c : Int} (h : c = 102 ∨ c = 114 ∨ c = 109 ∨ c = 115 ∨ c = 103 ∨ c = 99) : (0 ≤ sF c ∧ sF c ≤ 5) ∧ ccO (sF c) = c ∧ ((sF c = 0 ∨ sF c = 1 ∨ sF c = 3) → c = 102 ∨ c = 114 ∨ c = 115) ∧ (sF c = 0 → c = 102) := by
  rcases h with rfl | rfl | rfl | rfl | rfl | rfl <;> decide
theorem osOk_cons {C : CWs} {Jr : List Od} {q : Od} {os : List Od} (h1 : CB C) (h2 : cwh C q = 0 → oOk C q) (h3 : cwh C q ≠ 0 → jOk C Jr) (h4 : cwh C q = 0 → osOk (cDo C q).1 Jr os) : osOk C Jr (q :: os) := by
  intro i r hr hpre
  match i with
  | 0 =>
    have e : q = r := Option.some.inj hr
    subst e
    exact ⟨h1, h2, h3⟩
  | i + 1 =>
    have c0 : cwh C q = 0 := hpre 0 q (by omega) rfl
    exact h4 c0 i r hr (fun j q' hj hq' => hpre (j + 1) q' (by omega) hq')
theorem osOk_nil {C : CWs} {Jr : List Od} : osOk C Jr [] := fun i q hq => by simp at hq
theorem rOkS_of {U : RS} {J : List Od} {W0 : Nat → Pl} (hJ : RJ J (U 1)) (hk : J.length ≤ 600) (hW : CBg W0) : rOkS U := by
  obtain ⟨NL, PL, k0, -⟩ := REL_W hJ hk hW
  obtain ⟨sB, sP, -, n20, -, nl, pl, -, csp1, -⟩ := id k0
  refine ⟨_, _, _, SimK_RB k0 (by omega), by omega, by omega, ?_, ?_⟩
  · rw [sB.2.2.2.2.2.1]
    have := sP.2.2.2.2
    have := bCt_le (fun p => decide (plI (cW (cRun (C0 W0) J) p) ≠ -5)) (cn (cRun (C0 W0) J))
    omega
  · rw [sB.2.2.2.2.2.2.1]; omega
theorem run_sim {h : Int → Int} {Jr : List Od} {W0 : Nat → Pl} (hJr : jOkJ Jr) (hW : CBg W0) : ∀ (l : List pQ) (kk : Nat) (J : List Od) (U : RS), RJ J (U 1) → J.length + l.length ≤ 600 → (∀ (i : Nat) (q : pQ), l[i]? = some q → cRq h U (13 * ((kk + i : Nat) : Int)) q) → (∀ q ∈ l, qOk h q) → rOkA l kk U ∧ osOk (cRun (C0 W0) J) Jr (l.map (pOd h)) ∧ (∀ j : Int, 13475 ≤ j → (rDoA l kk U).1 1 j = U 1 j) ∧ ((rDoA l kk U).2 = none → rnR (cRun (C0 W0) J) (l.map (pOd h)) kk = (cRun (C0 W0) (J ++ l.map (pOd h)), none) ∧ RJ (J ++ l.map (pOd h)) ((rDoA l kk U).1 1)) ∧ ∀ i y, (rDoA l kk U).2 = some (i, y) → (0 ≤ y ∧ y ≤ 9) ∧ ∃ C', CBg (cW C') ∧ rnR (cRun (C0 W0) J) (l.map (pOd h)) kk = (C', some (i, y))
  | [], kk, J, U, hJ, _, _, _ => by
    refine ⟨trivial, osOk_nil, fun _ _ => rfl, fun _ => ⟨?_, ?_⟩, fun i y hz => ?_⟩
    · rw [List.map_nil, List.append_nil]; rfl
    · rw [List.map_nil, List.append_nil]; exact hJ
    · exact absurd hz (by rw [rDoA]; simp)
  | q :: l, kk, J, U, hJ, hlen, hc, hq => by
    rw [List.length_cons] at hlen
    obtain ⟨c1, c2⟩ := hc 0 q rfl
    rw [Nat.add_zero] at c1 c2
    obtain ⟨o1, o2, o3, o4, o5, o6, o7, o8⟩ := hq q (by simp)
    obtain ⟨f1, f2, f3, f4⟩ := sF_c o1
    obtain ⟨NL, PL, k0, hCB⟩ := REL_W hJ (by omega) hW
    obtain ⟨D, hD⟩ : ∃ D, D = rDw U (13 * (kk : Int)) := ⟨_, rfl⟩
    have D1 : D 1 = U 1 := by rw [hD]; exact rDw_k (by omega) (by omega)
    have D4 : D 4 = U 4 := by rw [hD]; exact rDw_k (by omega) (by omega)
    have D9 : D 0 9 = q.2.2.2.2.2 := by rw [hD, rDw_9, c1]
    have kD : SimK J.length (D 1) (cRun (C0 W0) J) NL PL := by rw [D1]; exact k0
    have q1 : (D 1 0).toNat = cn (cRun (C0 W0) J) := by have := kD.1.1; omega
    have q2 : (D 1 2).toNat = PL.length := by have := kD.1.2.2.1.1; omega
    have hls : (sF q.1 = 0 ∨ sF q.1 = 1 ∨ sF q.1 = 3) → lOk (wLs h q.2.2.2.2.1 q.2.2.2.2.2) ∧ D 0 9 = (wLs h q.2.2.2.2.1 q.2.2.2.2.2).length ∧ ∀ (i : Nat) (c : Int), (wLs h q.2.2.2.2.1 q.2.2.2.2.2)[i]? = some c → D 3 i = c := fun z => by
      obtain ⟨w1, w2⟩ := o8 (f3 z)
      refine ⟨⟨wLs_all (fun i hi => wCnt_at h 9 _ i (by rw [w2]; exact hi)), by rw [wLs_len]; exact w1, by rw [wLs_len]; exact o6⟩, by rw [D9, wLs_len], fun i c hi => ?_⟩
      have il := getE_lt hi
      rw [wLs_len] at il
      rw [hD, rDw_3 (by rw [c1]; omega), c2 (f3 z) i il]
      unfold wLs at hi
      rw [List.getElem?_map, List.getElem?_range il] at hi
      exact Option.some.inj hi
    have wn : (sF q.1 = 0 ∨ sF q.1 = 1 ∨ sF q.1 = 3) → ((pkW (wLs h q.2.2.2.2.1 q.2.2.2.2.2) : Nat) : Int) ≠ 0 := fun z => pkW_n0 (hls z).1
    have ha3 : sF q.1 = 0 → 0 ≤ q.2.1 ∧ q.2.1 ≤ 3 := fun z => ⟨o3.1, o2 (f4 z)⟩
    have eN : qNo D q = cwh (cRun (C0 W0) J) (pOd h q) := by
      have := rNo_i (wd := (pkW (wLs h q.2.2.2.2.1 q.2.2.2.2.2) : Nat)) (a := q.2.1) (b := q.2.2.1) (y := q.2.2.2.1) kD f1 wn (fun z => (ha3 z).1)
      rw [f2] at this
      unfold qNo
      rw [q1, q2]
      exact this
    have hJD : RJ J (D 1) := by rw [D1]; exact hJ
    have hokS := rOkS_of hJ (by omega) hW
    have hok1 : cwh (cRun (C0 W0) J) (pOd h q) = 0 → oOk (cRun (C0 W0) J) (pOd h q) := fun z => Or.inl ⟨f1, z, fun w => ha3 w⟩
    rw [List.map_cons, rDoA, rOkA, ← hD]
    by_cases g : qNo D q = 0
    · have gc : cwh (cRun (C0 W0) J) (pOd h q) = 0 := by rw [← eN]; exact g
      rw [if_pos g]
      have g' : rNo D (ccO (sF q.1)) q.2.1 q.2.2.1 q.2.2.2.1 PL.length (cn (cRun (C0 W0) J)) = 0 := by
        unfold qNo at g
        rw [q1, q2] at g
        rw [f2]; exact g
      obtain ⟨j1, -⟩ := RJ_op (U := D) (wd := (pkW (wLs h q.2.2.2.2.1 q.2.2.2.2.2) : Nat)) (ls := wLs h q.2.2.2.2.1 q.2.2.2.2.2) hJD (by omega) kD.1.1 kD.1.2.2.1.1 f1 g' (fun z => ⟨rfl, hls z⟩) wn ha3
      have eO : qOp D q = rOp D (ccO (sF q.1)) q.2.1 q.2.2.1 q.2.2.2.1 PL.length (cn (cRun (C0 W0) J)) := by unfold qOp; rw [q1, q2, f2]
      rw [← eO] at j1
      have hi : ∀ j : Int, 13475 ≤ j → qOp D q 1 j = U 1 j := fun j hj => by
        rw [eO, rOp_hi hj (by rw [D9]; omega) (SimK_RB kD (by omega)) (by have := kD.2.2.2.2.2.1; omega) (by have := kD.2.2.2.2.2.2.1; omega) (by rw [f2]; exact o1) g', D1]
      have e4 : qOp D q 4 = U 4 := by rw [eO, rOp_k (by omega), D4]
      obtain ⟨i1, i2, i3, i4, i5⟩ := run_sim hJr hW l (kk + 1) (J ++ [pOd h q]) (qOp D q) j1 (by rw [List.length_append]; simp; omega) (fun i r hr => by
        have := hc (i + 1) r hr
        unfold cRq at this ⊢
        rw [e4, show kk + 1 + i = kk + (i + 1) by omega]
        exact this) (fun r hr => hq r (by simp [hr]))
      rw [cRun_a] at i2 i4 i5
      have eA : J ++ [pOd h q] ++ l.map (pOd h) = J ++ pOd h q :: l.map (pOd h) := by rw [List.append_assoc]; rfl
      rw [eA] at i4
      have eR : rnR (cRun (C0 W0) J) (pOd h q :: l.map (pOd h)) kk = rnR (cDo (cRun (C0 W0) J) (pOd h q)).1 (l.map (pOd h)) (kk + 1) := by rw [rnR, if_pos gc]
      rw [eR]
      exact ⟨⟨hokS, fun _ => i1⟩, osOk_cons hCB hok1 (fun z => absurd gc z) (fun _ => i2), fun j hj => by rw [i3 j hj, hi j hj], i4, i5⟩
    · have gc : ¬ cwh (cRun (C0 W0) J) (pOd h q) = 0 := by rw [← eN]; exact g
      rw [if_neg g]
      have eR : rnR (cRun (C0 W0) J) (pOd h q :: l.map (pOd h)) kk = (cRun (C0 W0) J, some (kk, cwh (cRun (C0 W0) J) (pOd h q))) := by rw [rnR, if_neg gc]
      rw [eR]
      refine ⟨⟨hokS, fun z => absurd z g⟩, osOk_cons hCB hok1 (fun _ => jOk_J hJr (CB_g hCB)) (fun z => absurd z gc), fun j _ => congrFun D1 j, fun z => by simp at z, fun i y hz => ?_⟩
      have hz' := Option.some.inj hz
      have h1 : kk = i := congrArg Prod.fst hz'
      have h2 : qNo D q = y := congrArg Prod.snd hz'
      refine ⟨?_, cRun (C0 W0) J, CB_g hCB, by rw [← h1, ← h2, eN]⟩
      rw [← h2]
      exact rNo_b
/-- commands laid as the reference lays them -/
def cmA (h : Int → Int) (ls : List pQ) (j : Int) : Int := if j % 13 = 4 then ((ls.getD (j / 13).toNat (0, 0, 0, 0, 0, 0)).2.2.2.2.2 : Nat) else h ((ls.getD (j / 13).toNat (0, 0, 0, 0, 0, 0)).2.2.2.2.1 + (j % 13 - 5))
theorem cmA_R {h : Int → Int} {ls : List pQ} {S : RS} (hq : ∀ q ∈ ls, qOk h q) {i : Nat} {q : pQ} (hi : ls[i]? = some q) : cRq h (fun t j => if t = 4 then cmA h ls j else S t j) (13 * ((0 + i : Nat) : Int)) q := by
  have hqq := hq q (List.mem_of_getElem? hi)
  have w8 := hqq.2.2.2.2.2.1
  have gd : ls.getD i (0, 0, 0, 0, 0, 0) = q := by rw [List.getD_eq_getElem?_getD, hi]; rfl
  refine ⟨?_, fun _ t ht => ?_⟩
  · show (if (4 : Nat) = 4 then cmA h ls (13 * ((0 + i : Nat) : Int) + 4) else _) = _
    rw [if_pos rfl]
    unfold cmA
    rw [if_pos (by omega), show ((13 * ((0 + i : Nat) : Int) + 4) / 13).toNat = i by omega, gd]
  · show (if (4 : Nat) = 4 then cmA h ls (13 * ((0 + i : Nat) : Int) + 5 + t) else _) = _
    rw [if_pos rfl]
    unfold cmA
    rw [if_neg (by omega), show ((13 * ((0 + i : Nat) : Int) + 5 + (t : Int)) / 13).toNat = i by omega, gd]
    exact congrArg h (by omega)
theorem osOk_all {h : Int → Int} {J : List Od} {b : Int → Int} {W0 : Nat → Pl} (hJ : RJ J b) (hW : CBg W0) {ls : List pQ} (hl : J.length + ls.length ≤ 600) (hq : ∀ q ∈ ls, qOk h q) : osOk (cRun (C0 W0) J) J (ls.map (pOd h)) := by
  have := run_sim (h := h) hJ.2 hW ls 0 J (fun t j => if t = 4 then cmA h ls j else (fun _ => b) t j) hJ hl (fun i q hi => cmA_R hq hi) hq
  exact this.2.1
