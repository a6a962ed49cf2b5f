
/-! longest, on both sides -/
theorem nmDays_app {l : List (Int × Int)} {q : Int × Int} {i : Nat} {e e' : Int} (h : i + 1 < l.length) : nmDays (l ++ [q]) i e = nmDays l i e' := by
  unfold nmDays
  rw [dif_pos (show i + 1 < (l ++ [q]).length by simp; omega), dif_pos h, List.getElem_append_left h, List.getD_eq_getElem?_getD, List.getD_eq_getElem?_getD, List.getElem?_append_left (by omega)]
theorem nmDays_e {l : List (Int × Int)} {i : Nat} {e e' : Int} (h : i + 1 < l.length) : nmDays l i e = nmDays l i e' := by
  unfold nmDays
  rw [dif_pos h, dif_pos h]
theorem nmBest_le (l : List (Int × Int)) (e : Int) : ∀ k : Nat, nmBest l e k ≤ k - 1
  | 0 => Nat.le_refl _
  | k + 1 => by
    have := nmBest_le l e k
    rw [nmBest]
    split
    · omega
    · split <;> omega
theorem nmBest_app {l : List (Int × Int)} {q : Int × Int} {e e' : Int} : ∀ k : Nat, k < l.length → nmBest (l ++ [q]) e k = nmBest l e' k
  | 0, _ => rfl
  | k + 1, h => by
    have ih := nmBest_app (l := l) (q := q) (e := e) (e' := e') k (by omega)
    have b := nmBest_le l e' k
    rw [nmBest, nmBest, ih]
    by_cases k0 : k = 0
    · rw [if_pos k0, if_pos k0]
    · rw [if_neg k0, if_neg k0, nmDays_app (e' := e') (by omega), nmDays_app (e' := e') (by omega)]
theorem nmBest_e {l : List (Int × Int)} {e e' : Int} : ∀ k : Nat, k < l.length → nmBest l e k = nmBest l e' k
  | 0, _ => rfl
  | k + 1, h => by
    have ih := nmBest_e (l := l) (e := e) (e' := e') k (by omega)
    have b := nmBest_le l e' k
    rw [nmBest, nmBest, ih]
    by_cases k0 : k = 0
    · rw [if_pos k0, if_pos k0]
    · rw [if_neg k0, if_neg k0, nmDays_e (e := e) (e' := e') (by omega), nmDays_e (e := e) (e' := e') (by omega)]
/-- the names seen so far, the best of those that are over -/
def LSt (NL : NLt) (p : Int) (k : Nat) (s : Int × Int × Int) : Prop := (nmL (NL.take k) p = [] ∧ s = (-1, -1, -1)) ∨ ∃ (m i0 : Nat) (e0 : Int × Int × List Int), (nmL (NL.take k) p).length = m + 1 ∧ s.2.2 = 1575 + 11 * (i0 : Int) ∧ NL[i0]? = some e0 ∧ (nmL (NL.take k) p)[m]? = some (e0.2.1, ((pkW e0.2.2 : Nat) : Int)) ∧ ((m = 0 ∧ s.1 = -1 ∧ s.2.1 = -1) ∨ (0 < m ∧ ∃ (i1 : Nat) (e1 : Int × Int × List Int), NL[i1]? = some e1 ∧ s.1 = 1575 + 11 * (i1 : Int) ∧ (nmL (NL.take k) p)[nmBest (nmL (NL.take k) p) 0 m]? = some (e1.2.1, ((pkW e1.2.2 : Nat) : Int)) ∧ s.2.1 = nmDays (nmL (NL.take k) p) (nmBest (nmL (NL.take k) p) 0 m) 0))
/-- one name more is over -/
theorem LS_up {b : Int → Int} {NL : NLt} {l : List (Int × Int)} {s : Int × Int × Int} {u : Int} {m i0 : Nat} {e0 : Int × Int × List Int} (hN : NLb b NL) (h2 : s.2.2 = 1575 + 11 * (i0 : Int)) (h3 : NL[i0]? = some e0) (h4 : l[m]? = some (e0.2.1, ((pkW e0.2.2 : Nat) : Int))) (hu : e0.2.1 ≤ u) (h5 : (m = 0 ∧ s.1 = -1 ∧ s.2.1 = -1) ∨ (0 < m ∧ ∃ (i1 : Nat) (e1 : Int × Int × List Int), NL[i1]? = some e1 ∧ s.1 = 1575 + 11 * (i1 : Int) ∧ l[nmBest l 0 m]? = some (e1.2.1, ((pkW e1.2.2 : Nat) : Int)) ∧ s.2.1 = nmDays l (nmBest l 0 m) 0)) (D : Nat → Int) (B : Nat) (hD : D m = u - e0.2.1) (hDo : 0 < m → D (nmBest l 0 m) = nmDays l (nmBest l 0 m) 0) (hB : B = if m = 0 then 0 else if D (nmBest l 0 m) < D m then m else nmBest l 0 m) : ∃ (i1 : Nat) (e1 : Int × Int × List Int), NL[i1]? = some e1 ∧ (rLu b u s).1 = 1575 + 11 * (i1 : Int) ∧ l[B]? = some (e1.2.1, ((pkW e1.2.2 : Nat) : Int)) ∧ (rLu b u s).2 = D B := by
  have b1 := (hN.2 i0 e0 h3).2.1
  have c1 : s.2.2 ≠ -1 := by omega
  unfold rLu
  rw [h2] at c1 ⊢
  rw [b1]
  rcases h5 with ⟨m0, s1, s2⟩ | ⟨m0, i1, e1, q1, q2, q3, q4⟩
  · rw [if_pos m0] at hB
    rw [s2, if_pos ⟨c1, by omega⟩, hB]
    rw [m0] at h4 hD
    exact ⟨i0, e0, h3, rfl, h4, hD.symm⟩
  · rw [if_neg (by omega)] at hB
    by_cases g : D (nmBest l 0 m) < D m
    · rw [if_pos g] at hB
      rw [if_pos ⟨c1, by rw [q4, ← hDo m0]; omega⟩, hB]
      exact ⟨i0, e0, h3, rfl, h4, hD.symm⟩
    · rw [if_neg g] at hB
      rw [if_neg (fun z => g (by rw [hDo m0, ← q4, hD]; exact z.2)), hB]
      exact ⟨i1, e1, q1, q2, q3, by rw [hDo m0]; exact q4⟩
theorem LS_i {b : Int → Int} {NL : NLt} {p : Int} (hN : NLb b NL) (hso : (nmL NL p).Pairwise (fun a b => a.1 ≤ b.1)) : ∀ k : Nat, k ≤ NL.length → LSt NL p k (rLs b p k)
  | 0, _ => Or.inl ⟨rfl, rfl⟩
  | k + 1, hk => by
    have ih := LS_i hN hso k (by omega)
    have hq : NL[k]? = some NL[k] := List.getElem?_eq_getElem (by omega)
    obtain ⟨b0, b1, b2, b3⟩ := hN.2 k _ hq
    rw [rLs, b0, b1]
    have tk : NL.take (k + 1) = NL.take k ++ [NL[k]] := List.take_succ_eq_append_getElem (by omega)
    unfold LSt
    rw [tk, nmL_s]
    by_cases g : NL[k].1 = p
    · rw [if_pos g, if_pos g]
      have pre : ∃ r, nmL NL p = nmL (NL.take k) p ++ (NL[k].2.1, ((pkW NL[k].2.2 : Nat) : Int)) :: r := by
        refine ⟨nmL (NL.drop (k + 1)) p, ?_⟩
        have ap : nmL (NL.take (k + 1) ++ NL.drop (k + 1)) p = nmL (NL.take (k + 1)) p ++ nmL (NL.drop (k + 1)) p := by
          unfold nmL
          rw [List.filter_append, List.map_append]
        rw [List.take_append_drop, tk, nmL_s, if_pos g, List.append_assoc] at ap
        exact ap
      have so1 : ∀ q ∈ nmL (NL.take k) p, q.1 ≤ NL[k].2.1 := fun q hq2 => by
        obtain ⟨r, er⟩ := pre
        rw [er, List.pairwise_append] at hso
        exact hso.2.2 q hq2 (NL[k].2.1, ((pkW NL[k].2.2 : Nat) : Int)) (by simp)
      obtain ⟨l, hl⟩ : ∃ l, l = nmL (NL.take k) p := ⟨_, rfl⟩
      rw [← hl] at so1 ⊢
      unfold LSt at ih
      rw [← hl] at ih
      right
      rcases ih with ⟨z1, z2⟩ | ⟨m, i0, e0, h1, h2, h3, h4, h5⟩
      · rw [z1, z2]
        refine ⟨0, k, NL[k], rfl, rfl, hq, rfl, Or.inl ⟨rfl, ?_, ?_⟩⟩
        · unfold rLu; rw [if_neg (fun z => z.1 rfl)]
        · unfold rLu; rw [if_neg (fun z => z.1 rfl)]
      · have hm : m < l.length := by omega
        have hu : e0.2.1 ≤ NL[k].2.1 := so1 _ (List.mem_of_getElem? h4)
        have bl := nmBest_le l 0 m
        obtain ⟨i1, e1, q1, q2, q3, q4⟩ := LS_up (l := l) (s := rLs b p k) (u := NL[k].2.1) hN h2 h3 h4 hu h5 (fun i => nmDays (l ++ [(NL[k].2.1, ((pkW NL[k].2.2 : Nat) : Int))]) i 0) (nmBest (l ++ [(NL[k].2.1, ((pkW NL[k].2.2 : Nat) : Int))]) 0 (m + 1)) (by
          show nmDays _ m 0 = _
          unfold nmDays
          have e1 : m + 1 = l.length := by omega
          rw [dif_pos (show m + 1 < (l ++ [(NL[k].2.1, ((pkW NL[k].2.2 : Nat) : Int))]).length by simp; omega), List.getElem_append_right (by omega), List.getD_eq_getElem?_getD, List.getElem?_append_left hm, h4]
          simp [e1]) (fun m0 => nmDays_app (by omega)) (by
          rw [nmBest, nmBest_app (e' := 0) m hm])
        refine ⟨m + 1, k, NL[k], by simp; omega, rfl, hq, ?_, Or.inr ⟨by omega, i1, e1, q1, q2, ?_, q4⟩⟩
        · rw [List.getElem?_append_right (by omega)]
          simp [h1]
        · have := nmBest_le (l ++ [(NL[k].2.1, ((pkW NL[k].2.2 : Nat) : Int))]) 0 (m + 1)
          rw [List.getElem?_append_left (by omega)]
          exact q3
    · rw [if_neg g, if_neg g]
      exact ih
section LNG
variable {S : RS} {n : Nat} {W : Nat → Pl} {mg sp : Int} {FN : List (Int × Int × Int)} {FO : List Nat} {NL : NLt} {PL : List (Int × Int × Int)}
theorem lg_i (hs : SimB (S 1) n W mg sp FN FO NL PL) (hp : SimP n W mg NL PL) {q : Nat} {w : Int} (hq : q < n) : rLg S q w NL.length = cLg W q w := by
  obtain ⟨a1, ⟨c1, ⟨w0, r0, c2⟩, c3, c4⟩, a3, a4, a5⟩ := hp.1 q hq
  obtain ⟨h0, h1, h2, -⟩ := hs.2.2.2.2.2.2.2.2.2.1 q hq
  have e1 := plE_n1 a1
  have ls := LS_i (p := q) hs.2.1 (by rw [← c1]; exact c3) NL.length (Nat.le_refl _)
  unfold LSt at ls
  rw [List.take_length, ← c1] at ls
  have eu : (if S 1 (15 + 78 * (q : Int) + 2) ≠ -1 then S 1 (15 + 78 * (q : Int) + 2) else 10000) = plEnd (W q) := by
    rw [h2]
    unfold plEnd
    by_cases z : plE (W q) = -5
    · rw [if_pos z, if_pos z, if_neg (fun y => y rfl)]
    · rw [if_neg z, if_neg z, if_pos e1]
  rcases ls with ⟨z, -⟩ | ⟨m, i0, e0, m1, m2, m3, m4, m5⟩
  · rw [c2] at z; simp at z
  · have hm : m < (plN (W q)).length := by omega
    have le : e0.2.1 ≤ plL (W q) := c4 _ (List.mem_of_getElem? m4)
    obtain ⟨b1, b2, b3, b4, b5⟩ := a1
    have lE : e0.2.1 ≤ plEnd (W q) := by
      unfold plEnd
      split <;> omega
    have bl := nmBest_le (plN (W q)) 0 m
    obtain ⟨i1, e1', q1, q2, q3, q4⟩ := LS_up (l := plN (W q)) (s := rLs (S 1) q NL.length) (u := plEnd (W q)) hs.2.1 m2 m3 m4 lE m5 (fun i => nmDays (plN (W q)) i (plEnd (W q))) (nmBest (plN (W q)) (plEnd (W q)) (m + 1)) (by
      show nmDays _ m _ = _
      unfold nmDays
      rw [dif_neg (by omega), List.getD_eq_getElem?_getD, m4]; rfl) (fun m0 => nmDays_e (by omega)) (by
      rw [nmBest, nmBest_e (e := plEnd (W q)) (e' := 0) m hm])
    have eL : rLe S q NL.length = rLu (S 1) (plEnd (W q)) (rLs (S 1) q NL.length) := by unfold rLe; rw [eu]
    obtain ⟨n0, n1, n2, n3⟩ := hs.2.1.2 i1 e1' q1
    have hw := (hp.2.2.1 e1' (List.mem_of_getElem? q1)).1
    have gd : (plN (W q)).getD (nmBest (plN (W q)) (plEnd (W q)) (m + 1)) (0, 0) = (e1'.2.1, ((pkW e1'.2.2 : Nat) : Int)) := by rw [List.getD_eq_getElem?_getD, q3]; rfl
    unfold rLg cLg
    rw [hs.1, eL, q2, m1, gd]
    by_cases gw : 0 ≤ w ∧ w ≤ 2
    · rw [if_neg (show ¬ (¬ (0 ≤ (q : Int) ∧ (q : Int) ≤ (n : Int) - 1) ∨ ¬ (0 ≤ w ∧ w ≤ 2)) by omega)]
      by_cases g0 : w = 0
      · rw [if_pos g0, if_pos g0]; exact n1
      · rw [if_neg g0, if_neg g0]
        by_cases g1 : w = 1
        · rw [if_pos g1, if_pos g1]; exact q4
        · rw [if_neg g1, if_neg g1, if_pos (show w = 2 by omega), n2, Int.toNat_natCast, wdLen_pk hw.1 hw.2.2]
    · have c1 : ¬ (0 ≤ (q : Int) ∧ (q : Int) ≤ (n : Int) - 1) ∨ ¬ (0 ≤ w ∧ w ≤ 2) := Or.inr gw
      have k0 : ¬ w = 0 := by omega
      have k1 : ¬ w = 1 := by omega
      have k2 : ¬ w = 2 := by omega
      rw [if_pos c1, if_neg k0, if_neg k1, if_neg k2]
end LNG
