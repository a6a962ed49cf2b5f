
/-! feed, again, lookup, write, on both sides -/
def HF (P : Pl) : Prop := ∃ e r, plH P = e :: r ∧ e.2.1 = 0
theorem HF_a {P Q : Pl} {l : List (Int × Int × Int)} (h : HF P) (e : plH Q = plH P ++ l) : HF Q := by
  obtain ⟨a, r, h1, h2⟩ := h
  exact ⟨a, r ++ l, by rw [e, h1]; rfl, h2⟩
def HFW (C : CWs) : Prop := ∀ p, p < cn C → HF (cW C p)
theorem HFW_do {C : CWs} {q : Od} (hok : oOk C q) (h : HFW C) : HFW (cDo C q).1 := by
  obtain ⟨so, a, b, y, wd⟩ := q
  rcases hok with ⟨hso, hno, -⟩ | ⟨hso, -⟩ | ⟨hso, -⟩ | ⟨hso, -⟩
  · have hso' : 0 ≤ so ∧ so ≤ 5 := hso
    have hh : so = 0 ∨ so = 1 ∨ so = 2 ∨ so = 3 ∨ so = 4 ∨ so = 5 := by omega
    rcases hh with rfl | rfl | rfl | rfl | rfl | rfl
    · intro p hp
      have hp' : p < cn C + 1 := hp
      show HF (upF (cW C) (cn C) _ p)
      by_cases e : p = cn C
      · rw [e, upF_s]; exact ⟨_, [], rfl, rfl⟩
      · rw [upF_o e]; exact h p (by omega)
    · intro p hp
      have hp' : p < cn C := hp
      show HF (upF (cW C) a.toNat _ p)
      by_cases e : p = a.toNat
      · rw [← e, upF_s]; exact HF_a (h p hp') rfl
      · rw [upF_o e]; exact h p hp'
    · intro p hp
      have hp' : p < cn C := hp
      show HF (upF (cW C) a.toNat _ p)
      by_cases e : p = a.toNat
      · rw [← e, upF_s]; exact HF_a (h p hp') rfl
      · rw [upF_o e]; exact h p hp'
    · obtain ⟨p0, e0, hpn, -⟩ := cNoE_0i (cNo_3 hno).1
      intro p hp
      have hp' : p < cn C + 1 := hp
      have e0' : a.toNat = p0 := by have z : a = p0 := e0; omega
      show HF (cSp (cW C) (cn C) a.toNat y wd p)
      rw [e0']
      unfold cSp
      by_cases e : p = p0
      · rw [e, upF_s]; exact HF_a (h p0 hpn) rfl
      · rw [upF_o e]
        by_cases e2 : p = cn C
        · rw [e2, upF_s]; exact ⟨_, _, rfl, rfl⟩
        · rw [upF_o e2]; exact h p (by omega)
    · intro p hp
      have hp' : p < cn C := hp
      have h1 : ∀ r, r < cn C → HF (cM1 (cW C) a.toNat b.toNat y r) := fun r hr => by
        unfold cM1
        by_cases e : r = a.toNat
        · rw [← e, upF_s]; exact HF_a (h r hr) rfl
        · rw [upF_o e]; exact h r hr
      have h2 : ∀ r, r < cn C → HF (cM2 (cW C) a.toNat b.toNat y r) := fun r hr => by
        unfold cM2
        by_cases e : r = b.toNat
        · rw [e, upF_s]; exact HF_a (h1 b.toNat (e ▸ hr)) rfl
        · rw [upF_o e]; exact h1 r hr
      show HF (cTk (cM2 (cW C) a.toNat b.toNat y) a.toNat b.toNat y 0 (cn C) (cM2 (cW C) a.toNat b.toNat y) p)
      unfold cTk
      split
      · exact HF_a (h2 p hp') rfl
      · exact h2 p hp'
    · intro p hp
      have hp' : p < cn C := hp
      show HF (upF (cW C) a.toNat _ p)
      by_cases e : p = a.toNat
      · rw [← e, upF_s]; exact HF_a (h p hp') rfl
      · rw [upF_o e]; exact h p hp'
  · have e : so = 6 := hso
    subst e
    exact h
  · have e : so = 7 := hso
    subst e
    exact h
  · have e : so = 8 := hso
    subst e
    exact h
theorem HFW_run {J : List Od} {W0 : Nat → Pl} (h : jOkJ J) (hW : CBg W0) : HFW (cRun (C0 W0) J) := by
  have : ∀ i, i ≤ J.length → HFW (cRun (C0 W0) (J.take i)) := by
    intro i
    induction i with
    | zero => intro _ p hp; exact absurd hp (Nat.not_lt_zero p)
    | succ i ih =>
      intro hi
      have hq := List.getElem?_eq_getElem (show i < J.length by omega)
      rw [cRun_s hq]
      exact HFW_do (h W0 hW i _ hq).1 (ih (by omega))
  have := this J.length (Nat.le_refl _)
  rw [List.take_length] at this
  exact this
theorem evFold_b {day : Int} : ∀ (l : List (Int × Int × Int)) (st : List (Int × Int) × Bool), tlSrt st.1 → tlSrt (l.foldl (evStep day) st).1 ∧ (l.foldl (evStep day) st).1.length ≤ st.1.length + l.length
  | [], st, h => ⟨h, Nat.le_refl _⟩
  | e :: l, st, h => by
    obtain ⟨s1, s2⟩ := evStep_srt (day := day) (e := e) h
    obtain ⟨i1, i2⟩ := evFold_b (day := day) l _ s1
    rw [List.foldl_cons, List.length_cons]
    exact ⟨i1, by omega⟩
theorem evFold_l {day : Int} {l0 : List (Int × Int)} {P : Pl} (h : HF P) (hs : tlSrt l0) : tlSrt (evFold day l0 (plH P)).1 ∧ (evFold day l0 (plH P)).1.length ≤ (plH P).length := by
  obtain ⟨e, r, h1, h2⟩ := h
  obtain ⟨s1, -⟩ := evStep_srt (day := day) (st := (l0, false)) (e := e) hs
  obtain ⟨i1, i2⟩ := evFold_b (day := day) r _ s1
  have s2 : (evStep day (l0, false) e).1.length = 1 := by unfold evStep; rw [if_pos h2]; rfl
  unfold evFold
  rw [h1, List.foldl_cons, List.length_cons]
  exact ⟨i1, by omega⟩
/-- bytes fed -/
theorem rApp_f : ∀ (ls : List Int) (S : RS) (tl : List Int), RG S → TPr S tl → (∀ v ∈ ls, 0 ≤ v ∧ v ≤ 127) → tl.length + ls.length ≤ 80 → (∀ t, t ≠ 0 → t ≠ 2 → rApp S ls t = S t) ∧ (∀ j, j ≠ 4 → rApp S ls 0 j = S 0 j) ∧ RG (rApp S ls) ∧ TPr (rApp S ls) (tl ++ ls)
  | [], S, tl, hR, hT, _, _ => ⟨fun _ _ _ => rfl, fun _ _ => rfl, hR, by rw [List.append_nil]; exact hT⟩
  | c :: ls, S, tl, hR, hT, hv, hl => by
    rw [List.length_cons] at hl
    have hc := hv c (by simp)
    obtain ⟨a1, a2, a3, a4⟩ := hT
    have hT' : TPr (up (up S 2 (S 0 4) c) 0 4 (S 0 4 + 1)) (tl ++ [c]) := by
      refine ⟨by rw [up_s, a1]; simp, by simp; omega, fun i v hv' => ?_, fun v hv' => ?_⟩
      · have il := getE_lt hv'
        have ll : (tl ++ [c]).length = tl.length + 1 := by simp
        rw [up_k (by omega)]
        by_cases g : i < tl.length
        · rw [List.getElem?_append_left g] at hv'
          rw [up_j (by omega)]
          exact a3 i v hv'
        · have gi : i = tl.length := by omega
          rw [gi, List.getElem?_append_right (Nat.le_refl _), Nat.sub_self] at hv'
          have ev : c = v := Option.some.inj hv'
          rw [gi, ← ev, ← a1, up_s]
      · rcases List.mem_append.mp hv' with z | z
        · exact a4 v z
        · rw [List.mem_singleton.mp z]; exact hc
    have hR' : RG (up (up S 2 (S 0 4) c) 0 4 (S 0 4 + 1)) := RG_up (RG_up hR (by omega) (by omega)) (by omega) (by omega)
    obtain ⟨i1, i2, i3, i4⟩ := rApp_f ls _ (tl ++ [c]) hR' hT' (fun v hv' => hv v (by simp [hv'])) (by simp; omega)
    rw [rApp]
    refine ⟨fun t t0 t2 => by rw [i1 t t0 t2, up_k t0, up_k t2], fun j j4 => by rw [i2 j j4, up_j j4, up_k (by omega)], i3, ?_⟩
    rw [List.append_assoc] at i4
    exact i4
section CA3
variable {m t0 k : Nat} {X X1 : QM} {S : RS} {g g' cN cT c cN' cT' c' : Nat → Nat} {e1 c1 e2 c2 e3 c3 eP cP cR eP' cP' cR' : Nat} {L1 L2 L2' : List Nat} {f f' : Nat → Int} {l0 l0' : List (Int × Int)} {C C' : CWs} {W0 : Nat → Pl} {J J2 : List Od} {ms : List Int} {hs lr hs' lr' : Int} {hl hl' : List Nat} {tl pp tl' pp' : List Int}
theorem J_feed {n a b b2 e fv : Int} (h : JI m t0 k X) (hk : k ≤ 511) (h1 : q_i32 n) (h2 : q_i32 a) (h3 : q_i32 b) (h4 : q_i32 b2) (h5 : q_i32 e) (h6 : q_i32 fv) : STP m t0 k X iX12_feed iX13_feed [qi n, qi a, qi b, qi b2, qi e, qi fv] := by
  obtain ⟨S, g, cN, cT, c, e1, c1, L1, e2, c2, L2, e3, c3, eP, cP, cR, f, l0, W0, J, J2, ms, hs, lr, hl, tl, pp, hX, hW, hov, hK, hREL, hb, r1, r2⟩ := h
  have jl : J.length ≤ 511 := by omega
  have j2l : J2.length ≤ 511 := by omega
  have g0 : g 0 = t0 := hX.2.2.2.2.2.2.2.2.1
  obtain ⟨hRG, hRJ, hMR, hHS, hR7, hLR, hHT, hTP, hPP⟩ := id hREL
  obtain ⟨NL, PL, hS, hCB⟩ := REL_W hRJ (by omega) hW
  obtain ⟨sB, sP, sF, n20, fo8, nl, pl, fnl, spb, tbd⟩ := id hS
  have hbS := SimK_RB hS (by omega)
  have c0 : 0 ≤ S 0 1 ∧ S 0 1 ≤ 6 := by have := hMR.1; have := hMR.2.1; omega
  have hn0 : S 1 0 = cn (cRun (C0 W0) J) := sB.1
  have hP0 : S 1 2 = PL.length := sB.2.2.1.1
  have hN0 : S 1 1 = NL.length := sB.2.1.1
  have tp4 : S 0 4 = tl.length := hTP.1
  have tp80 : tl.length ≤ 80 := hTP.2.1
  by_cases hn : fdN tl n a b b2 e fv = 0
  · obtain ⟨X1, hc, hT', hI', hf, hQ⟩ := vX12_feedY (d := 998) hX.1 hX.2.1 hn
    rw [g0] at hc
    unfold fdN at hn
    have n1 : 1 ≤ n ∧ n ≤ 5 := Decidable.byContradiction (fun z => by rw [if_pos (by omega)] at hn; omega)
    rw [if_neg (by omega)] at hn
    have n2 : (0 ≤ a ∧ a ≤ 127) ∧ (0 ≤ b ∧ b ≤ 127) ∧ (0 ≤ b2 ∧ b2 ≤ 127) ∧ (0 ≤ e ∧ e ≤ 127) ∧ (0 ≤ fv ∧ fv ≤ 127) := Decidable.byContradiction (fun z => by rw [if_pos z] at hn; omega)
    rw [if_neg (fun z => z n2)] at hn
    have n3 : tl.length + n ≤ 80 := Decidable.byContradiction (fun z => by rw [if_pos (by omega)] at hn; omega)
    obtain ⟨p1, p2, p3, p4, p5⟩ := n2
    have ll : (([a, b, b2, e, fv] : List Int).take n.toNat).length = n.toNat := by rw [List.length_take]; simp; omega
    have hv : ∀ v ∈ ([a, b, b2, e, fv] : List Int).take n.toNat, 0 ≤ v ∧ v ≤ 127 := fun v hv => by
      have := List.mem_of_mem_take hv
      simp only [List.mem_cons, List.not_mem_nil, or_false] at this
      rcases this with rfl | rfl | rfl | rfl | rfl
      · exact p1
      · exact p2
      · exact p3
      · exact p4
      · exact p5
    obtain ⟨q1, q2, q3, q4⟩ := rApp_f (([a, b, b2, e, fv] : List Int).take n.toNat) S tl hRG hTP hv (by rw [ll]; omega)
    have hf2 : q_fr (fun x => (∃ s, s < 244 ∧ (s = 1 ∨ s = 2) ∧ x = g s) ∨ (x = e1 ∧ 0 < c1) ∨ (x = e2 ∧ 0 < c2)) X X1 := hf.wk (fun x _ z => by
      rcases z with z | z
      · exact Or.inl ⟨1, by omega, Or.inl rfl, z⟩
      · exact Or.inl ⟨2, by omega, Or.inr rfl, z⟩)
    have hD := RDI_mv (Z := fun s => s = 1 ∨ s = 2) (g' := g) (e1' := e1) (c1' := c1) (e2' := e2) (c2' := c2) hX.1 hX.2.2.2.2.2.2.2.1 ⟨by omega, by omega⟩ hf2 rfl rfl (Or.inl ⟨rfl, rfl⟩) (Or.inl ⟨rfl, rfl⟩)
    obtain ⟨b1', b2'⟩ := CLX_gen (Z := fun s => s = 1 ∨ s = 2) (b3 := False) hX hI' hT' (fun s z => by omega) (hf2.wk (fun x _ z => by
      rcases z with z | z | z
      · exact Or.inl z
      · exact Or.inr (Or.inl z)
      · exact Or.inr (Or.inr (Or.inl z)))) gO.rf (Or.inl ⟨rfl, rfl⟩) (Or.inl ⟨rfl, rfl⟩) (Or.inl ⟨rfl, rfl⟩) hD
    have hm : m + 8 ≤ q_top X := hX.2.2.2.2.2.2.2.2.2.2.2.2.2.2.2.1
    have hK1 := FO_RK b2' hm hK
    refine STP_mk hX hov hK r1 r2 hc b1' b2' ⟨?_, ?_⟩ (fun P => ?_) (REL_same (U := rApp S (([a, b, b2, e, fv] : List Int).take n.toNat)) hREL (by omega) (by omega) (q1 1 (by omega) (by omega)) (fun j j4 _ _ _ => q2 j j4) (q1 5 (by omega) (by omega)) (q1 7 (by omega) (by omega)) q4 q3) hW ⟨?_, ?_⟩ ⟨by omega, by omega⟩
    · have := hQ.2.2.1; omega
    · have := hQ.2.2.2; omega
    · have := tX13_feedY (d := 998) (x := P) hK1 hRG (by omega) n1 p1 p2 p3 p4 p5 (by omega)
      rw [tp4] at this
      exact this
    · rw [List.length_append, ll]; omega
    · rw [List.length_append, ll]; omega
  · have u := fun P : QP => uX12_feedN (d := 998) (x := P) hX.1 hX.2.1 h1 h2 h3 h4 h5 h6 hn
    rw [g0] at u
    by_cases n1 : 1 ≤ n ∧ n ≤ 5
    · by_cases n2 : (0 ≤ a ∧ a ≤ 127) ∧ (0 ≤ b ∧ b ≤ 127) ∧ (0 ≤ b2 ∧ b2 ≤ 127) ∧ (0 ≤ e ∧ e ≤ 127) ∧ (0 ≤ fv ∧ fv ≤ 127)
      · have n3 : 80 < (tl.length : Int) + n := Decidable.byContradiction (fun z => hn (by unfold fdN; rw [if_neg (by omega), if_neg (fun y => y n2), if_neg z]))
        have ef : fdN tl n a b b2 e fv = -4 := by unfold fdN; rw [if_neg (by omega), if_neg (fun y => y n2), if_pos n3]
        rw [ef] at u
        obtain ⟨p1, p2, p3, p4, p5⟩ := n2
        exact STP_ro hX hW hov hK hREL hb r1 r2 u (fun P => tX13_feedF (d := 998) hK hRG (by omega) n1 p1 p2 p3 p4 p5 (by omega)) ⟨by omega, by omega⟩
      · have ef : fdN tl n a b b2 e fv = -2 := by unfold fdN; rw [if_neg (by omega), if_pos n2]
        rw [ef] at u
        exact STP_ro hX hW hov hK hREL hb r1 r2 u (fun P => tX13_feedN (d := 998) hK hRG h1 h2 h3 h4 h5 h6 (fun z => n2 z.2)) ⟨by omega, by omega⟩
    · have ef : fdN tl n a b b2 e fv = -2 := by unfold fdN; rw [if_pos (by omega)]
      rw [ef] at u
      exact STP_ro hX hW hov hK hREL hb r1 r2 u (fun P => tX13_feedN (d := 998) hK hRG h1 h2 h3 h4 h5 h6 (fun z => n1 z.1)) ⟨by omega, by omega⟩
/-- a register put together after cells of its own were written -/
theorem CLX_parts {Z : Nat → Prop} {bP : Prop} (hX : CLX m t0 X g cN cT c e1 c1 L1 e2 c2 L2 e3 c3 eP cP cR f l0 C J J2 ms hs lr hl tl pp) (hI' : CRI X1 g' cN cT c e1 c1 L1 e2 c2 L2 C J J2 ms hs lr' hl'.length) (hZ : ¬ Z 3 ∧ ¬ Z 4) (hf : q_fr (fun x => (∃ s, s < 244 ∧ Z s ∧ x = g s) ∨ (bP ∧ x = eP)) X X1) (hg7 : ∀ s, s < 8 → g' s = g s) (hgn : ∀ s, s < 244 → g' s = g s ∨ q_top X ≤ g' s) (hP : eP' = eP ∨ (q_top X ≤ eP' ∧ g' = g)) (hT' : TP X1 (g' 1) (g' 2) tl') (hH' : HT X1 g' hl') (hS' : SPm X1 (g' 5) (g' 6) f') (hL' : TL X1 (g' 7) (g' 8) (g' 9) cR' l0' ∧ tlSrt l0' ∧ l0'.length ≤ 100) (hB' : SBm X1 (g' 10) eP' cP' pp') : CLX m t0 X1 g' cN cT c e1 c1 L1 e2 c2 L2 e3 c3 eP' cP' cR' f' l0' C J J2 ms hs lr' hl' tl' pp' ∧ FO m t0 X X1 := by
  obtain ⟨hI, hT, hH, hS, ⟨hL, hLs, hLl⟩, hB, hC, ⟨⟨a, nu, w, hR⟩, ⟨L3, os, hJ3⟩, d1, d2⟩, hO⟩ := hX
  have hO0 := hO
  obtain ⟨a0, a1, a2, a3, a4, a5, a6, a7, a8, a9, a10, a11⟩ := hO
  obtain ⟨hgI, hw, hk, -, -, -, -, hJ1, hJ2, -⟩ := id hI
  have hFO : FO m t0 X X1 := FO_of (Z := Z) (b3 := False) (bP := bP) hO0 (hf.wk (fun x _ z => by
    rcases z with z | z
    · exact Or.inl z
    · exact Or.inr (Or.inr (Or.inr (Or.inr z)))))
  have kP : (q_kd X eP).1 = 4 := by rw [hB.2.2.2.2.1]
  have k3 : 0 < c3 → (q_kd X e3).1 = 5 := fun z => by rw [AL_k5 hJ3.1 z]
  have nA : ∀ s, s < 244 → s ≠ 11 → ¬ Z s → ¬ ((∃ u, u < 244 ∧ Z u ∧ g s = g u) ∨ (bP ∧ g s = eP)) := fun s hs h11 hz z => by
    rcases z with ⟨u, hu, zu, e⟩ | ⟨-, e⟩
    · exact hz (hgI.1 s u hs hu e ▸ zu)
    · exact a2 s hs h11 e
  have hR' : RD X1 (g 3) (g 4) a nu w := RD.fr hw hR hf (nA 3 (by omega) (by omega) hZ.1)
  have hJ3' : JR X1 (g 4) e3 c3 L3 os := by
    refine JR_fr hw hJ3 hf (nA 4 (by omega) (by omega) hZ.2) (fun hc z => ?_) (fun b hb z => ?_)
    · rcases z with ⟨u, hu, zu, e⟩ | ⟨-, e⟩
      · exact (hk u hu).1 (by rw [← e]; exact k3 hc)
      · have := k3 hc; rw [e, kP] at this; omega
    · rcases z with ⟨u, hu, zu, e⟩ | ⟨-, e⟩
      · exact (hk u hu).2 (by rw [← e, hb])
      · rw [← e, hb] at kP; simp at kP
  have hD : RDI X1 g' e1 c1 e2 c2 e3 c3 := ⟨⟨a, nu, w, by rw [hg7 3 (by omega), hg7 4 (by omega)]; exact hR'⟩, ⟨L3, os, by rw [hg7 4 (by omega)]; exact hJ3'⟩, d1, d2⟩
  have hPl : eP < q_top X := hw.lt (by rw [hB.2.2.2.2.1]; simp)
  exact ⟨⟨hI', hT', hH', hS', hL', hB', CST_ow hw hC hFO a9 a10 a11, hD, OWN_mv hO0 hPl hgI.2 hFO (hg7 0 (by omega)) hgn (Or.inl ⟨rfl, rfl⟩) (Or.inl ⟨rfl, rfl⟩) (Or.inl ⟨rfl, rfl⟩) hP⟩, hFO⟩
theorem ag_e {A B D : Prop} {hA : Decidable A} {hB : Decidable B} {hD : Decidable D} {x : Int} (h : ¬ (if A then (-1 : Int) else if B then -2 else if D then -3 else 0) = 0) : (if A then (-1 : Int) else if B then -2 else if D then -3 else x) = (if A then (-1 : Int) else if B then -2 else if D then -3 else 0) := by
  by_cases a : A
  · rw [if_pos a, if_pos a]
  · rw [if_neg a] at h
    rw [if_neg a, if_neg a]
    by_cases b : B
    · rw [if_pos b, if_pos b]
    · rw [if_neg b] at h
      rw [if_neg b, if_neg b]
      by_cases d : D
      · rw [if_pos d, if_pos d]
      · rw [if_neg d] at h
        exact absurd rfl h
theorem J_again {p y : Int} (h : JI m t0 k X) (hk : k ≤ 511) (hp : q_i32 p) (hy : q_i32 y) : STP m t0 k X iX12_again iX13_again [qi p, qi y] := by
  obtain ⟨S, g, cN, cT, c, e1, c1, L1, e2, c2, L2, e3, c3, eP, cP, cR, f, l0, W0, J, J2, ms, hs, lr, hl, tl, pp, hX, hW, hov, hK, hREL, hb, r1, r2⟩ := h
  have jl : J.length ≤ 511 := by omega
  have j2l : J2.length ≤ 511 := by omega
  have g0 : g 0 = t0 := hX.2.2.2.2.2.2.2.2.1
  obtain ⟨hRG, hRJ, hMR, hHS, hR7, hLR, hHT, hTP, hPP⟩ := id hREL
  obtain ⟨NL, PL, hS, hCB⟩ := REL_W hRJ (by omega) hW
  obtain ⟨sB, sP, sF, n20, fo8, nl, pl, fnl, spb, tbd⟩ := id hS
  have hbS := SimK_RB hS (by omega)
  have c0 : 0 ≤ S 0 1 ∧ S 0 1 ≤ 6 := by have := hMR.1; have := hMR.2.1; omega
  have hn0 : S 1 0 = cn (cRun (C0 W0) J) := sB.1
  have hP0 : S 1 2 = PL.length := sB.2.2.1.1
  have hN0 : S 1 1 = NL.length := sB.2.1.1
  have tp4 : S 0 4 = tl.length := hTP.1
  have tp80 : tl.length ≤ 80 := hTP.2.1
  have ea := ag_i sB sP (p := p) (y := y) (l0 := l0)
  by_cases hn : cAgN (cRun (C0 W0) J) p y = 0
  · have hn0' := hn
    unfold cAgN at hn
    have m1 : 0 ≤ p ∧ p < cn (cRun (C0 W0) J) := Decidable.byContradiction (fun z => by rw [if_pos z] at hn; omega)
    rw [if_neg (fun z => z m1)] at hn
    have m2 : 0 ≤ y ∧ y < 10000 := Decidable.byContradiction (fun z => by rw [if_pos z] at hn; omega)
    rw [if_neg (fun z => z m2)] at hn
    have m3 : ¬ 24 < (plH (cW (cRun (C0 W0) J) p.toNat)).length := fun z => by rw [if_pos z] at hn; omega
    rw [if_neg (fun z => z m1), if_neg (fun z => z m2), if_neg m3] at ea
    obtain ⟨pN, rfl⟩ : ∃ pN : Nat, p = pN := ⟨p.toNat, by omega⟩
    rw [Int.toNat_natCast] at ea m3
    obtain ⟨hL, hLs, hLl⟩ := hX.2.2.2.2.1
    obtain ⟨X1, g', cR', hc, hI', hL', hG, g7, hgr⟩ := vX12_againY (d := 995) hX.1 hL hLs hLl hCB hn0'
    rw [g0] at hc
    have hF := HFW_run hRJ.2 hW pN (by omega)
    obtain ⟨v1, v2⟩ := evFold_l (day := y) (l0 := l0) hF hLs
    obtain ⟨hgI, hw, -⟩ := id hX.1
    have fr := hG.1
    have nA : ∀ s, s < 244 → ¬ (s = 7 ∨ s = 8 ∨ s = 9) → ¬ (∃ u, u < 244 ∧ (u = 7 ∨ u = 8 ∨ u = 9) ∧ g s = g u) := fun s hs hz z => by
      obtain ⟨u, hu, zu, e⟩ := z
      have := hgI.1 s u hs hu e
      omega
    have gs : ∀ s, s < 244 → ¬ (s = 7 ∨ s = 8 ∨ s = 9) → g' s = g s := hG.2.1
    have nP : ¬ (∃ u, u < 244 ∧ (u = 7 ∨ u = 8 ∨ u = 9) ∧ eP = g u) := fun z => by
      obtain ⟨u, hu, zu, e⟩ := z
      exact hX.2.2.2.2.2.2.2.2.2.2.1 u hu (by omega) e.symm
    obtain ⟨b1, b2⟩ := CLX_parts (Z := fun s => s = 7 ∨ s = 8 ∨ s = 9) (bP := False) (g' := g') (eP' := eP) (cP' := cP) (pp' := pp) (tl' := tl) (hl' := hl) (f' := f) (cR' := cR') (l0' := (evFold y l0 (plH (cW (cRun (C0 W0) J) pN))).1) hX hI' ⟨by omega, by omega⟩ (fr.wk (fun x _ z => Or.inl z)) (fun s hs => by
        by_cases e : s = 7
        · rw [e, g7]
        · exact gs s (by omega) (by omega)) hG.2.2.1 (Or.inl rfl) (by rw [gs 1 (by omega) (by omega), gs 2 (by omega) (by omega)]; exact TP_fr hw hX.2.1 fr (nA 1 (by omega) (by omega)) (nA 2 (by omega) (by omega))) (HT_fr hgI hX.2.2.1 fr (nA 15 (by omega) (by omega)) (gs 15 (by omega) (by omega))) (by rw [gs 5 (by omega) (by omega), gs 6 (by omega) (by omega)]; exact SPm_fr hw hX.2.2.2.1 fr (nA 5 (by omega) (by omega)) (nA 6 (by omega) (by omega))) ⟨hL', v1, by omega⟩ (by rw [gs 10 (by omega) (by omega)]; exact SBm_fr hw hX.2.2.2.2.2.1 fr (nA 10 (by omega) (by omega)) nP)
    have hm : m + 8 ≤ q_top X := hX.2.2.2.2.2.2.2.2.2.2.2.2.2.2.2.1
    have hK1 := FO_RK b2 hm hK
    obtain ⟨w1, w2, w3⟩ := hgr
    refine STP_mk hX hov hK r1 r2 hc b1 b2 ⟨?_, ?_⟩ (fun P => ?_) hREL hW ⟨by omega, by omega⟩ ?_
    · unfold pot; omega
    · unfold pot; omega
    · rw [← ea]
      exact tX13_again (d := 996) hK1 hRG hn0 n20 hP0 (by omega) hp.1 hp.2 hy.1 hy.2
    · rw [← ea]
      have := rPar_R hRG (pN : Int) y PL.length
      unfold rAg
      repeat' split
      all_goals exact ⟨by omega, by omega⟩
  · have u := fun P : QP => uX12_againN (d := 998) (x := P) hX.1 hp hy hCB hn
    rw [g0] at u
    have e : rAg S p y PL.length = cAgN (cRun (C0 W0) J) p y := by
      rw [ea]
      unfold cAgN at hn ⊢
      exact ag_e hn
    refine STP_ro hX hW hov hK hREL hb r1 r2 u (fun P => ?_) ?_
    · rw [← e]
      exact tX13_again (d := 996) hK hRG hn0 n20 hP0 (by omega) hp.1 hp.2 hy.1 hy.2
    · unfold cAgN
      repeat' split
      all_goals exact ⟨by omega, by omega⟩
end CA3
