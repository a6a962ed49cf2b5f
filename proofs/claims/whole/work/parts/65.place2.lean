
/-! places: what changes them -/
theorem q_fwo {M : QM} {a k j : Nat} {v w : CV} (h : j ≠ k) (f : q_fv M a j = v) : q_fv (q_wr M a k w) a j = v := by rw [q_fv_wrE, if_neg (fun z => h z.2), f]
theorem q_fws {M : QM} {a k : Nat} {w : CV} : q_fv (q_wr M a k w) a k = w := if_pos ⟨rfl, rfl⟩
def plRem (p : Pl) (y so nu : Int) : Pl := ((plK p, plF p, plE p, plI p, y, plG p), plN p, plT p, plH p ++ [(y, so, nu)])
def plHis (p : Pl) (e : Int × Int × Int) : Pl := (p.1, plN p, plT p, plH p ++ [e])
def plSe (p : Pl) (v : Int) : Pl := ((plK p, plF p, v, plI p, plL p, plG p), p.2)
def plSi (p : Pl) (v : Int) : Pl := ((plK p, plF p, plE p, v, plL p, plG p), p.2)
def plSl (p : Pl) (v : Int) : Pl := ((plK p, plF p, plE p, plI p, v, plG p), p.2)
def plSg (p : Pl) (v : Int) : Pl := ((plK p, plF p, plE p, plI p, plL p, v), p.2)
def plNam (p : Pl) (q : Int × Int) : Pl := (p.1, plN p ++ [q], plT p, plH p)
def plPar (p : Pl) (l : List (Int × Int)) : Pl := (p.1, plN p, l, plH p)
def plNew (k par y wd : Int) : Pl := ((k, y, -5, -5, y, if par = -5 then 0 else 1), [(y, wd)], [(y, par)], [(y, 0, par)])
section PL2
variable {M : QM} {g : Nat → Nat} {i cN cT d : Nat} {p : Pl}
theorem PLr_set {k : Nat} {v : CV} {p' : Pl} (hg : gI M g) (hi : i < 20) (h : PLr M (gA g i) cN cT p) (hk : k ≤ 5) (hPF : PF (q_wr M (gA g i 0) k v) (gA g i 0) p') (e : p'.2 = p.2) (hok : plOk p') : PLr (q_wr M (gA g i 0) k v) (gA g i) cN cT p' := by
  obtain ⟨h1, h2, h3, h4, h5, h6, h7, h8⟩ := h
  have s : ∀ l, l < 11 → l ≠ 0 → Sm M (q_wr M (gA g i 0) k v) (gA g i l) := fun l hl h0 => Sm_wr (gA_ne hg hi hl (by omega) h0)
  have eN : plN p' = plN p := congrArg Prod.fst e
  have eT : plT p' = plT p := congrArg (fun z => z.2.1) e
  have eH : plH p' = plH p := congrArg (fun z => z.2.2) e
  refine ⟨hPF, by rw [q_fv_wrE, if_neg (by omega), h2], by rw [q_fv_wrE, if_neg (by omega), h3], by rw [q_fv_wrE, if_neg (by omega), h4], ?_, ?_, ?_, hok⟩
  · rw [eN]; exact NM_sm h5 (s 1 (by omega) (by omega)) (s 2 (by omega) (by omega)) (s 3 (by omega) (by omega))
  · rw [eT]; exact TL_sm h6 (s 4 (by omega) (by omega)) (s 5 (by omega) (by omega)) (s 6 (by omega) (by omega))
  · rw [eH]; exact HI_sm h7 (s 7 (by omega) (by omega)) (s 8 (by omega) (by omega)) (s 9 (by omega) (by omega)) (s 10 (by omega) (by omega))
theorem PLr_setE {v : Int} (hg : gI M g) (hi : i < 20) (h : PLr M (gA g i) cN cT p) (hv : q_b v) : PLr (q_wr M (gA g i 0) 2 (qi v)) (gA g i) cN cT (plSe p v) := by
  obtain ⟨⟨k0, f0, f1, f2, f3, f4, f5⟩, -, -, -, -, -, -, o1, o2, o3, o4, o5, o6, o7, o8⟩ := id h
  exact PLr_set hg hi h (by omega) ⟨k0, q_fwo (by decide) f0, q_fwo (by decide) f1, q_fws, q_fwo (by decide) f3, q_fwo (by decide) f4, q_fwo (by decide) f5⟩ rfl ⟨o1, o2, hv, o4, o5, o6, o7, o8⟩
theorem PLr_setI {v : Int} (hg : gI M g) (hi : i < 20) (h : PLr M (gA g i) cN cT p) (hv : q_b v) : PLr (q_wr M (gA g i 0) 3 (qi v)) (gA g i) cN cT (plSi p v) := by
  obtain ⟨⟨k0, f0, f1, f2, f3, f4, f5⟩, -, -, -, -, -, -, o1, o2, o3, o4, o5, o6, o7, o8⟩ := id h
  exact PLr_set hg hi h (by omega) ⟨k0, q_fwo (by decide) f0, q_fwo (by decide) f1, q_fwo (by decide) f2, q_fws, q_fwo (by decide) f4, q_fwo (by decide) f5⟩ rfl ⟨o1, o2, o3, hv, o5, o6, o7, o8⟩
theorem PLr_setL {v : Int} (hg : gI M g) (hi : i < 20) (h : PLr M (gA g i) cN cT p) (hv : q_b v) : PLr (q_wr M (gA g i 0) 4 (qi v)) (gA g i) cN cT (plSl p v) := by
  obtain ⟨⟨k0, f0, f1, f2, f3, f4, f5⟩, -, -, -, -, -, -, o1, o2, o3, o4, o5, o6, o7, o8⟩ := id h
  exact PLr_set hg hi h (by omega) ⟨k0, q_fwo (by decide) f0, q_fwo (by decide) f1, q_fwo (by decide) f2, q_fwo (by decide) f3, q_fws, q_fwo (by decide) f5⟩ rfl ⟨o1, o2, o3, o4, hv, o6, o7, o8⟩
theorem PLr_setG {v : Int} (hg : gI M g) (hi : i < 20) (h : PLr M (gA g i) cN cT p) (hv : q_b v) : PLr (q_wr M (gA g i 0) 5 (qi v)) (gA g i) cN cT (plSg p v) := by
  obtain ⟨⟨k0, f0, f1, f2, f3, f4, f5⟩, -, -, -, -, -, -, o1, o2, o3, o4, o5, o6, o7, o8⟩ := id h
  exact PLr_set hg hi h (by omega) ⟨k0, q_fwo (by decide) f0, q_fwo (by decide) f1, q_fwo (by decide) f2, q_fwo (by decide) f3, q_fwo (by decide) f4, q_fws⟩ rfl ⟨o1, o2, o3, o4, o5, hv, o7, o8⟩
theorem row_in {k : Nat} (hi : i < 20) (hk : k < 11) : 24 + 11 * i + k < 244 ∧ rowS i (24 + 11 * i + k) := by unfold rowS; omega
theorem GF_set {k : Nat} {v : CV} (hg : gI M g) (hw : q_wf M) (hi : i < 20) : GF (rowS i) M (q_wr M (gA g i 0) k v) g g := GF_wr hg hw (s := 24 + 11 * i + 0) (by omega) (row_in hi (by omega)).2
/-- history -/
theorem vX1_append {a b c : Int} (hg : gI M g) (hw : q_wf M) (hi : i < 20) (h : PLr M (gA g i) cN cT p) (hl : (plH p).length < 100000) (ha : q_b a) (hb : q_b b) (hc : q_b c) : ∃ M', q_C (d + 1) iX1_append [qr (gA g i 7), qi a, qi b, qi c] M none M' ∧ PLr M' (gA g i) cN cT (plHis p (a, b, c)) ∧ GF (rowS i) M M' g g ∧ q_qt M M' := by
  obtain ⟨r, M', hC, rfl, h1, h2, h3⟩ := sX1_append (d := d) (a := a) (b := b) (c := c) h.2.2.2.2.2.2.1 hl ha hb hc (P := fun r M' => r = none ∧ HI M' (gA g i 7) (gA g i 8) (gA g i 9) (gA g i 10) (plH p ++ [(a, b, c)]) ∧ q_fr (fun x => x = gA g i 7 ∨ x = gA g i 8 ∨ x = gA g i 9 ∨ x = gA g i 10) M M' ∧ q_qt M M') (fun M' h1 h2 h3 => ⟨rfl, h1, h2, h3⟩)
  have hF : GF (rowS i) M M' g g := by
    refine GF_q hg hw ?_ h2 h3
    rintro x (rfl | rfl | rfl | rfl)
    · exact ⟨_, (row_in hi (by omega)).1, (row_in hi (by omega)).2, rfl⟩
    · exact ⟨_, (row_in hi (by omega)).1, (row_in hi (by omega)).2, rfl⟩
    · exact ⟨_, (row_in hi (by omega)).1, (row_in hi (by omega)).2, rfl⟩
    · exact ⟨_, (row_in hi (by omega)).1, (row_in hi (by omega)).2, rfl⟩
  have s : ∀ l, l < 7 → Sm M M' (gA g i l) := by
    intro l hl
    refine Sm_fr h2 (hg.2 _ (by omega)) ?_
    rintro (e | e | e | e)
    · exact gA_ne hg hi (by omega) (by omega) (by omega) e
    · exact gA_ne hg hi (by omega) (by omega) (by omega) e
    · exact gA_ne hg hi (by omega) (by omega) (by omega) e
    · exact gA_ne hg hi (by omega) (by omega) (by omega) e
  obtain ⟨p1, p2, p3, p4, p5, p6, p7, o1, o2, o3, o4, o5, o6, o7, o8⟩ := h
  exact ⟨M', hC, ⟨PF_sm p1 (s 0 (by omega)), by rw [(s 0 (by omega)).2, p2], by rw [(s 0 (by omega)).2, p3], by rw [(s 0 (by omega)).2, p4], NM_sm p5 (s 1 (by omega)) (s 2 (by omega)) (s 3 (by omega)), TL_sm p6 (s 4 (by omega)) (s 5 (by omega)) (s 6 (by omega)), h1, o1, o2, o3, o4, o5, o6, o7, o8⟩, hF, h3⟩
theorem vX4_remember {a b c : Int} (hg : gI M g) (hw : q_wf M) (hi : i < 20) (h : PLr M (gA g i) cN cT p) (hl : (plH p).length < 100000) (ha : q_b a) (hb : q_b b) (hc : q_b c) : ∃ M', q_C (d + 2) iX4_remember [qr (gA g i 0), qi a, qi b, qi c] M none M' ∧ PLr M' (gA g i) cN cT (plRem p a b c) ∧ GF (rowS i) M M' g g ∧ q_qt M M' := by
  have hp := PLr_setL hg hi h ha
  have hF := GF_set (k := 4) (v := qi a) hg hw hi
  obtain ⟨M', hC, h1, h2, h3⟩ := vX1_append (d := d) (a := a) (b := b) (c := c) hF.2.2.2.1 hF.2.2.2.2 hi hp hl ha hb hc
  refine ⟨M', C_of (fun P => ?_), h1, hF.tr h2, q_qt.wr.tr h3⟩
  rw [eX4_remember]
  have hp0 := h
  have e8 := PLr_f8 hp
  simp (disch := first | assumption | exact PLr_0 hp | exact PLr_0 hp0 | exact PLr_k7 hp | (show (List.map q_wd _).sum ≤ 8; with_unfolding_all exact Nat.le_of_ble_eq_true rfl) | omega) only [kX4_remember_0, kX4_remember_1, kX4_remember_2, kX4_remember_5, kX4_remember_6, kX4_remember_9, kX4_remember_10, kX4_remember_11, kX4_remember_12E, kX4_remember_15, q_cut_i, q_cut_r, q_cut_l, q_cut_n, q_psh_n, q_psh_s, bI_eq0, ite_not, e8, T_of hC]
theorem vX2_append {y wd : Int} (hg : gI M g) (hw : q_wf M) (hi : i < 20) (h : PLr M (gA g i) cN cT p) (hl : (plN p).length ≤ 2000) (hy : q_b y) (h0 : 0 ≤ wd) (h1 : wd < 2 ^ 40) : ∃ M' g' cN', q_C (d + 2) iX2_append [qr (gA g i 1), qi y, ql wd] M none M' ∧ PLr M' (gA g' i) cN' cT (plNam p (y, wd)) ∧ GF (rowS i) M M' g g' ∧ q_gr M M' cN cN' ∧ (∀ k, k < 11 → k ≠ 2 → k ≠ 3 → gA g' i k = gA g i k) := by
  obtain ⟨r, M', hC, rfl, s', p', cN', h1, h2, h3, h4, h5, h6⟩ := sX2_append (d := d) (day := y) (w := wd) h.2.2.2.2.1 hw hl hy (P := fun r M' => r = none ∧ ∃ s' p' cap', NM M' (gA g i 1) s' p' cap' (plN p ++ [(y, wd)]) ∧ q_fr (fun x => x = gA g i 1 ∨ x = gA g i 2 ∨ x = gA g i 3) M M' ∧ q_wf M' ∧ q_gr M M' cN cap' ∧ (s' = gA g i 2 ∨ q_top M ≤ s') ∧ (p' = gA g i 3 ∨ q_top M ≤ p')) (fun M' s' p' cap' h1 h2 h3 h4 h5 h6 => ⟨rfl, s', p', cap', h1, h2, h3, h4, h5, h6⟩)
  have ks : q_kd M' s' = (2, cN') := h1.2.2.2.2.1
  have kp : q_kd M' p' = (3, cN') := h1.2.2.2.2.2.1
  have hF : GF (rowS i) M M' g (upF (upF g (24 + 11 * i + 2) s') (24 + 11 * i + 3) p') := by
    refine GF_g2 hg h3 ?_ h2 (by omega) (by omega) (by omega) (row_in hi (by omega)).2 (row_in hi (by omega)).2 h5 h6 (q_neK ks kp (by simp)) (h3.lt (by rw [ks]; simp)) (h3.lt (by rw [kp]; simp))
    rintro x (rfl | rfl | rfl)
    · exact ⟨_, (row_in hi (by omega)).1, (row_in hi (by omega)).2, rfl⟩
    · exact ⟨_, (row_in hi (by omega)).1, (row_in hi (by omega)).2, rfl⟩
    · exact ⟨_, (row_in hi (by omega)).1, (row_in hi (by omega)).2, rfl⟩
  have ea : ∀ k, k < 11 → k ≠ 2 → k ≠ 3 → gA (upF (upF g (24 + 11 * i + 2) s') (24 + 11 * i + 3) p') i k = gA g i k := by
    intro k _ k2 k3
    unfold gA
    rw [upF_o (by omega), upF_o (by omega)]
  have e2 : gA (upF (upF g (24 + 11 * i + 2) s') (24 + 11 * i + 3) p') i 2 = s' := by unfold gA; rw [upF_o (by omega), upF_s]
  have e3 : gA (upF (upF g (24 + 11 * i + 2) s') (24 + 11 * i + 3) p') i 3 = p' := by unfold gA; rw [upF_s]
  have s : ∀ l, l < 11 → l ≠ 1 → l ≠ 2 → l ≠ 3 → Sm M M' (gA g i l) := by
    intro l hl l1 l2 l3
    refine Sm_fr h2 (hg.2 _ (by omega)) ?_
    rintro (e | e | e)
    · exact gA_ne hg hi (by omega) (by omega) (by omega) e
    · exact gA_ne hg hi (by omega) (by omega) (by omega) e
    · exact gA_ne hg hi (by omega) (by omega) (by omega) e
  obtain ⟨p1, p2, p3, p4, p5, p6, p7, o1, o2, o3, o4, o5, o6, o7, o8⟩ := h
  refine ⟨M', _, cN', hC, ?_, hF, h4, ea⟩
  unfold PLr
  rw [e2, e3, ea 0 (by omega) (by omega) (by omega), ea 1 (by omega) (by omega) (by omega), ea 4 (by omega) (by omega) (by omega), ea 5 (by omega) (by omega) (by omega), ea 6 (by omega) (by omega) (by omega), ea 7 (by omega) (by omega) (by omega), ea 8 (by omega) (by omega) (by omega), ea 9 (by omega) (by omega) (by omega), ea 10 (by omega) (by omega) (by omega)]
  have s0 := s 0 (by omega) (by omega) (by omega) (by omega)
  refine ⟨PF_sm p1 s0, by rw [s0.2, p2], by rw [s0.2, p3], by rw [s0.2, p4], h1, TL_sm p6 (s 4 (by omega) (by omega) (by omega) (by omega)) (s 5 (by omega) (by omega) (by omega) (by omega)) (s 6 (by omega) (by omega) (by omega) (by omega)), HI_sm p7 (s 7 (by omega) (by omega) (by omega) (by omega)) (s 8 (by omega) (by omega) (by omega) (by omega)) (s 9 (by omega) (by omega) (by omega) (by omega)) (s 10 (by omega) (by omega) (by omega) (by omega)), o1, o2, o3, o4, o5, o6, o7, ?_⟩
  intro q hq
  rcases List.mem_append.mp hq with hq | hq
  · exact o8 q hq
  · rw [List.mem_singleton.mp hq]; exact ⟨h0, by assumption⟩
/-- a timeline that was written over -/
theorem vTL {M' : QM} {l : List (Int × Int)} {s' p' cT' : Nat} (hg : gI M g) (hi : i < 20) (h : PLr M (gA g i) cN cT p) (h1 : TL M' (gA g i 4) s' p' cT' l) (h2 : q_fr (fun x => x = gA g i 4 ∨ x = gA g i 5 ∨ x = gA g i 6) M M') (h3 : q_wf M') (h5 : s' = gA g i 5 ∨ q_top M ≤ s') (h6 : p' = gA g i 6 ∨ q_top M ≤ p') (hs : tlSrt l) : ∃ g', PLr M' (gA g' i) cN cT' (plPar p l) ∧ GF (rowS i) M M' g g' ∧ (∀ k, k < 11 → k ≠ 5 → k ≠ 6 → gA g' i k = gA g i k) := by
  have ks : q_kd M' s' = (2, cT') := h1.2.2.2.2.1
  have kp : q_kd M' p' = (2, cT') := h1.2.2.2.2.2.1
  have hF : GF (rowS i) M M' g (upF (upF g (24 + 11 * i + 5) s') (24 + 11 * i + 6) p') := by
    refine GF_g2 hg h3 ?_ h2 (by omega) (by omega) (by omega) (row_in hi (by omega)).2 (row_in hi (by omega)).2 h5 h6 h1.2.2.2.2.2.2.2.2.2.1 (h3.lt (by rw [ks]; simp)) (h3.lt (by rw [kp]; simp))
    rintro x (rfl | rfl | rfl)
    · exact ⟨_, (row_in hi (by omega)).1, (row_in hi (by omega)).2, rfl⟩
    · exact ⟨_, (row_in hi (by omega)).1, (row_in hi (by omega)).2, rfl⟩
    · exact ⟨_, (row_in hi (by omega)).1, (row_in hi (by omega)).2, rfl⟩
  have ea : ∀ k, k < 11 → k ≠ 5 → k ≠ 6 → gA (upF (upF g (24 + 11 * i + 5) s') (24 + 11 * i + 6) p') i k = gA g i k := by
    intro k _ k2 k3
    unfold gA
    rw [upF_o (by omega), upF_o (by omega)]
  have e2 : gA (upF (upF g (24 + 11 * i + 5) s') (24 + 11 * i + 6) p') i 5 = s' := by unfold gA; rw [upF_o (by omega), upF_s]
  have e3 : gA (upF (upF g (24 + 11 * i + 5) s') (24 + 11 * i + 6) p') i 6 = p' := by unfold gA; rw [upF_s]
  have s : ∀ l, l < 11 → l ≠ 4 → l ≠ 5 → l ≠ 6 → Sm M M' (gA g i l) := by
    intro l hl l1 l2 l3
    refine Sm_fr h2 (hg.2 _ (by omega)) ?_
    rintro (e | e | e)
    · exact gA_ne hg hi (by omega) (by omega) (by omega) e
    · exact gA_ne hg hi (by omega) (by omega) (by omega) e
    · exact gA_ne hg hi (by omega) (by omega) (by omega) e
  obtain ⟨p1, p2, p3, p4, p5, p6, p7, o1, o2, o3, o4, o5, o6, o7, o8⟩ := h
  refine ⟨_, ?_, hF, ea⟩
  unfold PLr
  rw [e2, e3, ea 0 (by omega) (by omega) (by omega), ea 1 (by omega) (by omega) (by omega), ea 2 (by omega) (by omega) (by omega), ea 3 (by omega) (by omega) (by omega), ea 4 (by omega) (by omega) (by omega), ea 7 (by omega) (by omega) (by omega), ea 8 (by omega) (by omega) (by omega), ea 9 (by omega) (by omega) (by omega), ea 10 (by omega) (by omega) (by omega)]
  have s0 := s 0 (by omega) (by omega) (by omega) (by omega)
  exact ⟨PF_sm p1 s0, by rw [s0.2, p2], by rw [s0.2, p3], by rw [s0.2, p4], NM_sm p5 (s 1 (by omega) (by omega) (by omega) (by omega)) (s 2 (by omega) (by omega) (by omega) (by omega)) (s 3 (by omega) (by omega) (by omega) (by omega)), h1, HI_sm p7 (s 7 (by omega) (by omega) (by omega) (by omega)) (s 8 (by omega) (by omega) (by omega) (by omega)) (s 9 (by omega) (by omega) (by omega) (by omega)) (s 10 (by omega) (by omega) (by omega) (by omega)), o1, o2, o3, o4, o5, o6, hs, o8⟩
theorem vX9_put {y v : Int} (hg : gI M g) (hw : q_wf M) (hi : i < 20) (h : PLr M (gA g i) cN cT p) (hl : (plT p).length ≤ 2000) (hy : q_b y) (hv : q_b v) : ∃ M' g' cT', q_C (d + 3) iX9_put [qr (gA g i 4), qi y, qi v] M none M' ∧ PLr M' (gA g' i) cN cT' (plPar p (tlPut (plT p) y v)) ∧ GF (rowS i) M M' g g' ∧ q_gr M M' cT cT' ∧ (∀ k, k < 11 → k ≠ 5 → k ≠ 6 → gA g' i k = gA g i k) := by
  obtain ⟨r, M', hC, rfl, s', p', cT', h1, h2, h3, h4, h5, h6⟩ := sX9_put (d := d) (day := y) (par := v) h.2.2.2.2.2.1 hw hl hy hv (P := fun r M' => r = none ∧ ∃ s' p' cap', TL M' (gA g i 4) s' p' cap' (tlPut (plT p) y v) ∧ q_fr (fun x => x = gA g i 4 ∨ x = gA g i 5 ∨ x = gA g i 6) M M' ∧ q_wf M' ∧ q_gr M M' cT cap' ∧ (s' = gA g i 5 ∨ q_top M ≤ s') ∧ (p' = gA g i 6 ∨ q_top M ≤ p')) (fun M' s' p' cap' h1 h2 h3 h4 h5 h6 => ⟨rfl, s', p', cap', h1, h2, h3, h4, h5, h6⟩)
  obtain ⟨g', k1, k2, k3⟩ := vTL hg hi h h1 h2 h3 h5 h6 (tlPut_srt (PLr_ok h).2.2.2.2.2.2.1 y v)
  exact ⟨M', g', cT', hC, k1, k2, h4, k3⟩
theorem vX9_replace {y old v : Int} (hg : gI M g) (hw : q_wf M) (hi : i < 20) (h : PLr M (gA g i) cN cT p) (hl : (plT p).length ≤ 1000) (hy : q_b y) (hv : q_b v) (ho : -2147483648 ≤ old ∧ old < 2147483648) : ∃ M' g' cT', q_C (d + 3) iX9_replace [qr (gA g i 4), qi y, qi old, qi v] M none M' ∧ PLr M' (gA g' i) cN cT' (plPar p (tlRep y old v (plT p))) ∧ GF (rowS i) M M' g g' ∧ q_gr M M' cT cT' ∧ (∀ k, k < 11 → k ≠ 5 → k ≠ 6 → gA g' i k = gA g i k) := by
  obtain ⟨r, M', hC, rfl, s', p', cT', h1, h2, h3, h4, h5, h6⟩ := sX9_replace (d := d) (day := y) (old := old) (par := v) h.2.2.2.2.2.1 hw hl hy hv ho (P := fun r M' => r = none ∧ ∃ s' p' cap', TL M' (gA g i 4) s' p' cap' (tlRep y old v (plT p)) ∧ q_fr (fun x => x = gA g i 4 ∨ x = gA g i 5 ∨ x = gA g i 6) M M' ∧ q_wf M' ∧ q_gr M M' cT cap' ∧ (s' = gA g i 5 ∨ q_top M ≤ s') ∧ (p' = gA g i 6 ∨ q_top M ≤ p')) (fun M' s' p' cap' h1 h2 h3 h4 h5 h6 => ⟨rfl, s', p', cap', h1, h2, h3, h4, h5, h6⟩)
  obtain ⟨g', k1, k2, k3⟩ := vTL hg hi h h1 h2 h3 h5 h6 (tlRep_srt _ (PLr_ok h).2.2.2.2.2.2.1)
  exact ⟨M', g', cT', hC, k1, k2, h4, k3⟩
end PL2
