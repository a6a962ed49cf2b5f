
/-! the world: what changes it -/
section PL3
variable {M : QM} {g : Nat → Nat} {i cN cT d : Nat} {p : Pl}
def plSk (p : Pl) (v : Int) : Pl := ((v, plF p, plE p, plI p, plL p, plG p), p.2)
def plSf (p : Pl) (v : Int) : Pl := ((plK p, v, plE p, plI p, plL p, plG p), p.2)
theorem PLr_setK {v : Int} (hg : gI M g) (hi : i < 20) (h : PLr M (gA g i) cN cT p) (hv : q_b v) : PLr (q_wr M (gA g i 0) 0 (qi v)) (gA g i) cN cT (plSk p v) := by
  obtain ⟨⟨k0, f0, f1, f2, f3, f4, f5⟩, -, -, -, -, -, -, o1, o2, o3, o4, o5, o6, o7, o8⟩ := id h
  exact PLr_set hg hi h (by omega) ⟨k0, q_fws, q_fwo (by decide) f1, q_fwo (by decide) f2, q_fwo (by decide) f3, q_fwo (by decide) f4, q_fwo (by decide) f5⟩ rfl ⟨hv, o2, o3, o4, o5, o6, o7, o8⟩
theorem PLr_setF {v : Int} (hg : gI M g) (hi : i < 20) (h : PLr M (gA g i) cN cT p) (hv : q_b v) : PLr (q_wr M (gA g i 0) 1 (qi v)) (gA g i) cN cT (plSf p v) := by
  obtain ⟨⟨k0, f0, f1, f2, f3, f4, f5⟩, -, -, -, -, -, -, o1, o2, o3, o4, o5, o6, o7, o8⟩ := id h
  exact PLr_set hg hi h (by omega) ⟨k0, q_fwo (by decide) f0, q_fws, q_fwo (by decide) f2, q_fwo (by decide) f3, q_fwo (by decide) f4, q_fwo (by decide) f5⟩ rfl ⟨o1, hv, o3, o4, o5, o6, o7, o8⟩
theorem vX2_begin {y wd : Int} (hg : gI M g) (hw : q_wf M) (hi : i < 20) (h : PLr M (gA g i) cN cT p) (hy : q_b y) (h0 : 0 ≤ wd) (h1 : wd < 2 ^ 40) : ∃ M', q_C (d + 1) iX2_begin [qr (gA g i 1), qi y, ql wd] M none M' ∧ PLr M' (gA g i) cN cT (p.1, [(y, wd)], plT p, plH p) ∧ GF (rowS i) M M' g g ∧ q_qt M M' := by
  obtain ⟨r, M', hC, rfl, k1, k2, k3⟩ := sX2_begin (d := d) (day := y) (w := wd) h.2.2.2.2.1 hy (P := fun r M' => r = none ∧ NM M' (gA g i 1) (gA g i 2) (gA g i 3) cN [(y, wd)] ∧ q_fr (fun x => x = gA g i 1 ∨ x = gA g i 2 ∨ x = gA g i 3) M M' ∧ q_qt M M') (fun M' h1 h2 h3 => ⟨rfl, h1, h2, h3⟩)
  have hF : GF (rowS i) M M' g g := by
    refine GF_q hg hw ?_ k2 k3
    rintro x (rfl | rfl | rfl)
    · exact ⟨_, (row_in hi (by omega)).1, (row_in hi (by omega)).2, rfl⟩
    · exact ⟨_, (row_in hi (by omega)).1, (row_in hi (by omega)).2, rfl⟩
    · exact ⟨_, (row_in hi (by omega)).1, (row_in hi (by omega)).2, rfl⟩
  have s : ∀ l, l < 11 → l ≠ 1 → l ≠ 2 → l ≠ 3 → Sm M M' (gA g i l) := by
    intro l hl l1 l2 l3
    refine Sm_fr k2 (hg.2 _ (by omega)) ?_
    rintro (e | e | e)
    · exact gA_ne hg hi (by omega) (by omega) (by omega) e
    · exact gA_ne hg hi (by omega) (by omega) (by omega) e
    · exact gA_ne hg hi (by omega) (by omega) (by omega) e
  obtain ⟨p1, p2, p3, p4, p5, p6, p7, o1, o2, o3, o4, o5, o6, o7, o8⟩ := h
  have s0 := s 0 (by omega) (by omega) (by omega) (by omega)
  refine ⟨M', hC, ⟨PF_sm p1 s0, by rw [s0.2, p2], by rw [s0.2, p3], by rw [s0.2, p4], k1, TL_sm p6 (s 4 (by omega) (by omega) (by omega) (by omega)) (s 5 (by omega) (by omega) (by omega) (by omega)) (s 6 (by omega) (by omega) (by omega) (by omega)), HI_sm p7 (s 7 (by omega) (by omega) (by omega) (by omega)) (s 8 (by omega) (by omega) (by omega) (by omega)) (s 9 (by omega) (by omega) (by omega) (by omega)) (s 10 (by omega) (by omega) (by omega) (by omega)), o1, o2, o3, o4, o5, o6, o7, ?_⟩, hF, k3⟩
  intro q hq
  rw [List.mem_singleton.mp hq]
  exact ⟨h0, h1⟩
theorem vX9_begin {y v : Int} (hg : gI M g) (hw : q_wf M) (hi : i < 20) (h : PLr M (gA g i) cN cT p) (hy : q_b y) (hv : q_b v) : ∃ M', q_C (d + 1) iX9_begin [qr (gA g i 4), qi y, qi v] M none M' ∧ PLr M' (gA g i) cN cT (plPar p [(y, v)]) ∧ GF (rowS i) M M' g g ∧ q_qt M M' := by
  obtain ⟨r, M', hC, rfl, k1, k2, k3⟩ := sX9_begin (d := d) (day := y) (par := v) h.2.2.2.2.2.1 hy hv (P := fun r M' => r = none ∧ TL M' (gA g i 4) (gA g i 5) (gA g i 6) cT [(y, v)] ∧ q_fr (fun x => x = gA g i 4 ∨ x = gA g i 5 ∨ x = gA g i 6) M M' ∧ q_qt M M') (fun M' h1 h2 h3 => ⟨rfl, h1, h2, h3⟩)
  have hF : GF (rowS i) M M' g g := by
    refine GF_q hg hw ?_ k2 k3
    rintro x (rfl | rfl | rfl)
    · exact ⟨_, (row_in hi (by omega)).1, (row_in hi (by omega)).2, rfl⟩
    · exact ⟨_, (row_in hi (by omega)).1, (row_in hi (by omega)).2, rfl⟩
    · exact ⟨_, (row_in hi (by omega)).1, (row_in hi (by omega)).2, rfl⟩
  have s : ∀ l, l < 11 → l ≠ 4 → l ≠ 5 → l ≠ 6 → Sm M M' (gA g i l) := by
    intro l hl l1 l2 l3
    refine Sm_fr k2 (hg.2 _ (by omega)) ?_
    rintro (e | e | e)
    · exact gA_ne hg hi (by omega) (by omega) (by omega) e
    · exact gA_ne hg hi (by omega) (by omega) (by omega) e
    · exact gA_ne hg hi (by omega) (by omega) (by omega) e
  obtain ⟨p1, p2, p3, p4, p5, p6, p7, o1, o2, o3, o4, o5, o6, o7, o8⟩ := h
  have s0 := s 0 (by omega) (by omega) (by omega) (by omega)
  exact ⟨M', hC, ⟨PF_sm p1 s0, by rw [s0.2, p2], by rw [s0.2, p3], by rw [s0.2, p4], NM_sm p5 (s 1 (by omega) (by omega) (by omega) (by omega)) (s 2 (by omega) (by omega) (by omega) (by omega)) (s 3 (by omega) (by omega) (by omega) (by omega)), k1, HI_sm p7 (s 7 (by omega) (by omega) (by omega) (by omega)) (s 8 (by omega) (by omega) (by omega) (by omega)) (s 9 (by omega) (by omega) (by omega) (by omega)) (s 10 (by omega) (by omega) (by omega) (by omega)), o1, o2, o3, o4, o5, o6, by simp [tlSrt, plT, plPar], o8⟩, hF, k3⟩
theorem vX1_begin {y v : Int} (hg : gI M g) (hw : q_wf M) (hi : i < 20) (h : PLr M (gA g i) cN cT p) (hy : q_b y) (hv : q_b v) : ∃ M', q_C (d + 1) iX1_begin [qr (gA g i 7), qi y, qi v] M none M' ∧ PLr M' (gA g i) cN cT (p.1, plN p, plT p, [(y, 0, v)]) ∧ GF (rowS i) M M' g g ∧ q_qt M M' := by
  obtain ⟨r, M', hC, rfl, h1, h2, h3⟩ := sX1_begin (d := d) (a := y) (b := v) h.2.2.2.2.2.2.1 hy hv (P := fun r M' => r = none ∧ HI M' (gA g i 7) (gA g i 8) (gA g i 9) (gA g i 10) [(y, 0, v)] ∧ q_fr (fun x => x = gA g i 7 ∨ x = gA g i 8 ∨ x = gA g i 9 ∨ x = gA g i 10) M M' ∧ q_qt M M') (fun M' h1 h2 h3 => ⟨rfl, h1, h2, h3⟩)
  have hF : GF (rowS i) M M' g g := by
    refine GF_q hg hw ?_ h2 h3
    rintro x (rfl | rfl | rfl | rfl)
    · exact ⟨_, (row_in hi (by omega)).1, (row_in hi (by omega)).2, rfl⟩
    · exact ⟨_, (row_in hi (by omega)).1, (row_in hi (by omega)).2, rfl⟩
    · exact ⟨_, (row_in hi (by omega)).1, (row_in hi (by omega)).2, rfl⟩
    · exact ⟨_, (row_in hi (by omega)).1, (row_in hi (by omega)).2, rfl⟩
  have s : ∀ l, l < 7 → Sm M M' (gA g i l) := by
    intro l hl
    refine Sm_fr h2 (hg.2 _ (by omega)) ?_
    rintro (e | e | e | e)
    · exact gA_ne hg hi (by omega) (by omega) (by omega) e
    · exact gA_ne hg hi (by omega) (by omega) (by omega) e
    · exact gA_ne hg hi (by omega) (by omega) (by omega) e
    · exact gA_ne hg hi (by omega) (by omega) (by omega) e
  obtain ⟨p1, p2, p3, p4, p5, p6, p7, o1, o2, o3, o4, o5, o6, o7, o8⟩ := h
  exact ⟨M', hC, ⟨PF_sm p1 (s 0 (by omega)), by rw [(s 0 (by omega)).2, p2], by rw [(s 0 (by omega)).2, p3], by rw [(s 0 (by omega)).2, p4], NM_sm p5 (s 1 (by omega)) (s 2 (by omega)) (s 3 (by omega)), TL_sm p6 (s 4 (by omega)) (s 5 (by omega)) (s 6 (by omega)), h1, o1, o2, o3, o4, o5, o6, o7, o8⟩, hF, h3⟩
theorem vX4_begin {k v y wd : Int} (hg : gI M g) (hw : q_wf M) (hi : i < 20) (h : PLr M (gA g i) cN cT p) (hk : q_b k) (hv : q_b v) (hy : q_b y) (h0 : 0 ≤ wd) (h1 : wd < 2 ^ 40) : ∃ M', q_C (d + 2) iX4_begin [qr (gA g i 0), qi k, qi v, qi y, ql wd] M none M' ∧ PLr M' (gA g i) cN cT (plNew k v y wd) ∧ GF (rowS i) M M' g g ∧ q_qt M M' := by
  have n5 : q_b (-5) := ⟨by omega, by omega⟩
  obtain ⟨G, hG⟩ : ∃ G : Int, G = if v = -5 then 0 else 1 := ⟨_, rfl⟩
  have bG : q_b G := by rw [hG]; split <;> exact ⟨by omega, by omega⟩
  have a1 := PLr_setK hg hi h hk
  have g1 := GF_set (k := 0) (v := qi k) hg hw hi
  have a2 := PLr_setF g1.2.2.2.1 hi a1 hy
  have g2 := GF_set (k := 1) (v := qi y) g1.2.2.2.1 g1.2.2.2.2 hi
  have a3 := PLr_setE g2.2.2.2.1 hi a2 n5
  have g3 := GF_set (k := 2) (v := qi (-5)) g2.2.2.2.1 g2.2.2.2.2 hi
  have a4 := PLr_setI g3.2.2.2.1 hi a3 n5
  have g4 := GF_set (k := 3) (v := qi (-5)) g3.2.2.2.1 g3.2.2.2.2 hi
  have a5 := PLr_setL g4.2.2.2.1 hi a4 hy
  have g5 := GF_set (k := 4) (v := qi y) g4.2.2.2.1 g4.2.2.2.2 hi
  have a6 := PLr_setG g5.2.2.2.1 hi a5 bG
  have g6 := GF_set (k := 5) (v := qi G) g5.2.2.2.1 g5.2.2.2.2 hi
  have gg := ((((g1.tr g2).tr g3).tr g4).tr g5).tr g6
  obtain ⟨M6, hM6⟩ : ∃ M6, M6 = q_wr (q_wr (q_wr (q_wr (q_wr (q_wr M (gA g i 0) 0 (qi k)) (gA g i 0) 1 (qi y)) (gA g i 0) 2 (qi (-5))) (gA g i 0) 3 (qi (-5))) (gA g i 0) 4 (qi y)) (gA g i 0) 5 (qi G) := ⟨_, rfl⟩
  have qt6 : q_qt M M6 := by rw [hM6]; exact ((((q_qt.wr.tr q_qt.wr).tr q_qt.wr).tr q_qt.wr).tr q_qt.wr).tr q_qt.wr
  rw [← hM6] at a6 gg
  obtain ⟨M7, c7, a7, g7, q7⟩ := vX2_begin (d := d) (y := y) (wd := wd) gg.2.2.2.1 gg.2.2.2.2 hi a6 hy h0 h1
  obtain ⟨M8, c8, a8, g8, q8⟩ := vX9_begin (d := d) (y := y) (v := v) g7.2.2.2.1 g7.2.2.2.2 hi a7 hy hv
  obtain ⟨M9, c9, a9, g9, q9⟩ := vX1_begin (d := d) (y := y) (v := v) g8.2.2.2.1 g8.2.2.2.2 hi a8 hy hv
  have e9 : (plPar (((plSg (plSl (plSi (plSe (plSf (plSk p k) y) (-5)) (-5)) y) G)).1, [(y, wd)], plT (plSg (plSl (plSi (plSe (plSf (plSk p k) y) (-5)) (-5)) y) G), plH (plSg (plSl (plSi (plSe (plSf (plSk p k) y) (-5)) (-5)) y) G)) [(y, v)]).1 = (k, y, -5, -5, y, G) := rfl
  refine ⟨M9, C_of (fun P => ?_), ?_, ((gg.tr g7).tr g8).tr g9, ((qt6.tr q7).tr q8).tr q9⟩
  · have hk0 := PLr_0 h
    have k6 := PLr_0 a6
    have k7 := PLr_0 a7
    have k8 := PLr_0 a8
    have k9 := PLr_k1 a6
    have k10 := PLr_k4 a7
    have k11 := PLr_k7 a8
    have f6 := PLr_f6 a6
    have f7 := PLr_f7 a7
    have f8 := PLr_f8 a8
    have hv' : -2147483648 ≤ v ∧ v < 2147483648 := ⟨by have := hv.1; omega, by have := hv.2; omega⟩
    have key : Rr (q_C (d + 1)) mX4_begin (42, [some (qr (gA g i 0)), some (qi k), some (qi v), some (qi y), some (ql wd), none], [], M6) P = P none M9 := by
      simp (disch := first | assumption | exact bI_lo | exact bI_hi | exact bI_01 | (show (List.map q_wd _).sum ≤ 8; with_unfolding_all exact Nat.le_of_ble_eq_true rfl) | omega) only [kX4_begin_42, kX4_begin_43, kX4_begin_46, kX4_begin_47, kX4_begin_49E, kX4_begin_52, kX4_begin_53, kX4_begin_56, kX4_begin_57, kX4_begin_58E, kX4_begin_61, kX4_begin_62, kX4_begin_65, kX4_begin_66, kX4_begin_67E, kX4_begin_70, q_cut_i, q_cut_r, q_cut_l, q_cut_n, q_psh_n, q_psh_s, bI_eq0, ite_not, f6, T_of c7, f7, T_of c8, f8, T_of c9]
    rw [hG] at hM6
    rw [eX4_begin]
    by_cases e : v = -5
    · rw [if_pos e] at hM6
      simp (disch := first | assumption | exact bI_lo | exact bI_hi | exact bI_01 | (show (List.map q_wd _).sum ≤ 8; with_unfolding_all exact Nat.le_of_ble_eq_true rfl) | omega | (simp only [q_kd_wr]; assumption)) only [kX4_begin_0, kX4_begin_1, kX4_begin_2, kX4_begin_5, kX4_begin_6, kX4_begin_7, kX4_begin_10, kX4_begin_11, kX4_begin_13, kX4_begin_16, kX4_begin_17, kX4_begin_19, kX4_begin_22, kX4_begin_23, kX4_begin_24, kX4_begin_27, kX4_begin_28, kX4_begin_29, kX4_begin_31, kX4_begin_34, kX4_begin_35, kX4_begin_38, kX4_begin_39, q_cut_i, q_cut_r, q_cut_l, q_cut_n, q_psh_n, q_psh_s, bI_eq0, ite_not, ↓if_pos, ↓if_neg, ↓ite_bI_t, ↓ite_bI_f]
      rw [← hM6]; exact key
    · rw [if_neg e] at hM6
      simp (disch := first | assumption | exact bI_lo | exact bI_hi | exact bI_01 | (show (List.map q_wd _).sum ≤ 8; with_unfolding_all exact Nat.le_of_ble_eq_true rfl) | omega | (simp only [q_kd_wr]; assumption)) only [kX4_begin_0, kX4_begin_1, kX4_begin_2, kX4_begin_5, kX4_begin_6, kX4_begin_7, kX4_begin_10, kX4_begin_11, kX4_begin_13, kX4_begin_16, kX4_begin_17, kX4_begin_19, kX4_begin_22, kX4_begin_23, kX4_begin_24, kX4_begin_27, kX4_begin_28, kX4_begin_29, kX4_begin_31, kX4_begin_34, kX4_begin_35, kX4_begin_38, kX4_begin_39, q_cut_i, q_cut_r, q_cut_l, q_cut_n, q_psh_n, q_psh_s, bI_eq0, ite_not, ↓if_pos, ↓if_neg, ↓ite_bI_t, ↓ite_bI_f]
      rw [← hM6]; exact key
  · have e : plNew k v y wd = ((k, y, -5, -5, y, G), [(y, wd)], [(y, v)], [(y, 0, v)]) := by unfold plNew; rw [← hG]
    rw [e]
    exact a9
end PL3
section WM3
variable {M : QM} {g : Nat → Nat} {cN cT : Nat → Nat} {W : Nat → Pl} {n d : Nat} {mg sp : Int}
theorem g_ne {g : Nat → Nat} {M : QM} (hg : gI M g) {s t : Nat} (hs : s < 244) (ht : t < 244) (h : s ≠ t) : g s ≠ g t := fun e => h (hg.1 s t hs ht e)
/-- a word of the world's object -/
theorem WMm_w {k : Nat} {v : CV} {n' : Nat} {mg' sp' : Int} (hg : gI M g) (h : WMm M g cN cT W n mg sp) (h3 : k ≠ 3) (h0 : k ≠ 0) (hn : n' ≤ 20) (e4 : q_fv (q_wr M (g 16) k v) (g 16) 4 = qi n') (e1 : q_fv (q_wr M (g 16) k v) (g 16) 1 = qi mg') (e2 : q_fv (q_wr M (g 16) k v) (g 16) 2 = qi sp') : WMm (q_wr M (g 16) k v) g cN cT W n' mg' sp' := by
  obtain ⟨⟨kw, fpa, fn, hn0, kpa, hpl⟩, f0, f1, f2⟩ := h
  refine ⟨⟨kw, by rw [q_fv_wrE, if_neg (by omega), fpa], e4, hn, kpa, fun i hi => ?_⟩, by rw [q_fv_wrE, if_neg (by omega), f0], e1, e2⟩
  obtain ⟨q1, q2⟩ := hpl i hi
  refine ⟨by rw [q_fv_wrE, if_neg (fun z => g_ne hg (by omega) (by omega) (by omega) z.1), q1], PLr_sm q2 (fun k hk => Sm_wr (g_ne hg (by omega) (by omega) (by omega))) (fun _ _ => rfl)⟩
theorem vX11_settle {k v y wd : Int} (hg : gI M g) (hw : q_wf M) (h : WMm M g cN cT W n mg sp) (hn : n < 20) (hk : q_b k) (hv : q_b v) (hy : q_b y) (h0 : 0 ≤ wd) (h1 : wd < 2 ^ 40) : ∃ M', q_C (d + 3) iX11_settle [qr (g 16), qi k, qi v, qi y, ql wd] M (some (qi n)) M' ∧ WMm M' g cN cT (upF W n (plNew k v y wd)) (n + 1) mg sp ∧ GF (fun s => s = 16 ∨ rowS n s) M M' g g ∧ q_qt M M' := by
  have hW := h.1
  obtain ⟨kw, fpa, fn, hn20, kpa, hpl⟩ := id hW
  have kpa1 : (q_kd M (g 17)).1 = 5 ∨ (q_kd M (g 17)).1 = 6 := Or.inr (by rw [kpa])
  have kpa2 : ((q_kd M (g 17)).2 : Int) = 20 := by rw [kpa]; rfl
  have kpa3 : 2 ≤ (q_kd M (g 17)).1 := by rw [kpa]; decide
  have kpa4 : (q_kd M (g 17)).1 ≤ 9 := by rw [kpa]; decide
  obtain ⟨hA, hp⟩ := hpl n hn
  obtain ⟨M1, c1, a1, g1, q1⟩ := vX4_begin (d := d) (k := k) (v := v) (y := y) (wd := wd) hg hw hn hp hk hv hy h0 h1
  have h1' := WMm_upd hg h hn g1 rfl a1
  rw [upF_id, upF_id] at h1'
  have hg1 := g1.2.2.2.1
  have kw1 := h1'.1.1
  have fn1 := h1'.1.2.2.1
  have h2 := WMm_w (n' := n + 1) (mg' := mg) (sp' := sp) (k := 4) (v := qi ((n : Int) + 1)) hg1 h1' (by omega) (by omega) (by omega) (by rw [q_fv_wrE, if_pos ⟨rfl, rfl⟩]; rfl) (by rw [q_fv_wrE, if_neg (by omega)]; exact h1'.2.2.1) (by rw [q_fv_wrE, if_neg (by omega)]; exact h1'.2.2.2)
  have g2 : GF (fun s => s = 16 ∨ rowS n s) M1 (q_wr M1 (g 16) 4 (qi ((n : Int) + 1))) g g := GF_wr hg1 g1.2.2.2.2 (by omega) (Or.inl rfl)
  refine ⟨_, C_of (fun P => ?_), h2, (g1.wk (fun s _ z => Or.inr z)).tr g2, q1.tr q_qt.wr⟩
  have e1 : (n : Int) + 1 - 1 = n := by omega
  have hnn : ¬ n = 20 := by omega
  have f4 : q_fv (q_wr M1 (g 16) 4 (qi ((n : Int) + 1))) (g 16) 4 = qi ((n : Int) + 1) := by rw [q_fv_wrE, if_pos ⟨rfl, rfl⟩]
  rw [eX11_settle]
  simp (disch := first | assumption | exact PLr_0 hp | exact bI_lo | exact bI_hi | (show (List.map q_wd _).sum ≤ 8; with_unfolding_all exact Nat.le_of_ble_eq_true rfl) | omega | (simp only [q_kd_wr]; assumption)) only [kX11_settle_0, kX11_settle_1E, kX11_settle_4, kX11_settle_7, kX11_settle_9, kX11_settle_10, kX11_settle_11, kX11_settle_14, kX11_settle_15, kX11_settle_18, kX11_settle_19, kX11_settle_21, kX11_settle_23r, kX11_settle_23n, kX11_settle_26, kX11_settle_28, kX11_settle_29, kX11_settle_31, kX11_settle_32, kX11_settle_33, kX11_settle_34, kX11_settle_36E, kX11_settle_39, kX11_settle_40i, kX11_settle_40r, kX11_settle_41, kX11_settle_44, kX11_settle_45, kX11_settle_46, kX11_settle_49, kX11_settle_50, kX11_settle_53, kX11_settle_54, kX11_settle_55, q_cut_i, q_cut_r, q_cut_l, q_cut_n, q_psh_n, q_psh_s, bI_eq0, ite_not, ↓if_pos, ↓if_neg, ↓ite_bI_t, ↓ite_bI_f, uX11_isFull hW, fpa, fn, q_toN, hA, T_of c1, fn1, f4, e1]
theorem vX11_giveName {i : Nat} {y wd : Int} (hg : gI M g) (hw : q_wf M) (h : WMm M g cN cT W n mg sp) (hi : i < 20) (hl : (plN (W i)).length ≤ 2000) (hlH : (plH (W i)).length < 100000) (hy : q_b y) (h0 : 0 ≤ wd) (h1 : wd < 2 ^ 40) : ∃ M' g' cN', q_C (d + 4) iX11_giveName [qr (gA g i 0), qi y, ql wd] M (some (qi (wdLen (nmAt (plN (W i)) y).toNat 8))) M' ∧ WMm M' g' (upF cN i cN') cT (upF W i (plRem (plNam (W i) (y, wd)) y 1 (wdLen wd.toNat 8))) n mg sp ∧ GF (rowS i) M M' g g' ∧ q_gr M M' (cN i) cN' := by
  obtain ⟨hA, hp⟩ := h.1.2.2.2.2.2 i hi
  have hnm := nm40 hp y
  have hl2 := wdLen_le wd.toNat 8
  obtain ⟨M1, g1, cN1, c1, a1, f1, r1, e1⟩ := vX2_append (d := d + 1) (y := y) (wd := wd) hg hw hi hp hl hy h0 h1
  obtain ⟨M2, c2, a2, f2, q2⟩ := vX4_remember (d := d + 1) (a := y) (b := 1) (c := wdLen wd.toNat 8) f1.2.2.2.1 f1.2.2.2.2 hi a1 hlH hy ⟨by omega, by omega⟩ ⟨by omega, by omega⟩
  have e0 := e1 0 (by omega) (by omega) (by omega)
  rw [e0] at c2
  have hU := WMm_upd hg h hi (f1.tr f2) e0 a2
  rw [upF_id] at hU
  refine ⟨M2, g1, cN1, C_of (fun P => ?_), hU, f1.tr f2, r1.tr (q_gr.rf q2)⟩
  have k0 : q_kd M1 (gA g i 0) = (1, 4) := by rw [← e0]; exact PLr_0 a1
  obtain ⟨y1, y2⟩ := hy
  rw [eX11_giveName]
  simp (disch := first | assumption | exact PLr_0 hp | exact PLr_k1 hp | (show (List.map q_wd _).sum ≤ 8; with_unfolding_all exact Nat.le_of_ble_eq_true rfl) | omega) only [kX11_giveName_0, kX11_giveName_1, kX11_giveName_4, kX11_giveName_5E, kX11_giveName_8E, kX11_giveName_11, kX11_giveName_13, kX11_giveName_14, kX11_giveName_17, kX11_giveName_18, kX11_giveName_19E, kX11_giveName_22, kX11_giveName_23, kX11_giveName_24, kX11_giveName_25, kX11_giveName_26E, kX11_giveName_29E, kX11_giveName_32, kX11_giveName_34, q_cut_i, q_cut_r, q_cut_l, q_cut_n, q_psh_n, q_psh_s, bI_eq0, ite_not, PLr_f6 hp, uX2_at hp, uX10_lengthOf hnm.1 hnm.2, T_of c1, uX10_lengthOf h0 h1, T_of c2]
theorem vX11_giveParent {i : Nat} {y v : Int} (hg : gI M g) (hw : q_wf M) (h : WMm M g cN cT W n mg sp) (hi : i < 20) (hl : (plT (W i)).length ≤ 2000) (hlH : (plH (W i)).length < 100000) (hy : q_b y) (hv : q_b v) (hG : q_b (plG (W i) + 1)) : ∃ M' g' cT', q_C (d + 4) iX11_giveParent [qr (gA g i 0), qi v, qi y] M (some (qi (tlAt (plT (W i)) y))) M' ∧ WMm M' g' cN (upF cT i cT') (upF W i (plRem (plSg (plPar (W i) (tlPut (plT (W i)) y v)) (plG (W i) + 1)) y 2 v)) n mg sp ∧ GF (rowS i) M M' g g' ∧ q_gr M M' (cT i) cT' := by
  obtain ⟨hA, hp⟩ := h.1.2.2.2.2.2 i hi
  obtain ⟨M1, g1, cT1, c1, a1, f1, r1, e1⟩ := vX9_put (d := d) (y := y) (v := v) hg hw hi hp hl hy hv
  have a2 := PLr_setG f1.2.2.2.1 hi a1 hG
  have f2 := GF_set (k := 5) (v := qi (plG (W i) + 1)) f1.2.2.2.1 f1.2.2.2.2 hi
  obtain ⟨M3, c3, a3, f3, q3⟩ := vX4_remember (d := d + 1) (a := y) (b := 2) (c := v) f2.2.2.2.1 f2.2.2.2.2 hi a2 hlH hy ⟨by omega, by omega⟩ hv
  have e0 := e1 0 (by omega) (by omega) (by omega)
  have k1 := PLr_0 a1
  have k2 := PLr_0 a2
  have v5 : q_fv M1 (gA g1 i 0) 5 = qi (plG (W i)) := PLr_f5 (p := plPar (W i) (tlPut (plT (W i)) y v)) a1
  rw [e0] at c3 k1 k2 v5
  have ff := (f1.tr f2).tr f3
  have hU := WMm_upd hg h hi ff e0 a3
  rw [upF_id] at hU
  refine ⟨M3, g1, cT1, C_of (fun P => ?_), hU, ff, r1.tr (q_gr.rf (q_qt.wr.tr q3))⟩
  obtain ⟨y1, y2⟩ := hy
  rw [eX11_giveParent]
  simp (disch := first | assumption | exact PLr_0 hp | exact PLr_k4 hp | (show (List.map q_wd _).sum ≤ 8; with_unfolding_all exact Nat.le_of_ble_eq_true rfl) | omega) only [kX11_giveParent_0, kX11_giveParent_1, kX11_giveParent_4, kX11_giveParent_5E, kX11_giveParent_8, kX11_giveParent_9, kX11_giveParent_10, kX11_giveParent_13, kX11_giveParent_14, kX11_giveParent_15E, kX11_giveParent_18, kX11_giveParent_19i, kX11_giveParent_19r, kX11_giveParent_20, kX11_giveParent_23, kX11_giveParent_24, kX11_giveParent_25, kX11_giveParent_28, kX11_giveParent_29, kX11_giveParent_30, kX11_giveParent_31, kX11_giveParent_32E, kX11_giveParent_35, kX11_giveParent_36, q_cut_i, q_cut_r, q_cut_l, q_cut_n, q_psh_n, q_psh_s, bI_eq0, ite_not, PLr_f7 hp, uX9_at hp, T_of c1, v5, T_of c3]
end WM3
