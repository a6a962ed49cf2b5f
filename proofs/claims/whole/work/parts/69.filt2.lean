
/-! Filters: what changes them -/
section FL2
variable {M : QM} {g c : Nat → Nat} {N : List (Int × Int × Int)} {O : List Nat} {d : Nat} {x : QP}
theorem FLm_rd {G : Nat} (h : FLm M g c N O) (e : g 18 = G) : q_kd M G = (1, 0) ∧ q_fv M G 4 = qi N.length ∧ q_fv M G 0 = qr (g 19) ∧ q_fv M G 1 = qr (g 20) ∧ q_fv M G 2 = qr (g 21) ∧ q_fv M G 3 = qr (g 22) := by
  subst e
  exact ⟨h.1, h.2.1, (FLm_c (s := 19) h (by omega : 0 < 4) rfl).1, (FLm_c (s := 20) h (by omega : 1 < 4) rfl).1, (FLm_c (s := 21) h (by omega : 2 < 4) rfl).1, (FLm_c (s := 22) h (by omega : 3 < 4) rfl).1⟩
theorem fl_grow {k s G : Nat} (hk : k < 4) (hs : s = 19 + k) (hG : g 18 = G) (hg : gI M g) (hw : q_wf M) (h : FLm M g c N O) (hck : c k = N.length) (hN : N.length ≤ 2000) : ∃ M1 M2 g1 t, q_C (d + 1) iJ7_copyOf_59c91 [qr (g s), qi (2 * (N.length : Int) + 1)] M (some (qr t)) M1 ∧ q_wr M1 G k (qr t) = M2 ∧ FLm M2 g1 (upF c k (2 * N.length + 1)) N O ∧ GF flS M M2 g g1 ∧ g1 18 = G ∧ q_gr M M2 (c k) (2 * N.length + 1) ∧ q_kd M1 G = (1, 0) := by
  subst hs
  subst hG
  obtain ⟨h1, h2, h3, h4, h5, h6, h7, h8, h9, h10, h11, h12⟩ := id h
  obtain ⟨a1, a2, a3, a4, a5, a6⟩ := h7 k hk
  have e : (2 * (N.length : Int) + 1) = ((2 * N.length + 1 : Nat) : Int) := by omega
  obtain ⟨M1, hc1, c1, c2, c3, c4, c5, c6, c7⟩ := sJ7_copyOfI2 (d := d) (n := 2 * N.length + 1) a2 hw (by omega) (by omega) a6
  have hw1 := c7 hw
  have lt : ∀ s, s < 244 → g s < q_top M := hg.2
  have v : ∀ s, s < 244 → ∀ j, q_fv M1 (g s) j = q_fv M (g s) j := fun s hs j => c1.2.2.2 (g s) (lt s hs) not_false j
  have kk : ∀ s, s < 244 → q_kd M1 (g s) = q_kd M (g s) := fun s hs => c1.2.2.1 (g s) (lt s hs)
  have k1 : q_kd M1 (g 18) = (1, 0) := by rw [kk 18 (by omega), h1]
  have n23 := g_ne hg (s := 23) (t := 18) (by omega) (by omega) (by omega)
  have l18 := lt 18 (by omega)
  have hF := GF_g2 (S := flS) (A := fun x => x = g 18) (M' := q_wr M1 (g 18) k (qr (q_top M))) (u := 18) (v := 19 + k) (s' := g 18) (p' := q_top M) hg hw1.wr (fun x hx => ⟨18, by omega, ⟨by omega, by omega⟩, hx⟩) ((c1.wk (fun _ _ z => z.elim)).tr (q_fr.wr rfl)) (by omega) (by omega) (by omega) ⟨by omega, by omega⟩ ⟨by omega, by omega⟩ (Or.inl rfl) (Or.inr (Nat.le_refl _)) (by omega) (by rw [q_top_wr]; omega) (by rw [q_top_wr]; omega)
  rw [upF_id] at hF
  refine ⟨M1, _, upF g (19 + k) (q_top M), q_top M, by rw [e]; exact hc1, rfl, ?_, hF, upF_o (by omega), ⟨by omega, ?_, ?_⟩, k1⟩
  · unfold FLm
    rw [upF_o (show 18 ≠ 19 + k by omega), upF_o (show 23 ≠ 19 + k by omega)]
    refine ⟨k1, q_fwo (by omega) (by rw [v 18 (by omega)]; exact h2), q_fwo (by omega) (by rw [v 18 (by omega)]; exact h3), q_fwo (by omega) (by rw [v 18 (by omega)]; exact h4), by rw [q_kd_wr, kk 23 (by omega)]; exact h5, h6, fun k' hk' => ?_, fun k' hk' i q hq => ?_, fun i hi => ?_, fun i w hi => ?_, h11, h12⟩
    · by_cases ek : k' = k
      · subst ek
        rw [upF_s, upF_s, q_kd_wr]
        refine ⟨q_fws, c2, by omega, by omega, by omega, fun i hi => ?_⟩
        rw [q_fv_wrE, if_neg (by omega)]
        by_cases hi2 : i < c k'
        · rw [c4 i hi2]; exact a6 i hi2
        · rw [c5 i (by omega)]; exact ⟨0, rfl⟩
      · rw [upF_o (by omega), upF_o ek, q_kd_wr, kk _ (by omega)]
        obtain ⟨x1, x2, x3, x4, x5, x6⟩ := h7 k' hk'
        have nk := g_ne hg (s := 19 + k') (t := 18) (by omega) (by omega) (by omega)
        refine ⟨q_fwo ek (by rw [v 18 (by omega)]; exact x1), x2, x3, x4, x5, fun i hi => ?_⟩
        rw [q_fv_wrE, if_neg (fun z => nk z.1), v _ (by omega)]
        exact x6 i hi
    · have hi : i < N.length := by
        rcases Nat.lt_or_ge i N.length with z | z
        · exact z
        · rw [List.getElem?_eq_none z] at hq; simp at hq
      by_cases ek : k' = k
      · subst ek
        rw [upF_s, q_fv_wrE, if_neg (by omega), c4 i (by omega)]
        exact h8 k' hk' i q hq
      · have nk := g_ne hg (s := 19 + k') (t := 18) (by omega) (by omega) (by omega)
        rw [upF_o (by omega), q_fv_wrE, if_neg (fun z => nk z.1), v _ (by omega)]
        exact h8 k' hk' i q hq
    · rw [q_fv_wrE, if_neg (fun z => n23 z.1), v _ (by omega)]
      exact h9 i hi
    · rw [q_fv_wrE, if_neg (fun z => n23 z.1), v _ (by omega)]
      exact h10 i w hi
  · have := c6.1
    simp only [q_nc_wr]
    omega
  · have := c6.2
    simp only [q_ns_wr]
    omega
theorem cs4 (c : Nat → Nat) : cs c 4 = c 0 + c 1 + c 2 + c 3 := by simp [cs]
theorem vX0_append {q : Int × Int × Int} (hg : gI M g) (hw : q_wf M) (h : FLm M g c N O) (hcc : ∀ k, k < 4 → c k = c 0) (hO : O.length < 8) (hN : N.length ≤ 2000) (hq : q_i32 q.1 ∧ q_i32 q.2.1 ∧ q_i32 q.2.2) : ∃ M' g' c', q_C (d + 2) iX0_append [qr (g 18), qi q.1, qi q.2.1, qi q.2.2] M (some (qi O.length)) M' ∧ FLm M' g' c' (N ++ [q]) (O ++ [N.length]) ∧ GF flS M M' g g' ∧ g' 18 = g 18 ∧ (∀ k, k < 4 → c' k = c' 0) ∧ q_gr M M' (cs c 4) (cs c' 4) := by
  obtain ⟨h1, h2, h3, h4, h5, h6, h7, h8, h9, h10, h11, h12⟩ := id h
  obtain ⟨a0, b0, e0, l0⟩ := FLm_c (s := 19) h (by omega : 0 < 4) rfl
  obtain ⟨⟨q11, q12⟩, ⟨q21, q22⟩, q31, q32⟩ := id hq
  have b0' : 2 ≤ (q_kd M (g 19)).1 := by omega
  have b0'' : (q_kd M (g 19)).1 ≤ 9 := by omega
  have b5 : 2 ≤ (q_kd M (g 23)).1 := by rw [h5]; exact Nat.le_refl 2
  have b5' : (q_kd M (g 23)).1 ≤ 9 := by rw [h5]; decide
  have e5 : (q_kd M (g 23)).2 = 8 := by rw [h5]
  have bc := (h7 0 (by omega)).2.2.2.2.1
  have c1 := hcc 1 (by omega)
  have c2 := hcc 2 (by omega)
  have c3 := hcc 3 (by omega)
  by_cases gl : N.length < c 0
  · obtain ⟨M', r1, r2, r3, r4⟩ := fl_room (C := q_C (d + 1)) hg hw h (fun k hk => by rw [hcc k hk]; exact gl) hO hq
    refine ⟨M', g, c, C_of (fun P => ?_), r2, r3, rfl, hcc, q_gr.rf r4⟩
    rw [eX0_append]
    simp (disch := first | assumption | exact bI_lo | exact bI_hi | exact bI_01 | (show (List.map q_wd _).sum ≤ 8; with_unfolding_all exact Nat.le_of_ble_eq_true rfl) | omega) only [kX0_append_0, kX0_append_1, kX0_append_4, kX0_append_5, kX0_append_8, kX0_append_9, kX0_append_12, kX0_append_14, kX0_append_15, kX0_append_16, kX0_append_19, kX0_append_20, kX0_append_23, kX0_append_24, q_cut_i, q_cut_r, q_cut_l, q_cut_n, q_psh_n, q_psh_s, bI_eq0, ite_not, ↓if_pos, ↓if_neg, ↓ite_bI_t, ↓ite_bI_f, h4, h3, h2, a0, e5, e0, r1]
  · have e : c 0 = N.length := by omega
    obtain ⟨A1, M1, g1, t1, d1, w1, f1, F1, i1, r1, k1⟩ := fl_grow (d := d) (k := 0) (s := 19) (by omega) rfl rfl hg hw h e hN
    obtain ⟨A2, M2, g2, t2, d2, w2, f2, F2, i2, r2, k2⟩ := fl_grow (d := d) (k := 1) (s := 20) (by omega) rfl i1 F1.2.2.2.1 F1.2.2.2.2 f1 (by rw [upF_o (by omega)]; omega) hN
    obtain ⟨A3, M3, g3, t3, d3, w3, f3, F3, i3, r3, k3⟩ := fl_grow (d := d) (k := 2) (s := 21) (by omega) rfl i2 F2.2.2.2.1 F2.2.2.2.2 f2 (by rw [upF_o (by omega), upF_o (by omega)]; omega) hN
    obtain ⟨A4, M4, g4, t4, d4, w4, f4, F4, i4, r4, k4⟩ := fl_grow (d := d) (k := 3) (s := 22) (by omega) rfl i3 F3.2.2.2.1 F3.2.2.2.2 f3 (by rw [upF_o (by omega), upF_o (by omega), upF_o (by omega)]; omega) hN
    obtain ⟨c', hc'⟩ : ∃ c', c' = upF (upF (upF (upF c 0 (2 * N.length + 1)) 1 (2 * N.length + 1)) 2 (2 * N.length + 1)) 3 (2 * N.length + 1) := ⟨_, rfl⟩
    have ec : ∀ k, k < 4 → c' k = 2 * N.length + 1 := by
      intro k hk
      rw [hc']
      have : k = 0 ∨ k = 1 ∨ k = 2 ∨ k = 3 := by omega
      rcases this with rfl | rfl | rfl | rfl <;> rfl
    rw [← hc'] at f4
    obtain ⟨M', s1, s2, s3, s4⟩ := fl_room (C := q_C (d + 1)) F4.2.2.2.1 F4.2.2.2.2 f4 (fun k hk => by rw [ec k hk]; omega) hO hq
    have r1' : q_gr M M1 N.length (2 * N.length + 1) := by rw [e] at r1; exact r1
    have r2' : q_gr M1 M2 N.length (2 * N.length + 1) := by rw [upF_o (by omega), c1, e] at r2; exact r2
    have r3' : q_gr M2 M3 N.length (2 * N.length + 1) := by rw [upF_o (by omega), upF_o (by omega), c2, e] at r3; exact r3
    have r4' : q_gr M3 M4 N.length (2 * N.length + 1) := by rw [upF_o (by omega), upF_o (by omega), upF_o (by omega), c3, e] at r4; exact r4
    refine ⟨M', g4, c', C_of (fun P => ?_), s2, (((F1.tr F2).tr F3).tr F4).tr s3, i4, fun k hk => by rw [ec k hk, ec 0 (by omega)], ?_⟩
    · have z1 := FLm_rd f1 i1
      have z2 := FLm_rd f2 i2
      have z3 := FLm_rd f3 i3
      obtain ⟨x1, x2, x3, x4, x5, x6⟩ := z1
      obtain ⟨y1, y2, y3, y4, y5, y6⟩ := z2
      obtain ⟨u1, u2, u3, u4, u5, u6⟩ := z3
      have s1' := s1 P
      rw [i4] at s1'
      rw [eX0_append]
      simp (disch := first | assumption | exact bI_lo | exact bI_hi | exact bI_01 | (show (List.map q_wd _).sum ≤ 8; with_unfolding_all exact Nat.le_of_ble_eq_true rfl) | omega) only [kX0_append_0, kX0_append_1, kX0_append_4, kX0_append_5, kX0_append_8, kX0_append_9, kX0_append_12, kX0_append_14, kX0_append_15, kX0_append_16, kX0_append_19, kX0_append_20, kX0_append_23, kX0_append_24, kX0_append_27, kX0_append_28, kX0_append_29, kX0_append_32, kX0_append_33, kX0_append_34, kX0_append_37, kX0_append_38, kX0_append_39, kX0_append_40E, kX0_append_43, kX0_append_46, kX0_append_47, kX0_append_48, kX0_append_51, kX0_append_52, kX0_append_53, kX0_append_56, kX0_append_57, kX0_append_58, kX0_append_59E, kX0_append_62, kX0_append_65, kX0_append_66, kX0_append_67, kX0_append_70, kX0_append_71, kX0_append_72, kX0_append_75, kX0_append_76, kX0_append_77, kX0_append_78E, kX0_append_81, kX0_append_84, kX0_append_85, kX0_append_86, kX0_append_89, kX0_append_90, kX0_append_91, kX0_append_94, kX0_append_95, kX0_append_96, kX0_append_97E, kX0_append_100, q_cut_i, q_cut_r, q_cut_l, q_cut_n, q_psh_n, q_psh_s, bI_eq0, ite_not, ↓if_pos, ↓if_neg, ↓ite_bI_t, ↓ite_bI_f, h4, h3, h2, a0, e5, e0, e, T_of d1, w1, x2, x4, T_of d2, w2, y2, y5, T_of d3, w3, u2, u6, T_of d4, w4]
      exact s1'
    · rw [cs4, cs4, ec 0 (by omega), ec 1 (by omega), ec 2 (by omega), ec 3 (by omega)]
      have t := q_gr.rf (cap := 0) s4
      obtain ⟨p1, p2, p3⟩ := r1'
      obtain ⟨p4, p5, p6⟩ := r2'
      obtain ⟨p7, p8, p9⟩ := r3'
      obtain ⟨pa, pb, pc⟩ := r4'
      obtain ⟨pd, pe, pf⟩ := t
      refine ⟨?_, ?_, ?_⟩ <;> omega
theorem vX0_appendF {q : Int × Int × Int} (h : FLm M g c N O) (hO : O.length = 8) : q_T (d + 1) iX0_append [qr (g 18), qi q.1, qi q.2.1, qi q.2.2] M x = x (some (qi (-4))) M := by
  obtain ⟨h1, h2, h3, h4, h5, h6, h7, h8, h9, h10, h11, h12⟩ := id h
  have b5 : 2 ≤ (q_kd M (g 23)).1 := by rw [h5]; exact Nat.le_refl 2
  have b5' : (q_kd M (g 23)).1 ≤ 9 := by rw [h5]; decide
  have e5 : (q_kd M (g 23)).2 = 8 := by rw [h5]
  rw [eX0_append]
  simp (disch := first | assumption | exact bI_lo | exact bI_hi | exact bI_01 | (show (List.map q_wd _).sum ≤ 8; with_unfolding_all exact Nat.le_of_ble_eq_true rfl) | omega) only [kX0_append_0, kX0_append_1, kX0_append_4, kX0_append_5, kX0_append_8, kX0_append_9, kX0_append_12, kX0_append_14, kX0_append_15, kX0_append_16, kX0_append_19, kX0_append_20, kX0_append_23, kX0_append_24, q_cut_i, q_cut_r, q_cut_l, q_cut_n, q_psh_n, q_psh_s, bI_eq0, ite_not, ↓if_pos, ↓if_neg, ↓ite_bI_t, ↓ite_bI_f, h4, h3, e5]
theorem vX0_addLeaf {s v : Int} (hg : gI M g) (hw : q_wf M) (h : FLm M g c N O) (hcc : ∀ k, k < 4 → c k = c 0) (hO : O.length < 8) (hN : N.length ≤ 2000) (hs : q_i32 s) (hv : q_i32 v) : ∃ M' g' c', q_C (d + 3) iX0_addLeaf [qr (g 18), qi s, qi v] M (some (qi O.length)) M' ∧ FLm M' g' c' (N ++ [(s, v, 0)]) (O ++ [N.length]) ∧ GF flS M M' g g' ∧ g' 18 = g 18 ∧ (∀ k, k < 4 → c' k = c' 0) ∧ q_gr M M' (cs c 4) (cs c' 4) := by
  obtain ⟨M', g', c', r1, r2⟩ := vX0_append (d := d) (q := (s, v, 0)) hg hw h hcc hO hN ⟨hs, hv, (show q_i32 0 from ⟨by omega, by omega⟩)⟩
  refine ⟨M', g', c', C_of (fun P => ?_), r2⟩
  obtain ⟨h1, -⟩ := id h
  obtain ⟨s1, s2⟩ := hs
  obtain ⟨v1, v2⟩ := hv
  rw [eX0_addLeaf]
  have := T_of r1
  simp (disch := first | assumption | exact bI_lo | exact bI_hi | exact bI_01 | (show (List.map q_wd _).sum ≤ 8; with_unfolding_all exact Nat.le_of_ble_eq_true rfl) | omega) only [kX0_addLeaf_0, kX0_addLeaf_1, kX0_addLeaf_2, kX0_addLeaf_3, kX0_addLeaf_4E, kX0_addLeaf_7, q_cut_i, q_cut_r, q_cut_l, q_cut_n, q_psh_n, q_psh_s, bI_eq0, ite_not, T_of r1]
def jnd (O : List Nat) (j : Int) : Int := if 0 ≤ j ∧ j < O.length then (O.getD j.toNat 0 : Nat) else 0
theorem vX0_addJoined {w a b : Int} (hg : gI M g) (hw : q_wf M) (h : FLm M g c N O) (hcc : ∀ k, k < 4 → c k = c 0) (hO : O.length < 8) (hN : N.length ≤ 2000) (hh : 0 ≤ w ∧ w ≤ 2) (ha : 0 ≤ a ∧ a < O.length) (hb : q_i32 b) : ∃ M' g' c', q_C (d + 3) iX0_addJoined [qr (g 18), qi w, qi a, qi b] M (some (qi O.length)) M' ∧ FLm M' g' c' (N ++ [(5 + w, jnd O a, jnd O b)]) (O ++ [N.length]) ∧ GF flS M M' g g' ∧ g' 18 = g 18 ∧ (∀ k, k < 4 → c' k = c' 0) ∧ q_gr M M' (cs c 4) (cs c' 4) := by
  obtain ⟨h1, h2, h3, h4, h5, h6, h7, h8, h9, h10, h11, h12⟩ := id h
  have gt : ∀ j : Int, 0 ≤ j → j < O.length → q_fv M (g 23) j.toNat = qi (jnd O j) ∧ 0 ≤ jnd O j ∧ jnd O j < N.length := by
    intro j j1 j2
    have hj : j.toNat < O.length := by omega
    have e : O[j.toNat]? = some (O.getD j.toNat 0) := by
      rw [List.getElem?_eq_getElem hj, List.getD_eq_getElem?_getD, List.getElem?_eq_getElem hj]; rfl
    unfold jnd
    rw [if_pos ⟨j1, j2⟩]
    have := h11 _ (List.mem_of_getElem? e)
    exact ⟨h10 _ _ e, by omega, by omega⟩
  have bj : q_i32 (jnd O b) ∧ q_i32 (jnd O a) := by
    have x1 := gt a ha.1 ha.2
    refine ⟨?_, by constructor <;> omega⟩
    by_cases e : 0 ≤ b ∧ b < O.length
    · have x2 := gt b e.1 e.2
      constructor <;> omega
    · unfold jnd; rw [if_neg e]; exact (show q_i32 0 from ⟨by omega, by omega⟩)
  obtain ⟨M', g', c', r1, r2⟩ := vX0_append (d := d) (q := (5 + w, jnd O a, jnd O b)) hg hw h hcc hO hN ⟨by constructor <;> omega, bj.2, bj.1⟩
  refine ⟨M', g', c', C_of (fun P => ?_), r2⟩
  obtain ⟨b1, b2⟩ := hb
  have b5 : (q_kd M (g 23)).1 = 2 := by rw [h5]
  have e5 : (q_kd M (g 23)).2 = 8 := by rw [h5]
  have x1 := gt a ha.1 ha.2
  rw [eX0_addJoined]
  by_cases e : 0 ≤ b ∧ b < O.length
  · have x2 := gt b e.1 e.2
    simp (disch := first | assumption | exact bI_lo | exact bI_hi | exact bI_01 | (show (List.map q_wd _).sum ≤ 8; with_unfolding_all exact Nat.le_of_ble_eq_true rfl) | omega) only [kX0_addJoined_0, kX0_addJoined_1, kX0_addJoined_2E, kX0_addJoined_5, kX0_addJoined_8, kX0_addJoined_9, kX0_addJoined_10, kX0_addJoined_11, kX0_addJoined_12, kX0_addJoined_13, kX0_addJoined_14, kX0_addJoined_15, kX0_addJoined_18, kX0_addJoined_19, kX0_addJoined_20, kX0_addJoined_21, kX0_addJoined_22E, kX0_addJoined_25, kX0_addJoined_28, kX0_addJoined_29, kX0_addJoined_32, kX0_addJoined_33, kX0_addJoined_34, kX0_addJoined_37, kX0_addJoined_38E, kX0_addJoined_41, q_cut_i, q_cut_r, q_cut_l, q_cut_n, q_psh_n, q_psh_s, bI_eq0, ite_not, ↓if_pos, ↓if_neg, ↓ite_bI_t, ↓ite_bI_f, uX0_has h, h3, x1.1, x2.1, T_of r1]
  · have e' : jnd O b = 0 := by unfold jnd; rw [if_neg e]
    rw [e'] at r1
    simp (disch := first | assumption | exact bI_lo | exact bI_hi | exact bI_01 | (show (List.map q_wd _).sum ≤ 8; with_unfolding_all exact Nat.le_of_ble_eq_true rfl) | omega) only [kX0_addJoined_0, kX0_addJoined_1, kX0_addJoined_2E, kX0_addJoined_5, kX0_addJoined_8, kX0_addJoined_9, kX0_addJoined_10, kX0_addJoined_11, kX0_addJoined_12, kX0_addJoined_13, kX0_addJoined_14, kX0_addJoined_15, kX0_addJoined_18, kX0_addJoined_19, kX0_addJoined_20, kX0_addJoined_21, kX0_addJoined_22E, kX0_addJoined_25, kX0_addJoined_28, kX0_addJoined_29, kX0_addJoined_32, kX0_addJoined_33, kX0_addJoined_34, kX0_addJoined_37, kX0_addJoined_38E, kX0_addJoined_41, q_cut_i, q_cut_r, q_cut_l, q_cut_n, q_psh_n, q_psh_s, bI_eq0, ite_not, ↓if_pos, ↓if_neg, ↓ite_bI_t, ↓ite_bI_f, uX0_has h, h3, x1.1, T_of r1]
end FL2
