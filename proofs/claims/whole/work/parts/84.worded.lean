
/-! the calls that take a word from the tape -/
theorem tkW_lt (l : List Int) : tkW l < 2 ^ 40 := by
  unfold tkW
  split
  · rename_i h
    have := pkW_lt l h.2
    exact Nat.lt_of_lt_of_le this (Nat.pow_le_pow_right (by omega) (by omega))
  · decide
theorem TP_fr {M M' : QM} {t s : Nat} {l : List Int} {A : Nat → Prop} (hw : q_wf M) (h : TP M t s l) (hf : q_fr A M M') (h1 : ¬ A t) (h2 : ¬ A s) : TP M' t s l := by
  obtain ⟨kt, f0, f1, ks, hl, he, hz⟩ := h
  have tl : t < q_top M := hw.lt (by rw [kt]; simp)
  have sl : s < q_top M := hw.lt (by rw [ks]; simp)
  have v1 : ∀ j, q_fv M' t j = q_fv M t j := hf.2.2.2 t tl h1
  have v2 : ∀ j, q_fv M' s j = q_fv M s j := hf.2.2.2 s sl h2
  refine ⟨by rw [hf.2.2.1 t tl, kt], by rw [v1, f0], by rw [v1, f1], by rw [hf.2.2.1 s sl, ks], hl, fun i hi => by rw [v2]; exact he i hi, fun i hi => by rw [v2]; exact hz i hi⟩
theorem iniOrd {M : QM} {t d : Nat} (q : Od) (hw : q_wf M) (k0 : q_kd M t = (1, 3)) : ∃ M1, q_C (d + 1) iX3_init [qr t, qi q.1, qi q.2.1, qi q.2.2.1, qi q.2.2.2.1, ql q.2.2.2.2] M none M1 ∧ OB M1 t q ∧ q_fr (fun x => x = t) M M1 ∧ q_qt M M1 := by
  refine ⟨q_wr (q_wr (q_wr (q_wr (q_wr M t 0 (qi q.1)) t 1 (qi q.2.1)) t 2 (qi q.2.2.1)) t 3 (qi q.2.2.2.1)) t 4 (ql q.2.2.2.2), C_of (fun P => ?_), ⟨k0, ?_, ?_, ?_, ?_, q_fws⟩, ?_, (((q_qt.wr.tr q_qt.wr).tr q_qt.wr).tr q_qt.wr).tr q_qt.wr⟩
  · rw [eX3_init]
    simp (disch := first | assumption | exact bI_lo | exact bI_hi | exact bI_01 | (show (List.map q_wd _).sum ≤ 8; with_unfolding_all exact Nat.le_of_ble_eq_true rfl) | omega | (simp only [q_kd_wr]; assumption)) only [kX3_init_0, kX3_init_1, kX3_init_4, kX3_init_5, kX3_init_6, kX3_init_9, kX3_init_10, kX3_init_11, kX3_init_14, kX3_init_15, kX3_init_16, kX3_init_19, kX3_init_20, kX3_init_22, kX3_init_25, kX3_init_26, kX3_init_28, kX3_init_31, q_cut_i, q_cut_r, q_cut_l, q_cut_n, q_psh_n, q_psh_s, bI_eq0, ite_not]
  · exact q_fwo (by decide) (q_fwo (by decide) (q_fwo (by decide) (q_fwo (by decide) q_fws)))
  · exact q_fwo (by decide) (q_fwo (by decide) (q_fwo (by decide) q_fws))
  · exact q_fwo (by decide) (q_fwo (by decide) q_fws)
  · exact q_fwo (by decide) q_fws
  · exact ((((q_fr.wr (A := fun x => x = t) rfl).tr (q_fr.wr rfl)).tr (q_fr.wr rfl)).tr (q_fr.wr rfl)).tr (q_fr.wr rfl)
section WRD
variable {M : QM} {g cN cT c : Nat → Nat} {e1 c1 e2 c2 : Nat} {L1 L2 : List Nat} {C : CWs} {J J2 : List Od} {ms : List Int} {hs lr hc : Int} {d : Nat}
theorem CRI_q {M' : QM} {s : Nat} (h : CRI M g cN cT c e1 c1 L1 e2 c2 L2 C J J2 ms hs lr hc) (hs' : (1 ≤ s ∧ s ≤ 11) ∨ s = 15) (hf : q_fr (fun x => x = g s) M M') (hw' : q_wf M') : CRI M' g cN cT c e1 c1 L1 e2 c2 L2 C J J2 ms hs lr hc := by
  obtain ⟨hg, hw, hk, h0, hR, hM, hC, hJ, hJ2, hd⟩ := h
  have hF : q_fr (fun x => ∃ t, t < 244 ∧ t = s ∧ x = g t) M M' := hf.wk (fun x _ z => ⟨s, by omega, rfl, z⟩)
  have hS : SMS (fun t => t = s) M M' g g := fun t ht hn => ⟨Sm_fr hf (hg.2 t ht) (fun z => hn (hg.1 t s ht (by omega) z)), rfl⟩
  exact ⟨⟨hg.1, fun s hs => Nat.lt_of_lt_of_le (hg.2 s hs) hf.1⟩, hw', gK_fr hg hk hf, by rw [hf.2.1, hf.2.2.1 _ (hw.lt (by rw [h0]; simp)), h0], RO_ss hR hS (by omega) (fun _ _ => rfl), MK_ss hM hS (by omega), CMm_ss hC hS (fun t ht => by omega), JR_gf (S := fun t => t = s) hg hw hk hF (by omega) (by omega) hJ, JR_gf (S := fun t => t = s) hg hw hk hF (by omega) (by omega) hJ2, hd⟩
/-- what telling an order with a word leaves -/
def wOut (M M' : QM) (g cN cT c : Nat → Nat) (e1 c1 e2 c2 : Nat) (L2 : List Nat) (C : CWs) (J J2 : List Od) (ms : List Int) (hs lr hc : Int) (q : Od) : Prop := ∃ g' cN' cT' c' e1' c1' L1', CRI M' g' cN' cT' c' e1' c1' L1' e2 c2 L2 (tlC C q) (tlJ C J q) J2 (tlM C J ms q) hs (tlR C q lr) hc ∧ TP M' (g 1) (g 2) [] ∧ q_fr (fun x => x = g 1 ∨ tFr g e1 c1 x) M M' ∧ gE M g g' e1 c1 e1' c1' ∧ q_gu M M' (c1 + poS cN cT c) (c1' + poS cN' cT' c') 1 5
theorem tellW {M1 : QM} {o : Nat} {q : Od} (h : CRI M g cN cT c e1 c1 L1 e2 c2 L2 C J J2 ms hs lr hc) (hf : q_fr (fun x => x = g 1) M M1) (hw1 : q_wf M1) (hT : TP M1 (g 1) (g 2) []) (hn : q_nc M1 = q_nc M + 1 ∧ q_ns M1 = q_ns M + 5) (ho : OB M1 o q) (hr : odR q) (hB : CB C) (hJl : J.length < 512) (hok : cwh C q = 0 → oOk C q) : ∃ M', q_C (d + 7) iX12_tell [qr (g 0), qr o] M1 (some (qi (tlA C q))) M' ∧ wOut M M' g cN cT c e1 c1 e2 c2 L2 C J J2 ms hs lr hc q := by
  have h1 := CRI_q h (Or.inl ⟨by omega, by omega⟩) hf hw1
  obtain ⟨hg1, -, hk1, -, -, -, -, hJ1, -⟩ := id h1
  have nt : ∀ s, s = 1 ∨ s = 2 → ¬ tFr g e1 c1 (g s) := fun s hs z => by
    rcases z with ⟨t, ht, hS, e⟩ | z
    · have := hg1.1 _ _ (by omega) ht e
      unfold tS carS at hS
      omega
    · have := (hk1 s (by omega)).1
      rw [z.1, AL_k5 hJ1.1 z.2] at this
      simp at this
  by_cases g0 : cwh C q = 0
  · obtain ⟨M', g', cN', cT', c', e1', c1', L1', t1, t2, t3, t4, t5⟩ := vX12_tellY (d := d) h1 ho hr hB hJl g0 (hok g0)
    refine ⟨M', ?_, g', cN', cT', c', e1', c1', L1', ?_, TP_fr hw1 hT t3 (nt 1 (Or.inl rfl)) (nt 2 (Or.inr rfl)), (hf.wk (fun x _ z => Or.inl z)).tr (t3.wk (fun x _ z => Or.inr z)), t4.wk hf.1, ?_⟩
    · unfold tlA; rw [if_pos g0]; exact t1
    · unfold tlC tlJ tlM tlR
      rw [if_pos g0, if_pos g0, if_pos g0, if_pos g0]
      exact t2
    · obtain ⟨p1, p2, p3⟩ := t5
      refine ⟨?_, ?_, ?_⟩ <;> omega
  · have t1 := vX12_tellN (d := d) h1 ho hr g0
    have t2 := CRI_lr (v := cwh C q) h1
    have t3 : q_fr (tFr g e1 c1) M1 (q_wr M1 (g 0) 11 (qi (cwh C q))) := t2.2.wk (fun x _ z => by
      obtain ⟨s, hs, hS, e⟩ := z
      exact Or.inl ⟨s, hs, Or.inl hS, e⟩)
    refine ⟨q_wr M1 (g 0) 11 (qi (cwh C q)), ?_, g, cN, cT, c, e1, c1, L1, ?_, TP_fr hw1 hT t3 (nt 1 (Or.inl rfl)) (nt 2 (Or.inr rfl)), (hf.wk (fun x _ z => Or.inl z)).tr (t3.wk (fun x _ z => Or.inr z)), gE.rf, ?_⟩
    · unfold tlA; rw [if_neg g0]; exact t1
    · unfold tlC tlJ tlM tlR
      rw [if_neg g0, if_neg g0, if_neg g0, if_neg g0]
      exact t2.1
    · refine ⟨Nat.le_refl _, ?_, ?_⟩
      · rw [q_nc_wr]; omega
      · rw [q_ns_wr]; omega
theorem uX8_takeWord {M : QM} {t s : Nat} {l : List Int} (hT : TP M t s l) : q_C (d + 2) iX8_takeWord [qr t] M (some (ql (tkW l))) (q_wr M t 1 (qi 0)) ∧ TP (q_wr M t 1 (qi 0)) t s [] := by
  obtain ⟨r, M', hC, rfl, rfl, h⟩ := sX8_takeWord (d := d) hT (P := fun r M' => r = some (ql (tkW l)) ∧ M' = q_wr M t 1 (qi 0) ∧ TP (q_wr M t 1 (qi 0)) t s []) (fun h => ⟨rfl, rfl, h⟩)
  exact ⟨hC, h⟩
theorem vX12_rename {p y : Int} {l : List Int} (h : CRI M g cN cT c e1 c1 L1 e2 c2 L2 C J J2 ms hs lr hc) (hT : TP M (g 1) (g 2) l) (hp : q_i32 p) (hy : q_i32 y) (hB : CB C) (hJl : J.length < 512) : ∃ M', q_C (d + 8) iX12_rename [qr (g 0), qi p, qi y] M (some (qi (tlA C (1, p, 0, y, tkW l)))) M' ∧ wOut M M' g cN cT c e1 c1 e2 c2 L2 C J J2 ms hs lr hc (1, p, 0, y, tkW l) := by
  have hw := h.2.1
  have hg := h.1
  have tw := tkW_lt l
  obtain ⟨M0, hM0⟩ : ∃ M0, q_al M (1, 3) 5 (fun k => q_dv (tyX3 k)) = M0 := ⟨_, rfl⟩
  have f0 : q_fr (fun _ => False) M M0 := by rw [← hM0]; exact q_fr.al
  have w0 : q_wf M0 := by rw [← hM0]; exact hw.al
  have k0 : q_kd M0 (q_top M) = (1, 3) := by rw [← hM0, q_kd_al, if_pos rfl]
  have n0 : q_nc M0 = q_nc M + 1 ∧ q_ns M0 = q_ns M + 5 := by rw [← hM0]; exact ⟨rfl, rfl⟩
  obtain ⟨tc, tT⟩ := uX8_takeWord (d := d + 5) (TP_fr hw hT f0 not_false not_false)
  obtain ⟨M1, hM1⟩ : ∃ M1, q_wr M0 (g 1) 1 (qi 0) = M1 := ⟨_, rfl⟩
  rw [hM1] at tc tT
  have w1 : q_wf M1 := by rw [← hM1]; exact w0.wr
  have f1 : q_fr (fun x => x = g 1) M0 M1 := by rw [← hM1]; exact q_fr.wr rfl
  have k1 : q_kd M1 (q_top M) = (1, 3) := by rw [← hM1]; exact k0
  obtain ⟨M2, r1, o1, f2, q2⟩ := iniOrd (d := d + 6) (1, p, 0, y, (tkW l : Int)) w1 k1
  have f02 : q_fr (fun x => x = g 1) M M2 := ((f0.wk (fun _ _ z => z.elim)).tr f1).tr2 f2 (fun x hx z => by omega)
  have g1l := hg.2 1 (by omega)
  have g2l := hg.2 2 (by omega)
  obtain ⟨M3, t1, t2⟩ := tellW (d := d) h f02 (w1.qt q2) (TP_fr w1 tT f2 (by omega) (by omega)) ⟨by have := q2.2.2.1; rw [← hM1] at this; simp only [q_nc_wr] at this; omega, by have := q2.2.2.2; rw [← hM1] at this; simp only [q_ns_wr] at this; omega⟩ o1 ⟨(show q_i32 1 from ⟨by omega, by omega⟩), hp, (show q_i32 0 from ⟨by omega, by omega⟩), hy, (show (0 : Int) ≤ (tkW l : Int) by omega), (show ((tkW l : Nat) : Int) < 2 ^ 40 by omega)⟩ hB hJl (fun z => oOk_e (show (1 : Int) ≤ 1 by omega) (show (1 : Int) ≤ 5 by omega) z)
  have r1' : q_C (d + 7) iX3_init [qr (q_top M), qi 1, qi p, qi 0, qi y, ql (tkW l)] M1 none M2 := r1
  refine ⟨M3, C_of (fun P => ?_), t2⟩
  obtain ⟨-, -, -, -, hR, -⟩ := id h
  obtain ⟨k0', r0, r1, r2, r3, r4, r5, r6, r7, r8, r9, r10, r11, r12, r13⟩ := id hR
  have v0 : q_fv M0 (g 0) 0 = qr (g 1) := by rw [f0.2.2.2 _ (hg.2 0 (by omega)) not_false, r0]
  have u0 : q_kd M0 (g 0) = (1, 12) := by rw [f0.2.2.1 _ (hg.2 0 (by omega)), k0']
  have u1 : q_kd M0 (g 1) = (1, 8) := by rw [f0.2.2.1 _ (hg.2 1 (by omega))]; exact hT.1
  have u2 : q_kd M2 (g 0) = (1, 12) := by rw [f02.2.2.1 _ (hg.2 0 (by omega)), k0']
  rw [eX12_rename]
  simp (disch := first | assumption | exact bI_lo | exact bI_hi | exact bI_01 | (show (List.map q_wd _).sum ≤ 8; with_unfolding_all exact Nat.le_of_ble_eq_true rfl) | omega) only [kX12_rename_0, kX12_rename_1, kX12_rename_4i, kX12_rename_4r, kX12_rename_5, kX12_rename_6, kX12_rename_7, kX12_rename_8, kX12_rename_9, kX12_rename_10, kX12_rename_13E, kX12_rename_16E, kX12_rename_19E, kX12_rename_22, q_cut_i, q_cut_r, q_cut_l, q_cut_n, q_psh_n, q_psh_s, bI_eq0, ite_not, hM0, v0, T_of tc, T_of r1', T_of t1]
theorem vX12_split {p y : Int} {l : List Int} (h : CRI M g cN cT c e1 c1 L1 e2 c2 L2 C J J2 ms hs lr hc) (hT : TP M (g 1) (g 2) l) (hp : q_i32 p) (hy : q_i32 y) (hB : CB C) (hJl : J.length < 512) : ∃ M', q_C (d + 8) iX12_split [qr (g 0), qi p, qi y] M (some (qi (tlA C (3, p, 0, y, tkW l)))) M' ∧ wOut M M' g cN cT c e1 c1 e2 c2 L2 C J J2 ms hs lr hc (3, p, 0, y, tkW l) := by
  have hw := h.2.1
  have hg := h.1
  have tw := tkW_lt l
  obtain ⟨M0, hM0⟩ : ∃ M0, q_al M (1, 3) 5 (fun k => q_dv (tyX3 k)) = M0 := ⟨_, rfl⟩
  have f0 : q_fr (fun _ => False) M M0 := by rw [← hM0]; exact q_fr.al
  have w0 : q_wf M0 := by rw [← hM0]; exact hw.al
  have k0 : q_kd M0 (q_top M) = (1, 3) := by rw [← hM0, q_kd_al, if_pos rfl]
  have n0 : q_nc M0 = q_nc M + 1 ∧ q_ns M0 = q_ns M + 5 := by rw [← hM0]; exact ⟨rfl, rfl⟩
  obtain ⟨tc, tT⟩ := uX8_takeWord (d := d + 5) (TP_fr hw hT f0 not_false not_false)
  obtain ⟨M1, hM1⟩ : ∃ M1, q_wr M0 (g 1) 1 (qi 0) = M1 := ⟨_, rfl⟩
  rw [hM1] at tc tT
  have w1 : q_wf M1 := by rw [← hM1]; exact w0.wr
  have f1 : q_fr (fun x => x = g 1) M0 M1 := by rw [← hM1]; exact q_fr.wr rfl
  have k1 : q_kd M1 (q_top M) = (1, 3) := by rw [← hM1]; exact k0
  obtain ⟨M2, r1, o1, f2, q2⟩ := iniOrd (d := d + 6) (3, p, 0, y, (tkW l : Int)) w1 k1
  have f02 : q_fr (fun x => x = g 1) M M2 := ((f0.wk (fun _ _ z => z.elim)).tr f1).tr2 f2 (fun x hx z => by omega)
  have g1l := hg.2 1 (by omega)
  have g2l := hg.2 2 (by omega)
  obtain ⟨M3, t1, t2⟩ := tellW (d := d) h f02 (w1.qt q2) (TP_fr w1 tT f2 (by omega) (by omega)) ⟨by have := q2.2.2.1; rw [← hM1] at this; simp only [q_nc_wr] at this; omega, by have := q2.2.2.2; rw [← hM1] at this; simp only [q_ns_wr] at this; omega⟩ o1 ⟨(show q_i32 3 from ⟨by omega, by omega⟩), hp, (show q_i32 0 from ⟨by omega, by omega⟩), hy, (show (0 : Int) ≤ (tkW l : Int) by omega), (show ((tkW l : Nat) : Int) < 2 ^ 40 by omega)⟩ hB hJl (fun z => oOk_e (show (1 : Int) ≤ 3 by omega) (show (3 : Int) ≤ 5 by omega) z)
  have r1' : q_C (d + 7) iX3_init [qr (q_top M), qi 3, qi p, qi 0, qi y, ql (tkW l)] M1 none M2 := r1
  refine ⟨M3, C_of (fun P => ?_), t2⟩
  obtain ⟨-, -, -, -, hR, -⟩ := id h
  obtain ⟨k0', r0, r1, r2, r3, r4, r5, r6, r7, r8, r9, r10, r11, r12, r13⟩ := id hR
  have v0 : q_fv M0 (g 0) 0 = qr (g 1) := by rw [f0.2.2.2 _ (hg.2 0 (by omega)) not_false, r0]
  have u0 : q_kd M0 (g 0) = (1, 12) := by rw [f0.2.2.1 _ (hg.2 0 (by omega)), k0']
  have u1 : q_kd M0 (g 1) = (1, 8) := by rw [f0.2.2.1 _ (hg.2 1 (by omega))]; exact hT.1
  have u2 : q_kd M2 (g 0) = (1, 12) := by rw [f02.2.2.1 _ (hg.2 0 (by omega)), k0']
  rw [eX12_split]
  simp (disch := first | assumption | exact bI_lo | exact bI_hi | exact bI_01 | (show (List.map q_wd _).sum ≤ 8; with_unfolding_all exact Nat.le_of_ble_eq_true rfl) | omega) only [kX12_split_0, kX12_split_1, kX12_split_4i, kX12_split_4r, kX12_split_5, kX12_split_6, kX12_split_7, kX12_split_8, kX12_split_9, kX12_split_10, kX12_split_13E, kX12_split_16E, kX12_split_19E, kX12_split_22, q_cut_i, q_cut_r, q_cut_l, q_cut_n, q_psh_n, q_psh_s, bI_eq0, ite_not, hM0, v0, T_of tc, T_of r1', T_of t1]
theorem vX12_foundN {k p y : Int} {l : List Int} (h : CRI M g cN cT c e1 c1 L1 e2 c2 L2 C J J2 ms hs lr hc) (hT : TP M (g 1) (g 2) l) (hk' : q_i32 k) (hn : k < 0 ∨ 4 ≤ k) : q_C (d + 8) iX12_found [qr (g 0), qi k, qi p, qi y] M (some (qi (-1))) (q_wr M (g 1) 1 (qi 0)) ∧ TP (q_wr M (g 1) 1 (qi 0)) (g 1) (g 2) [] ∧ CRI (q_wr M (g 1) 1 (qi 0)) g cN cT c e1 c1 L1 e2 c2 L2 C J J2 ms hs lr hc := by
  obtain ⟨tc, tT⟩ := uX8_takeWord (d := d + 5) hT
  refine ⟨C_of (fun P => ?_), tT, CRI_q h (s := 1) (Or.inl ⟨by omega, by omega⟩) (q_fr.wr rfl) h.2.1.wr⟩
  obtain ⟨-, -, -, -, hR, -⟩ := id h
  obtain ⟨k0', r0, r1, r2, r3, r4, r5, r6, r7, r8, r9, r10, r11, r12, r13⟩ := id hR
  obtain ⟨k1, k2⟩ := hk'
  have u1 := hT.1
  rw [eX12_found]
  by_cases g1 : k < 0
  · simp (disch := first | assumption | exact bI_lo | exact bI_hi | exact bI_01 | (show (List.map q_wd _).sum ≤ 8; with_unfolding_all exact Nat.le_of_ble_eq_true rfl) | omega) only [kX12_found_0, kX12_found_1, kX12_found_4E, kX12_found_7, kX12_found_9, kX12_found_10, kX12_found_13, kX12_found_14, kX12_found_15, kX12_found_18, kX12_found_19, kX12_found_20, kX12_found_21, kX12_found_24i, kX12_found_24r, kX12_found_25, kX12_found_26, kX12_found_27, kX12_found_28, kX12_found_29, kX12_found_31E, kX12_found_34E, kX12_found_37, q_cut_i, q_cut_r, q_cut_l, q_cut_n, q_psh_n, q_psh_s, bI_eq0, ite_not, ↓if_pos, ↓if_neg, ↓ite_bI_t, ↓ite_bI_f, r0, T_of tc]
  · simp (disch := first | assumption | exact bI_lo | exact bI_hi | exact bI_01 | (show (List.map q_wd _).sum ≤ 8; with_unfolding_all exact Nat.le_of_ble_eq_true rfl) | omega) only [kX12_found_0, kX12_found_1, kX12_found_4E, kX12_found_7, kX12_found_9, kX12_found_10, kX12_found_13, kX12_found_14, kX12_found_15, kX12_found_18, kX12_found_19, kX12_found_20, kX12_found_21, kX12_found_24i, kX12_found_24r, kX12_found_25, kX12_found_26, kX12_found_27, kX12_found_28, kX12_found_29, kX12_found_31E, kX12_found_34E, kX12_found_37, q_cut_i, q_cut_r, q_cut_l, q_cut_n, q_psh_n, q_psh_s, bI_eq0, ite_not, ↓if_pos, ↓if_neg, ↓ite_bI_t, ↓ite_bI_f, r0, T_of tc]
theorem vX12_foundY {k p y : Int} {l : List Int} (h : CRI M g cN cT c e1 c1 L1 e2 c2 L2 C J J2 ms hs lr hc) (hT : TP M (g 1) (g 2) l) (hk' : 0 ≤ k ∧ k ≤ 3) (hp : q_i32 p) (hy : q_i32 y) (hB : CB C) (hJl : J.length < 512) : ∃ M', q_C (d + 8) iX12_found [qr (g 0), qi k, qi p, qi y] M (some (qi (tlA C (0, k, p, y, tkW l)))) M' ∧ wOut M M' g cN cT c e1 c1 e2 c2 L2 C J J2 ms hs lr hc (0, k, p, y, tkW l) := by
  have hw := h.2.1
  have hg := h.1
  have tw := tkW_lt l
  obtain ⟨tc, tT⟩ := uX8_takeWord (d := d + 5) hT
  obtain ⟨M0, hM0⟩ : ∃ M0, q_wr M (g 1) 1 (qi 0) = M0 := ⟨_, rfl⟩
  rw [hM0] at tc tT
  have w0 : q_wf M0 := by rw [← hM0]; exact hw.wr
  have f0 : q_fr (fun x => x = g 1) M M0 := by rw [← hM0]; exact q_fr.wr rfl
  have tp0 : q_top M0 = q_top M := by rw [← hM0]; rfl
  obtain ⟨M2, r1, o1, f2, w2, n2, s2⟩ := newOrd (d := d + 6) (0, k, p, y, (tkW l : Int)) w0
  have f02 : q_fr (fun x => x = g 1) M M2 := f0.tr2 f2 (fun x hx z => z.elim)
  obtain ⟨M3, t1, t2⟩ := tellW (d := d) h f02 w2 (TP_fr w0 tT f2 not_false not_false) ⟨by rw [n2, ← hM0]; rfl, by rw [s2, ← hM0]; rfl⟩ o1 ⟨(show q_i32 0 from ⟨by omega, by omega⟩), (show q_i32 k from ⟨by omega, by omega⟩), hp, hy, (show (0 : Int) ≤ (tkW l : Int) by omega), (show ((tkW l : Nat) : Int) < 2 ^ 40 by omega)⟩ hB hJl (fun z => Or.inl ⟨⟨Int.le_refl 0, (show (0 : Int) ≤ 5 by omega)⟩, z, fun _ => hk'⟩)
  have r1' : q_C (d + 7) iX3_init [qr (q_top M0), qi 0, qi k, qi p, qi y, ql (tkW l)] (q_al M0 (1, 3) 5 (fun k => q_dv (tyX3 k))) none M2 := r1
  refine ⟨M3, C_of (fun P => ?_), t2⟩
  obtain ⟨-, -, -, -, hR, -⟩ := id h
  obtain ⟨k0', r0, r1, r2, r3, r4, r5, r6, r7, r8, r9, r10, r11, r12, r13⟩ := id hR
  have u1 : q_kd M (g 1) = (1, 8) := hT.1
  have u2 : q_kd M2 (g 0) = (1, 12) := by rw [f02.2.2.1 _ (hg.2 0 (by omega)), k0']
  rw [eX12_found]
  simp (disch := first | assumption | exact bI_lo | exact bI_hi | exact bI_01 | (show (List.map q_wd _).sum ≤ 8; with_unfolding_all exact Nat.le_of_ble_eq_true rfl) | omega) only [kX12_found_0, kX12_found_1, kX12_found_4E, kX12_found_7, kX12_found_9, kX12_found_10, kX12_found_13, kX12_found_14, kX12_found_15, kX12_found_18, kX12_found_19, kX12_found_20, kX12_found_21, kX12_found_24i, kX12_found_24r, kX12_found_25, kX12_found_26, kX12_found_27, kX12_found_28, kX12_found_29, kX12_found_31E, kX12_found_34E, kX12_found_37, q_cut_i, q_cut_r, q_cut_l, q_cut_n, q_psh_n, q_psh_s, bI_eq0, ite_not, ↓if_pos, ↓if_neg, ↓ite_bI_t, ↓ite_bI_f, r0, T_of tc, T_of r1', T_of t1]
end WRD
