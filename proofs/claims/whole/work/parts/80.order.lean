
/-! a new order; the calls that only tell it -/
def q_gu (M M' : QM) (a b k s : Nat) : Prop := a ≤ b ∧ q_nc M' + a ≤ q_nc M + b + k ∧ q_ns M' + 4 * a ≤ q_ns M + 4 * b + s
theorem newOrd {M : QM} {d : Nat} (q : Od) (hw : q_wf M) : ∃ M1, q_C (d + 1) iX3_init [qr (q_top M), qi q.1, qi q.2.1, qi q.2.2.1, qi q.2.2.2.1, ql q.2.2.2.2] (q_al M (1, 3) 5 (fun k => q_dv (tyX3 k))) none M1 ∧ OB M1 (q_top M) q ∧ q_fr (fun _ => False) M M1 ∧ q_wf M1 ∧ q_nc M1 = q_nc M + 1 ∧ q_ns M1 = q_ns M + 5 := by
  obtain ⟨M0, hM0⟩ : ∃ M0, q_al M (1, 3) 5 (fun k => q_dv (tyX3 k)) = M0 := ⟨_, rfl⟩
  have k0 : q_kd M0 (q_top M) = (1, 3) := by rw [← hM0, q_kd_al, if_pos rfl]
  have f0 : q_fr (fun _ => False) M M0 := by rw [← hM0]; exact q_fr.al
  have w0 : q_wf M0 := by rw [← hM0]; exact hw.al
  have n0 : q_nc M0 = q_nc M + 1 := by rw [← hM0]; rfl
  have s0 : q_ns M0 = q_ns M + 5 := by rw [← hM0]; rfl
  rw [hM0]
  refine ⟨q_wr (q_wr (q_wr (q_wr (q_wr M0 (q_top M) 0 (qi q.1)) (q_top M) 1 (qi q.2.1)) (q_top M) 2 (qi q.2.2.1)) (q_top M) 3 (qi q.2.2.2.1)) (q_top M) 4 (ql q.2.2.2.2), C_of (fun P => ?_), ⟨k0, ?_, ?_, ?_, ?_, q_fws⟩, ?_, w0.wr.wr.wr.wr.wr, n0, s0⟩
  · rw [eX3_init]
    simp (disch := first | assumption | exact bI_lo | exact bI_hi | exact bI_01 | (show (List.map q_wd _).sum ≤ 8; with_unfolding_all exact Nat.le_of_ble_eq_true rfl) | omega | (simp only [q_kd_wr]; assumption)) only [kX3_init_0, kX3_init_1, kX3_init_4, kX3_init_5, kX3_init_6, kX3_init_9, kX3_init_10, kX3_init_11, kX3_init_14, kX3_init_15, kX3_init_16, kX3_init_19, kX3_init_20, kX3_init_22, kX3_init_25, kX3_init_26, kX3_init_28, kX3_init_31, q_cut_i, q_cut_r, q_cut_l, q_cut_n, q_psh_n, q_psh_s, bI_eq0, ite_not]
  · exact q_fwo (by decide) (q_fwo (by decide) (q_fwo (by decide) (q_fwo (by decide) q_fws)))
  · exact q_fwo (by decide) (q_fwo (by decide) (q_fwo (by decide) q_fws))
  · exact q_fwo (by decide) (q_fwo (by decide) q_fws)
  · exact q_fwo (by decide) q_fws
  · refine f0.tr2 (((((q_fr.wr (A := fun x => x = q_top M) rfl).tr (q_fr.wr rfl)).tr (q_fr.wr rfl)).tr (q_fr.wr rfl)).tr (q_fr.wr rfl)) (fun x hx h => by omega)
section ORD
variable {M : QM} {g cN cT c : Nat → Nat} {e1 c1 e2 c2 : Nat} {L1 L2 : List Nat} {C : CWs} {J J2 : List Od} {ms : List Int} {hs lr hc : Int} {d : Nat}
theorem CRI_f0 {M' : QM} (h : CRI M g cN cT c e1 c1 L1 e2 c2 L2 C J J2 ms hs lr hc) (hf : q_fr (fun _ => False) M M') (hw' : q_wf M') : CRI M' g cN cT c e1 c1 L1 e2 c2 L2 C J J2 ms hs lr hc := by
  obtain ⟨hg, hw, hk, h0, hR, hM, hC, hJ, hJ2, hd⟩ := h
  have hS : SMS (fun _ => False) M M' g g := fun s hs _ => ⟨Sm_fr hf (hg.2 s hs) not_false, rfl⟩
  exact ⟨⟨hg.1, fun s hs => Nat.lt_of_lt_of_le (hg.2 s hs) hf.1⟩, hw', gK_fr hg hk hf, by rw [hf.2.1, hf.2.2.1 _ (hw.lt (by rw [h0]; simp)), h0], RO_ss hR hS not_false (fun _ _ => rfl), MK_ss hM hS not_false, CMm_ss hC hS (fun _ _ => not_false), JR_fr hw hJ hf not_false (fun _ => not_false) (fun _ _ => not_false), JR_fr hw hJ2 hf not_false (fun _ => not_false) (fun _ _ => not_false), hd⟩
def tlA (C : CWs) (q : Od) : Int := if cwh C q = 0 then (cDo C q).2 else -3
def tlC (C : CWs) (q : Od) : CWs := if cwh C q = 0 then (cDo C q).1 else C
def tlJ (C : CWs) (J : List Od) (q : Od) : List Od := if cwh C q = 0 then J ++ [q] else J
def tlM (C : CWs) (J : List Od) (ms : List Int) (q : Od) : List Int := if cwh C q = 0 then kpM ms J.length else ms
def tlR (C : CWs) (q : Od) (lr : Int) : Int := if cwh C q = 0 then lr else cwh C q
def tFr (g : Nat → Nat) (e1 c1 : Nat) (x : Nat) : Prop := (∃ s, s < 244 ∧ tS s ∧ x = g s) ∨ (x = e1 ∧ 0 < c1)
/-- what telling an order leaves -/
def tOut (M M' : QM) (g cN cT c : Nat → Nat) (e1 c1 e2 c2 : Nat) (L2 : List Nat) (C : CWs) (J J2 : List Od) (ms : List Int) (hs lr hc : Int) (q : Od) : Prop := ∃ g' cN' cT' c' e1' c1' L1', CRI M' g' cN' cT' c' e1' c1' L1' e2 c2 L2 (tlC C q) (tlJ C J q) J2 (tlM C J ms q) hs (tlR C q lr) hc ∧ q_fr (tFr g e1 c1) M M' ∧ gE M g g' e1 c1 e1' c1' ∧ q_gu M M' (c1 + poS cN cT c) (c1' + poS cN' cT' c') 1 5
theorem tellNew {q : Od} (h : CRI M g cN cT c e1 c1 L1 e2 c2 L2 C J J2 ms hs lr hc) (hr : odR q) (hB : CB C) (hJl : J.length < 512) (hok : cwh C q = 0 → oOk C q) : ∃ M1 M', q_C (d + 7) iX3_init [qr (q_top M), qi q.1, qi q.2.1, qi q.2.2.1, qi q.2.2.2.1, ql q.2.2.2.2] (q_al M (1, 3) 5 (fun k => q_dv (tyX3 k))) none M1 ∧ q_C (d + 7) iX12_tell [qr (g 0), qr (q_top M)] M1 (some (qi (tlA C q))) M' ∧ q_kd (q_al M (1, 3) 5 (fun k => q_dv (tyX3 k))) (q_top M) = (1, 3) ∧ q_kd M1 (g 0) = (1, 12) ∧ tOut M M' g cN cT c e1 c1 e2 c2 L2 C J J2 ms hs lr hc q := by
  obtain ⟨M1, n1, n2, n3, n4, n5, n6⟩ := newOrd (d := d + 6) q h.2.1
  have h1 := CRI_f0 h n3 n4
  by_cases g0 : cwh C q = 0
  · obtain ⟨M', g', cN', cT', c', e1', c1', L1', t1, t2, t3, t4, t5⟩ := vX12_tellY (d := d) h1 n2 hr hB hJl g0 (hok g0)
    refine ⟨M1, M', n1, ?_, by rw [q_kd_al, if_pos rfl], h1.2.2.2.2.1.1, g', cN', cT', c', e1', c1', L1', ?_, ?_, t4.wk n3.1, ?_⟩
    · unfold tlA; rw [if_pos g0]; exact t1
    · unfold tlC tlJ tlM tlR
      rw [if_pos g0, if_pos g0, if_pos g0, if_pos g0]
      exact t2
    · exact (n3.wk (fun _ _ z => z.elim)).tr t3
    · obtain ⟨p1, p2, p3⟩ := t5
      refine ⟨?_, ?_, ?_⟩ <;> omega
  · have t1 := vX12_tellN (d := d) h1 n2 hr g0
    have t2 := CRI_lr (v := cwh C q) h1
    refine ⟨M1, q_wr M1 (g 0) 11 (qi (cwh C q)), n1, ?_, by rw [q_kd_al, if_pos rfl], h1.2.2.2.2.1.1, g, cN, cT, c, e1, c1, L1, ?_, ?_, gE.rf, ?_⟩
    · unfold tlA; rw [if_neg g0]; exact t1
    · unfold tlC tlJ tlM tlR
      rw [if_neg g0, if_neg g0, if_neg g0, if_neg g0]
      exact t2.1
    · refine (n3.wk (fun _ _ z => z.elim)).tr (t2.2.wk (fun x _ z => ?_))
      obtain ⟨s, hs, hS, e⟩ := z
      exact Or.inl ⟨s, hs, Or.inl hS, e⟩
    · refine ⟨Nat.le_refl _, ?_, ?_⟩
      · rw [q_nc_wr]; omega
      · rw [q_ns_wr]; omega
theorem oOk_e {q : Od} (h1 : 1 ≤ q.1) (h5 : q.1 ≤ 5) (h : cwh C q = 0) : oOk C q := Or.inl ⟨⟨by omega, h5⟩, h, fun z => by omega⟩
theorem z40 : (0 : Int) < 2 ^ 40 := by decide
theorem vX12_move {p e y : Int} (h : CRI M g cN cT c e1 c1 L1 e2 c2 L2 C J J2 ms hs lr hc) (hp : q_i32 p) (he : q_i32 e) (hy : q_i32 y) (hB : CB C) (hJl : J.length < 512) : ∃ M', q_C (d + 8) iX12_move [qr (g 0), qi p, qi e, qi y] M (some (qi (tlA C (2, p, e, y, 0)))) M' ∧ tOut M M' g cN cT c e1 c1 e2 c2 L2 C J J2 ms hs lr hc (2, p, e, y, 0) := by
  obtain ⟨M1, M', r1, r2, k1, k2, r3⟩ := tellNew (d := d) (q := (2, p, e, y, 0)) h ⟨⟨by omega, by omega⟩, hp, he, hy, Int.le_refl 0, z40⟩ hB hJl (fun z => oOk_e (show (1 : Int) ≤ 2 by omega) (show (2 : Int) ≤ 5 by omega) z)
  have r1' : q_C (d + 7) iX3_init [qr (q_top M), qi 2, qi p, qi e, qi y, ql 0] (q_al M (1, 3) 5 (fun k => q_dv (tyX3 k))) none M1 := r1
  have r1'' := T_of r1'
  refine ⟨M', C_of (fun P => ?_), r3⟩
  rw [eX12_move]
  simp (disch := first | assumption | exact bI_lo | exact bI_hi | exact bI_01 | (show (List.map q_wd _).sum ≤ 8; with_unfolding_all exact Nat.le_of_ble_eq_true rfl) | omega) only [kX12_move_0, kX12_move_1, kX12_move_4i, kX12_move_4r, kX12_move_5, kX12_move_6, kX12_move_7, kX12_move_8, kX12_move_9, kX12_move_10E, kX12_move_13E, kX12_move_16, q_cut_i, q_cut_r, q_cut_l, q_cut_n, q_psh_n, q_psh_s, bI_eq0, ite_not, r1'', T_of r2]
theorem vX12_merge {p e y : Int} (h : CRI M g cN cT c e1 c1 L1 e2 c2 L2 C J J2 ms hs lr hc) (hp : q_i32 p) (he : q_i32 e) (hy : q_i32 y) (hB : CB C) (hJl : J.length < 512) : ∃ M', q_C (d + 8) iX12_merge [qr (g 0), qi p, qi e, qi y] M (some (qi (tlA C (4, p, e, y, 0)))) M' ∧ tOut M M' g cN cT c e1 c1 e2 c2 L2 C J J2 ms hs lr hc (4, p, e, y, 0) := by
  obtain ⟨M1, M', r1, r2, k1, k2, r3⟩ := tellNew (d := d) (q := (4, p, e, y, 0)) h ⟨⟨by omega, by omega⟩, hp, he, hy, Int.le_refl 0, z40⟩ hB hJl (fun z => oOk_e (show (1 : Int) ≤ 4 by omega) (show (4 : Int) ≤ 5 by omega) z)
  have r1' : q_C (d + 7) iX3_init [qr (q_top M), qi 4, qi p, qi e, qi y, ql 0] (q_al M (1, 3) 5 (fun k => q_dv (tyX3 k))) none M1 := r1
  have r1'' := T_of r1'
  refine ⟨M', C_of (fun P => ?_), r3⟩
  rw [eX12_merge]
  simp (disch := first | assumption | exact bI_lo | exact bI_hi | exact bI_01 | (show (List.map q_wd _).sum ≤ 8; with_unfolding_all exact Nat.le_of_ble_eq_true rfl) | omega) only [kX12_merge_0, kX12_merge_1, kX12_merge_4i, kX12_merge_4r, kX12_merge_5, kX12_merge_6, kX12_merge_7, kX12_merge_8, kX12_merge_9, kX12_merge_10E, kX12_merge_13E, kX12_merge_16, q_cut_i, q_cut_r, q_cut_l, q_cut_n, q_psh_n, q_psh_s, bI_eq0, ite_not, r1'', T_of r2]
theorem vX12_close {p y : Int} (h : CRI M g cN cT c e1 c1 L1 e2 c2 L2 C J J2 ms hs lr hc) (hp : q_i32 p) (hy : q_i32 y) (hB : CB C) (hJl : J.length < 512) : ∃ M', q_C (d + 8) iX12_close [qr (g 0), qi p, qi y] M (some (qi (tlA C (5, p, 0, y, 0)))) M' ∧ tOut M M' g cN cT c e1 c1 e2 c2 L2 C J J2 ms hs lr hc (5, p, 0, y, 0) := by
  obtain ⟨M1, M', r1, r2, k1, k2, r3⟩ := tellNew (d := d) (q := (5, p, 0, y, 0)) h ⟨⟨by omega, by omega⟩, hp, (show q_i32 0 from ⟨by omega, by omega⟩), hy, Int.le_refl 0, z40⟩ hB hJl (fun z => oOk_e (show (1 : Int) ≤ 5 by omega) (show (5 : Int) ≤ 5 by omega) z)
  have r1' : q_C (d + 7) iX3_init [qr (q_top M), qi 5, qi p, qi 0, qi y, ql 0] (q_al M (1, 3) 5 (fun k => q_dv (tyX3 k))) none M1 := r1
  have r1'' := T_of r1'
  refine ⟨M', C_of (fun P => ?_), r3⟩
  rw [eX12_close]
  simp (disch := first | assumption | exact bI_lo | exact bI_hi | exact bI_01 | (show (List.map q_wd _).sum ≤ 8; with_unfolding_all exact Nat.le_of_ble_eq_true rfl) | omega) only [kX12_close_0, kX12_close_1, kX12_close_4i, kX12_close_4r, kX12_close_5, kX12_close_6, kX12_close_7, kX12_close_8, kX12_close_9, kX12_close_10E, kX12_close_13E, kX12_close_16, q_cut_i, q_cut_r, q_cut_l, q_cut_n, q_psh_n, q_psh_s, bI_eq0, ite_not, r1'', T_of r2]
end ORD
