
/-! the journal told again -/
theorem PLr_k5 {M : QM} {a : Nat → Nat} {cN cT : Nat} {p : Pl} (h : PLr M a cN cT p) : ∀ k, k < 11 → (q_kd M (a k)).1 ≠ 5 := by
  intro k hk
  have h0 := PLr_0 h
  have h1 := PLr_k1 h
  have h4 := PLr_k4 h
  have h7 := PLr_k7 h
  obtain ⟨-, -, -, -, ⟨-, -, -, -, n1, n2, -⟩, ⟨-, -, -, -, t1, t2, -⟩, ⟨-, -, -, -, -, s1, s2, s3, -⟩, -⟩ := h
  have : k = 0 ∨ k = 1 ∨ k = 2 ∨ k = 3 ∨ k = 4 ∨ k = 5 ∨ k = 6 ∨ k = 7 ∨ k = 8 ∨ k = 9 ∨ k = 10 := by omega
  rcases this with rfl | rfl | rfl | rfl | rfl | rfl | rfl | rfl | rfl | rfl | rfl
  · rw [h0]; simp
  · rw [h1]; simp
  · rw [n1]; simp
  · rw [n2]; simp
  · rw [h4]; simp
  · rw [t1]; simp
  · rw [t2]; simp
  · rw [h7]; simp
  · rw [s1]; simp
  · rw [s2]; simp
  · rw [s3]; simp
section AGN
variable {M : QM} {g cN cT c : Nat → Nat} {C : CWs} {d : Nat}
theorem CMm_kk (h : CMm M g cN cT c C) {s : Nat} (hs : s < 244) (hc : carS s) : (q_kd M (g s)).1 ≠ 5 ∧ q_kd M (g s) ≠ (1, 3) := by
  unfold carS at hc
  by_cases e1 : s = 16
  · subst e1; rw [h.1.1.1]; simp
  · by_cases e2 : s = 18
    · subst e2; rw [h.2.1.1]; simp
    · by_cases e3 : s = 23
      · subst e3; rw [h.2.1.2.2.2.2.1]; simp
      · by_cases e4 : s < 23
        · obtain ⟨k, hk, rfl⟩ : ∃ k, k < 4 ∧ s = 19 + k := ⟨s - 19, by omega, by omega⟩
          rw [(h.2.1.2.2.2.2.2.2.1 k hk).2.1]; simp
        · obtain ⟨i, k, hi, hk, rfl⟩ : ∃ i k, i < 20 ∧ k < 11 ∧ s = 24 + 11 * i + k := ⟨(s - 24) / 11, (s - 24) % 11, by omega, by omega, by omega⟩
          have hp := (h.1.1.2.2.2.2.2 i hi).2
          exact ⟨PLr_k5 hp k hk, PLr_kk hp k hk⟩
theorem JR_car {M' : QM} {g' : Nat → Nat} {s e cap : Nat} {L : List Nat} {J : List Od} (hg : gI M g) (hw : q_wf M) (h : CMm M g cN cT c C) (hF : GF carS M M' g g') (hs : s < 16) (hJ : JR M (g s) e cap L J) : JR M' (g s) e cap L J := by
  refine JR_fr hw hJ hF.1 ?_ (fun hcp => ?_) (fun b hb => ?_)
  · rintro ⟨t, ht, hc, e⟩
    have := hg.1 _ _ (by omega) ht e
    unfold carS at hc
    omega
  · rintro ⟨t, ht, hc, e⟩
    have := (CMm_kk h ht hc).1
    rw [← e, AL_k5 hJ.1 hcp] at this
    simp at this
  · rintro ⟨t, ht, hc, e⟩
    have := (CMm_kk h ht hc).2
    rw [← e, hb] at this
    simp at this
def clrC (C : CWs) : CWs := (cW C, 0, 0, 0, [], [])
theorem vX11_clear (hg : gI M g) (hw : q_wf M) (h : CMm M g cN cT c C) : ∃ M', q_C (d + 2) iX11_clear [qr (g 16)] M none M' ∧ CMm M' g cN cT c (clrC C) ∧ GF carS M M' g g ∧ q_qt M M' := by
  have h1 := h.1
  have w1 : WMm (q_wr M (g 16) 4 (qi 0)) g cN cT (cW C) 0 (cmg C) (csp C) := WMm_w (n' := 0) hg h1 (by omega) (by omega) (by omega) q_fws (q_fwo (by decide) h1.2.2.1) (q_fwo (by decide) h1.2.2.2)
  have f1 : GF (fun s => s = 16) M (q_wr M (g 16) 4 (qi 0)) g g := GF_wr hg hw (by omega) rfl
  have w2 := wMg f1.2.2.2.1 f1.2.2.2.2 w1 0
  have w3 := wSp w2.2.2.2.2.1 w2.2.2.2.2.2 w2.1 0
  have ff := (f1.tr w2.2).tr w3.2
  have hc3 := CMm_w hg h ff (fun s hs => Or.inl hs) w3.1
  obtain ⟨M4, c4, l4, f4, q4⟩ := vX0_clear (d := d) ff.2.2.2.1 ff.2.2.2.2 hc3.1.2.1
  have z := CMm_f ff.2.2.2.1 hc3.1 f4 rfl l4 hc3.1.2.2
  refine ⟨M4, C_of (fun P => ?_), z.1, hc3.2.tr z.2.1, ((q_qt.wr.tr q_qt.wr).tr q_qt.wr).tr q4⟩
  have kw := h1.1.1
  have v0 := w3.1.2.1
  have k18 := hc3.1.2.1.1
  rw [eX11_clear]
  simp (disch := first | assumption | exact bI_lo | exact bI_hi | exact bI_01 | (show (List.map q_wd _).sum ≤ 8; with_unfolding_all exact Nat.le_of_ble_eq_true rfl) | omega | (simp only [q_kd_wr]; first | assumption | omega)) only [kX11_clear_0, kX11_clear_1, kX11_clear_2, kX11_clear_5, kX11_clear_6, kX11_clear_7, kX11_clear_10, kX11_clear_11, kX11_clear_12, kX11_clear_15, kX11_clear_16, kX11_clear_19E, kX11_clear_22, q_cut_i, q_cut_r, q_cut_l, q_cut_n, q_psh_n, q_psh_s, bI_eq0, ite_not, v0, T_of c4]
def cRun (C : CWs) (J : List Od) : CWs := J.foldl (fun C q => (cDo C q).1) C
theorem cRun_s {C : CWs} {J : List Od} {i : Nat} {q : Od} (h : J[i]? = some q) : cRun C (J.take (i + 1)) = (cDo (cRun C (J.take i)) q).1 := by
  unfold cRun
  rw [List.take_succ, h, Option.toList_some, List.foldl_append]
  rfl
theorem vX12_tellAgain {e cap : Nat} {L : List Nat} {J : List Od} (hg : gI M g) (hw : q_wf M) (hR : q_kd M (g 0) = (1, 12) ∧ q_fv M (g 0) 2 = qr (g 16) ∧ q_fv M (g 0) 6 = qr (g 12)) (hC : CMm M g cN cT c C) (hJ : JR M (g 12) e cap L J) (hl : J.length ≤ 2000) (hok : ∀ (i : Nat) (q : Od), J[i]? = some q → oOk (cRun (clrC C) (J.take i)) q ∧ CB (cRun (clrC C) (J.take i))) : ∃ M' g' cN' cT' c', q_C (d + 6) iX12_tellAgain [qr (g 0)] M none M' ∧ CMm M' g' cN' cT' c' (cRun (clrC C) J) ∧ GF carS M M' g g' ∧ (∀ s, s < 19 → g' s = g s) ∧ gC M M' cN cT c cN' cT' c' := by
  obtain ⟨M1, c1, m1, f1, q1⟩ := vX11_clear (d := d + 3) hg hw hC
  have loop : ∀ (m i : Nat) (A : QM) (gA cNA cTA cA : Nat → Nat), i + m = J.length → CMm A gA cNA cTA cA (cRun (clrC C) (J.take i)) → GF carS M A g gA → (∀ s, s < 19 → gA s = g s) → gC M A cN cT c cNA cTA cA → ∃ M' g' cN' cT' c', (∀ P, Rr (q_C (d + 5)) mX12_tellAgain (9, [some (qr (g 0)), some (qi i)], [], A) P = P none M') ∧ CMm M' g' cN' cT' c' (cRun (clrC C) J) ∧ GF carS M M' g g' ∧ (∀ s, s < 19 → g' s = g s) ∧ gC M M' cN cT c cN' cT' c' := by
    intro m
    induction m with
    | zero =>
      intro i A gA cNA cTA cA hm hA hF hs hG
      have hJA := JR_car hg hw hC hF (by omega) hJ
      have s0 := hF.sm hg (s := 0) (by omega) (by unfold carS; omega)
      have k0 : q_kd A (g 0) = (1, 12) := by rw [s0.1, hR.1]
      have v6 : q_fv A (g 0) 6 = qr (g 12) := by rw [s0.2, hR.2.2]
      have k12 := hJA.1.1
      have ll := hJA.2.1
      refine ⟨A, gA, cNA, cTA, cA, fun P => ?_, ?_, hF, hs, hG⟩
      · rw [kX12_tellAgain_9]
        simp (disch := first | assumption | exact bI_lo | exact bI_hi | exact bI_01 | (show (List.map q_wd _).sum ≤ 8; with_unfolding_all exact Nat.le_of_ble_eq_true rfl) | omega) only [kX12_tellAgain_10, kX12_tellAgain_11, kX12_tellAgain_14E, kX12_tellAgain_17, kX12_tellAgain_20, kX12_tellAgain_21, kX12_tellAgain_24, kX12_tellAgain_25, kX12_tellAgain_28, kX12_tellAgain_29E, kX12_tellAgain_32n, kX12_tellAgain_32r, kX12_tellAgain_35E, kX12_tellAgain_38i, kX12_tellAgain_38r, kX12_tellAgain_39, kX12_tellAgain_42, kX12_tellAgain_45, q_cut_i, q_cut_r, q_cut_l, q_cut_n, q_psh_n, q_psh_s, bI_eq0, ite_not, ↓if_pos, ↓if_neg, ↓ite_bI_t, ↓ite_bI_f, v6, uAL_size hJA.1]
      · rw [List.take_of_length_le (by omega)] at hA
        exact hA
    | succ m ih =>
      intro i A gA cNA cTA cA hm hA hF hs hG
      have hJA := JR_car hg hw hC hF (by omega) hJ
      have s0 := hF.sm hg (s := 0) (by omega) (by unfold carS; omega)
      have k0 : q_kd A (g 0) = (1, 12) := by rw [s0.1, hR.1]
      have v6 : q_fv A (g 0) 6 = qr (g 12) := by rw [s0.2, hR.2.2]
      have v2 : q_fv A (g 0) 2 = qr (g 16) := by rw [s0.2, hR.2.1]
      have k12 := hJA.1.1
      have ll := hJA.2.1
      have il : i < J.length := by omega
      have hq : J[i]? = some J[i] := List.getElem?_eq_getElem il
      obtain ⟨v, hv, ho, hr⟩ := JR_o hJA hq
      obtain ⟨ok1, ok2⟩ := hok i _ hq
      obtain ⟨B, gB, cNB, cTB, cB, r1, r2, r3, r4, r5⟩ := vX11_carryOut (d := d) hF.2.2.2.1 hF.2.2.2.2 hA ok2 ho hr ok1
      obtain ⟨M', g', cN', cT', c', t1, t2⟩ := ih (i + 1) B gB cNB cTB cB (by omega) (by rw [cRun_s hq]; exact r2) (hF.tr r3) (fun s h => (r4 s h).trans (hs s h)) (hG.tr r5)
      refine ⟨M', g', cN', cT', c', fun P => ?_, t2⟩
      have t1' := t1 P
      rw [show ((i + 1 : Nat) : Int) = (i : Int) + 1 by omega] at t1'
      rw [hs 16 (by omega)] at r1
      have k16 : q_kd A (g 16) = (1, 11) := by rw [← hs 16 (by omega)]; exact hA.1.1.1
      have kv := ho.1
      have rg := fun x : QP => uAL_get (d := d + 2) (x := x) hJA.1 hv
      rw [kX12_tellAgain_9]
      simp (disch := first | assumption | exact bI_lo | exact bI_hi | exact bI_01 | (show (List.map q_wd _).sum ≤ 8; with_unfolding_all exact Nat.le_of_ble_eq_true rfl) | omega) only [kX12_tellAgain_10, kX12_tellAgain_11, kX12_tellAgain_14E, kX12_tellAgain_17, kX12_tellAgain_20, kX12_tellAgain_21, kX12_tellAgain_24, kX12_tellAgain_25, kX12_tellAgain_28, kX12_tellAgain_29E, kX12_tellAgain_32n, kX12_tellAgain_32r, kX12_tellAgain_35E, kX12_tellAgain_38i, kX12_tellAgain_38r, kX12_tellAgain_39, kX12_tellAgain_42, kX12_tellAgain_45, q_cut_i, q_cut_r, q_cut_l, q_cut_n, q_psh_n, q_psh_s, bI_eq0, ite_not, ↓if_pos, ↓if_neg, ↓ite_bI_t, ↓ite_bI_f, v6, v2, uAL_size hJA.1, rg, T_of r1]
      exact t1'
  obtain ⟨M', g', cN', cT', c', t1, t2⟩ := loop J.length 0 M1 g cN cT c (by omega) m1 f1 (fun _ _ => rfl) (gC.w (gW.qt q1))
  refine ⟨M', g', cN', cT', c', C_of (fun P => ?_), t2⟩
  have t1' := t1 P
  obtain ⟨k0, v2, v6⟩ := hR
  have k16 := hC.1.1.1
  rw [eX12_tellAgain]
  simp (disch := first | assumption | exact bI_lo | exact bI_hi | exact bI_01 | (show (List.map q_wd _).sum ≤ 8; with_unfolding_all exact Nat.le_of_ble_eq_true rfl) | omega) only [kX12_tellAgain_0, kX12_tellAgain_1, kX12_tellAgain_4E, kX12_tellAgain_7, kX12_tellAgain_8, q_cut_i, q_cut_r, q_cut_l, q_cut_n, q_psh_n, q_psh_s, bI_eq0, ite_not, v2, T_of c1]
  exact t1'
end AGN
