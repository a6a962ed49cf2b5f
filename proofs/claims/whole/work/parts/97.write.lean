
/-! write, paper -/
section WRI
variable {M : QM} {g cN cT c : Nat → Nat} {e1 c1 e2 c2 : Nat} {L1 L2 : List Nat} {C : CWs} {J J2 : List Od} {ms : List Int} {hs lr hc : Int} {d : Nat} {x : QP}
theorem CRI_p {M' : QM} {e : Nat} (h : CRI M g cN cT c e1 c1 L1 e2 c2 L2 C J J2 ms hs lr hc) (hf : q_fr (fun x => x = g 10 ∨ x = e) M M') (hw' : q_wf M') (hke : (q_kd M e).1 = 4) (hne : ∀ t, t < 244 → t ≠ 11 → g t ≠ e) : CRI M' g cN cT c e1 c1 L1 e2 c2 L2 C J J2 ms hs lr hc := by
  obtain ⟨hg, hw, hk, h0, hR, hM, hC, hJ, hJ2, hd⟩ := h
  have hS : SMS (fun t => t = 10 ∨ t = 11) M M' g g := fun t ht hn => ⟨Sm_fr hf (hg.2 t ht) (fun z => by
    rcases z with z | z
    · exact hn (Or.inl (hg.1 t 10 ht (by omega) z))
    · exact hne t ht (fun z2 => hn (Or.inr z2)) z), rfl⟩
  have jr : ∀ {s e' cap : Nat} {L : List Nat} {J' : List Od}, s < 244 → s ≠ 10 → s ≠ 11 → JR M (g s) e' cap L J' → JR M' (g s) e' cap L J' := fun {s e' cap L J'} hs1 hs2 hs3 hj => by
    refine JR_fr hw hj hf ?_ (fun hcp => ?_) (fun b hb => ?_)
    · rintro (z | z)
      · exact hs2 (hg.1 s 10 hs1 (by omega) z)
      · exact hne s hs1 hs3 z
    · have ke := AL_k5 hj.1 hcp
      rintro (z | z)
      · exact (hk 10 (by omega)).1 (by rw [← z, ke])
      · rw [← z, ke] at hke; simp at hke
    · rintro (z | z)
      · exact (hk 10 (by omega)).2 (by rw [← z, hb])
      · rw [← z, hb] at hke; simp at hke
  exact ⟨⟨hg.1, fun s hs => Nat.lt_of_lt_of_le (hg.2 s hs) hf.1⟩, hw', gK_fr hg hk hf, by rw [hf.2.1, hf.2.2.1 _ (hw.lt (by rw [h0]; simp)), h0], RO_ss hR hS (by omega) (fun _ _ => rfl), MK_ss hM hS (by omega), CMm_ss hC hS (fun t ht => by omega), jr (by omega) (by omega) (by omega) hJ, jr (by omega) (by omega) (by omega) hJ2, hd⟩
theorem uX12_writeN {p : Int} (h : CRI M g cN cT c e1 c1 L1 e2 c2 L2 C J J2 ms hs lr hc) (hp : q_i32 p) (hn : ¬ (0 ≤ p ∧ p < cn C)) : q_T (d + 2) iX12_write [qr (g 0), qi p] M x = x (some (qi (-1))) M := by
  obtain ⟨hg, hw', hk, h0, hR, hM, hC, hJ, hJ2, hd⟩ := h
  obtain ⟨k0, r0, r1, r2, r3, r4, r5, r6, r7, r8, r9, r10, r11, r12, r13⟩ := id hR
  obtain ⟨p1, p2⟩ := hp
  have kw := hC.1.1.1
  have hpn := fun z : QP => uX11_placeN (d := d) (x := z) hC.1.1 hn p1 p2
  rw [eX12_write]
  simp (disch := first | assumption | exact bI_lo | exact bI_hi | exact bI_01 | (show (List.map q_wd _).sum ≤ 8; with_unfolding_all exact Nat.le_of_ble_eq_true rfl) | omega) only [kX12_write_0, kX12_write_1, kX12_write_4, kX12_write_5E, kX12_write_8, kX12_write_9, kX12_write_10r, kX12_write_10n, kX12_write_13, kX12_write_14, kX12_write_15, kX12_write_16, kX12_write_19, kX12_write_20E, kX12_write_23, kX12_write_24, kX12_write_27, kX12_write_28, kX12_write_31E, kX12_write_34, kX12_write_35, kX12_write_38E, kX12_write_41, q_cut_i, q_cut_r, q_cut_l, q_cut_n, q_psh_n, q_psh_s, bI_eq0, ite_not, ↓if_pos, ↓if_neg, ↓ite_bI_t, ↓ite_bI_f, r2, hpn]
theorem vX12_writeY {p : Int} {e cap : Nat} {L : List Int} (h : CRI M g cN cT c e1 c1 L1 e2 c2 L2 C J J2 ms hs lr hc) (hS : SBm M (g 10) e cap L) (hC' : CST M) (hy : 0 ≤ p ∧ p < cn C) (hl : hOk (plH (cW C p.toNat))) : ∃ M' e' cap', q_C (d + 7) iX12_write [qr (g 0), qi p] M (some (qi (wAll (hEv (plH (cW C p.toNat))) (min (plH (cW C p.toNat)).length 24)).length)) M' ∧ SBst M (g 10) e cap M' e' cap' (wAll (hEv (plH (cW C p.toNat))) (min (plH (cW C p.toNat)).length 24)) := by
  obtain ⟨hg, hw', hk, h0, hR, hM, hC, hJ, hJ2, hd⟩ := id h
  obtain ⟨k0, r0, r1, r2, r3, r4, r5, r6, r7, r8, r9, r10, r11, r12, r13⟩ := id hR
  have kw := hC.1.1.1
  have n20 := hC.1.1.2.2.2.1
  have hpy := fun z : QP => uX11_placeY (d := d + 5) (x := z) hC.1.1 hy.1 hy.2
  have hp := (hC.1.1.2.2.2.2.2 p.toNat (by omega)).2
  have hT := hp.2.2.2.2.2.2.1
  have ka := hS.1
  have ke := hS.2.2.2.2.1
  obtain ⟨M1, t1, S1, f1, q1⟩ := uSB_set0 (d := d + 3) hS hw'
  have w1 := hw'.qt q1
  have H1 := HI_fr hw' hT f1 (fun z => q_neK hT.1 ka (by simp) z) (fun z => q_neK hT.2.2.2.2.2.1 ka (by simp) z) (fun z => q_neK hT.2.2.2.2.2.2.1 ka (by simp) z) (fun z => q_neK hT.2.2.2.2.2.2.2.1 ka (by simp) z)
  have C1 := CST_fr hw' hC' f1 (fun b hb z => by rw [z, ka] at hb; simp at hb)
  obtain ⟨M2, e', cap', t2, st⟩ := vX1_print (d := d) H1 S1 w1 C1 hl
  have st1 : SBst M (g 10) e cap M1 e cap [] := ⟨S1, f1.wk (fun x _ z => Or.inl z), w1, q_gr.rf q1, Or.inl rfl⟩
  have st2 := st1.tr st
  have l0 := hg.2 0 (by omega)
  have n010 := g_ne hg (s := 0) (t := 10) (by omega) (by omega) (by omega)
  have n0e : g 0 ≠ e := q_neK k0 ke (by simp)
  have u1 : q_kd M1 (g 0) = (1, 12) := by rw [f1.2.2.1 _ l0, k0]
  have v1 : q_fv M1 (g 0) 5 = qr (g 10) := by rw [f1.2.2.2 _ l0 (fun z => n010 z), r5]
  have u2 : q_kd M2 (g 0) = (1, 12) := by rw [st2.2.1.2.2.1 _ l0, k0]
  have v2 : q_fv M2 (g 0) 5 = qr (g 10) := by rw [st2.2.1.2.2.2 _ l0 (fun z => z.elim n010 n0e), r5]
  have kp0 : q_kd M1 (gA g p.toNat 0) = (1, 4) := by rw [q1.1]; exact hp.1.1
  have kp8 : q_fv M1 (gA g p.toNat 0) 8 = qr (gA g p.toNat 7) := by
    rw [f1.2.2.2 _ (hw'.lt (by rw [hp.1.1]; simp)) (fun z => q_neK hp.1.1 ka (by simp) z)]
    exact PLr_f8 hp
  have ks := S1.1
  have kh1 := H1.1
  have ks2 := st2.1.1
  refine ⟨M2, e', cap', C_of (fun P => ?_), st2⟩
  rw [eX12_write]
  simp (disch := first | assumption | exact bI_lo | exact bI_hi | exact bI_01 | (show (List.map q_wd _).sum ≤ 8; with_unfolding_all exact Nat.le_of_ble_eq_true rfl) | omega) only [kX12_write_0, kX12_write_1, kX12_write_4, kX12_write_5E, kX12_write_8, kX12_write_9, kX12_write_10r, kX12_write_10n, kX12_write_13, kX12_write_14, kX12_write_15, kX12_write_16, kX12_write_19, kX12_write_20E, kX12_write_23, kX12_write_24, kX12_write_27, kX12_write_28, kX12_write_31E, kX12_write_34, kX12_write_35, kX12_write_38E, kX12_write_41, q_cut_i, q_cut_r, q_cut_l, q_cut_n, q_psh_n, q_psh_s, bI_eq0, ite_not, ↓if_pos, ↓if_neg, ↓ite_bI_t, ↓ite_bI_f, r2, hpy, r5, T_of t1, kp8, v1, T_of t2, v2, uSB_len st2.1]
def pprA (L : List Int) (i : Int) : Int := if i < 0 then -1 else if i < L.length then L.getD i.toNat 0 else -5
theorem uX12_paper {i : Int} {e cap : Nat} {L : List Int} (h : CRI M g cN cT c e1 c1 L1 e2 c2 L2 C J J2 ms hs lr hc) (hS : SBm M (g 10) e cap L) (hi : q_i32 i) : q_T (d + 5) iX12_paper [qr (g 0), qi i] M x = x (some (qi (pprA L i))) M := by
  obtain ⟨hg, hw', hk, h0, hR, hM, hC, hJ, hJ2, hd⟩ := id h
  obtain ⟨k0, r0, r1, r2, r3, r4, r5, r6, r7, r8, r9, r10, r11, r12, r13⟩ := id hR
  obtain ⟨i1, i2⟩ := hi
  have ka := hS.1
  have ll := hS.2.2.2.2.2.1
  have lc := hS.2.2.2.2.2.2.2.1
  unfold pprA
  rw [eX12_paper]
  by_cases g1 : i < 0
  · rw [if_pos g1]
    simp (disch := first | assumption | exact bI_lo | exact bI_hi | exact bI_01 | (show (List.map q_wd _).sum ≤ 8; with_unfolding_all exact Nat.le_of_ble_eq_true rfl) | omega) only [kX12_paper_0, kX12_paper_1, kX12_paper_4, kX12_paper_5, kX12_paper_6, kX12_paper_7, kX12_paper_8, kX12_paper_11E, kX12_paper_14, kX12_paper_17, kX12_paper_18, kX12_paper_21, kX12_paper_22E, kX12_paper_25, kX12_paper_28, kX12_paper_30, q_cut_i, q_cut_r, q_cut_l, q_cut_n, q_psh_n, q_psh_s, bI_eq0, ite_not, ↓if_pos, ↓if_neg, ↓ite_bI_t, ↓ite_bI_f]
  · rw [if_neg g1]
    by_cases g2 : i < L.length
    · rw [if_pos g2]
      have hv : L[i.toNat]? = some (L.getD i.toNat 0) := by
        rw [List.getD_eq_getElem?_getD, List.getElem?_eq_getElem (by omega)]; rfl
      have ra := fun x : QP => uSB_at (d := d) (x := x) hS hv
      rw [show ((i.toNat : Nat) : Int) = i by omega] at ra
      have hb := (hS.2.2.2.2.2.2.2.2.1 _ _ hv).2
      simp (disch := first | assumption | exact bI_lo | exact bI_hi | exact bI_01 | (show (List.map q_wd _).sum ≤ 8; with_unfolding_all exact Nat.le_of_ble_eq_true rfl) | omega) only [kX12_paper_0, kX12_paper_1, kX12_paper_4, kX12_paper_5, kX12_paper_6, kX12_paper_7, kX12_paper_8, kX12_paper_11E, kX12_paper_14, kX12_paper_17, kX12_paper_18, kX12_paper_21, kX12_paper_22E, kX12_paper_25, kX12_paper_28, kX12_paper_30, q_cut_i, q_cut_r, q_cut_l, q_cut_n, q_psh_n, q_psh_s, bI_eq0, ite_not, ↓if_pos, ↓if_neg, ↓ite_bI_t, ↓ite_bI_f, r5, uSB_len hS, ra]
    · rw [if_neg g2]
      simp (disch := first | assumption | exact bI_lo | exact bI_hi | exact bI_01 | (show (List.map q_wd _).sum ≤ 8; with_unfolding_all exact Nat.le_of_ble_eq_true rfl) | omega) only [kX12_paper_0, kX12_paper_1, kX12_paper_4, kX12_paper_5, kX12_paper_6, kX12_paper_7, kX12_paper_8, kX12_paper_11E, kX12_paper_14, kX12_paper_17, kX12_paper_18, kX12_paper_21, kX12_paper_22E, kX12_paper_25, kX12_paper_28, kX12_paper_30, q_cut_i, q_cut_r, q_cut_l, q_cut_n, q_psh_n, q_psh_s, bI_eq0, ite_not, ↓if_pos, ↓if_neg, ↓ite_bI_t, ↓ite_bI_f, r5, uSB_len hS]
end WRI
