
/-! keepMark, copyOrders -/
section KM2
variable {M : QM} {g : Nat → Nat} {hs lr hc : Int} {ms : List Int} {d : Nat}
theorem vX12_keepMark {v : Int} (hg : gI M g) (hw : q_wf M) (hR : RO M g hs ms.length lr hc) (hM : MK M g ms) : ∃ M', q_C (d + 1) iX12_keepMark [qr (g 0), qi v] M none M' ∧ RO M' g hs (kpM ms v).length lr hc ∧ MK M' g (kpM ms v) ∧ GF (fun s => s = 0 ∨ s = 14) M M' g g ∧ q_qt M M' := by
  have n0 := g_ne hg (s := 0) (t := 14) (by omega) (by omega) (by omega)
  obtain ⟨k0, r0, r1, r2, r3, r4, r5, r6, r7, r8, r9, r10, r11, r12, r13⟩ := id hR
  obtain ⟨m0, m1, m2, m3⟩ := id hM
  have b2 : 2 ≤ (q_kd M (g 14)).1 := by rw [m0]; exact Nat.le_refl 2
  have b9 : (q_kd M (g 14)).1 ≤ 9 := by rw [m0]; exact Nat.le_of_ble_eq_true rfl
  have e5 : ((q_kd M (g 14)).2 : Int) = 6 := by rw [m0]; rfl
  by_cases hl : ms.length = 6
  · obtain ⟨M1, hM1⟩ : ∃ M1, q_cp M (g 14) 1 (g 14) 0 5 = M1 := ⟨_, rfl⟩
    have f1 : GF (fun s => s = 0 ∨ s = 14) M M1 g g := by
      rw [← hM1]
      exact GF_q hg hw (A := fun x => x = g 14) (fun x hx => ⟨14, by omega, Or.inr rfl, hx⟩) (q_fr.cp (Or.inl rfl)) ⟨fun _ => rfl, rfl, ⟨rfl, rfl⟩⟩
    have q1 : q_qt M M1 := by rw [← hM1]; exact ⟨fun _ => rfl, rfl, ⟨rfl, rfl⟩⟩
    obtain ⟨M2, hM2⟩ : ∃ M2, q_wr M1 (g 0) 10 (qi 5) = M2 := ⟨_, rfl⟩
    have f2 : GF (fun s => s = 0 ∨ s = 14) M1 M2 g g := by rw [← hM2]; exact GF_wr f1.2.2.2.1 f1.2.2.2.2 (by omega) (Or.inl rfl)
    have q2 : q_qt M1 M2 := by rw [← hM2]; exact q_qt.wr
    have v0 : ∀ j, q_fv M1 (g 0) j = q_fv M (g 0) j := fun j => by rw [← hM1, q_fv_cpE, if_neg (fun z => n0 z.1)]
    have v14 : ∀ j, q_fv M2 (g 14) j = if j < 5 then q_fv M (g 14) (1 + j) else q_fv M (g 14) j := fun j => by
      rw [← hM2, q_fv_wrE, if_neg (fun z => n0 z.1.symm), ← hM1, q_fv_cpE]
      by_cases e : j < 5
      · rw [if_pos ⟨rfl, by omega, by omega⟩, if_pos e, Nat.sub_zero]
      · rw [if_neg (fun z => by omega), if_neg e]
    have tl : ms.tail.length = 5 := by rw [List.length_tail, hl]
    have k0' : q_kd M1 (g 0) = (1, 12) := by rw [q1.1, k0]
    have m0' : q_kd M1 (g 14) = (2, 6) := by rw [q1.1, m0]
    have hR2 : RO M2 g hs ms.tail.length lr hc := by
      rw [tl, ← hM2]
      exact ⟨k0', q_fwo (by decide) (by rw [v0, r0]), q_fwo (by decide) (by rw [v0, r1]), q_fwo (by decide) (by rw [v0, r2]), q_fwo (by decide) (by rw [v0, r3]), q_fwo (by decide) (by rw [v0, r4]), q_fwo (by decide) (by rw [v0, r5]), q_fwo (by decide) (by rw [v0, r6]), q_fwo (by decide) (by rw [v0, r7]), q_fwo (by decide) (by rw [v0, r8]), q_fwo (by decide) (by rw [v0, r9]), q_fws, q_fwo (by decide) (by rw [v0, r11]), q_fwo (by decide) (by rw [v0, r12]), q_fwo (by decide) (by rw [v0, r13])⟩
    have hM2' : MK M2 g ms.tail := by
      refine ⟨by rw [q2.1, m0'], by omega, fun i w hw => ?_, fun i hi => ?_⟩
      · have il : i < 5 := by
          rcases Nat.lt_or_ge i 5 with z | z
          · exact z
          · rw [List.getElem?_eq_none (by omega)] at hw; simp at hw
        rw [v14, if_pos il]
        rw [List.getElem?_tail] at hw
        rw [show 1 + i = i + 1 by omega]
        exact m2 (i + 1) w hw
      · rw [v14]
        split
        · exact m3 (1 + i) (by omega)
        · exact m3 i hi
    obtain ⟨M3, t1, t2, t3, t4, t5⟩ := km_room (C := q_C d) (v := v) f2.2.2.2.1 f2.2.2.2.2 hR2 hM2' (by omega)
    have ek : kpM ms v = ms.tail ++ [v] := by unfold kpM; rw [if_pos hl]
    have el : (ms.tail ++ [v]).length = ms.tail.length + 1 := by simp
    rw [ek, el]
    refine ⟨M3, C_of (fun P => ?_), t2, t3, (f1.tr f2).tr t4, (q1.tr q2).tr t5⟩
    have t1' := t1 P
    have hac : q_acc M (g 14) (g 14) 1 0 5 = true := by
      unfold q_acc
      rw [Bool.and_eq_true, decide_eq_true_eq, m0]
      refine ⟨⟨rfl, by decide, by decide, by decide, by decide, by decide, by decide, by decide⟩, ?_⟩
      rw [List.all_eq_true]
      intro i hi
      have hi := List.mem_range.mp hi
      have hi : i < 5 := by simpa using hi
      obtain ⟨z, hz⟩ := m3 (1 + i) (by omega)
      show q_elok 2 M (q_fv M (g 14) (1 + i)) = true
      rw [hz]; rfl
    have w9 : q_fv M1 (g 0) 9 = qr (g 14) := by rw [v0, r9]
    have b2' : 2 ≤ (q_kd M1 (g 14)).1 := by rw [m0']; exact Nat.le_refl 2
    have b9' : (q_kd M1 (g 14)).1 ≤ 9 := by rw [m0']; exact Nat.le_of_ble_eq_true rfl
    have e5' : ((q_kd M1 (g 14)).2 : Int) = 6 := by rw [m0']; rfl
    have e65 : (6 : Int) - 1 = 5 := rfl
    rw [eX12_keepMark]
    simp (disch := first | assumption | exact bI_lo | exact bI_hi | exact bI_01 | (show (List.map q_wd _).sum ≤ 8; with_unfolding_all exact Nat.le_of_ble_eq_true rfl) | omega) only [kX12_keepMark_0, kX12_keepMark_1, kX12_keepMark_4, kX12_keepMark_5, kX12_keepMark_8, kX12_keepMark_9, kX12_keepMark_12, kX12_keepMark_13, kX12_keepMark_16, kX12_keepMark_17, kX12_keepMark_18, kX12_keepMark_21, kX12_keepMark_22, kX12_keepMark_23, kX12_keepMark_26, kX12_keepMark_27, kX12_keepMark_28, q_cut_i, q_cut_r, q_cut_l, q_cut_n, q_psh_n, q_psh_s, bI_eq0, ite_not, ↓if_pos, ↓if_neg, ↓ite_bI_t, ↓ite_bI_f, r9, r10, e5, e65]
    rw [kX12_keepMark_29 hac (Nat.le_of_ble_eq_true rfl)]
    show Rr (q_C d) mX12_keepMark (32, _, _, q_cp M (g 14) 1 (g 14) 0 5) P = _
    rw [hM1]
    simp (disch := first | assumption | exact bI_lo | exact bI_hi | exact bI_01 | (show (List.map q_wd _).sum ≤ 8; with_unfolding_all exact Nat.le_of_ble_eq_true rfl) | omega) only [kX12_keepMark_32, kX12_keepMark_33, kX12_keepMark_34, kX12_keepMark_37, kX12_keepMark_38, kX12_keepMark_39, kX12_keepMark_40, q_cut_i, q_cut_r, q_cut_l, q_cut_n, q_psh_n, q_psh_s, bI_eq0, ite_not, w9, e5', e65, hM2]
    exact t1'
  · obtain ⟨M3, t1, t2, t3, t4, t5⟩ := km_room (C := q_C d) (v := v) hg hw hR hM (by omega)
    have ek : kpM ms v = ms ++ [v] := by unfold kpM; rw [if_neg hl]
    have el : (ms ++ [v]).length = ms.length + 1 := by simp
    rw [ek, el]
    refine ⟨M3, C_of (fun P => ?_), t2, t3, t4, t5⟩
    have t1' := t1 P
    rw [eX12_keepMark]
    simp (disch := first | assumption | exact bI_lo | exact bI_hi | exact bI_01 | (show (List.map q_wd _).sum ≤ 8; with_unfolding_all exact Nat.le_of_ble_eq_true rfl) | omega) only [kX12_keepMark_0, kX12_keepMark_1, kX12_keepMark_4, kX12_keepMark_5, kX12_keepMark_8, kX12_keepMark_9, kX12_keepMark_12, kX12_keepMark_13, kX12_keepMark_16, kX12_keepMark_17, kX12_keepMark_18, kX12_keepMark_21, kX12_keepMark_22, kX12_keepMark_23, kX12_keepMark_26, kX12_keepMark_27, kX12_keepMark_28, q_cut_i, q_cut_r, q_cut_l, q_cut_n, q_psh_n, q_psh_s, bI_eq0, ite_not, ↓if_pos, ↓if_neg, ↓ite_bI_t, ↓ite_bI_f, r9, r10, e5]
    exact t1'
end KM2
section CPO
variable {M : QM} {d : Nat}
theorem vX12_copyOrders {a1 e1 c1 a2 e2 c2 : Nat} {L1 L2 : List Nat} {J1 J2 : List Od} (hw : q_wf M) (h0 : q_kd M (q_gs M 0) = (9, 0)) (h1 : JR M a1 e1 c1 L1 J1) (h2 : JR M a2 e2 c2 L2 J2) (hn : a1 ≠ a2) (he : e1 ≠ e2 ∨ c1 = 0 ∨ c2 = 0) (hl : J1.length ≤ 2000) : ∃ M' e2' c2', q_C (d + 7) iX12_copyOrders [qr a1, qr a2] M none M' ∧ JR M' a1 e1 c1 L1 J1 ∧ JR M' a2 e2' c2' L1 J1 ∧ (e1 ≠ e2' ∨ c1 = 0 ∨ c2' = 0) ∧ q_fr (fun x => x = a2 ∨ (x = e2 ∧ 0 < c2)) M M' ∧ q_wf M' ∧ q_gr M M' c2 c2' ∧ ((e2' = e2 ∧ c2' = c2) ∨ q_top M ≤ e2') := by
  have na1e : a1 ≠ e2 := q_neK h1.1.1 h2.1.2.2.2.2.1 ALk_n1
  have A1ok : ∀ A, q_fr (fun x => x = a2 ∨ (x = e2 ∧ 0 < c2)) M A → JR A a1 e1 c1 L1 J1 := by
    intro A hf
    refine JR_fr hw h1 hf ?_ (fun hc => ?_) (fun b hb => ?_)
    · rintro (z | z)
      · exact hn z
      · exact na1e z.1
    · rintro (z | z)
      · exact (q_neK h2.1.1 h1.1.2.2.2.2.1 ALk_n1) z.symm
      · have := z.1; have := z.2; omega
    · rintro (z | z)
      · rw [z, h2.1.1] at hb; simp at hb
      · rw [z.1, h2.1.2.2.2.2.1] at hb; exact ALk_n1 hb.symm
  obtain ⟨M1, r1, r2, r3, r4⟩ := vAL_clear (d := d + 5) hw h2.1
  have hJ0 : JR M1 a2 e2 c2 (L1.take 0) (J1.take 0) := ⟨by rw [List.take_zero]; exact r2, rfl, fun i v q hv => by rw [List.take_zero] at hv; simp at hv⟩
  have loop : ∀ (m i : Nat) (A : QM) (e c : Nat), i + m = L1.length → JR A a2 e c (L1.take i) (J1.take i) → q_fr (fun x => x = a2 ∨ (x = e2 ∧ 0 < c2)) M A → q_wf A → q_gr M A c2 c → ((e = e2 ∧ c = c2) ∨ q_top M ≤ e) → ∃ B e' c', (∀ P, Rr (q_C (d + 6)) mX12_copyOrders (6, [some (qr a1), some (qr a2), some (qi i)], [], A) P = P none B) ∧ JR B a2 e' c' L1 J1 ∧ q_fr (fun x => x = a2 ∨ (x = e2 ∧ 0 < c2)) M B ∧ q_wf B ∧ q_gr M B c2 c' ∧ ((e' = e2 ∧ c' = c2) ∨ q_top M ≤ e') := by
    intro m
    induction m with
    | zero =>
      intro i A e c hm hA hf hwA hG hd
      have k1 := (A1ok A hf).1.1
      have ll := h1.2.1
      refine ⟨A, e, c, fun P => ?_, ?_, hf, hwA, hG, hd⟩
      · rw [kX12_copyOrders_6]
        simp (disch := first | assumption | exact bI_lo | exact bI_hi | exact bI_01 | (show (List.map q_wd _).sum ≤ 8; with_unfolding_all exact Nat.le_of_ble_eq_true rfl) | omega) only [kX12_copyOrders_7, kX12_copyOrders_8E, kX12_copyOrders_11, kX12_copyOrders_14, kX12_copyOrders_15, kX12_copyOrders_16, kX12_copyOrders_17E, kX12_copyOrders_20n, kX12_copyOrders_20r, kX12_copyOrders_23E, kX12_copyOrders_26i, kX12_copyOrders_26r, kX12_copyOrders_27, kX12_copyOrders_30, kX12_copyOrders_33, q_cut_i, q_cut_r, q_cut_l, q_cut_n, q_psh_n, q_psh_s, bI_eq0, ite_not, ↓if_pos, ↓if_neg, ↓ite_bI_t, ↓ite_bI_f, uAL_size (A1ok A hf).1]
      · rw [List.take_of_length_le (by omega), List.take_of_length_le (by omega)] at hA
        exact hA
    | succ m ih =>
      intro i A e c hm hA hf hwA hG hd
      have hA1 := A1ok A hf
      have k1 := hA1.1.1
      have k2 := hA.1.1
      have ll := h1.2.1
      have iJ : i < J1.length := by omega
      have hq : J1[i]? = some J1[i] := List.getElem?_eq_getElem iJ
      obtain ⟨v, hv, ho, hr⟩ := JR_o hA1 hq
      have h0A : q_kd A (q_gs A 0) = (9, 0) := by rw [hf.2.1, hf.2.2.1 _ (hw.lt (by rw [h0]; simp)), h0]
      obtain ⟨B, e', c', s1, s2, s3, s4, s5, s6⟩ := vAL_add (d := d) hwA hA.1 h0A (by rw [List.length_take]; omega) ho.1
      have hB : JR B a2 e' c' (L1.take i ++ [v]) (J1.take i ++ [J1[i]]) := JR_push hA s2 (fun b hb => by
        refine Sm_fr s3 (hwA.lt (by rw [hb]; simp)) ?_
        rintro (z | z)
        · rw [z, hA.1.1] at hb; simp at hb
        · rw [z.1, hA.1.2.2.2.2.1] at hb; exact ALk_n1 hb.symm) ho hr
      rw [← List.take_succ_eq_append_getElem iJ] at hB
      have tk : L1.take i ++ [v] = L1.take (i + 1) := by
        have hvl : i < L1.length := by omega
        have : v = L1[i] := by rw [List.getElem?_eq_getElem hvl] at hv; exact (Option.some.inj hv).symm
        rw [List.take_succ_eq_append_getElem hvl, this]
      rw [tk] at hB
      have hf2 : q_fr (fun x => x = a2 ∨ (x = e2 ∧ 0 < c2)) M B := by
        refine hf.tr2 s3 (fun x hx z => ?_)
        rcases z with z | z
        · exact Or.inl z
        · rcases hd with y | y
          · exact Or.inr ⟨z.1.trans y.1, by have := z.2; have := y.2; omega⟩
          · have := z.1; omega
      have hd2 : (e' = e2 ∧ c' = c2) ∨ q_top M ≤ e' := by
        rcases s6 with z | z
        · rcases hd with y | y
          · exact Or.inl ⟨z.1.trans y.1, z.2.trans y.2⟩
          · right; rw [z.1]; exact y
        · right; have := hf.1; omega
      obtain ⟨B2, e3, c3, t1, t2⟩ := ih (i + 1) B e' c' (by omega) hB hf2 s4 (hG.tr s5) hd2
      refine ⟨B2, e3, c3, fun P => ?_, t2⟩
      have t1' := t1 P
      rw [show ((i + 1 : Nat) : Int) = (i : Int) + 1 by omega] at t1'
      have kv := ho.1
      have rg := fun x : QP => uAL_get (d := d + 3) (x := x) hA1.1 hv
      rw [kX12_copyOrders_6]
      simp (disch := first | assumption | exact bI_lo | exact bI_hi | exact bI_01 | (show (List.map q_wd _).sum ≤ 8; with_unfolding_all exact Nat.le_of_ble_eq_true rfl) | omega) only [kX12_copyOrders_7, kX12_copyOrders_8E, kX12_copyOrders_11, kX12_copyOrders_14, kX12_copyOrders_15, kX12_copyOrders_16, kX12_copyOrders_17E, kX12_copyOrders_20n, kX12_copyOrders_20r, kX12_copyOrders_23E, kX12_copyOrders_26i, kX12_copyOrders_26r, kX12_copyOrders_27, kX12_copyOrders_30, kX12_copyOrders_33, q_cut_i, q_cut_r, q_cut_l, q_cut_n, q_psh_n, q_psh_s, bI_eq0, ite_not, ↓if_pos, ↓if_neg, ↓ite_bI_t, ↓ite_bI_f, uAL_size hA1.1, rg, T_of s1]
      exact t1'
  obtain ⟨B, e', c', t1, t2, t3, t4, t5, t6⟩ := loop L1.length 0 M1 e2 c2 (by omega) hJ0 r3 (hw.qt r4) (q_gr.rf r4) (Or.inl ⟨rfl, rfl⟩)
  refine ⟨B, e', c', C_of (fun P => ?_), A1ok B t3, t2, ?_, t3, t4, t5, t6⟩
  · have t1' := t1 P
    have k2 := h2.1.1
    rw [eX12_copyOrders]
    simp (disch := first | assumption | exact bI_lo | exact bI_hi | exact bI_01 | (show (List.map q_wd _).sum ≤ 8; with_unfolding_all exact Nat.le_of_ble_eq_true rfl) | omega) only [kX12_copyOrders_0, kX12_copyOrders_1E, kX12_copyOrders_4, kX12_copyOrders_5, q_cut_i, q_cut_r, q_cut_l, q_cut_n, q_psh_n, q_psh_s, bI_eq0, ite_not, T_of r1]
    exact t1'
  · have el : e1 < q_top M := hw.lt (by rw [h1.1.2.2.2.2.1]; exact ALk_n0)
    rcases t6 with z | z
    · rw [z.1, z.2]; exact he
    · left; omega
end CPO
