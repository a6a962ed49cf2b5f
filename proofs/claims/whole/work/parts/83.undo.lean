
/-! image, undo, changed, sought, longest -/
section UND
variable {M : QM} {g cN cT c : Nat → Nat} {e1 c1 e2 c2 : Nat} {L1 L2 : List Nat} {C : CWs} {J J2 : List Od} {ms : List Int} {hs lr hc : Int} {d : Nat} {x : QP}
theorem vX12_image (h : CRI M g cN cT c e1 c1 L1 e2 c2 L2 C J J2 ms hs lr hc) (hl : J.length ≤ 2000) : ∃ M' e2' c2', q_C (d + 8) iX12_image [qr (g 0)] M (some (qi (cn C))) M' ∧ CRI M' g cN cT c e1 c1 L1 e2' c2' L1 C J J ms 1 lr hc ∧ q_fr (fun x => x = g 0 ∨ x = g 13 ∨ (x = e2 ∧ 0 < c2)) M M' ∧ q_gr M M' c2 c2' ∧ ((e2' = e2 ∧ c2' = c2) ∨ q_top M ≤ e2') := by
  obtain ⟨hg, hw, hk, h0, hR, hM, hC, hJ, hJ2, hd⟩ := id h
  have n12 := g_ne hg (s := 12) (t := 13) (by omega) (by omega) (by omega)
  obtain ⟨M2, e', c', t1, t2, t3, t4, t5, t6, t7, t8⟩ := vX12_copyOrders (d := d) hw h0 hJ hJ2 n12 hd hl
  have h2 := CRI_s h t5 t6 t2 t3 t4
  obtain ⟨h3, f3⟩ := CRI_hs (v := 1) h2
  refine ⟨_, e', c', C_of (fun P => ?_), h3, (t5.wk (fun x _ z => Or.inr z)).tr (f3.wk (fun x _ z => Or.inl z)), t7.tr (q_gr.rf q_qt.wr), t8⟩
  obtain ⟨k0, r0, r1, r2, r3, r4, r5, r6, r7, r8, r9, r10, r11, r12, r13⟩ := id hR
  obtain ⟨y0, -, -, y2, -⟩ := id h2.2.2.2.2.1
  have w2 : q_fv (q_wr M2 (g 0) 8 (qi 1)) (g 0) 2 = qr (g 16) := q_fwo (by decide) y2
  have kw : q_kd (q_wr M2 (g 0) 8 (qi 1)) (g 16) = (1, 11) := h3.2.2.2.2.2.2.1.1.1.1
  have sz := fun x : QP => uX11_size (d := d + 6) (x := x) h3.2.2.2.2.2.2.1.1.1
  rw [eX12_image]
  simp (disch := first | assumption | exact bI_lo | exact bI_hi | exact bI_01 | (show (List.map q_wd _).sum ≤ 8; with_unfolding_all exact Nat.le_of_ble_eq_true rfl) | omega | (simp only [q_kd_wr]; assumption)) only [kX12_image_0, kX12_image_1, kX12_image_4, kX12_image_5, kX12_image_8E, kX12_image_11, kX12_image_12, kX12_image_13, kX12_image_16, kX12_image_17, kX12_image_20E, kX12_image_23, q_cut_i, q_cut_r, q_cut_l, q_cut_n, q_psh_n, q_psh_s, bI_eq0, ite_not, r6, r7, T_of t1, w2, sz]
theorem uX12_undoN (h : CRI M g cN cT c e1 c1 L1 e2 c2 L2 C J J2 ms hs lr hc) (hn : hs = 0) : q_T (d + 1) iX12_undo [qr (g 0)] M x = x (some (qi (-3))) M := by
  obtain ⟨hg, hw, hk, h0, hR, hM, hC, hJ, hJ2, hd⟩ := h
  obtain ⟨k0, r0, r1, r2, r3, r4, r5, r6, r7, r8, r9, r10, r11, r12, r13⟩ := id hR
  rw [eX12_undo]
  simp (disch := first | assumption | exact bI_lo | exact bI_hi | exact bI_01 | (show (List.map q_wd _).sum ≤ 8; with_unfolding_all exact Nat.le_of_ble_eq_true rfl) | omega) only [kX12_undo_0, kX12_undo_1, kX12_undo_4, kX12_undo_7, kX12_undo_9, kX12_undo_10, kX12_undo_11, kX12_undo_14, kX12_undo_15, kX12_undo_18E, kX12_undo_21, kX12_undo_22, kX12_undo_23, kX12_undo_26, kX12_undo_27E, kX12_undo_30, kX12_undo_31, kX12_undo_34E, kX12_undo_37, q_cut_i, q_cut_r, q_cut_l, q_cut_n, q_psh_n, q_psh_s, bI_eq0, ite_not, ↓if_pos, ↓if_neg, ↓ite_bI_t, ↓ite_bI_f, r8]
theorem vX12_undoY (h : CRI M g cN cT c e1 c1 L1 e2 c2 L2 C J J2 ms hs lr hc) (hn : hs = 1) (hl : J2.length ≤ 2000) (hok : jOk C J2) : ∃ M' g' cN' cT' c' e1' c1', q_C (d + 8) iX12_undo [qr (g 0)] M (some (qi (cn (cRun (clrC C) J2)))) M' ∧ CRI M' g' cN' cT' c' e1' c1' L2 e2 c2 L2 (cRun (clrC C) J2) J2 J2 [] hs lr hc ∧ q_fr (tFr g e1 c1) M M' ∧ gE M g g' e1 c1 e1' c1' ∧ q_gr M M' (c1 + poS cN cT c) (c1' + poS cN' cT' c') := by
  obtain ⟨hg, hw, hk, h0, hR, hM, hC, hJ, hJ2, hd⟩ := id h
  have n12 := g_ne hg (s := 13) (t := 12) (by omega) (by omega) (by omega)
  obtain ⟨M1, e', c', t1, t2, t3, t4, t5, t6, t7, t8⟩ := vX12_copyOrders (d := d) hw h0 hJ2 hJ n12 (by omega) hl
  have h1 := CRI_j h t5 t6 t3 (by omega)
  obtain ⟨h2, f2⟩ := CRI_ch (k := 0) h1 (Nat.zero_le _)
  obtain ⟨M2, hM2⟩ : ∃ M2, q_wr M1 (g 0) 10 (qi (0 : Nat)) = M2 := ⟨_, rfl⟩
  have q2 : q_qt M1 M2 := by rw [← hM2]; exact q_qt.wr
  rw [hM2] at h2 f2
  obtain ⟨hg2, hw2, hk2, h02, hR2, hMK2, hC2, hJ2', hJ22, hd2⟩ := id h2
  obtain ⟨M3, g3, cN3, cT3, c3, s3, C3, f3, i3, r3⟩ := vX12_tellAgain (d := d + 1) hg2 hw2 ⟨hR2.1, hR2.2.2.2.1, hR2.2.2.2.2.2.2.2.1⟩ hC2 hJ2' hl hok
  have h3 := CRI_c h2 f3 i3 C3
  have fx : q_fr (tFr g e' c') M1 M2 := f2
  have f2' : q_fr (tFr g e1 c1) M1 M2 := by rw [← hM2]; exact q_fr.wr (Or.inl ⟨0, by omega, Or.inl rfl, rfl⟩)
  refine ⟨M3, g3, cN3, cT3, c3, e', c', C_of (fun P => ?_), h3, ((fr_jr t5).tr f2').tr (fr_car f3), ⟨⟨i3, fun s hs => (f3.2.2.1 s hs).imp_right (fun z => Nat.le_trans ((fr_jr t5).tr f2').1 z)⟩, t8⟩, ?_⟩
  · obtain ⟨k0, r0, r1, r2, r3, r4, r5, r6, r7, r8, r9, r10, r11, r12, r13⟩ := id hR
    obtain ⟨y0, -⟩ := id h1.2.2.2.2.1
    obtain ⟨z0, -⟩ := id hR2
    have h3R := h3.2.2.2.2.1
    have i0 := i3 0 (by omega)
    have i16 := i3 16 (by omega)
    have w2 : q_fv M3 (g 0) 2 = qr (g 16) := by have := h3R.2.2.2.1; rw [i0, i16] at this; exact this
    have w0 : q_kd M3 (g 0) = (1, 12) := by have := h3R.1; rw [i0] at this; exact this
    have kw : q_kd M3 (g 16) = (1, 11) := by have := C3.1.1.1; rw [i16] at this; exact this
    have sz := fun x : QP => uX11_size (d := d + 6) (x := x) C3.1.1
    rw [i16] at sz
    have e0 : qi ((0 : Nat) : Int) = qi 0 := rfl
    rw [e0] at hM2
    rw [eX12_undo]
    simp (disch := first | assumption | exact bI_lo | exact bI_hi | exact bI_01 | (show (List.map q_wd _).sum ≤ 8; with_unfolding_all exact Nat.le_of_ble_eq_true rfl) | omega) only [kX12_undo_0, kX12_undo_1, kX12_undo_4, kX12_undo_7, kX12_undo_9, kX12_undo_10, kX12_undo_11, kX12_undo_14, kX12_undo_15, kX12_undo_18E, kX12_undo_21, kX12_undo_22, kX12_undo_23, kX12_undo_26, kX12_undo_27E, kX12_undo_30, kX12_undo_31, kX12_undo_34E, kX12_undo_37, q_cut_i, q_cut_r, q_cut_l, q_cut_n, q_psh_n, q_psh_s, bI_eq0, ite_not, ↓if_pos, ↓if_neg, ↓ite_bI_t, ↓ite_bI_f, r8, r6, r7, T_of t1, hM2, T_of s3, w2, sz]
  · have a2 := q_gr.rf (cap := 0) q2
    obtain ⟨p1, p2, p3⟩ := t7
    obtain ⟨p4, p5, p6⟩ := a2
    obtain ⟨p7, p8, p9⟩ := r3
    unfold poS
    refine ⟨?_, ?_, ?_⟩ <;> omega
end UND
def cCh (W : Nat → Pl) (y z : Int) (p : Nat) : Bool := plDf (W p) y z
theorem uX12_changed {d : Nat} {M : QM} {x : QP} {g cN cT : Nat → Nat} {W : Nat → Pl} {n : Nat} {hs ch lr hc : Int} (hR : RO M g hs ch lr hc) (hW : WRd M (g 16) (g 17) (gA g) cN cT W n) {y z : Int} (h1 : -2147483648 ≤ y) (h2 : y < 2147483648) (h3 : -2147483648 ≤ z) (h4 : z < 2147483648) : q_T (d + 5) iX12_changed [qr (g 0), qi y, qi z] M x = x (some (qi (if ¬ (0 ≤ y ∧ y < 10000) ∨ ¬ (0 ≤ z ∧ z < 10000) then -2 else (bSet (cCh W y z) n : Nat)))) M := by
  obtain ⟨k0, r0, r1, r2, r3, r4, r5, r6, r7, r8, r9, r10, r11, r12, r13⟩ := id hR
  have kw := hW.1
  have n20 := WRd_n hW
  rw [eX12_changed]
  by_cases g1 : 0 ≤ y ∧ y < 10000
  · by_cases g2 : 0 ≤ z ∧ z < 10000
    · rw [if_neg (by omega)]
      have loop : ∀ n1 k : Nat, k + n1 = n → ∀ l5, Rr (q_C (d + 4)) mX12_changed (22, [some (qr (g 0)), some (qi y), some (qi z), some (qi (bSet (cCh W y z) k : Nat)), some (qi k), l5], [], M) x = x (some (qi (bSet (cCh W y z) n : Nat))) M := by
        intro n1
        induction n1 with
        | zero =>
          intro k hk l5
          have e : k = n := by omega
          subst e
          rw [kX12_changed_22]
          simp (disch := first | assumption | exact bI_lo | exact bI_hi | exact bI_01 | (show (List.map q_wd _).sum ≤ 8; with_unfolding_all exact Nat.le_of_ble_eq_true rfl) | omega) only [kX12_changed_0, kX12_changed_1E, kX12_changed_4, kX12_changed_7, kX12_changed_8E, kX12_changed_11, kX12_changed_14, kX12_changed_16, kX12_changed_17, kX12_changed_18, kX12_changed_19, kX12_changed_20, kX12_changed_24, kX12_changed_25, kX12_changed_28E, kX12_changed_31, kX12_changed_34, kX12_changed_35, kX12_changed_38, kX12_changed_40E, kX12_changed_43, kX12_changed_45, kX12_changed_47r, kX12_changed_47n, kX12_changed_50, kX12_changed_52, kX12_changed_53, kX12_changed_54E, kX12_changed_57, kX12_changed_60, kX12_changed_61, kX12_changed_62, kX12_changed_64, kX12_changed_65, kX12_changed_66, kX12_changed_67, kX12_changed_70, kX12_changed_73, kX12_changed_74, q_cut_i, q_cut_r, q_cut_l, q_cut_n, q_psh_n, q_psh_s, bI_eq0, ite_not, ↓if_pos, ↓if_neg, ↓ite_bI_t, ↓ite_bI_f, r2, uX11_size hW]
        | succ n1 ih =>
          intro k hk l5
          have hp := (hW.2.2.2.2.2 k (by omega)).2
          have hpy := fun x : QP => uX11_placeY (d := d + 3) (x := x) hW (p := k) (by omega) (by omega)
          rw [q_toN] at hpy
          have en : ((k : Int) + 1) = ((k + 1 : Nat) : Int) := by omega
          have ih' := ih (k + 1) (by omega) (some (qr (gA g k 0)))
          rw [← en] at ih'
          rw [kX12_changed_22]
          by_cases gF : plDf (W k) y z = true
          · rw [← y_set1 (f := cCh W y z) (by omega) gF] at ih'
            simp (disch := first | assumption | exact PLr_0 hp | exact PLr_k1 hp | exact PLr_k4 hp | exact PLr_k7 hp | exact bI_lo | exact bI_hi | exact bI_01 | (show (List.map q_wd _).sum ≤ 8; with_unfolding_all exact Nat.le_of_ble_eq_true rfl) | omega) only [kX12_changed_0, kX12_changed_1E, kX12_changed_4, kX12_changed_7, kX12_changed_8E, kX12_changed_11, kX12_changed_14, kX12_changed_16, kX12_changed_17, kX12_changed_18, kX12_changed_19, kX12_changed_20, kX12_changed_24, kX12_changed_25, kX12_changed_28E, kX12_changed_31, kX12_changed_34, kX12_changed_35, kX12_changed_38, kX12_changed_40E, kX12_changed_43, kX12_changed_45, kX12_changed_47r, kX12_changed_47n, kX12_changed_50, kX12_changed_52, kX12_changed_53, kX12_changed_54E, kX12_changed_57, kX12_changed_60, kX12_changed_61, kX12_changed_62, kX12_changed_64, kX12_changed_65, kX12_changed_66, kX12_changed_67, kX12_changed_70, kX12_changed_73, kX12_changed_74, q_cut_i, q_cut_r, q_cut_l, q_cut_n, q_psh_n, q_psh_s, bI_eq0, ite_not, ↓if_pos, ↓if_neg, ↓ite_bI_t, ↓ite_bI_f, r2, uX11_size hW, hpy, uX4_differsOn hp]
            exact ih'
          · rw [y_setN (f := cCh W y z) gF] at ih'
            simp (disch := first | assumption | exact PLr_0 hp | exact PLr_k1 hp | exact PLr_k4 hp | exact PLr_k7 hp | exact bI_lo | exact bI_hi | exact bI_01 | (show (List.map q_wd _).sum ≤ 8; with_unfolding_all exact Nat.le_of_ble_eq_true rfl) | omega) only [kX12_changed_0, kX12_changed_1E, kX12_changed_4, kX12_changed_7, kX12_changed_8E, kX12_changed_11, kX12_changed_14, kX12_changed_16, kX12_changed_17, kX12_changed_18, kX12_changed_19, kX12_changed_20, kX12_changed_24, kX12_changed_25, kX12_changed_28E, kX12_changed_31, kX12_changed_34, kX12_changed_35, kX12_changed_38, kX12_changed_40E, kX12_changed_43, kX12_changed_45, kX12_changed_47r, kX12_changed_47n, kX12_changed_50, kX12_changed_52, kX12_changed_53, kX12_changed_54E, kX12_changed_57, kX12_changed_60, kX12_changed_61, kX12_changed_62, kX12_changed_64, kX12_changed_65, kX12_changed_66, kX12_changed_67, kX12_changed_70, kX12_changed_73, kX12_changed_74, q_cut_i, q_cut_r, q_cut_l, q_cut_n, q_psh_n, q_psh_s, bI_eq0, ite_not, ↓if_pos, ↓if_neg, ↓ite_bI_t, ↓ite_bI_f, r2, uX11_size hW, hpy, uX4_differsOn hp]
            exact ih'
      simp (disch := first | assumption | exact bI_lo | exact bI_hi | exact bI_01 | (show (List.map q_wd _).sum ≤ 8; with_unfolding_all exact Nat.le_of_ble_eq_true rfl) | omega) only [kX12_changed_0, kX12_changed_1E, kX12_changed_4, kX12_changed_7, kX12_changed_8E, kX12_changed_11, kX12_changed_14, kX12_changed_16, kX12_changed_17, kX12_changed_18, kX12_changed_19, kX12_changed_20, q_cut_i, q_cut_r, q_cut_l, q_cut_n, q_psh_n, q_psh_s, bI_eq0, ite_not, ↓if_pos, ↓if_neg, ↓ite_bI_t, ↓ite_bI_f, uX12_isDay]
      exact loop n 0 (by omega) none
    · rw [if_pos (Or.inr g2)]
      simp (disch := first | assumption | exact bI_lo | exact bI_hi | exact bI_01 | (show (List.map q_wd _).sum ≤ 8; with_unfolding_all exact Nat.le_of_ble_eq_true rfl) | omega) only [kX12_changed_0, kX12_changed_1E, kX12_changed_4, kX12_changed_7, kX12_changed_8E, kX12_changed_11, kX12_changed_14, kX12_changed_16, kX12_changed_17, kX12_changed_18, kX12_changed_19, kX12_changed_20, q_cut_i, q_cut_r, q_cut_l, q_cut_n, q_psh_n, q_psh_s, bI_eq0, ite_not, ↓if_pos, ↓if_neg, ↓ite_bI_t, ↓ite_bI_f, uX12_isDay]
  · rw [if_pos (Or.inl g1)]
    simp (disch := first | assumption | exact bI_lo | exact bI_hi | exact bI_01 | (show (List.map q_wd _).sum ≤ 8; with_unfolding_all exact Nat.le_of_ble_eq_true rfl) | omega) only [kX12_changed_0, kX12_changed_1E, kX12_changed_4, kX12_changed_7, kX12_changed_8E, kX12_changed_11, kX12_changed_14, kX12_changed_16, kX12_changed_17, kX12_changed_18, kX12_changed_19, kX12_changed_20, q_cut_i, q_cut_r, q_cut_l, q_cut_n, q_psh_n, q_psh_s, bI_eq0, ite_not, ↓if_pos, ↓if_neg, ↓ite_bI_t, ↓ite_bI_f, uX12_isDay]
