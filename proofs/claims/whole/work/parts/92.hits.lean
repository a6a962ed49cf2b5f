
/-! keepHits -/
def kHc (W : Nat → Pl) (w y wt : Int) (k : Nat) (h : List Nat) : Bool := plEx (W k) y && (decide (h.length < 20) && decide (spF w.toNat (nmAt (plN (W k)) y).toNat (wdLen w.toNat 8) (wdLen (nmAt (plN (W k)) y).toNat 8) = wt))
theorem kHc_i {W : Nat → Pl} {w y wt : Int} {k : Nat} {h : List Nat} : kHc W w y wt k h = true ↔ plEx (W k) y = true ∧ h.length < 20 ∧ spF w.toNat (nmAt (plN (W k)) y).toNat (wdLen w.toNat 8) (wdLen (nmAt (plN (W k)) y).toNat 8) = wt := by
  unfold kHc
  rw [Bool.and_eq_true, Bool.and_eq_true, decide_eq_true_eq, decide_eq_true_eq]
def kH (W : Nat → Pl) (w y wt : Int) (hl : List Nat) : Nat → List Nat
  | 0 => hl
  | k + 1 => if kHc W w y wt k (kH W w y wt hl k) = true then kH W w y wt hl k ++ [k] else kH W w y wt hl k
section HIT
variable {M : QM} {g cN cT c : Nat → Nat} {e1 c1 e2 c2 : Nat} {L1 L2 : List Nat} {C : CWs} {J J2 : List Od} {ms : List Int} {hs lr : Int} {d : Nat}
theorem vX12_keepHits {w y wt : Int} {hl : List Nat} {f : Nat → Int} (h : CRI M g cN cT c e1 c1 L1 e2 c2 L2 C J J2 ms hs lr hl.length) (hH : HT M g hl) (hS : SPm M (g 5) (g 6) f) (hw0 : 0 ≤ w) (hw1 : w < 2 ^ 40) (hy : q_i32 y) (ht : q_i32 wt) : ∃ M' f', q_C (d + 5) iX12_keepHits [qr (g 0), ql w, qi y, qi wt] M none M' ∧ CRI M' g cN cT c e1 c1 L1 e2 c2 L2 C J J2 ms hs lr (kH (cW C) w y wt hl (cn C)).length ∧ HT M' g (kH (cW C) w y wt hl (cn C)) ∧ SPm M' (g 5) (g 6) f' ∧ q_fr (fun x => x = g 0 ∨ x = g 6 ∨ x = g 15) M M' ∧ q_qt M M' := by
  obtain ⟨y1, y2⟩ := hy
  obtain ⟨t1, t2⟩ := ht
  have hg := h.1
  have n06 := g_ne hg (s := 0) (t := 6) (by omega) (by omega) (by omega)
  have n015 := g_ne hg (s := 0) (t := 15) (by omega) (by omega) (by omega)
  have n56 := g_ne hg (s := 5) (t := 6) (by omega) (by omega) (by omega)
  have n515 := g_ne hg (s := 5) (t := 15) (by omega) (by omega) (by omega)
  have n05 := g_ne hg (s := 0) (t := 5) (by omega) (by omega) (by omega)
  have n615 := g_ne hg (s := 6) (t := 15) (by omega) (by omega) (by omega)
  have loop : ∀ (m k : Nat) (A : QM) (f : Nat → Int) (l6 : Option CV), k + m = cn C → CRI A g cN cT c e1 c1 L1 e2 c2 L2 C J J2 ms hs lr (kH (cW C) w y wt hl k).length → HT A g (kH (cW C) w y wt hl k) → SPm A (g 5) (g 6) f → q_fr (fun x => x = g 0 ∨ x = g 6 ∨ x = g 15) M A → q_qt M A → ∃ B f', (∀ P, Rr (q_C (d + 4)) mX12_keepHits (3, [some (qr (g 0)), some (ql w), none, some (qi y), some (qi wt), some (qi k), l6], [], A) P = P none B) ∧ CRI B g cN cT c e1 c1 L1 e2 c2 L2 C J J2 ms hs lr (kH (cW C) w y wt hl (cn C)).length ∧ HT B g (kH (cW C) w y wt hl (cn C)) ∧ SPm B (g 5) (g 6) f' ∧ q_fr (fun x => x = g 0 ∨ x = g 6 ∨ x = g 15) M B ∧ q_qt M B := by
    intro m
    induction m with
    | zero =>
      intro k A f l6 hm hA hHA hSA hF hQ
      have e : k = cn C := by omega
      obtain ⟨hg', hw', hk, h0, hR, hM, hC, hJ, hJ2, hd⟩ := id hA
      obtain ⟨k0, r0, r1, r2, r3, r4, r5, r6, r7, r8, r9, r10, r11, r12, r13⟩ := id hR
      have kw := hC.1.1.1
      have n20 := hC.1.1.2.2.2.1
      have sz := fun x : QP => uX11_size (d := d + 3) (x := x) hC.1.1
      refine ⟨A, f, fun P => ?_, by rw [← e]; exact hA, by rw [← e]; exact hHA, hSA, hF, hQ⟩
      rw [kX12_keepHits_3]
      simp (disch := first | assumption | exact bI_lo | exact bI_hi | exact bI_01 | (show (List.map q_wd _).sum ≤ 8; with_unfolding_all exact Nat.le_of_ble_eq_true rfl) | omega) only [kX12_keepHits_5, kX12_keepHits_6, kX12_keepHits_9E, kX12_keepHits_12, kX12_keepHits_15, kX12_keepHits_16, kX12_keepHits_19, kX12_keepHits_21E, kX12_keepHits_24, kX12_keepHits_26, kX12_keepHits_28r, kX12_keepHits_28n, kX12_keepHits_31, kX12_keepHits_33, kX12_keepHits_34E, kX12_keepHits_37, kX12_keepHits_40, kX12_keepHits_41, kX12_keepHits_44, kX12_keepHits_45, kX12_keepHits_48, kX12_keepHits_49, kX12_keepHits_52, kX12_keepHits_55, kX12_keepHits_56, kX12_keepHits_59, kX12_keepHits_60, kX12_keepHits_62, kX12_keepHits_65, kX12_keepHits_66E, kX12_keepHits_69E, kX12_keepHits_72, kX12_keepHits_74, kX12_keepHits_77, kX12_keepHits_78, kX12_keepHits_81, kX12_keepHits_82, kX12_keepHits_85, kX12_keepHits_87, kX12_keepHits_88, kX12_keepHits_89i, kX12_keepHits_89r, kX12_keepHits_90, kX12_keepHits_93, kX12_keepHits_94, kX12_keepHits_95, kX12_keepHits_98, kX12_keepHits_101, kX12_keepHits_104, q_cut_i, q_cut_r, q_cut_l, q_cut_n, q_psh_n, q_psh_s, bI_eq0, ite_not, ↓if_pos, ↓if_neg, ↓ite_bI_t, ↓ite_bI_f, r2, sz]
    | succ m ih =>
      intro k A f l6 hm hA hHA hSA hF hQ
      obtain ⟨hg', hw', hk, h0, hR, hM, hC, hJ, hJ2, hd⟩ := id hA
      obtain ⟨k0, r0, r1, r2, r3, r4, r5, r6, r7, r8, r9, r10, r11, r12, r13⟩ := id hR
      have kw := hC.1.1.1
      have n20 := hC.1.1.2.2.2.1
      have sz := fun x : QP => uX11_size (d := d + 3) (x := x) hC.1.1
      have hp := (hC.1.1.2.2.2.2.2 k (by omega)).2
      have hpy := fun z : QP => uX11_placeY (d := d + 3) (x := z) hC.1.1 (p := k) (by omega) (by omega)
      rw [q_toN] at hpy
      obtain ⟨m0, m1, m2, m3⟩ := id hHA
      have b2 : 2 ≤ (q_kd A (g 15)).1 := by rw [m0]; exact Nat.le_refl 2
      have b9 : (q_kd A (g 15)).1 ≤ 9 := by rw [m0]; exact Nat.le_of_ble_eq_true rfl
      have e20 : ((q_kd A (g 15)).2 : Int) = 20 := by rw [m0]; rfl
      have hnm := nm40 hp y
      have en : ((k + 1 : Nat) : Int) = (k : Int) + 1 := by omega
      by_cases gx : plEx (cW C k) y = true
      · by_cases gl : (kH (cW C) w y wt hl k).length < 20
        · obtain ⟨A1, d1, d2, d3, d4⟩ := vX7_distance (d := d + 1) (w := w) (v := nmAt (plN (cW C k)) y) hw' hSA hw0 hw1 hnm.1 hnm.2
          have hA1 := CRI_q (s := 6) hA (Or.inl ⟨by omega, by omega⟩) d3 (hw'.qt d4)
          have hH1 := HT_fr hg' hHA d3 (fun z => n615 z.symm) rfl
          have k5 := hSA.1
          have sb := spF_b w.toNat (nmAt (plN (cW C k)) y).toNat (wdLen w.toNat 8) (wdLen (nmAt (plN (cW C k)) y).toNat 8)
          have lw := wdLen_le w.toNat 8
          by_cases gd : spF w.toNat (nmAt (plN (cW C k)) y).toNat (wdLen w.toNat 8) (wdLen (nmAt (plN (cW C k)) y).toNat 8) = wt
          · have ek : kH (cW C) w y wt hl (k + 1) = kH (cW C) w y wt hl k ++ [k] := by rw [kH, if_pos (kHc_i.mpr ⟨gx, gl, gd⟩)]
            have el : (kH (cW C) w y wt hl k ++ [k]).length = (kH (cW C) w y wt hl k).length + 1 := by simp
            obtain ⟨A2, hA2⟩ : ∃ A2, q_wr A1 (g 15) (kH (cW C) w y wt hl k).length (qi k) = A2 := ⟨_, rfl⟩
            have f2 : q_fr (fun x => x = g 15) A1 A2 := by rw [← hA2]; exact q_fr.wr rfl
            have hcA2 : CRI A2 g cN cT c e1 c1 L1 e2 c2 L2 C J J2 ms hs lr (kH (cW C) w y wt hl k).length := CRI_q (s := 15) hA1 (Or.inr rfl) f2 (by rw [← hA2]; exact (hw'.qt d4).wr)
            have hH2 : HT A2 g (kH (cW C) w y wt hl k ++ [k]) := by rw [← hA2]; exact HT_push hA1.1 hH1 gl
            have hS2 := SPm_fr (hw'.qt d4) d2 f2 n515 n615
            obtain ⟨hA3, f3⟩ := CRI_hc (v := ((kH (cW C) w y wt hl k).length : Int) + 1) hcA2
            have hH3 := HT_fr hcA2.1 hH2 f3 n015.symm rfl
            have hS3 := SPm_fr hcA2.2.1 hS2 f3 n05.symm n06.symm
            obtain ⟨B, f', q1, q2⟩ := ih (k + 1) _ _ (some (qr (gA g k 0))) (by omega) (by rw [ek, el]; exact hA3) (by rw [ek]; exact hH3) hS3 (((hF.tr (d3.wk (fun x _ z => Or.inr (Or.inl z)))).tr (f2.wk (fun x _ z => Or.inr (Or.inr z)))).tr (f3.wk (fun x _ z => Or.inl z))) (((hQ.tr d4).tr (by rw [← hA2]; exact q_qt.wr)).tr q_qt.wr)
            refine ⟨B, f', fun P => ?_, q2⟩
            have q1' := q1 P
            rw [en] at q1'
            obtain ⟨x0, x1, x2, x3, x4, x5, x6, x7, x8, x9, x10, x11, x12, x13, x14⟩ := hA1.2.2.2.2.1
            obtain ⟨w0, v1, v2, v3, v4, v5, v6, v7, v8, v9, v10, v11, v12, v13, v14⟩ := hcA2.2.2.2.2.1
            have m0' : q_kd A1 (g 15) = (2, 20) := hH1.1
            have b2' : (q_kd A1 (g 15)).1 = 2 := by rw [m0']
            have e20' : ((q_kd A1 (g 15)).2 : Int) = 20 := by rw [m0']; rfl
            rw [kX12_keepHits_3]
            simp (disch := first | assumption | exact PLr_0 hp | exact PLr_k1 hp | exact PLr_k4 hp | exact PLr_k7 hp | exact bI_lo | exact bI_hi | exact bI_01 | (show (List.map q_wd _).sum ≤ 8; with_unfolding_all exact Nat.le_of_ble_eq_true rfl) | omega) only [kX12_keepHits_5, kX12_keepHits_6, kX12_keepHits_9E, kX12_keepHits_12, kX12_keepHits_15, kX12_keepHits_16, kX12_keepHits_19, kX12_keepHits_21E, kX12_keepHits_24, kX12_keepHits_26, kX12_keepHits_28r, kX12_keepHits_28n, kX12_keepHits_31, kX12_keepHits_33, kX12_keepHits_34E, kX12_keepHits_37, kX12_keepHits_40, kX12_keepHits_41, kX12_keepHits_44, kX12_keepHits_45, kX12_keepHits_48, kX12_keepHits_49, kX12_keepHits_52, kX12_keepHits_55, kX12_keepHits_56, kX12_keepHits_59, kX12_keepHits_60, kX12_keepHits_62, kX12_keepHits_65, kX12_keepHits_66E, kX12_keepHits_69E, kX12_keepHits_72, kX12_keepHits_74, kX12_keepHits_77, kX12_keepHits_78, kX12_keepHits_81, kX12_keepHits_82, kX12_keepHits_85, kX12_keepHits_87, kX12_keepHits_88, kX12_keepHits_89i, kX12_keepHits_89r, kX12_keepHits_90, kX12_keepHits_93, kX12_keepHits_94, kX12_keepHits_95, kX12_keepHits_98, kX12_keepHits_101, kX12_keepHits_104, q_cut_i, q_cut_r, q_cut_l, q_cut_n, q_psh_n, q_psh_s, bI_eq0, ite_not, ↓if_pos, ↓if_neg, ↓ite_bI_t, ↓ite_bI_f, r2, sz, hpy, uX4_existsOn hp, r13, r12, e20, r3, PLr_f6 hp, uX2_at hp, T_of d1, x13, x14, q_toN, hA2, v14]
            exact q1'
          · have ek : kH (cW C) w y wt hl (k + 1) = kH (cW C) w y wt hl k := by rw [kH, if_neg (fun z => gd (kHc_i.mp z).2.2)]
            obtain ⟨B, f', q1, q2⟩ := ih (k + 1) A1 _ (some (qr (gA g k 0))) (by omega) (by rw [ek]; exact hA1) (by rw [ek]; exact hH1) d2 (hF.tr (d3.wk (fun x _ z => Or.inr (Or.inl z)))) (hQ.tr d4)
            refine ⟨B, f', fun P => ?_, q2⟩
            have q1' := q1 P
            rw [en] at q1'
            rw [kX12_keepHits_3]
            simp (disch := first | assumption | exact PLr_0 hp | exact PLr_k1 hp | exact PLr_k4 hp | exact PLr_k7 hp | exact bI_lo | exact bI_hi | exact bI_01 | (show (List.map q_wd _).sum ≤ 8; with_unfolding_all exact Nat.le_of_ble_eq_true rfl) | omega) only [kX12_keepHits_5, kX12_keepHits_6, kX12_keepHits_9E, kX12_keepHits_12, kX12_keepHits_15, kX12_keepHits_16, kX12_keepHits_19, kX12_keepHits_21E, kX12_keepHits_24, kX12_keepHits_26, kX12_keepHits_28r, kX12_keepHits_28n, kX12_keepHits_31, kX12_keepHits_33, kX12_keepHits_34E, kX12_keepHits_37, kX12_keepHits_40, kX12_keepHits_41, kX12_keepHits_44, kX12_keepHits_45, kX12_keepHits_48, kX12_keepHits_49, kX12_keepHits_52, kX12_keepHits_55, kX12_keepHits_56, kX12_keepHits_59, kX12_keepHits_60, kX12_keepHits_62, kX12_keepHits_65, kX12_keepHits_66E, kX12_keepHits_69E, kX12_keepHits_72, kX12_keepHits_74, kX12_keepHits_77, kX12_keepHits_78, kX12_keepHits_81, kX12_keepHits_82, kX12_keepHits_85, kX12_keepHits_87, kX12_keepHits_88, kX12_keepHits_89i, kX12_keepHits_89r, kX12_keepHits_90, kX12_keepHits_93, kX12_keepHits_94, kX12_keepHits_95, kX12_keepHits_98, kX12_keepHits_101, kX12_keepHits_104, q_cut_i, q_cut_r, q_cut_l, q_cut_n, q_psh_n, q_psh_s, bI_eq0, ite_not, ↓if_pos, ↓if_neg, ↓ite_bI_t, ↓ite_bI_f, r2, sz, hpy, uX4_existsOn hp, r13, r12, e20, r3, PLr_f6 hp, uX2_at hp, T_of d1]
            exact q1'
        · have ek : kH (cW C) w y wt hl (k + 1) = kH (cW C) w y wt hl k := by rw [kH, if_neg (fun z => gl (kHc_i.mp z).2.1)]
          obtain ⟨B, f', q1, q2⟩ := ih (k + 1) A f (some (qr (gA g k 0))) (by omega) (by rw [ek]; exact hA) (by rw [ek]; exact hHA) hSA hF hQ
          refine ⟨B, f', fun P => ?_, q2⟩
          have q1' := q1 P
          rw [en] at q1'
          rw [kX12_keepHits_3]
          simp (disch := first | assumption | exact PLr_0 hp | exact PLr_k1 hp | exact PLr_k4 hp | exact PLr_k7 hp | exact bI_lo | exact bI_hi | exact bI_01 | (show (List.map q_wd _).sum ≤ 8; with_unfolding_all exact Nat.le_of_ble_eq_true rfl) | omega) only [kX12_keepHits_5, kX12_keepHits_6, kX12_keepHits_9E, kX12_keepHits_12, kX12_keepHits_15, kX12_keepHits_16, kX12_keepHits_19, kX12_keepHits_21E, kX12_keepHits_24, kX12_keepHits_26, kX12_keepHits_28r, kX12_keepHits_28n, kX12_keepHits_31, kX12_keepHits_33, kX12_keepHits_34E, kX12_keepHits_37, kX12_keepHits_40, kX12_keepHits_41, kX12_keepHits_44, kX12_keepHits_45, kX12_keepHits_48, kX12_keepHits_49, kX12_keepHits_52, kX12_keepHits_55, kX12_keepHits_56, kX12_keepHits_59, kX12_keepHits_60, kX12_keepHits_62, kX12_keepHits_65, kX12_keepHits_66E, kX12_keepHits_69E, kX12_keepHits_72, kX12_keepHits_74, kX12_keepHits_77, kX12_keepHits_78, kX12_keepHits_81, kX12_keepHits_82, kX12_keepHits_85, kX12_keepHits_87, kX12_keepHits_88, kX12_keepHits_89i, kX12_keepHits_89r, kX12_keepHits_90, kX12_keepHits_93, kX12_keepHits_94, kX12_keepHits_95, kX12_keepHits_98, kX12_keepHits_101, kX12_keepHits_104, q_cut_i, q_cut_r, q_cut_l, q_cut_n, q_psh_n, q_psh_s, bI_eq0, ite_not, ↓if_pos, ↓if_neg, ↓ite_bI_t, ↓ite_bI_f, r2, sz, hpy, uX4_existsOn hp, r13, r12, e20]
          exact q1'
      · have ek : kH (cW C) w y wt hl (k + 1) = kH (cW C) w y wt hl k := by rw [kH, if_neg (fun z => gx (kHc_i.mp z).1)]
        obtain ⟨B, f', q1, q2⟩ := ih (k + 1) A f (some (qr (gA g k 0))) (by omega) (by rw [ek]; exact hA) (by rw [ek]; exact hHA) hSA hF hQ
        refine ⟨B, f', fun P => ?_, q2⟩
        have q1' := q1 P
        rw [en] at q1'
        rw [kX12_keepHits_3]
        simp (disch := first | assumption | exact PLr_0 hp | exact PLr_k1 hp | exact PLr_k4 hp | exact PLr_k7 hp | exact bI_lo | exact bI_hi | exact bI_01 | (show (List.map q_wd _).sum ≤ 8; with_unfolding_all exact Nat.le_of_ble_eq_true rfl) | omega) only [kX12_keepHits_5, kX12_keepHits_6, kX12_keepHits_9E, kX12_keepHits_12, kX12_keepHits_15, kX12_keepHits_16, kX12_keepHits_19, kX12_keepHits_21E, kX12_keepHits_24, kX12_keepHits_26, kX12_keepHits_28r, kX12_keepHits_28n, kX12_keepHits_31, kX12_keepHits_33, kX12_keepHits_34E, kX12_keepHits_37, kX12_keepHits_40, kX12_keepHits_41, kX12_keepHits_44, kX12_keepHits_45, kX12_keepHits_48, kX12_keepHits_49, kX12_keepHits_52, kX12_keepHits_55, kX12_keepHits_56, kX12_keepHits_59, kX12_keepHits_60, kX12_keepHits_62, kX12_keepHits_65, kX12_keepHits_66E, kX12_keepHits_69E, kX12_keepHits_72, kX12_keepHits_74, kX12_keepHits_77, kX12_keepHits_78, kX12_keepHits_81, kX12_keepHits_82, kX12_keepHits_85, kX12_keepHits_87, kX12_keepHits_88, kX12_keepHits_89i, kX12_keepHits_89r, kX12_keepHits_90, kX12_keepHits_93, kX12_keepHits_94, kX12_keepHits_95, kX12_keepHits_98, kX12_keepHits_101, kX12_keepHits_104, q_cut_i, q_cut_r, q_cut_l, q_cut_n, q_psh_n, q_psh_s, bI_eq0, ite_not, ↓if_pos, ↓if_neg, ↓ite_bI_t, ↓ite_bI_f, r2, sz, hpy, uX4_existsOn hp]
        exact q1'
  obtain ⟨B, f', q1, q2⟩ := loop (cn C) 0 M f none (by omega) h hH hS q_fr.rf ⟨fun _ => rfl, rfl, ⟨by omega, by omega⟩⟩
  refine ⟨B, f', C_of (fun P => ?_), q2⟩
  have q1' := q1 P
  rw [eX12_keepHits]
  simp (disch := first | assumption | exact bI_lo | exact bI_hi | exact bI_01 | (show (List.map q_wd _).sum ≤ 8; with_unfolding_all exact Nat.le_of_ble_eq_true rfl) | omega) only [kX12_keepHits_0, kX12_keepHits_1, q_cut_i, q_cut_r, q_cut_l, q_cut_n, q_psh_n, q_psh_s, bI_eq0, ite_not]
  exact q1'
end HIT
