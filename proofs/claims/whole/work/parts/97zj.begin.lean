
/-! the law: where it begins -/
theorem RJ_00 {b : Int → Int} (hb : ∀ j, b j = 0) : RJ [] b := by
  refine ⟨fun W0 => ⟨[], [], ⟨⟨hb 0, ⟨hb 1, fun k e he => by simp at he⟩, ⟨hb 2, fun k e he => by simp at he⟩, hb 3, hb 4, hb 5, hb 6, fun i v hv => ?_, fun t q hq => ?_, fun q hq => absurd hq (Nat.not_lt_zero q), fun q _ _ => ⟨⟨?_, ?_⟩, ?_, ?_⟩⟩, ⟨fun p hp => absurd hp (Nat.not_lt_zero p), fun e he => by simp at he, fun e he => by simp at he, ⟨fun _ => 0, fun p hp => absurd hp (Nat.not_lt_zero p)⟩, rfl⟩, ⟨fun i q hq => ?_, fun v hv => ?_, fun q hq => ?_⟩, Nat.zero_le _, Nat.zero_le _, Nat.le_refl _, Nat.le_refl _, Nat.le_refl _, ⟨Int.le_refl _, Int.le_refl _⟩, fun p hp => absurd hp (Nat.not_lt_zero p)⟩, fun _ _ => rfl⟩, fun W0 _ i q hq => by simp at hq⟩
  · exact absurd (show ([] : List Nat)[i]? = some v from hv) (by simp)
  · exact absurd (show ([] : List (Int × Int × Int))[t]? = some q from hq) (by simp)
  · rw [hb]; omega
  · rw [hb]; omega
  · rw [hb]; omega
  · rw [hb]; omega
  · exact absurd (show ([] : List (Int × Int × Int))[i]? = some q from hq) (by simp)
  · exact absurd (show v ∈ ([] : List Nat) from hv) (by simp)
  · exact absurd (show q ∈ ([] : List (Int × Int × Int)) from hq) (by simp)
theorem S00_k {k : Nat} (h : k ≠ 0) (j : Int) : S00 k j = 0 := if_neg (fun z => h z.1)
theorem S00_j {j : Int} (h : j ≠ 7) : S00 0 j = 0 := if_neg (fun z => h z.2)
theorem REL_00 : REL S00 [] [] [] 0 (-5) [] [] [] := by
  refine ⟨fun k j => ?_, RJ_00 (S00_k (by omega)), ⟨S00_j (by omega), by simp, fun i v hv => by simp at hv, List.Pairwise.nil⟩, ⟨S00_j (by omega), Or.inl rfl⟩, fun z => absurd z (by omega), rfl, ⟨S00_j (by omega), by simp, fun i v hv => by simp at hv⟩, TPr_0 (S00_j (by omega)), ⟨S00_j (by omega), by simp, fun i v hv => by simp at hv⟩⟩
  unfold S00
  split <;> omega
section BEG
variable {M : QM}
theorem start_all (hw : q_wf M) (h9 : q_kd M (q_gs M 0) = (9, 0)) (hC : CST M) (hnc : q_nc M = 0) (hns : q_ns M = 0) : ∃ B Mf C Mg, q_al M (1, 12) 14 (fun k => q_dv (tyX12 k)) = B ∧ q_C 1000 iX12_init [qr (q_top M)] B none Mf ∧ q_al Mf (1, 13) 17 (fun k => q_dv (tyX13 k)) = C ∧ q_C 1000 iX13_init [qr (q_top Mf)] C none Mg ∧ JI (q_top Mf) (q_top M) 0 Mg ∧ q_fr (fun x => q_top M ≤ x) M Mg := by
  obtain ⟨B, hB⟩ : ∃ B, q_al M (1, 12) 14 (fun k => q_dv (tyX12 k)) = B := ⟨_, rfl⟩
  have fB : q_fr (fun _ => False) M B := by rw [← hB]; exact q_fr.al
  have wB : q_wf B := by rw [← hB]; exact hw.al
  have pB : q_top B = q_top M + 1 := by rw [← hB, q_top_al]
  have kB : q_kd B (q_top M) = (1, 12) := by rw [← hB]; exact kdt rfl
  have nB : q_nc B = 1 ∧ q_ns B = 14 := by rw [← hB, q_nc_al, q_ns_al, hnc, hns]; exact ⟨rfl, rfl⟩
  have gB : q_gs B = q_gs M := fB.2.1
  have gl : q_gs M 0 < q_top M := hw.lt (by rw [h9]; simp)
  have h9B : q_kd B (q_gs B 0) = (9, 0) := by rw [gB, fB.2.2.1 _ gl, h9]
  have cB : CST B := CST_fr hw hC fB (fun _ _ z => z)
  obtain ⟨Mf, t1, hI, hTP, hRD, hJR, hSP, hTL, hSB, hHT, mf⟩ := vX12_init (d := 995) kB wB h9B
  obtain ⟨t, ht⟩ : ∃ t, t = q_top M := ⟨_, rfl⟩
  obtain ⟨G, hG⟩ : ∃ G, G = q_gs M 0 := ⟨_, rfl⟩
  rw [gB, ← hG] at hI hJR
  rw [pB] at hI hTP hRD hJR hSP hTL hSB hHT
  rw [← ht] at hI hTP hRD hJR hSP hTL hSB hHT pB kB mf gl t1 ⊢
  have wf1 := mf.2.1
  have pf : q_top Mf = t + 1 + 243 := by rw [mf.2.2.1, pB]
  have cf : CST Mf := CST_fr wB cB mf.1 (fun a ha z => by rw [z, kB] at ha; simp at ha)
  obtain ⟨m, hm⟩ : ∃ m, m = q_top Mf := ⟨_, rfl⟩
  obtain ⟨C, hCd⟩ : ∃ C, q_al Mf (1, 13) 17 (fun k => q_dv (tyX13 k)) = C := ⟨_, rfl⟩
  have fC : q_fr (fun x => x = m) Mf C := by rw [← hCd]; exact q_fr.al
  have wC : q_wf C := by rw [← hCd]; exact wf1.al
  have pC : q_top C = m + 1 := by rw [← hCd, q_top_al, hm]
  have kC : q_kd C m = (1, 13) := by rw [← hCd]; exact kdt hm
  have nC : q_nc C = q_nc Mf + 1 ∧ q_ns C = q_ns Mf + 17 := by rw [← hCd, q_nc_al, q_ns_al]; exact ⟨rfl, rfl⟩
  obtain ⟨Mg, t2, hov, hRK, mg⟩ := vX13_init (d := 999) kC wC pC (fun j => by rw [← hCd]; exact fvt hm)
  have fg : q_fr (fun x => x = m) Mf Mg := fC.tr mg.1
  have km : q_kd Mf m = (0, 0) := wf1 m (by omega)
  have gT := hI.1
  have lt : ∀ s, s < 244 → gI0 t (t + 1) s < m := fun s hs => by rw [hm]; exact gT.2 s hs
  have nA : ∀ s, s < 244 → ¬ gI0 t (t + 1) s = m := fun s hs z => by have := lt s hs; omega
  have ho : ∀ b, q_kd Mf b = (1, 3) → ¬ b = m := fun b hb z => by rw [z, km] at hb; simp at hb
  have g1 : gI0 t (t + 1) 1 = t + 1 := rfl
  have g2 : gI0 t (t + 1) 2 = t + 1 + 1 := rfl
  have g3 : gI0 t (t + 1) 3 = t + 1 + 2 := rfl
  have g4 : gI0 t (t + 1) 4 = t + 1 + 3 := rfl
  have g5 : gI0 t (t + 1) 5 = t + 1 + 232 := rfl
  have g6 : gI0 t (t + 1) 6 = t + 1 + 233 := rfl
  have g7 : gI0 t (t + 1) 7 = t + 1 + 234 := rfl
  have g8 : gI0 t (t + 1) 8 = t + 1 + 235 := rfl
  have g9 : gI0 t (t + 1) 9 = t + 1 + 236 := rfl
  have g10 : gI0 t (t + 1) 10 = t + 1 + 237 := rfl
  have g11 : gI0 t (t + 1) 11 = t + 1 + 238 := rfl
  have cg : CST Mg := CST_fr wf1 cf fg (fun a ha z => by rw [z, km] at ha; simp at ha)
  have c0 : ¬ (0 < 0) := Nat.lt_irrefl 0
  have fM : q_fr (fun x => t ≤ x) M Mg := by
    refine ((fB.wk (fun _ _ z => z.elim)).tr (mf.1.wk (fun x _ z => by omega))).tr2 fg (fun x hx z => by omega)
  have gsl : q_gs Mg = q_gs M := fM.2.1
  have l2 : q_gs M 2 < t := by rw [ht]; exact hw.lt (by rw [hC.1]; simp)
  have l3 : q_gs M 3 < t := by rw [ht]; exact hw.lt (by rw [hC.2.1]; simp)
  have l5 : q_gs M 5 < t := by rw [ht]; exact hw.lt (by rw [hC.2.2.1]; simp)
  have tlS : tlSrt ([] : List (Int × Int)) := List.Pairwise.nil
  have own : OWN m t Mg (gI0 t (t + 1)) G 0 G 0 G 0 (t + 1 + 238) := by
    refine ⟨rfl, fun s hs => ⟨?_, Or.inl (lt s hs)⟩, fun s hs h11 z => ?_, ⟨by omega, Or.inl (by omega)⟩, fun z => absurd z c0, fun z => absurd z c0, fun z => absurd z c0, ?_, by omega, by rw [gsl]; exact l2, by rw [gsl]; exact l3, by rw [gsl]; exact l5⟩
    · by_cases s0 : s = 0
      · rw [s0]; exact Nat.le_refl _
      · rw [gI0_s s0]; omega
    · rw [← g11] at z
      exact h11 (gT.1 s 11 hs (by omega) z)
    · rw [mg.2.2.1, pC]; omega
  have hX : CLX m t Mg (gI0 t (t + 1)) (fun _ => 4) (fun _ => 4) (fun _ => 8) G 0 [] G 0 [] G 0 (t + 1 + 238) 16 4 (fun _ => 0) [] (cRun (C0 (fun _ => W00)) []) [] [] [] 0 (-5) [] [] [] := by
    refine ⟨CRI_n hI nA (fun z => absurd z c0) (fun z => absurd z c0) ho fg mg.2.1, ?_, HT_fr gT hHT fg (nA 15 (by omega)) rfl, ?_, ⟨?_, tlS, by simp⟩, ?_, cg, ⟨⟨0, 0, 0, ?_⟩, ⟨[], [], ?_⟩, Or.inr (Or.inl rfl), Or.inr (Or.inl rfl)⟩, own⟩
    · rw [g1, g2]; exact TP_fr wf1 hTP fg (by omega) (by omega)
    · rw [g5, g6]; exact SPm_fr wf1 hSP fg (by omega) (by omega)
    · rw [g7, g8, g9]; exact TL_fr wf1 hTL fg (by omega) (by omega) (by omega)
    · rw [g10]; exact SBm_fr wf1 hSB fg (by omega) (by omega)
    · rw [g3, g4]; exact RD.fr wf1 hRD fg (by omega)
    · rw [g4]; exact JR_fr wf1 hJR fg (by omega) (fun z => absurd z c0) ho
  refine ⟨B, Mf, C, Mg, hB, t1, hCd, by rw [← hm]; exact t2, ?_, fM⟩
  rw [← hm]
  have q1 := mf.2.2.2
  have q2 := mg.2.2.2
  obtain ⟨q11, q12⟩ := q1
  obtain ⟨q21, q22⟩ := q2
  obtain ⟨q31, q32⟩ := nC
  obtain ⟨q41, q42⟩ := nB
  have pt : pot 0 0 0 (fun _ => 4) (fun _ => 4) (fun _ => 8) 4 16 = 212 := rfl
  refine ⟨S00, gI0 t (t + 1), fun _ => 4, fun _ => 4, fun _ => 8, G, 0, [], G, 0, [], G, 0, t + 1 + 238, 16, 4, fun _ => 0, [], fun _ => W00, [], [], [], 0, -5, [], [], [], hX, fun i _ => ⟨Nat.zero_le _, Nat.zero_le _, Nat.zero_le _, (show (-5000 : Int) ≤ 0 by omega), (show (0 : Int) ≤ 5000 by omega)⟩, hov, hRK, REL_00, ⟨by simp, by simp⟩, ?_, ?_⟩
  · rw [pt]; omega
  · rw [pt]; omega
end BEG
theorem st_main : st_claim := by
  intro b L xs top g hL hok
  obtain ⟨ob, o0, o2, o3, o5, nb0, nb2, nb3, nb5, n02, n03, n05, n23, n25, n35⟩ := hok
  obtain ⟨M0, hM0⟩ : ∃ M0, M0 = st_M b L xs top g := ⟨_, rfl⟩
  have pt : q_top M0 = top := by rw [hM0]; rfl
  have gs : q_gs M0 = g := by rw [hM0]; rfl
  have kd : ∀ a, q_kd M0 a = (if a = b then (7, L) else if a = g 0 then (9, 0) else if a = g 2 then (8, 100) else if a = g 3 then (8, 100) else if a = g 5 then (8, 9) else (0, 0)) := fun a => by rw [hM0]; rfl
  have fv : ∀ a j, q_fv M0 a j = (if a = b then qi (xs j).toInt else if a = g 2 then qi (48 + (j % 10 : Nat)) else if a = g 3 then qi (48 + (j / 10 : Nat)) else if a = g 5 then qi (st_let j) else qn) := fun a j => by rw [hM0]; rfl
  have wf0 : q_wf M0 := fun a ha => by
    rw [pt] at ha
    rw [kd, if_neg (by omega), if_neg (by omega), if_neg (by omega), if_neg (by omega), if_neg (by omega)]
  have kb : q_kd M0 b = (7, L) := by rw [kd, if_pos rfl]
  have fb : ∀ j, q_fv M0 b j = qi (xs j).toInt := fun j => by rw [fv, if_pos rfl]
  have k0 : q_kd M0 (q_gs M0 0) = (9, 0) := by rw [gs, kd, if_neg (fun z => nb0 z.symm), if_pos rfl]
  have cst : CST M0 := by
    unfold CST
    rw [gs]
    refine ⟨?_, ?_, ?_, fun j hj => ?_, fun j hj => ?_, fun j hj => ?_⟩
    · rw [kd, if_neg (fun z => nb2 z.symm), if_neg (fun z => n02 z.symm), if_pos rfl]
    · rw [kd, if_neg (fun z => nb3 z.symm), if_neg (fun z => n03 z.symm), if_neg (fun z => n23 z.symm), if_pos rfl]
    · rw [kd, if_neg (fun z => nb5 z.symm), if_neg (fun z => n05 z.symm), if_neg (fun z => n25 z.symm), if_neg (fun z => n35 z.symm), if_pos rfl]
    · rw [fv, if_neg (fun z => nb2 z.symm), if_pos rfl]
    · rw [fv, if_neg (fun z => nb3 z.symm), if_neg (fun z => n23 z.symm), if_pos rfl]
    · rw [fv, if_neg (fun z => nb5 z.symm), if_neg (fun z => n25 z.symm), if_neg (fun z => n35 z.symm), if_pos rfl]
      have : ∀ j : Nat, j < 9 → st_let j = rLt j := by decide
      rw [this j hj]
  obtain ⟨B, Mf, C, Mg, hB, t1, hC, t2, hJ, hf⟩ := start_all wf0 k0 cst (by rw [hM0]; rfl) (by rw [hM0]; rfl)
  have bl : b < q_top M0 := by rw [pt]; exact ob
  have nb : ¬ q_top M0 ≤ b := by omega
  obtain ⟨M1, q1, q2⟩ := lw_loop (m := q_top Mf) (t0 := q_top M0) (b := b) (L := L) (xi := fun j => (xs j).toInt) bl hL (fun j => ⟨(xs j).le_toInt, (xs j).toInt_lt⟩) (L + 1) 0 Mg (by omega) (by omega) hJ (by rw [hf.2.2.1 b bl, kb]) (fun j => by rw [hf.2.2.2 b bl nb j, fb])
  refine ⟨1000, M1, by omega, ?_, q2⟩
  rw [← hM0]
  have q1' : ∀ P : QP, Rr (q_C 1000) mL_law (18, [some (qr b), some (qr (q_top M0)), some (qr (q_top Mf)), some (qi 0)], [], Mg) P = P (some (qi 1)) M1 := q1
  have run : ∀ P : QP, Rr (q_C 1000) mL_law (0, [some (qr b), none, none, none], [], M0) P = P (some (qi 1)) M1 := fun P => by
    simp (disch := first | assumption | exact bI_lo | exact bI_hi | exact bI_01 | (show (List.map q_wd _).sum ≤ 8; with_unfolding_all exact Nat.le_of_ble_eq_true rfl) | omega) only [kL_law_0, kL_law_3i, kL_law_3r, kL_law_4E, kL_law_7, q_cut_i, q_cut_r, q_cut_l, q_cut_n, q_psh_n, q_psh_s, bI_eq0, ite_not, hB, T_of t1]
    simp (disch := first | assumption | exact bI_lo | exact bI_hi | exact bI_01 | (show (List.map q_wd _).sum ≤ 8; with_unfolding_all exact Nat.le_of_ble_eq_true rfl) | omega) only [kL_law_8, kL_law_11i, kL_law_11r, kL_law_12E, kL_law_15, kL_law_16, kL_law_17, q_cut_i, q_cut_r, q_cut_l, q_cut_n, q_psh_n, q_psh_s, bI_eq0, ite_not, hC, T_of t2]
    exact q1' P
  have := run (q_ex (some (qi 1)) M1)
  exact this.mpr ⟨rfl, rfl⟩
