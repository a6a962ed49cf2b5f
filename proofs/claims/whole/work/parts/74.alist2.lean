
/-! ArrayList: remove, clear; lists of orders -/
section ALT
variable {M : QM} {a e cap : Nat} {L : List Nat} {d : Nat} {x : QP}
/-- a shorter list in the same array, where some cells behind it were emptied -/
theorem AL_cut {M' : QM} {n : Nat} {z : Int} (h : AL M a e cap L) (hn : n ≤ L.length) (hk : ∀ b, q_kd M' b = q_kd M b) (hg : q_gs M' 0 = q_gs M 0) (f0 : q_fv M' a 0 = qi z) (f1 : q_fv M' a 1 = q_fv M a 1) (f2 : q_fv M' a 2 = qi n) (he : ∀ i, i < cap → q_fv M' e i = qn ∨ q_fv M' e i = q_fv M e i) (hs : ∀ i, i < n → q_fv M' e i = q_fv M e i) : AL M' a e cap (L.take n) := by
  obtain ⟨h1, h0', h2, h3, h4, h5, h6, h7, h8, h9⟩ := h
  refine ⟨by rw [hk, h1], ⟨z, f0⟩, by rw [f1, h2], by rw [f2, List.length_take, Nat.min_eq_left hn], by rw [hk, h4], by rw [List.length_take]; omega, h6, fun i v hv => ?_, fun i hi => ?_, by rw [hg]; exact h9⟩
  · rw [List.getElem?_take] at hv
    split at hv
    · rename_i g
      rw [hs i g, hk]
      exact h7 i v hv
    · simp at hv
  · rcases he i hi with g | g
    · exact Or.inl g
    · rw [g]
      rcases h8 i hi with z | ⟨b, z, hb⟩
      · exact Or.inl z
      · exact Or.inr ⟨b, z, by rw [hk, hb]⟩
theorem vAL_rem {n : Nat} (h : AL M a e cap L) (hn : L.length = n + 1) : ∃ M', q_C (d + 3) iJx4a65c_remove_915e3 [qr a, qi n] M (some (q_fv M e n)) M' ∧ AL M' a e cap (L.take n) ∧ q_fr (fun x => x = a ∨ x = e) M M' ∧ q_qt M M' := by
  have ae := AL_ae h
  obtain ⟨h1, ⟨z, hz⟩, h2, h3, h4, h5, h6, h7, h8, h9⟩ := id h
  obtain ⟨v, hv⟩ : ∃ v, L[n]? = some v := ⟨L[n], List.getElem?_eq_getElem (by omega)⟩
  have v0 := (h7 n v hv).1
  have k5 : (q_kd M e).1 = 5 := by rw [h4]; exact ALk_1 (by omega)
  have k1 : (q_kd M e).1 = 5 ∨ (q_kd M e).1 = 6 := Or.inl k5
  have k2 : ((q_kd M e).2 : Int) = cap := by rw [h4]; rfl
  have n0 : a ≠ e := ae
  refine ⟨q_wr (q_wr (q_wr M a 0 (qi (z + 1))) a 2 (qi n)) e n qn, C_of (fun P => ?_), ?_, ((q_fr.wr (Or.inl rfl)).tr (q_fr.wr (Or.inl rfl))).tr (q_fr.wr (Or.inr rfl)), (q_qt.wr.tr q_qt.wr).tr q_qt.wr⟩
  · have rc := fun x : QP => uJ15_check (d := d) (M := M) (x := x) (i := n) (n := L.length) (by omega) (by omega) (by omega)
    have em : (L.length : Int) - 1 = n := by omega
    have r : ∀ x : QP, q_T (d + 2) iJx4a65c_fastRemove_b59b0 [qr a, qr e, qi n] M x = x none (q_wr (q_wr (q_wr M a 0 (qi (z + 1))) a 2 (qi n)) e n qn) := by
      intro x
      have h3' : q_fv (q_wr M a 0 (qi (z + 1))) a 2 = qi L.length := q_fwo (by decide) h3
      rw [eJx4a65c_fastRemove_b59b0]
      simp (disch := first | assumption | exact bI_lo | exact bI_hi | exact bI_01 | (show (List.map q_wd _).sum ≤ 8; with_unfolding_all exact Nat.le_of_ble_eq_true rfl) | omega | (simp only [q_kd_wr]; first | assumption | omega)) only [kJx4a65c_fastRemove_b59b0_0, kJx4a65c_fastRemove_b59b0_1i, kJx4a65c_fastRemove_b59b0_1r, kJx4a65c_fastRemove_b59b0_2, kJx4a65c_fastRemove_b59b0_5, kJx4a65c_fastRemove_b59b0_6, kJx4a65c_fastRemove_b59b0_7, kJx4a65c_fastRemove_b59b0_10, kJx4a65c_fastRemove_b59b0_11, kJx4a65c_fastRemove_b59b0_14, kJx4a65c_fastRemove_b59b0_15, kJx4a65c_fastRemove_b59b0_16i, kJx4a65c_fastRemove_b59b0_16r, kJx4a65c_fastRemove_b59b0_17, kJx4a65c_fastRemove_b59b0_18, kJx4a65c_fastRemove_b59b0_19, kJx4a65c_fastRemove_b59b0_22, kJx4a65c_fastRemove_b59b0_23, kJx4a65c_fastRemove_b59b0_24, kJx4a65c_fastRemove_b59b0_25, kJx4a65c_fastRemove_b59b0_26, kJx4a65c_fastRemove_b59b0_27, kJx4a65c_fastRemove_b59b0_28, kJx4a65c_fastRemove_b59b0_29, kJx4a65c_fastRemove_b59b0_30, kJx4a65c_fastRemove_b59b0_31, kJx4a65c_fastRemove_b59b0_34, kJx4a65c_fastRemove_b59b0_35, kJx4a65c_fastRemove_b59b0_36, kJx4a65c_fastRemove_b59b0_37ii, kJx4a65c_fastRemove_b59b0_37ir, kJx4a65c_fastRemove_b59b0_37ri, kJx4a65c_fastRemove_b59b0_37rr, kJx4a65c_fastRemove_b59b0_38, kJx4a65c_fastRemove_b59b0_41, kJx4a65c_fastRemove_b59b0_425, kJx4a65c_fastRemove_b59b0_426, kJx4a65c_fastRemove_b59b0_42n, kJx4a65c_fastRemove_b59b0_43, q_cut_i, q_cut_r, q_cut_l, q_cut_n, q_psh_n, q_psh_s, bI_eq0, ite_not, ↓if_pos, ↓if_neg, ↓ite_bI_t, ↓ite_bI_f, hz, h3', em, q_toN]
    rw [eJx4a65c_remove_915e3, v0]
    simp (disch := first | assumption | exact bI_lo | exact bI_hi | exact bI_01 | (show (List.map q_wd _).sum ≤ 8; with_unfolding_all exact Nat.le_of_ble_eq_true rfl) | omega | (simp only [q_kd_wr]; first | assumption | omega)) only [kJx4a65c_remove_915e3_0, kJx4a65c_remove_915e3_1, kJx4a65c_remove_915e3_2, kJx4a65c_remove_915e3_5E, kJx4a65c_remove_915e3_8i, kJx4a65c_remove_915e3_8r, kJx4a65c_remove_915e3_9, kJx4a65c_remove_915e3_10, kJx4a65c_remove_915e3_13, kJx4a65c_remove_915e3_14, kJx4a65c_remove_915e3_15, kJx4a65c_remove_915e3_16, kJx4a65c_remove_915e3_17, kJx4a65c_remove_915e3_18, kJx4a65c_remove_915e3_19, kJx4a65c_remove_915e3_20, kJx4a65c_remove_915e3_21E, kJx4a65c_remove_915e3_24, kJx4a65c_remove_915e3_25, q_cut_i, q_cut_r, q_cut_l, q_cut_n, q_psh_n, q_psh_s, bI_eq0, ite_not, h2, h3, rc, q_toN, v0, r]
  · refine AL_cut (z := z + 1) h (by omega) (fun _ => rfl) rfl ?_ ?_ ?_ (fun i hi => ?_) (fun i hi => ?_)
    · rw [q_fv_wrE, if_neg (fun q => n0 q.1)]; exact q_fwo (by decide) q_fws
    · rw [q_fv_wrE, if_neg (fun q => n0 q.1)]; exact q_fwo (by decide) (q_fwo (by decide) rfl)
    · rw [q_fv_wrE, if_neg (fun q => n0 q.1)]; exact q_fws
    · rw [q_fv_wrE]
      split
      · exact Or.inl rfl
      · right; rw [q_fv_wrE, if_neg (fun q => n0 q.1.symm), q_fv_wrE, if_neg (fun q => n0 q.1.symm)]
    · rw [q_fv_wrE, if_neg (fun q => by omega), q_fv_wrE, if_neg (fun q => n0 q.1.symm), q_fv_wrE, if_neg (fun q => n0 q.1.symm)]
theorem vAL_clear (hw : q_wf M) (h : AL M a e cap L) : ∃ M', q_C (d + 1) iJx4a65c_clear_da8c8 [qr a] M none M' ∧ AL M' a e cap [] ∧ q_fr (fun x => x = a ∨ (x = e ∧ 0 < cap)) M M' ∧ q_qt M M' := by
  have n0 := AL_ae h
  obtain ⟨h1, ⟨z, hz⟩, h2, h3, h4, h5, h6, h7, h8, h9⟩ := id h
  obtain ⟨M1, hM1⟩ : ∃ M1, q_wr (q_wr M a 0 (qi (z + 1))) a 2 (qi 0) = M1 := ⟨_, rfl⟩
  have f1 : q_fr (fun x => x = a ∨ (x = e ∧ 0 < cap)) M M1 := by rw [← hM1]; exact (q_fr.wr (Or.inl rfl)).tr (q_fr.wr (Or.inl rfl))
  have q1 : q_qt M M1 := by rw [← hM1]; exact q_qt.wr.tr q_qt.wr
  have loop : ∀ (m i : Nat) (A : QM), i + m = L.length → q_fr (fun x => x = e ∧ 0 < cap) M1 A → q_qt M1 A → (∀ j, j < cap → q_fv A e j = qn ∨ q_fv A e j = q_fv M e j) → ∃ B, (∀ P, Rr (q_C d) mJx4a65c_clear_da8c8 (27, [some (qr a), some (qr e), some (qi L.length), some (qi i)], [], A) P = P none B) ∧ q_fr (fun x => x = e ∧ 0 < cap) M1 B ∧ q_qt M1 B ∧ (∀ j, j < cap → q_fv B e j = qn ∨ q_fv B e j = q_fv M e j) := by
    intro m
    induction m with
    | zero =>
      intro i A hm hf hq hj
      refine ⟨A, fun P => ?_, hf, hq, hj⟩
      rw [kJx4a65c_clear_da8c8_27]
      simp (disch := first | assumption | exact bI_lo | exact bI_hi | exact bI_01 | (show (List.map q_wd _).sum ≤ 8; with_unfolding_all exact Nat.le_of_ble_eq_true rfl) | omega) only [kJx4a65c_clear_da8c8_28, kJx4a65c_clear_da8c8_29, kJx4a65c_clear_da8c8_32, kJx4a65c_clear_da8c8_33, kJx4a65c_clear_da8c8_34, kJx4a65c_clear_da8c8_355, kJx4a65c_clear_da8c8_356, kJx4a65c_clear_da8c8_35n, kJx4a65c_clear_da8c8_36, kJx4a65c_clear_da8c8_39, kJx4a65c_clear_da8c8_42, q_cut_i, q_cut_r, q_cut_l, q_cut_n, q_psh_n, q_psh_s, bI_eq0, ite_not, ↓if_pos, ↓if_neg, ↓ite_bI_t, ↓ite_bI_f]
    | succ m ih =>
      intro i A hm hf hq hj
      have k5 : (q_kd A e).1 = 5 := by rw [hq.1, q1.1, h4]; exact ALk_1 (by omega)
      have k2 : ((q_kd A e).2 : Int) = cap := by rw [hq.1, q1.1, h4]; rfl
      obtain ⟨B, r1, r2, r3, r4⟩ := ih (i + 1) (q_wr A e i qn) (by omega) (hf.tr (q_fr.wr ⟨rfl, by omega⟩)) (hq.tr q_qt.wr) (fun j hj2 => by
        rw [q_fv_wrE]
        split
        · exact Or.inl rfl
        · exact hj j hj2)
      refine ⟨B, fun P => ?_, r2, r3, r4⟩
      have r1' := r1 P
      rw [show ((i + 1 : Nat) : Int) = (i : Int) + 1 by omega] at r1'
      rw [kJx4a65c_clear_da8c8_27]
      simp (disch := first | assumption | exact bI_lo | exact bI_hi | exact bI_01 | (show (List.map q_wd _).sum ≤ 8; with_unfolding_all exact Nat.le_of_ble_eq_true rfl) | omega) only [kJx4a65c_clear_da8c8_28, kJx4a65c_clear_da8c8_29, kJx4a65c_clear_da8c8_32, kJx4a65c_clear_da8c8_33, kJx4a65c_clear_da8c8_34, kJx4a65c_clear_da8c8_355, kJx4a65c_clear_da8c8_356, kJx4a65c_clear_da8c8_35n, kJx4a65c_clear_da8c8_36, kJx4a65c_clear_da8c8_39, kJx4a65c_clear_da8c8_42, q_cut_i, q_cut_r, q_cut_l, q_cut_n, q_psh_n, q_psh_s, bI_eq0, ite_not, ↓if_pos, ↓if_neg, ↓ite_bI_t, ↓ite_bI_f, q_toN]
      exact r1'
  obtain ⟨B, r1, r2, r3, r4⟩ := loop L.length 0 M1 (by omega) q_fr.rf ⟨fun _ => rfl, rfl, ⟨by omega, by omega⟩⟩ (fun j hj => Or.inr (by rw [← hM1, q_fv_wrE, if_neg (fun q => n0 q.1.symm), q_fv_wrE, if_neg (fun q => n0 q.1.symm)]))
  have al : a < q_top M1 := by rw [q1.2.1]; exact hw.lt (by rw [h1]; simp)
  have va : ∀ j, q_fv B a j = q_fv M1 a j := r2.2.2.2 a al (fun q => n0 q.1)
  refine ⟨B, C_of (fun P => ?_), ?_, f1.tr (r2.wk (fun _ _ q => Or.inr q)), q1.tr r3⟩
  · have h2' : q_fv (q_wr M a 0 (qi (z + 1))) a 1 = qr e := q_fwo (by decide) h2
    have h3' : q_fv (q_wr M a 0 (qi (z + 1))) a 2 = qi L.length := q_fwo (by decide) h3
    have r1' := r1 P
    rw [eJx4a65c_clear_da8c8]
    simp (disch := first | assumption | exact bI_lo | exact bI_hi | exact bI_01 | (show (List.map q_wd _).sum ≤ 8; with_unfolding_all exact Nat.le_of_ble_eq_true rfl) | omega | (simp only [q_kd_wr]; first | assumption | omega)) only [kJx4a65c_clear_da8c8_0, kJx4a65c_clear_da8c8_1i, kJx4a65c_clear_da8c8_1r, kJx4a65c_clear_da8c8_2, kJx4a65c_clear_da8c8_5, kJx4a65c_clear_da8c8_6, kJx4a65c_clear_da8c8_7, kJx4a65c_clear_da8c8_10, kJx4a65c_clear_da8c8_11, kJx4a65c_clear_da8c8_14, kJx4a65c_clear_da8c8_15, kJx4a65c_clear_da8c8_16, kJx4a65c_clear_da8c8_19, kJx4a65c_clear_da8c8_20, kJx4a65c_clear_da8c8_21, kJx4a65c_clear_da8c8_22ii, kJx4a65c_clear_da8c8_22ir, kJx4a65c_clear_da8c8_22ri, kJx4a65c_clear_da8c8_22rr, kJx4a65c_clear_da8c8_23, kJx4a65c_clear_da8c8_26, q_cut_i, q_cut_r, q_cut_l, q_cut_n, q_psh_n, q_psh_s, bI_eq0, ite_not, hz, h2', h3', hM1]
    exact r1'
  · have := AL_cut (n := 0) (z := z + 1) h (by omega) (fun b => by rw [r3.1, q1.1]) (by rw [r2.2.1, f1.2.1]) (by rw [va, ← hM1]; exact q_fwo (by decide) q_fws) (by rw [va, ← hM1]; exact q_fwo (by decide) (q_fwo (by decide) rfl)) (by rw [va, ← hM1]; exact q_fws) r4 (fun i hi => by omega)
    exact this
end ALT
/-- a list of orders -/
def JR (M : QM) (a e cap : Nat) (L : List Nat) (J : List Od) : Prop := AL M a e cap L ∧ L.length = J.length ∧ ∀ (i v : Nat) (q : Od), L[i]? = some v → J[i]? = some q → OB M v q ∧ odR q
theorem OB_sm {M M' : QM} {o : Nat} {q : Od} (h : OB M o q) (hs : Sm M M' o) : OB M' o q := by
  obtain ⟨k, o0, o1, o2, o3, o4⟩ := h
  exact ⟨by rw [hs.1, k], by rw [hs.2, o0], by rw [hs.2, o1], by rw [hs.2, o2], by rw [hs.2, o3], by rw [hs.2, o4]⟩
theorem AL_fr {M M' : QM} {a e cap : Nat} {L : List Nat} {A : Nat → Prop} (hw : q_wf M) (h : AL M a e cap L) (hf : q_fr A M M') (ha : ¬ A a) (he : 0 < cap → ¬ A e) : AL M' a e cap L := by
  obtain ⟨h1, ⟨z, hz⟩, h2, h3, h4, h5, h6, h7, h8, h9⟩ := h
  have al : a < q_top M := hw.lt (by rw [h1]; simp)
  have el : e < q_top M := hw.lt (by rw [h4]; exact ALk_n0)
  have va : ∀ j, q_fv M' a j = q_fv M a j := hf.2.2.2 a al ha
  have ve : 0 < cap → ∀ j, q_fv M' e j = q_fv M e j := fun hc => hf.2.2.2 e el (he hc)
  have kb : ∀ b, q_kd M b = (1, 3) → q_kd M' b = (1, 3) := fun b hb => by rw [hf.2.2.1 b (hw.lt (by rw [hb]; simp)), hb]
  refine ⟨by rw [hf.2.2.1 a al, h1], ⟨z, by rw [va, hz]⟩, by rw [va, h2], by rw [va, h3], by rw [hf.2.2.1 e el, h4], h5, h6, fun i v hv => ?_, fun i hi => ?_, by rw [hf.2.1]; exact h9⟩
  · have il : i < L.length := by
      rcases Nat.lt_or_ge i L.length with z | z
      · exact z
      · rw [List.getElem?_eq_none z] at hv; simp at hv
    rw [ve (by omega)]
    exact ⟨(h7 i v hv).1, kb v (h7 i v hv).2⟩
  · rw [ve (by omega)]
    rcases h8 i hi with z | ⟨b, z, hb⟩
    · exact Or.inl z
    · exact Or.inr ⟨b, z, kb b hb⟩
theorem JR_fr {M M' : QM} {a e cap : Nat} {L : List Nat} {J : List Od} {A : Nat → Prop} (hw : q_wf M) (h : JR M a e cap L J) (hf : q_fr A M M') (ha : ¬ A a) (he : 0 < cap → ¬ A e) (ho : ∀ b, q_kd M b = (1, 3) → ¬ A b) : JR M' a e cap L J := by
  obtain ⟨h1, h2, h3⟩ := h
  refine ⟨AL_fr hw h1 hf ha he, h2, fun i v q hv hq => ?_⟩
  obtain ⟨o, r⟩ := h3 i v q hv hq
  exact ⟨OB_sm o (Sm_fr hf (hw.lt (by rw [o.1]; simp)) (ho v o.1)), r⟩
theorem JR_o {M : QM} {a e cap : Nat} {L : List Nat} {J : List Od} {i : Nat} {q : Od} (h : JR M a e cap L J) (hq : J[i]? = some q) : ∃ v, L[i]? = some v ∧ OB M v q ∧ odR q := by
  have il : i < J.length := by
    rcases Nat.lt_or_ge i J.length with z | z
    · exact z
    · rw [List.getElem?_eq_none z] at hq; simp at hq
  have hl : i < L.length := by rw [h.2.1]; exact il
  exact ⟨L[i], List.getElem?_eq_getElem hl, h.2.2 i _ q (List.getElem?_eq_getElem hl) hq⟩
theorem JR_take {M M' : QM} {a e cap n : Nat} {L : List Nat} {J : List Od} (h : JR M a e cap L J) (h' : AL M' a e cap (L.take n)) (ho : ∀ b, q_kd M b = (1, 3) → Sm M M' b) : JR M' a e cap (L.take n) (J.take n) := by
  refine ⟨h', by rw [List.length_take, List.length_take, h.2.1], fun i v q hv hq => ?_⟩
  rw [List.getElem?_take] at hv hq
  split at hv
  · rename_i g
    rw [if_pos g] at hq
    obtain ⟨o, r⟩ := h.2.2 i v q hv hq
    exact ⟨OB_sm o (ho v o.1), r⟩
  · simp at hv
theorem JR_push {M M' : QM} {a e e' cap cap' v : Nat} {L : List Nat} {J : List Od} {q : Od} (h : JR M a e cap L J) (h' : AL M' a e' cap' (L ++ [v])) (ho : ∀ b, q_kd M b = (1, 3) → Sm M M' b) (hv : OB M v q) (hr : odR q) : JR M' a e' cap' (L ++ [v]) (J ++ [q]) := by
  refine ⟨h', by simp [h.2.1], fun i w r hw hq => ?_⟩
  by_cases g : i < L.length
  · rw [List.getElem?_append_left g] at hw
    rw [List.getElem?_append_left (by rw [← h.2.1]; exact g)] at hq
    obtain ⟨o, r⟩ := h.2.2 i w r hw hq
    exact ⟨OB_sm o (ho w o.1), r⟩
  · by_cases g2 : i = L.length
    · subst g2
      rw [List.getElem?_append_right (Nat.le_refl _), Nat.sub_self] at hw
      rw [List.getElem?_append_right (by rw [h.2.1]; exact Nat.le_refl _), h.2.1, Nat.sub_self] at hq
      have e1 : w = v := by simpa using hw.symm
      have e2 : r = q := by simpa using hq.symm
      subst e1
      subst e2
      exact ⟨OB_sm hv (ho w hv.1), hr⟩
    · rw [List.getElem?_eq_none (by simp; omega)] at hw
      simp at hw
