
/-! what is made: the register -/
theorem MKF.tr {t : Nat} {M A B : QM} {k s k2 s2 : Nat} (h : MKF t M A k s) (h' : MKF t A B k2 s2) : MKF t M B (k + k2) (s + s2) := by
  obtain ⟨x1, x2, x3, x4, x5⟩ := h
  obtain ⟨y1, y2, y3, y4, y5⟩ := h'
  exact ⟨x1.tr y1, y2, by omega, by omega, by omega⟩
def offI (s : Nat) : Nat := if s ≤ 4 then s - 1 else if s ≤ 15 then s + 227 else if s = 16 then 4 else if s = 17 then 11 else if s ≤ 23 then s - 13 else s - 12
def gI0 (t T s : Nat) : Nat := if s = 0 then t else T + offI s
theorem gI0_s {t T s : Nat} (h : s ≠ 0) : gI0 t T s = T + offI s := if_neg h
theorem offI_inj {s u : Nat} (hs : s ≠ 0) (hu : u ≠ 0) (ls : s < 244) (lu : u < 244) (h : offI s = offI u) : s = u := by
  unfold offI at h
  repeat' split at h
  all_goals omega
theorem offI_lt {s : Nat} (h : s < 244) : offI s < 243 := by
  unfold offI
  repeat' split
  all_goals omega
/-- one thing is made and put into a field of t -/
theorem put_st {M A A1 : QM} {t f n k s : Nat} {kd : Nat × Nat} {ini : Nat → CV} (hA : q_al M kd n ini = A) (hw : q_wf M) (ht : t < q_top M) (h : MKF (q_top M) A A1 k s) : MKF t M (q_wr A1 t f (qr (q_top M))) (1 + k) (n + s) ∧ ∀ j, j ≠ f → q_fv (q_wr A1 t f (qr (q_top M))) t j = q_fv M t j := by
  have m1 : MKF t M A (0 + 1) (0 + n) := by rw [← hA]; exact (MKF.rf hw).al
  refine ⟨((m1.sub h (Nat.le_refl _)).wr).cg (by omega) (by omega), fun j hj => ?_⟩
  refine q_fwo hj ?_
  have p := m1.2.2.1
  have : q_fv A1 t j = q_fv A t j := h.fv (by omega) (by omega)
  rw [this, ← hA]
  exact fval ht rfl
section MK4
variable {A : QM} {t d : Nat}
theorem vS_X8 (hw : q_wf A) (kt : q_kd A t = (1, 12)) : ∃ B D A', q_al A (1, 8) 2 (fun k => q_dv (tyX8 k)) = B ∧ q_C (d + 4) iX8_init [qr (q_top A)] B none D ∧ q_wr D t 0 (qr (q_top A)) = A' ∧ q_kd B t = (1, 12) ∧ q_kd D t = (1, 12) ∧ MKF t A A' 2 82 ∧ q_fv A' t 0 = qr (q_top A) ∧ (∀ j, j ≠ 0 → q_fv A' t j = q_fv A t j) ∧ TP A' (q_top A) (q_top A + 1) [] := by
  have ht := hw.lt (a := t) (by rw [kt]; simp)
  obtain ⟨B, hB⟩ : ∃ B, q_al A (1, 8) 2 (fun k => q_dv (tyX8 k)) = B := ⟨_, rfl⟩
  have wB : q_wf B := by rw [← hB]; exact hw.al
  have pB : q_top B = q_top A + 1 := by rw [← hB, q_top_al]
  have kB : q_kd B t = (1, 12) := by rw [← hB, q_kd_al, if_neg (by omega), kt]
  obtain ⟨D, t1, S1, m1⟩ := vX8_init (d := d + 3) (t := q_top A) (M := B) (by rw [← hB]; exact kdt rfl) wB
  obtain ⟨st, w⟩ := put_st (t := t) (f := 0) hB hw ht m1
  obtain ⟨A', hA⟩ : ∃ A', q_wr D t 0 (qr (q_top A)) = A' := ⟨_, rfl⟩
  rw [hA] at st w
  have x : MKF t D A' 0 0 := by rw [← hA]; exact (MKF.rf m1.2.1).wr
  have kD : q_kd D t = (1, 12) := by rw [m1.kd (by omega), kB]
  rw [pB] at S1
  exact ⟨B, D, A', hB, t1, hA, kB, kD, st.cg (by omega) (by omega), by rw [← hA]; exact q_fws, w, TP_fr m1.2.1 S1 x.1 (by omega) (by omega)⟩
theorem vS_X5 (hw : q_wf A) (kt : q_kd A t = (1, 12)) (h9 : q_kd A (q_gs A 0) = (9, 0)) : ∃ B D A', q_al A (1, 5) 4 (fun k => q_dv (tyX5 k)) = B ∧ q_C (d + 4) iX5_init [qr (q_top A)] B none D ∧ q_wr D t 1 (qr (q_top A)) = A' ∧ q_kd B t = (1, 12) ∧ q_kd D t = (1, 12) ∧ MKF t A A' 2 7 ∧ q_fv A' t 1 = qr (q_top A) ∧ (∀ j, j ≠ 1 → q_fv A' t j = q_fv A t j) ∧ RD A' (q_top A) (q_top A + 1) 0 0 0 ∧ JR A' (q_top A + 1) (q_gs A 0) 0 [] [] := by
  have ht := hw.lt (a := t) (by rw [kt]; simp)
  obtain ⟨B, hB⟩ : ∃ B, q_al A (1, 5) 4 (fun k => q_dv (tyX5 k)) = B := ⟨_, rfl⟩
  have wB : q_wf B := by rw [← hB]; exact hw.al
  have pB : q_top B = q_top A + 1 := by rw [← hB, q_top_al]
  have kB : q_kd B t = (1, 12) := by rw [← hB, q_kd_al, if_neg (by omega), kt]
  have gl : q_gs A 0 < q_top A := hw.lt (by rw [h9]; simp)
  have gB : q_gs B = q_gs A := by rw [← hB]; rfl
  have h9B : q_kd B (q_gs B 0) = (9, 0) := by rw [gB, ← hB, q_kd_al, if_neg (by omega), h9]
  obtain ⟨D, t1, R1, J1, m1⟩ := vX5_init (d := d) (t := q_top A) (M := B) (by rw [← hB]; exact kdt rfl) wB h9B
  obtain ⟨st, w⟩ := put_st (t := t) (f := 1) hB hw ht m1
  obtain ⟨A', hA⟩ : ∃ A', q_wr D t 1 (qr (q_top A)) = A' := ⟨_, rfl⟩
  rw [hA] at st w
  have x : MKF t D A' 0 0 := by rw [← hA]; exact (MKF.rf m1.2.1).wr
  have kD : q_kd D t = (1, 12) := by rw [m1.kd (by omega), kB]
  rw [pB] at R1 J1
  rw [gB] at J1
  exact ⟨B, D, A', hB, t1, hA, kB, kD, st.cg (by omega) (by omega), by rw [← hA]; exact q_fws, w, RD.fr m1.2.1 R1 x.1 (by omega), JR_fr m1.2.1 J1 x.1 (by omega) (fun hc => absurd hc (by omega)) (fun b hb z => by rw [z, kD] at hb; simp at hb)⟩
theorem vS_X7 (hw : q_wf A) (kt : q_kd A t = (1, 12)) : ∃ B D A', q_al A (1, 7) 1 (fun k => q_dv (tyX7 k)) = B ∧ q_C (d + 4) iX7_init [qr (q_top A)] B none D ∧ q_wr D t 3 (qr (q_top A)) = A' ∧ q_kd B t = (1, 12) ∧ q_kd D t = (1, 12) ∧ MKF t A A' 2 10 ∧ q_fv A' t 3 = qr (q_top A) ∧ (∀ j, j ≠ 3 → q_fv A' t j = q_fv A t j) ∧ SPm A' (q_top A) (q_top A + 1) (fun _ => 0) := by
  have ht := hw.lt (a := t) (by rw [kt]; simp)
  obtain ⟨B, hB⟩ : ∃ B, q_al A (1, 7) 1 (fun k => q_dv (tyX7 k)) = B := ⟨_, rfl⟩
  have wB : q_wf B := by rw [← hB]; exact hw.al
  have pB : q_top B = q_top A + 1 := by rw [← hB, q_top_al]
  have kB : q_kd B t = (1, 12) := by rw [← hB, q_kd_al, if_neg (by omega), kt]
  obtain ⟨D, t1, S1, m1⟩ := vX7_init (d := d + 3) (t := q_top A) (M := B) (by rw [← hB]; exact kdt rfl) wB
  obtain ⟨st, w⟩ := put_st (t := t) (f := 3) hB hw ht m1
  obtain ⟨A', hA⟩ : ∃ A', q_wr D t 3 (qr (q_top A)) = A' := ⟨_, rfl⟩
  rw [hA] at st w
  have x : MKF t D A' 0 0 := by rw [← hA]; exact (MKF.rf m1.2.1).wr
  have kD : q_kd D t = (1, 12) := by rw [m1.kd (by omega), kB]
  rw [pB] at S1
  exact ⟨B, D, A', hB, t1, hA, kB, kD, st.cg (by omega) (by omega), by rw [← hA]; exact q_fws, w, SPm_fr m1.2.1 S1 x.1 (by omega) (by omega)⟩
theorem vS_X9 (hw : q_wf A) (kt : q_kd A t = (1, 12)) : ∃ B D A', q_al A (1, 9) 3 (fun k => q_dv (tyX9 k)) = B ∧ q_C (d + 4) iX9_init [qr (q_top A)] B none D ∧ q_wr D t 4 (qr (q_top A)) = A' ∧ q_kd B t = (1, 12) ∧ q_kd D t = (1, 12) ∧ MKF t A A' 3 11 ∧ q_fv A' t 4 = qr (q_top A) ∧ (∀ j, j ≠ 4 → q_fv A' t j = q_fv A t j) ∧ TL A' (q_top A) (q_top A + 1) (q_top A + 1 + 1) 4 [] := by
  have ht := hw.lt (a := t) (by rw [kt]; simp)
  obtain ⟨B, hB⟩ : ∃ B, q_al A (1, 9) 3 (fun k => q_dv (tyX9 k)) = B := ⟨_, rfl⟩
  have wB : q_wf B := by rw [← hB]; exact hw.al
  have pB : q_top B = q_top A + 1 := by rw [← hB, q_top_al]
  have kB : q_kd B t = (1, 12) := by rw [← hB, q_kd_al, if_neg (by omega), kt]
  obtain ⟨D, t1, S1, m1⟩ := vX9_init (d := d + 3) (t := q_top A) (M := B) (by rw [← hB]; exact kdt rfl) wB
  obtain ⟨st, w⟩ := put_st (t := t) (f := 4) hB hw ht m1
  obtain ⟨A', hA⟩ : ∃ A', q_wr D t 4 (qr (q_top A)) = A' := ⟨_, rfl⟩
  rw [hA] at st w
  have x : MKF t D A' 0 0 := by rw [← hA]; exact (MKF.rf m1.2.1).wr
  have kD : q_kd D t = (1, 12) := by rw [m1.kd (by omega), kB]
  rw [pB] at S1
  exact ⟨B, D, A', hB, t1, hA, kB, kD, st.cg (by omega) (by omega), by rw [← hA]; exact q_fws, w, TL_fr m1.2.1 S1 x.1 (by omega) (by omega) (by omega)⟩
theorem vS_J4 (hw : q_wf A) (kt : q_kd A t = (1, 12)) : ∃ B D A', q_al A (1, 14) 4 (fun k => q_dv (tyJ4 k)) = B ∧ q_C (d + 4) iJ4_init_da8c8 [qr (q_top A)] B none D ∧ q_wr D t 5 (qr (q_top A)) = A' ∧ q_kd B t = (1, 12) ∧ q_kd D t = (1, 12) ∧ MKF t A A' 2 20 ∧ q_fv A' t 5 = qr (q_top A) ∧ (∀ j, j ≠ 5 → q_fv A' t j = q_fv A t j) ∧ SBm A' (q_top A) (q_top A + 1) 16 [] := by
  have ht := hw.lt (a := t) (by rw [kt]; simp)
  obtain ⟨B, hB⟩ : ∃ B, q_al A (1, 14) 4 (fun k => q_dv (tyJ4 k)) = B := ⟨_, rfl⟩
  have wB : q_wf B := by rw [← hB]; exact hw.al
  have pB : q_top B = q_top A + 1 := by rw [← hB, q_top_al]
  have kB : q_kd B t = (1, 12) := by rw [← hB, q_kd_al, if_neg (by omega), kt]
  obtain ⟨D, t1, S1, m1⟩ := vJ4_init (d := d + 2) (t := q_top A) (M := B) (by rw [← hB]; exact kdt rfl) wB (by rw [← hB]; exact fvt rfl)
  obtain ⟨st, w⟩ := put_st (t := t) (f := 5) hB hw ht m1
  obtain ⟨A', hA⟩ : ∃ A', q_wr D t 5 (qr (q_top A)) = A' := ⟨_, rfl⟩
  rw [hA] at st w
  have x : MKF t D A' 0 0 := by rw [← hA]; exact (MKF.rf m1.2.1).wr
  have kD : q_kd D t = (1, 12) := by rw [m1.kd (by omega), kB]
  rw [pB] at S1
  exact ⟨B, D, A', hB, t1, hA, kB, kD, st.cg (by omega) (by omega), by rw [← hA]; exact q_fws, w, SBm_fr m1.2.1 S1 x.1 (by omega) (by omega)⟩
theorem vS_A6 (hw : q_wf A) (kt : q_kd A t = (1, 12)) (h9 : q_kd A (q_gs A 0) = (9, 0)) : ∃ B D A', q_al A (1, 15) 3 (fun k => q_dv (tyJx4a65c k)) = B ∧ q_C (d + 4) iJx4a65c_init_da8c8 [qr (q_top A)] B none D ∧ q_wr D t 6 (qr (q_top A)) = A' ∧ q_kd B t = (1, 12) ∧ q_kd D t = (1, 12) ∧ MKF t A A' 1 3 ∧ q_fv A' t 6 = qr (q_top A) ∧ (∀ j, j ≠ 6 → q_fv A' t j = q_fv A t j) ∧ JR A' (q_top A) (q_gs A 0) 0 [] [] := by
  have ht := hw.lt (a := t) (by rw [kt]; simp)
  obtain ⟨B, hB⟩ : ∃ B, q_al A (1, 15) 3 (fun k => q_dv (tyJx4a65c k)) = B := ⟨_, rfl⟩
  have wB : q_wf B := by rw [← hB]; exact hw.al
  have pB : q_top B = q_top A + 1 := by rw [← hB, q_top_al]
  have kB : q_kd B t = (1, 12) := by rw [← hB, q_kd_al, if_neg (by omega), kt]
  have gl : q_gs A 0 < q_top A := hw.lt (by rw [h9]; simp)
  have gB : q_gs B = q_gs A := by rw [← hB]; rfl
  have h9B : q_kd B (q_gs B 0) = (9, 0) := by rw [gB, ← hB, q_kd_al, if_neg (by omega), h9]
  obtain ⟨D, t1, J1, m1⟩ := vAL_init (d := d + 1) (t := q_top A) (M := B) (by rw [← hB]; exact kdt rfl) wB (by rw [← hB]; exact fvt rfl) h9B
  obtain ⟨st, w⟩ := put_st (t := t) (f := 6) hB hw ht m1
  obtain ⟨A', hA⟩ : ∃ A', q_wr D t 6 (qr (q_top A)) = A' := ⟨_, rfl⟩
  rw [hA] at st w
  have x : MKF t D A' 0 0 := by rw [← hA]; exact (MKF.rf m1.2.1).wr
  have kD : q_kd D t = (1, 12) := by rw [m1.kd (by omega), kB]
  rw [gB] at J1
  exact ⟨B, D, A', hB, t1, hA, kB, kD, st.cg (by omega) (by omega), by rw [← hA]; exact q_fws, w, JR_fr m1.2.1 J1 x.1 (by omega) (fun hc => absurd hc (by omega)) (fun b hb z => by rw [z, kD] at hb; simp at hb)⟩
theorem vS_A7 (hw : q_wf A) (kt : q_kd A t = (1, 12)) (h9 : q_kd A (q_gs A 0) = (9, 0)) : ∃ B D A', q_al A (1, 15) 3 (fun k => q_dv (tyJx4a65c k)) = B ∧ q_C (d + 4) iJx4a65c_init_da8c8 [qr (q_top A)] B none D ∧ q_wr D t 7 (qr (q_top A)) = A' ∧ q_kd B t = (1, 12) ∧ q_kd D t = (1, 12) ∧ MKF t A A' 1 3 ∧ q_fv A' t 7 = qr (q_top A) ∧ (∀ j, j ≠ 7 → q_fv A' t j = q_fv A t j) ∧ JR A' (q_top A) (q_gs A 0) 0 [] [] := by
  have ht := hw.lt (a := t) (by rw [kt]; simp)
  obtain ⟨B, hB⟩ : ∃ B, q_al A (1, 15) 3 (fun k => q_dv (tyJx4a65c k)) = B := ⟨_, rfl⟩
  have wB : q_wf B := by rw [← hB]; exact hw.al
  have pB : q_top B = q_top A + 1 := by rw [← hB, q_top_al]
  have kB : q_kd B t = (1, 12) := by rw [← hB, q_kd_al, if_neg (by omega), kt]
  have gl : q_gs A 0 < q_top A := hw.lt (by rw [h9]; simp)
  have gB : q_gs B = q_gs A := by rw [← hB]; rfl
  have h9B : q_kd B (q_gs B 0) = (9, 0) := by rw [gB, ← hB, q_kd_al, if_neg (by omega), h9]
  obtain ⟨D, t1, J1, m1⟩ := vAL_init (d := d + 1) (t := q_top A) (M := B) (by rw [← hB]; exact kdt rfl) wB (by rw [← hB]; exact fvt rfl) h9B
  obtain ⟨st, w⟩ := put_st (t := t) (f := 7) hB hw ht m1
  obtain ⟨A', hA⟩ : ∃ A', q_wr D t 7 (qr (q_top A)) = A' := ⟨_, rfl⟩
  rw [hA] at st w
  have x : MKF t D A' 0 0 := by rw [← hA]; exact (MKF.rf m1.2.1).wr
  have kD : q_kd D t = (1, 12) := by rw [m1.kd (by omega), kB]
  rw [gB] at J1
  exact ⟨B, D, A', hB, t1, hA, kB, kD, st.cg (by omega) (by omega), by rw [← hA]; exact q_fws, w, JR_fr m1.2.1 J1 x.1 (by omega) (fun hc => absurd hc (by omega)) (fun b hb z => by rw [z, kD] at hb; simp at hb)⟩
theorem vS_X11 (hw : q_wf A) (kt : q_kd A t = (1, 12)) : ∃ B D A', q_al A (1, 11) 5 (fun k => q_dv (tyX11 k)) = B ∧ q_C (d + 4) iX11_init [qr (q_top A)] B none D ∧ q_wr D t 2 (qr (q_top A)) = A' ∧ q_kd B t = (1, 12) ∧ q_kd D t = (1, 12) ∧ MKF t A A' 228 2212 ∧ q_fv A' t 2 = qr (q_top A) ∧ (∀ j, j ≠ 2 → q_fv A' t j = q_fv A t j) ∧ (q_kd A' (q_top A) = (1, 11) ∧ q_fv A' (q_top A) 0 = qr (q_top A + 1) ∧ q_fv A' (q_top A) 1 = qi 0 ∧ q_fv A' (q_top A) 2 = qi 0 ∧ q_fv A' (q_top A) 3 = qr (q_top A + 7) ∧ q_fv A' (q_top A) 4 = qi 0) ∧ (∀ g c : Nat → Nat, g 18 = q_top A + 1 → (∀ k, k < 4 → g (19 + k) = q_top A + 2 + k) → g 23 = q_top A + 6 → (∀ k, k < 4 → c k = 8) → FLm A' g c [] []) ∧ q_kd A' (q_top A + 7) = (6, 20) ∧ ∀ i, i < 20 → q_fv A' (q_top A + 7) i = qr (q_top A + 8 + 11 * i) ∧ ∀ a : Nat → Nat, (∀ k, k < 11 → a k = q_top A + 8 + 11 * i + k) → PLr A' a 4 4 W00 := by
  have ht := hw.lt (a := t) (by rw [kt]; simp)
  obtain ⟨B, hB⟩ : ∃ B, q_al A (1, 11) 5 (fun k => q_dv (tyX11 k)) = B := ⟨_, rfl⟩
  have wB : q_wf B := by rw [← hB]; exact hw.al
  have pB : q_top B = q_top A + 1 := by rw [← hB, q_top_al]
  have kB : q_kd B t = (1, 12) := by rw [← hB, q_kd_al, if_neg (by omega), kt]
  obtain ⟨D, t1, ⟨W1, W2, W3, W4, W5, W6⟩, FL, PK, PP, m1⟩ := vX11_init (d := d + 1) (t := q_top A) (M := B) (by rw [← hB]; exact kdt rfl) wB
  obtain ⟨st, w⟩ := put_st (t := t) (f := 2) hB hw ht m1
  obtain ⟨A', hA⟩ : ∃ A', q_wr D t 2 (qr (q_top A)) = A' := ⟨_, rfl⟩
  rw [hA] at st w
  have x : MKF t D A' 0 0 := by rw [← hA]; exact (MKF.rf m1.2.1).wr
  have kD : q_kd D t = (1, 12) := by rw [m1.kd (by omega), kB]
  have pD : q_top D = q_top A + 1 + 227 := by rw [m1.2.2.1, pB]
  rw [pB] at W2 W5 FL PK PP
  have sm : ∀ b, b ≠ t → b < q_top D → Sm D A' b := fun b h1 h2 => x.sm h2 h1
  have sT : Sm D A' (q_top A) := sm _ (by omega) (by omega)
  refine ⟨B, D, A', hB, t1, hA, kB, kD, st.cg (by omega) (by omega), by rw [← hA]; exact q_fws, w, ⟨by rw [sT.1, W1], by rw [sT.2, W2], by rw [sT.2, W3], by rw [sT.2, W4], by rw [sT.2, W5], by rw [sT.2, W6]⟩, fun g c e18 e19 e23 hc => ?_, by rw [(sm _ (by omega) (by omega)).1]; exact PK, fun i hi => ⟨?_, fun a ha => ?_⟩⟩
  · obtain ⟨f1, f2, f3, f4, f5, f6, f7, f8, f9, f10, f11, f12⟩ := FL g c e18 (fun k hk => by rw [e19 k hk]) e23 hc
    have s18 : Sm D A' (g 18) := sm _ (by omega) (by omega)
    have s23 : Sm D A' (g 23) := sm _ (by omega) (by omega)
    have s19 : ∀ k, k < 4 → Sm D A' (g (19 + k)) := fun k hk => by rw [e19 k hk]; exact sm _ (by omega) (by omega)
    refine ⟨by rw [s18.1, f1], by rw [s18.2, f2], by rw [s18.2, f3], by rw [s18.2, f4], by rw [s23.1, f5], f6, fun k hk => ?_, fun k hk i q hq => by simp at hq, fun i hi => by rw [s23.2]; exact f9 i hi, fun i v hv => by simp at hv, fun v hv => by simp at hv, fun q hq => by simp at hq⟩
    obtain ⟨z1, z2, z3, z4, z5, z6⟩ := f7 k hk
    exact ⟨by rw [s18.2, z1], by rw [(s19 k hk).1, z2], z3, z4, z5, fun i hi => by rw [(s19 k hk).2]; exact z6 i hi⟩
  · rw [(sm (q_top A + 7) (by omega) (by omega)).2]
    exact (PP i hi).1
  · exact PLr_sm ((PP i hi).2 a ha) (fun k hk => sm _ (by rw [ha k hk]; omega) (by rw [ha k hk]; omega)) (fun _ _ => rfl)
end MK4
