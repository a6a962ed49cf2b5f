
/-! the law: its loop, its room, its start -/
theorem cs_le {f : Nat → Nat} {B : Nat} : ∀ n : Nat, (∀ i, i < n → f i ≤ B) → cs f n ≤ n * B
  | 0, _ => by simp [cs]
  | n + 1, h => by
    have h1 := cs_le n (fun i hi => h i (by omega))
    have h2 := h n (by omega)
    rw [cs, Nat.add_mul]
    omega
section LWL
variable {m t0 b L k : Nat} {X : QM} {xi : Nat → Int}
theorem JI_room (h : JI m t0 k X) (hk : k ≤ 512) : q_nc X ≤ 600000 ∧ q_ns X ≤ 7302250 := by
  obtain ⟨S, g, cN, cT, c, e1, c1, L1, e2, c2, L2, e3, c3, eP, cP, cR, f, l0, W0, J, J2, ms, hs', lr, hl, tl, pp, hX, hW, hov, hK, hREL, hb, r1, r2⟩ := h
  obtain ⟨hI, hT, hH, hS, ⟨hL, -⟩, hB, hC, ⟨-, ⟨L3, os, hJ3⟩, -⟩, hO⟩ := hX
  obtain ⟨-, -, -, -, -, -, hCM, hJ1, hJ2, -⟩ := hI
  have b1 : c1 ≤ 4200 := hJ1.1.2.2.2.2.2.2.1
  have b2 : c2 ≤ 4200 := hJ2.1.2.2.2.2.2.2.1
  have b3 : c3 ≤ 4200 := hJ3.1.2.2.2.2.2.2.1
  have bR : cR ≤ 4200 := hL.2.2.2.2.2.2.2.2.1
  have bP : cP ≤ 1000 := hB.2.2.2.2.2.2.2.1
  have bN : cs cN 20 ≤ 20 * 4200 := cs_le 20 (fun i hi => (hCM.1.1.2.2.2.2.2 i hi).2.2.2.2.2.1.2.2.2.2.2.2.2.2.1)
  have bT : cs cT 20 ≤ 20 * 4200 := cs_le 20 (fun i hi => (hCM.1.1.2.2.2.2.2 i hi).2.2.2.2.2.2.1.2.2.2.2.2.2.2.2.1)
  have bF : cs c 4 ≤ 4 * 4200 := cs_le 4 (fun i hi => (hCM.2.1.2.2.2.2.2.2.1 i hi).2.2.2.2.1)
  unfold pot poS at r1 r2
  exact ⟨by omega, by omega⟩
theorem JI_next (h : JI m t0 k X) : JI m t0 (k + 1) X := by
  obtain ⟨S, g, cN, cT, c, e1, c1, L1, e2, c2, L2, e3, c3, eP, cP, cR, f, l0, W0, J, J2, ms, hs', lr, hl, tl, pp, hX, hW, hov, hK, hREL, hb, r1, r2⟩ := h
  exact ⟨S, g, cN, cT, c, e1, c1, L1, e2, c2, L2, e3, c3, eP, cP, cR, f, l0, W0, J, J2, ms, hs', lr, hl, tl, pp, hX, hW, hov, hK, hREL, ⟨by omega, by omega⟩, by omega, by omega⟩
theorem lw_loop (hbt : b < t0) (hL : L ≤ 3584) (hx : ∀ j, i32 (xi j)) : ∀ (n k : Nat) (X : QM), L < 7 * (k + n) + 7 → 7 * k ≤ L → JI m t0 k X → q_kd X b = (7, L) → (∀ j, q_fv X b j = qi (xi j)) → ∃ M1, (∀ P : QP, Rr (q_C 1000) mL_law (18, [some (qr b), some (qr t0), some (qr m), some (qi (7 * (k : Int)))], [], X) P = P (some (qi 1)) M1) ∧ q_nc M1 ≤ 600000 ∧ q_ns M1 ≤ 7302250 := by
  intro n
  induction n with
  | zero =>
    intro k X hn hkL hJ hkb hs
    have b1 : 2 ≤ (q_kd X b).1 := by rw [hkb]; show 2 ≤ 7; omega
    have b1' : (q_kd X b).1 ≤ 9 := by rw [hkb]; show 7 ≤ 9; omega
    have b2 : ((q_kd X b).2 : Int) = L := by rw [hkb]
    refine ⟨X, fun P => ?_, JI_room hJ (by omega)⟩
    simp (disch := first | assumption | exact bI_lo | exact bI_hi | exact bI_01 | (show (List.map q_wd _).sum ≤ 8; with_unfolding_all exact Nat.le_of_ble_eq_true rfl) | omega) only [kL_law_18, kL_law_19, kL_law_20, kL_law_21, kL_law_23, kL_law_24, kL_law_1042, kL_law_1043, q_cut_i, q_cut_r, q_cut_l, q_cut_n, q_psh_n, q_psh_s, bI_eq0, ite_not, ↓if_pos, ↓if_neg, ↓ite_bI_t, ↓ite_bI_f, b2]
  | succ n ih =>
    intro k X hn hkL hJ hkb hs
    have b0 : (q_kd X b).1 = 7 := by rw [hkb]
    have b1 : 2 ≤ (q_kd X b).1 := by rw [hkb]; show 2 ≤ 7; omega
    have b1' : (q_kd X b).1 ≤ 9 := by rw [hkb]; show 7 ≤ 9; omega
    have b2 : ((q_kd X b).2 : Int) = L := by rw [hkb]
    by_cases hend : L < 7 * k + 7
    · refine ⟨X, fun P => ?_, JI_room hJ (by omega)⟩
      simp (disch := first | assumption | exact bI_lo | exact bI_hi | exact bI_01 | (show (List.map q_wd _).sum ≤ 8; with_unfolding_all exact Nat.le_of_ble_eq_true rfl) | omega) only [kL_law_18, kL_law_19, kL_law_20, kL_law_21, kL_law_23, kL_law_24, kL_law_1042, kL_law_1043, q_cut_i, q_cut_r, q_cut_l, q_cut_n, q_psh_n, q_psh_s, bI_eq0, ite_not, ↓if_pos, ↓if_neg, ↓ite_bI_t, ↓ite_bI_f, b2]
    · have hk : k ≤ 511 := by omega
      have hL7 : 7 * k + 7 ≤ L := by omega
      have go : ∀ pc, LNX m t0 b L xi k X pc → ∃ M1, (∀ P : QP, Rr (q_C 1000) mL_law (pc, [some (qr b), some (qr t0), some (qr m), some (qi (7 * (k : Int)))], [], X) P = P (some (qi 1)) M1) ∧ q_nc M1 ≤ 600000 ∧ q_ns M1 ≤ 7302250 := fun pc hN => by
        obtain ⟨X2, hJ2, k2, s2, hr⟩ := hN
        obtain ⟨M1, q1, q2⟩ := ih (k + 1) X2 (by omega) (by omega) hJ2 k2 s2
        exact ⟨M1, fun P => (hr P).trans (q1 P), q2⟩
      obtain ⟨a1, a2⟩ := q_and_R (xi (7 * (k : Int)).toNat) 31
      obtain ⟨A, hA⟩ : ∃ A, A = q_and (xi (7 * (k : Int)).toNat) 31 := ⟨_, rfl⟩
      rw [← hA] at a1 a2
      have red : ∀ P : QP, Rr (q_C 1000) mL_law (18, [some (qr b), some (qr t0), some (qr m), some (qi (7 * (k : Int)))], [], X) P = Rr (q_C 1000) mL_law (33, [some (qr b), some (qr t0), some (qr m), some (qi (7 * (k : Int)))], [qi A], X) P := fun P => by
        simp (disch := first | assumption | exact bI_lo | exact bI_hi | exact bI_01 | (show (List.map q_wd _).sum ≤ 8; with_unfolding_all exact Nat.le_of_ble_eq_true rfl) | omega) only [kL_law_18, kL_law_19, kL_law_20, kL_law_21, kL_law_23, kL_law_24, kL_law_27, kL_law_28, kL_law_29, kL_law_30, kL_law_32, q_cut_i, q_cut_r, q_cut_l, q_cut_n, q_psh_n, q_psh_s, bI_eq0, ite_not, ↓if_pos, ↓if_neg, ↓ite_bI_t, ↓ite_bI_f, b2, hs, ← hA]
      have sw := fun P : QP => (red P).trans (kL_law_33 (st := []) (L := [some (qr b), some (qr t0), some (qr m), some (qi (7 * (k : Int)))]) (M := X) (x := P) (C := q_C 1000) a1 a2)
      by_cases e0 : A = 0
      · obtain ⟨M1, q1, q2⟩ := go 160 (lw_feed hJ hk hbt hkb hs hL7 hx)
        refine ⟨M1, fun P => ?_, q2⟩
        rw [sw P, if_pos e0]
        exact q1 P
      by_cases e1 : A = 1
      · obtain ⟨M1, q1, q2⟩ := go 235 (lw_found hJ hk hbt hkb hs hL7 hx)
        refine ⟨M1, fun P => ?_, q2⟩
        rw [sw P, if_neg e0, if_pos e1]
        exact q1 P
      by_cases e2 : A = 2
      · obtain ⟨M1, q1, q2⟩ := go 278 (lw_rename hJ hk hbt hkb hs hL7 hx)
        refine ⟨M1, fun P => ?_, q2⟩
        rw [sw P, if_neg e0, if_neg e1, if_pos e2]
        exact q1 P
      by_cases e3 : A = 3
      · obtain ⟨M1, q1, q2⟩ := go 311 (lw_move hJ hk hbt hkb hs hL7 hx)
        refine ⟨M1, fun P => ?_, q2⟩
        rw [sw P, if_neg e0, if_neg e1, if_neg e2, if_pos e3]
        exact q1 P
      by_cases e4 : A = 4
      · obtain ⟨M1, q1, q2⟩ := go 354 (lw_split hJ hk hbt hkb hs hL7 hx)
        refine ⟨M1, fun P => ?_, q2⟩
        rw [sw P, if_neg e0, if_neg e1, if_neg e2, if_neg e3, if_pos e4]
        exact q1 P
      by_cases e5 : A = 5
      · obtain ⟨M1, q1, q2⟩ := go 387 (lw_merge hJ hk hbt hkb hs hL7 hx)
        refine ⟨M1, fun P => ?_, q2⟩
        rw [sw P, if_neg e0, if_neg e1, if_neg e2, if_neg e3, if_neg e4, if_pos e5]
        exact q1 P
      by_cases e6 : A = 6
      · obtain ⟨M1, q1, q2⟩ := go 430 (lw_close hJ hk hbt hkb hs hL7 hx)
        refine ⟨M1, fun P => ?_, q2⟩
        rw [sw P, if_neg e0, if_neg e1, if_neg e2, if_neg e3, if_neg e4, if_neg e5, if_pos e6]
        exact q1 P
      by_cases e7 : A = 7
      · obtain ⟨M1, q1, q2⟩ := go 463 (lw_run hJ hk hbt hkb hs hL7 hx)
        refine ⟨M1, fun P => ?_, q2⟩
        rw [sw P, if_neg e0, if_neg e1, if_neg e2, if_neg e3, if_neg e4, if_neg e5, if_neg e6, if_pos e7]
        exact q1 P
      by_cases e8 : A = 8
      · obtain ⟨M1, q1, q2⟩ := go 476 (lw_reason hJ hk hbt hkb hs hL7 hx)
        refine ⟨M1, fun P => ?_, q2⟩
        rw [sw P, if_neg e0, if_neg e1, if_neg e2, if_neg e3, if_neg e4, if_neg e5, if_neg e6, if_neg e7, if_pos e8]
        exact q1 P
      by_cases e9 : A = 9
      · obtain ⟨M1, q1, q2⟩ := go 489 (lw_on hJ hk hbt hkb hs hL7 hx)
        refine ⟨M1, fun P => ?_, q2⟩
        rw [sw P, if_neg e0, if_neg e1, if_neg e2, if_neg e3, if_neg e4, if_neg e5, if_neg e6, if_neg e7, if_neg e8, if_pos e9]
        exact q1 P
      by_cases e10 : A = 10
      · obtain ⟨M1, q1, q2⟩ := go 532 (lw_of hJ hk hbt hkb hs hL7 hx)
        refine ⟨M1, fun P => ?_, q2⟩
        rw [sw P, if_neg e0, if_neg e1, if_neg e2, if_neg e3, if_neg e4, if_neg e5, if_neg e6, if_neg e7, if_neg e8, if_neg e9, if_pos e10]
        exact q1 P
      by_cases e11 : A = 11
      · obtain ⟨M1, q1, q2⟩ := go 565 (lw_event hJ hk hbt hkb hs hL7 hx)
        refine ⟨M1, fun P => ?_, q2⟩
        rw [sw P, if_neg e0, if_neg e1, if_neg e2, if_neg e3, if_neg e4, if_neg e5, if_neg e6, if_neg e7, if_neg e8, if_neg e9, if_neg e10, if_pos e11]
        exact q1 P
      by_cases e12 : A = 12
      · obtain ⟨M1, q1, q2⟩ := go 608 (lw_again hJ hk hbt hkb hs hL7 hx)
        refine ⟨M1, fun P => ?_, q2⟩
        rw [sw P, if_neg e0, if_neg e1, if_neg e2, if_neg e3, if_neg e4, if_neg e5, if_neg e6, if_neg e7, if_neg e8, if_neg e9, if_neg e10, if_neg e11, if_pos e12]
        exact q1 P
      by_cases e13 : A = 13
      · obtain ⟨M1, q1, q2⟩ := go 641 (lw_lookup hJ hk hbt hkb hs hL7 hx)
        refine ⟨M1, fun P => ?_, q2⟩
        rw [sw P, if_neg e0, if_neg e1, if_neg e2, if_neg e3, if_neg e4, if_neg e5, if_neg e6, if_neg e7, if_neg e8, if_neg e9, if_neg e10, if_neg e11, if_neg e12, if_pos e13]
        exact q1 P
      by_cases e14 : A = 14
      · obtain ⟨M1, q1, q2⟩ := go 674 (lw_sought hJ hk hbt hkb hs hL7 hx)
        refine ⟨M1, fun P => ?_, q2⟩
        rw [sw P, if_neg e0, if_neg e1, if_neg e2, if_neg e3, if_neg e4, if_neg e5, if_neg e6, if_neg e7, if_neg e8, if_neg e9, if_neg e10, if_neg e11, if_neg e12, if_neg e13, if_pos e14]
        exact q1 P
      by_cases e15 : A = 15
      · obtain ⟨M1, q1, q2⟩ := go 697 (lw_filter hJ hk hbt hkb hs hL7 hx)
        refine ⟨M1, fun P => ?_, q2⟩
        rw [sw P, if_neg e0, if_neg e1, if_neg e2, if_neg e3, if_neg e4, if_neg e5, if_neg e6, if_neg e7, if_neg e8, if_neg e9, if_neg e10, if_neg e11, if_neg e12, if_neg e13, if_neg e14, if_pos e15]
        exact q1 P
      by_cases e16 : A = 16
      · obtain ⟨M1, q1, q2⟩ := go 730 (lw_join hJ hk hbt hkb hs hL7 hx)
        refine ⟨M1, fun P => ?_, q2⟩
        rw [sw P, if_neg e0, if_neg e1, if_neg e2, if_neg e3, if_neg e4, if_neg e5, if_neg e6, if_neg e7, if_neg e8, if_neg e9, if_neg e10, if_neg e11, if_neg e12, if_neg e13, if_neg e14, if_neg e15, if_pos e16]
        exact q1 P
      by_cases e17 : A = 17
      · obtain ⟨M1, q1, q2⟩ := go 773 (lw_drop hJ hk hbt hkb hs hL7 hx)
        refine ⟨M1, fun P => ?_, q2⟩
        rw [sw P, if_neg e0, if_neg e1, if_neg e2, if_neg e3, if_neg e4, if_neg e5, if_neg e6, if_neg e7, if_neg e8, if_neg e9, if_neg e10, if_neg e11, if_neg e12, if_neg e13, if_neg e14, if_neg e15, if_neg e16, if_pos e17]
        exact q1 P
      by_cases e18 : A = 18
      · obtain ⟨M1, q1, q2⟩ := go 796 (lw_fits hJ hk hbt hkb hs hL7 hx)
        refine ⟨M1, fun P => ?_, q2⟩
        rw [sw P, if_neg e0, if_neg e1, if_neg e2, if_neg e3, if_neg e4, if_neg e5, if_neg e6, if_neg e7, if_neg e8, if_neg e9, if_neg e10, if_neg e11, if_neg e12, if_neg e13, if_neg e14, if_neg e15, if_neg e16, if_neg e17, if_pos e18]
        exact q1 P
      by_cases e19 : A = 19
      · obtain ⟨M1, q1, q2⟩ := go 829 (lw_write hJ hk hbt hkb hs hL7 hx)
        refine ⟨M1, fun P => ?_, q2⟩
        rw [sw P, if_neg e0, if_neg e1, if_neg e2, if_neg e3, if_neg e4, if_neg e5, if_neg e6, if_neg e7, if_neg e8, if_neg e9, if_neg e10, if_neg e11, if_neg e12, if_neg e13, if_neg e14, if_neg e15, if_neg e16, if_neg e17, if_neg e18, if_pos e19]
        exact q1 P
      by_cases e20 : A = 20
      · obtain ⟨M1, q1, q2⟩ := go 852 (lw_paper hJ hk hbt hkb hs hL7 hx)
        refine ⟨M1, fun P => ?_, q2⟩
        rw [sw P, if_neg e0, if_neg e1, if_neg e2, if_neg e3, if_neg e4, if_neg e5, if_neg e6, if_neg e7, if_neg e8, if_neg e9, if_neg e10, if_neg e11, if_neg e12, if_neg e13, if_neg e14, if_neg e15, if_neg e16, if_neg e17, if_neg e18, if_neg e19, if_pos e20]
        exact q1 P
      by_cases e21 : A = 21
      · obtain ⟨M1, q1, q2⟩ := go 875 (lw_changed hJ hk hbt hkb hs hL7 hx)
        refine ⟨M1, fun P => ?_, q2⟩
        rw [sw P, if_neg e0, if_neg e1, if_neg e2, if_neg e3, if_neg e4, if_neg e5, if_neg e6, if_neg e7, if_neg e8, if_neg e9, if_neg e10, if_neg e11, if_neg e12, if_neg e13, if_neg e14, if_neg e15, if_neg e16, if_neg e17, if_neg e18, if_neg e19, if_neg e20, if_pos e21]
        exact q1 P
      by_cases e22 : A = 22
      · obtain ⟨M1, q1, q2⟩ := go 908 (lw_longest hJ hk hbt hkb hs hL7 hx)
        refine ⟨M1, fun P => ?_, q2⟩
        rw [sw P, if_neg e0, if_neg e1, if_neg e2, if_neg e3, if_neg e4, if_neg e5, if_neg e6, if_neg e7, if_neg e8, if_neg e9, if_neg e10, if_neg e11, if_neg e12, if_neg e13, if_neg e14, if_neg e15, if_neg e16, if_neg e17, if_neg e18, if_neg e19, if_neg e20, if_neg e21, if_pos e22]
        exact q1 P
      by_cases e23 : A = 23
      · obtain ⟨M1, q1, q2⟩ := go 941 (lw_account hJ hk hbt hkb hs hL7 hx)
        refine ⟨M1, fun P => ?_, q2⟩
        rw [sw P, if_neg e0, if_neg e1, if_neg e2, if_neg e3, if_neg e4, if_neg e5, if_neg e6, if_neg e7, if_neg e8, if_neg e9, if_neg e10, if_neg e11, if_neg e12, if_neg e13, if_neg e14, if_neg e15, if_neg e16, if_neg e17, if_neg e18, if_neg e19, if_neg e20, if_neg e21, if_neg e22, if_pos e23]
        exact q1 P
      by_cases e24 : A = 24
      · obtain ⟨M1, q1, q2⟩ := go 974 (lw_back hJ hk hbt hkb hs hL7 hx)
        refine ⟨M1, fun P => ?_, q2⟩
        rw [sw P, if_neg e0, if_neg e1, if_neg e2, if_neg e3, if_neg e4, if_neg e5, if_neg e6, if_neg e7, if_neg e8, if_neg e9, if_neg e10, if_neg e11, if_neg e12, if_neg e13, if_neg e14, if_neg e15, if_neg e16, if_neg e17, if_neg e18, if_neg e19, if_neg e20, if_neg e21, if_neg e22, if_neg e23, if_pos e24]
        exact q1 P
      by_cases e25 : A = 25
      · obtain ⟨M1, q1, q2⟩ := go 987 (lw_image hJ hk hbt hkb hs hL7 hx)
        refine ⟨M1, fun P => ?_, q2⟩
        rw [sw P, if_neg e0, if_neg e1, if_neg e2, if_neg e3, if_neg e4, if_neg e5, if_neg e6, if_neg e7, if_neg e8, if_neg e9, if_neg e10, if_neg e11, if_neg e12, if_neg e13, if_neg e14, if_neg e15, if_neg e16, if_neg e17, if_neg e18, if_neg e19, if_neg e20, if_neg e21, if_neg e22, if_neg e23, if_neg e24, if_pos e25]
        exact q1 P
      by_cases e26 : A = 26
      · obtain ⟨M1, q1, q2⟩ := go 1000 (lw_undo hJ hk hbt hkb hs hL7 hx)
        refine ⟨M1, fun P => ?_, q2⟩
        rw [sw P, if_neg e0, if_neg e1, if_neg e2, if_neg e3, if_neg e4, if_neg e5, if_neg e6, if_neg e7, if_neg e8, if_neg e9, if_neg e10, if_neg e11, if_neg e12, if_neg e13, if_neg e14, if_neg e15, if_neg e16, if_neg e17, if_neg e18, if_neg e19, if_neg e20, if_neg e21, if_neg e22, if_neg e23, if_neg e24, if_neg e25, if_pos e26]
        exact q1 P
      by_cases e27 : A = 27
      · obtain ⟨M1, q1, q2⟩ := go 1013 (lw_count hJ hk hbt hkb hs hL7 hx)
        refine ⟨M1, fun P => ?_, q2⟩
        rw [sw P, if_neg e0, if_neg e1, if_neg e2, if_neg e3, if_neg e4, if_neg e5, if_neg e6, if_neg e7, if_neg e8, if_neg e9, if_neg e10, if_neg e11, if_neg e12, if_neg e13, if_neg e14, if_neg e15, if_neg e16, if_neg e17, if_neg e18, if_neg e19, if_neg e20, if_neg e21, if_neg e22, if_neg e23, if_neg e24, if_neg e25, if_neg e26, if_pos e27]
        exact q1 P
      -- no call
      obtain ⟨M1, q1, q2⟩ := go 1036 ⟨X, JI_next hJ, hkb, hs, fun P => by
        have e7 : 7 * ((k + 1 : Nat) : Int) = 7 * (k : Int) + 7 := by omega
        rw [e7]
        simp (disch := first | assumption | exact bI_lo | exact bI_hi | exact bI_01 | (show (List.map q_wd _).sum ≤ 8; with_unfolding_all exact Nat.le_of_ble_eq_true rfl) | omega) only [kL_law_1036, kL_law_1039, q_cut_i, q_cut_r, q_cut_l, q_cut_n, q_psh_n, q_psh_s, bI_eq0, ite_not]⟩
      refine ⟨M1, fun P => ?_, q2⟩
      rw [sw P, if_neg e0, if_neg e1, if_neg e2, if_neg e3, if_neg e4, if_neg e5, if_neg e6, if_neg e7, if_neg e8, if_neg e9, if_neg e10, if_neg e11, if_neg e12, if_neg e13, if_neg e14, if_neg e15, if_neg e16, if_neg e17, if_neg e18, if_neg e19, if_neg e20, if_neg e21, if_neg e22, if_neg e23, if_neg e24, if_neg e25, if_neg e26, if_neg e27]
      exact q1 P
end LWL
