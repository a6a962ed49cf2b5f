
/-! feed, count -/
section FEE
variable {M : QM} {g cN cT c : Nat → Nat} {e1 c1 e2 c2 : Nat} {L1 L2 : List Nat} {C : CWs} {J J2 : List Od} {ms : List Int} {hs lr hc : Int} {d : Nat} {x : QP}
theorem CRI_S {M' : QM} {S : Nat → Prop} (h : CRI M g cN cT c e1 c1 L1 e2 c2 L2 C J J2 ms hs lr hc) (hS' : ∀ s, S s → (1 ≤ s ∧ s ≤ 11) ∨ s = 15) (hF : q_fr (fun x => ∃ t, t < 244 ∧ S t ∧ x = g t) M M') (hw' : q_wf M') : CRI M' g cN cT c e1 c1 L1 e2 c2 L2 C J J2 ms hs lr hc := by
  obtain ⟨hg, hw, hk, h0, hR, hM, hC, hJ, hJ2, hd⟩ := h
  have n : ∀ s, s = 0 ∨ (12 ≤ s ∧ s ≤ 14) ∨ 16 ≤ s → ¬ S s := fun s hs z => by have := hS' s z; omega
  have hS : SMS S M M' g g := fun t ht hn => ⟨Sm_fr hF (hg.2 t ht) (fun z => by obtain ⟨u, hu, hSu, e⟩ := z; exact hn (hg.1 t u ht hu e ▸ hSu)), rfl⟩
  exact ⟨⟨hg.1, fun s hs => Nat.lt_of_lt_of_le (hg.2 s hs) hF.1⟩, hw', gK_fr hg hk hF, by rw [hF.2.1, hF.2.2.1 _ (hw.lt (by rw [h0]; simp)), h0], RO_ss hR hS (n 0 (by omega)) (fun _ _ => rfl), MK_ss hM hS (n 14 (by omega)), CMm_ss hC hS (fun t ht => n t (by omega)), JR_gf hg hw hk hF (by omega) (n 12 (by omega)) hJ, JR_gf hg hw hk hF (by omega) (n 13 (by omega)) hJ2, hd⟩
theorem vX8_append {t s : Nat} {l : List Int} {b : Int} (hT : TP M t s l) (h1 : -2147483648 ≤ b) (h2 : b < 2147483648) : ∃ M', q_C (d + 1) iX8_append [qr t, qi b] M none M' ∧ TP M' t s (tpApp l b) ∧ q_fr (fun x => x = t ∨ x = s) M M' ∧ q_qt M M' := by
  obtain ⟨r, M', hC, rfl, h3, h4, h5⟩ := sX8_append (d := d) hT h1 h2 (P := fun r M' => r = none ∧ TP M' t s (tpApp l b) ∧ q_fr (fun x => x = t ∨ x = s) M M' ∧ q_qt M M') (fun M' h1 h2 h3 => ⟨rfl, h1, h2, h3⟩)
  exact ⟨M', hC, h3, h4, h5⟩
theorem uX8_length {t s : Nat} {l : List Int} (hT : TP M t s l) : q_T (d + 1) iX8_length [qr t] M x = x (some (qi l.length)) M := T_eq (fun P hP => sX8_length hT hP) x
def fdN (l : List Int) (n a b c e f : Int) : Int := if n < 1 ∨ 5 < n then -2 else if ¬ ((0 ≤ a ∧ a ≤ 127) ∧ (0 ≤ b ∧ b ≤ 127) ∧ (0 ≤ c ∧ c ≤ 127) ∧ (0 ≤ e ∧ e ≤ 127) ∧ (0 ≤ f ∧ f ≤ 127)) then -2 else if 80 < l.length + n then -4 else 0
theorem vX12_feedY {l : List Int} {n a b b2 e f : Int} (h : CRI M g cN cT c e1 c1 L1 e2 c2 L2 C J J2 ms hs lr hc) (hT : TP M (g 1) (g 2) l) (hn : fdN l n a b b2 e f = 0) : ∃ M', q_C (d + 2) iX12_feed [qr (g 0), qi n, qi a, qi b, qi b2, qi e, qi f] M (some (qi (l.length + n))) M' ∧ TP M' (g 1) (g 2) (l ++ [a, b, b2, e, f].take n.toNat) ∧ CRI M' g cN cT c e1 c1 L1 e2 c2 L2 C J J2 ms hs lr hc ∧ q_fr (fun x => x = g 1 ∨ x = g 2) M M' ∧ q_qt M M' := by
  unfold fdN at hn
  have n1 : ¬ (n < 1 ∨ 5 < n) := fun z => by rw [if_pos z] at hn; omega
  rw [if_neg n1] at hn
  have n2 : (0 ≤ a ∧ a ≤ 127) ∧ (0 ≤ b ∧ b ≤ 127) ∧ (0 ≤ b2 ∧ b2 ≤ 127) ∧ (0 ≤ e ∧ e ≤ 127) ∧ (0 ≤ f ∧ f ≤ 127) := Decidable.byContradiction (fun z => by rw [if_pos z] at hn; omega)
  rw [if_neg (fun z => z n2)] at hn
  have n3 : ¬ 80 < l.length + n := fun z => by rw [if_pos z] at hn; omega
  obtain ⟨⟨a1, a2⟩, ⟨b1', b2'⟩, ⟨d1, d2⟩, ⟨x1, x2⟩, y1, y2⟩ := n2
  obtain ⟨M1, t1, T1, f1, q1⟩ := vX8_append (d := d) (b := a) hT (by omega) (by omega)
  obtain ⟨M2, t2, T2, f2, q2⟩ := vX8_append (d := d) (b := b) T1 (by omega) (by omega)
  obtain ⟨M3, t3, T3, f3, q3⟩ := vX8_append (d := d) (b := b2) T2 (by omega) (by omega)
  obtain ⟨M4, t4, T4, f4, q4⟩ := vX8_append (d := d) (b := e) T3 (by omega) (by omega)
  obtain ⟨M5, t5, T5, f5, q5⟩ := vX8_append (d := d) (b := f) T4 (by omega) (by omega)
  have hw := h.2.1
  have hg := h.1
  have g0l := hg.2 0 (by omega)
  have g1l := hg.2 1 (by omega)
  have m01 := g_ne hg (s := 0) (t := 1) (by omega) (by omega) (by omega)
  have m02 := g_ne hg (s := 0) (t := 2) (by omega) (by omega) (by omega)
  have F2 := f1.tr f2
  have F3 := F2.tr f3
  have F4 := F3.tr f4
  have F5 := F4.tr f5
  obtain ⟨-, -, -, -, hR, -⟩ := id h
  obtain ⟨k0', r0, r1, r2, r3, r4, r5, r6, r7, r8, r9, r10, r11, r12, r13⟩ := id hR
  have rd : ∀ A, q_fr (fun x => x = g 1 ∨ x = g 2) M A → q_kd A (g 0) = (1, 12) ∧ q_fv A (g 0) 0 = qr (g 1) ∧ q_kd A (g 1) = (1, 8) := fun A hA => ⟨by rw [hA.2.2.1 _ g0l, k0'], by rw [hA.2.2.2 _ g0l (by omega), r0], by rw [hA.2.2.1 _ g1l]; exact hT.1⟩
  obtain ⟨u1, v1, w1⟩ := rd M1 f1
  obtain ⟨u2, v2, w2⟩ := rd M2 F2
  obtain ⟨u3, v3, w3⟩ := rd M3 F3
  obtain ⟨u4, v4, w4⟩ := rd M4 F4
  obtain ⟨u5, v5, w5⟩ := rd M5 F5
  have w0 : q_kd M (g 1) = (1, 8) := hT.1
  have cri : ∀ A, q_fr (fun x => x = g 1 ∨ x = g 2) M A → q_wf A → CRI A g cN cT c e1 c1 L1 e2 c2 L2 C J J2 ms hs lr hc := fun A hA hwA => CRI_S (S := fun s => s = 1 ∨ s = 2) h (fun s hs => by omega) (hA.wk (fun x _ z => by
    rcases z with z | z
    · exact ⟨1, by omega, Or.inl rfl, z⟩
    · exact ⟨2, by omega, Or.inr rfl, z⟩)) hwA
  have e1' : 1 ≤ n → tpApp l a = l ++ [a] := fun _ => by unfold tpApp; rw [if_pos (by omega)]
  have e2' : 2 ≤ n → tpApp (tpApp l a) b = l ++ [a, b] := fun z => by
    rw [e1' (by omega)]; unfold tpApp; rw [if_pos (by simp; omega)]; simp
  have e3' : 3 ≤ n → tpApp (tpApp (tpApp l a) b) b2 = l ++ [a, b, b2] := fun z => by
    rw [e2' (by omega)]; unfold tpApp; rw [if_pos (by simp; omega)]; simp
  have e4' : 4 ≤ n → tpApp (tpApp (tpApp (tpApp l a) b) b2) e = l ++ [a, b, b2, e] := fun z => by
    rw [e3' (by omega)]; unfold tpApp; rw [if_pos (by simp; omega)]; simp
  have e5' : 5 ≤ n → tpApp (tpApp (tpApp (tpApp (tpApp l a) b) b2) e) f = l ++ [a, b, b2, e, f] := fun z => by
    rw [e4' (by omega)]; unfold tpApp; rw [if_pos (by simp; omega)]; simp
  have hn5 : n = 1 ∨ n = 2 ∨ n = 3 ∨ n = 4 ∨ n = 5 := by omega
  rcases hn5 with rfl | rfl | rfl | rfl | rfl
  · rw [e1' (by omega)] at T1
    refine ⟨M1, C_of (fun P => ?_), T1, cri M1 f1 (hw.qt q1), f1, q1⟩
    have ll := fun x : QP => uX8_length (d := d) (x := x) T1
    rw [show ((l ++ [a]).length : Int) = l.length + 1 by simp] at ll
    rw [eX12_feed]
    simp (disch := first | assumption | exact bI_lo | exact bI_hi | exact bI_01 | (show (List.map q_wd _).sum ≤ 8; with_unfolding_all exact Nat.le_of_ble_eq_true rfl) | omega) only [kX12_feed_0, kX12_feed_1, kX12_feed_2, kX12_feed_5, kX12_feed_6, kX12_feed_7, kX12_feed_10, kX12_feed_12, kX12_feed_13, kX12_feed_14E, kX12_feed_17, kX12_feed_20, kX12_feed_21E, kX12_feed_24, kX12_feed_27, kX12_feed_29E, kX12_feed_32, kX12_feed_35, kX12_feed_37E, kX12_feed_40, kX12_feed_43, kX12_feed_45E, kX12_feed_48, kX12_feed_51, kX12_feed_53, kX12_feed_54, kX12_feed_55, kX12_feed_58E, kX12_feed_61, kX12_feed_62, kX12_feed_63, kX12_feed_65, kX12_feed_68, kX12_feed_70, kX12_feed_71, kX12_feed_72, kX12_feed_75, kX12_feed_76E, kX12_feed_79, kX12_feed_80, kX12_feed_81, kX12_feed_84, kX12_feed_85, kX12_feed_88, kX12_feed_89E, kX12_feed_92, kX12_feed_93, kX12_feed_94, kX12_feed_97, kX12_feed_98, kX12_feed_101, kX12_feed_103E, kX12_feed_106, kX12_feed_107, kX12_feed_108, kX12_feed_111, kX12_feed_112, kX12_feed_115, kX12_feed_117E, kX12_feed_120, kX12_feed_121, kX12_feed_122, kX12_feed_125, kX12_feed_126, kX12_feed_129, kX12_feed_131E, kX12_feed_134, kX12_feed_135, kX12_feed_138E, kX12_feed_141, q_cut_i, q_cut_r, q_cut_l, q_cut_n, q_psh_n, q_psh_s, bI_eq0, ite_not, ↓if_pos, ↓if_neg, ↓ite_bI_t, ↓ite_bI_f, uX12_isByte, r0, uX8_length hT, T_of t1, v1, ll]
  · rw [e2' (by omega)] at T2
    refine ⟨M2, C_of (fun P => ?_), T2, cri M2 F2 ((hw.qt q1).qt q2), F2, q1.tr q2⟩
    have ll := fun x : QP => uX8_length (d := d) (x := x) T2
    rw [show ((l ++ [a, b]).length : Int) = l.length + 2 by simp] at ll
    rw [eX12_feed]
    simp (disch := first | assumption | exact bI_lo | exact bI_hi | exact bI_01 | (show (List.map q_wd _).sum ≤ 8; with_unfolding_all exact Nat.le_of_ble_eq_true rfl) | omega) only [kX12_feed_0, kX12_feed_1, kX12_feed_2, kX12_feed_5, kX12_feed_6, kX12_feed_7, kX12_feed_10, kX12_feed_12, kX12_feed_13, kX12_feed_14E, kX12_feed_17, kX12_feed_20, kX12_feed_21E, kX12_feed_24, kX12_feed_27, kX12_feed_29E, kX12_feed_32, kX12_feed_35, kX12_feed_37E, kX12_feed_40, kX12_feed_43, kX12_feed_45E, kX12_feed_48, kX12_feed_51, kX12_feed_53, kX12_feed_54, kX12_feed_55, kX12_feed_58E, kX12_feed_61, kX12_feed_62, kX12_feed_63, kX12_feed_65, kX12_feed_68, kX12_feed_70, kX12_feed_71, kX12_feed_72, kX12_feed_75, kX12_feed_76E, kX12_feed_79, kX12_feed_80, kX12_feed_81, kX12_feed_84, kX12_feed_85, kX12_feed_88, kX12_feed_89E, kX12_feed_92, kX12_feed_93, kX12_feed_94, kX12_feed_97, kX12_feed_98, kX12_feed_101, kX12_feed_103E, kX12_feed_106, kX12_feed_107, kX12_feed_108, kX12_feed_111, kX12_feed_112, kX12_feed_115, kX12_feed_117E, kX12_feed_120, kX12_feed_121, kX12_feed_122, kX12_feed_125, kX12_feed_126, kX12_feed_129, kX12_feed_131E, kX12_feed_134, kX12_feed_135, kX12_feed_138E, kX12_feed_141, q_cut_i, q_cut_r, q_cut_l, q_cut_n, q_psh_n, q_psh_s, bI_eq0, ite_not, ↓if_pos, ↓if_neg, ↓ite_bI_t, ↓ite_bI_f, uX12_isByte, r0, uX8_length hT, T_of t1, v1, T_of t2, v2, ll]
  · rw [e3' (by omega)] at T3
    refine ⟨M3, C_of (fun P => ?_), T3, cri M3 F3 (((hw.qt q1).qt q2).qt q3), F3, (q1.tr q2).tr q3⟩
    have ll := fun x : QP => uX8_length (d := d) (x := x) T3
    rw [show ((l ++ [a, b, b2]).length : Int) = l.length + 3 by simp] at ll
    rw [eX12_feed]
    simp (disch := first | assumption | exact bI_lo | exact bI_hi | exact bI_01 | (show (List.map q_wd _).sum ≤ 8; with_unfolding_all exact Nat.le_of_ble_eq_true rfl) | omega) only [kX12_feed_0, kX12_feed_1, kX12_feed_2, kX12_feed_5, kX12_feed_6, kX12_feed_7, kX12_feed_10, kX12_feed_12, kX12_feed_13, kX12_feed_14E, kX12_feed_17, kX12_feed_20, kX12_feed_21E, kX12_feed_24, kX12_feed_27, kX12_feed_29E, kX12_feed_32, kX12_feed_35, kX12_feed_37E, kX12_feed_40, kX12_feed_43, kX12_feed_45E, kX12_feed_48, kX12_feed_51, kX12_feed_53, kX12_feed_54, kX12_feed_55, kX12_feed_58E, kX12_feed_61, kX12_feed_62, kX12_feed_63, kX12_feed_65, kX12_feed_68, kX12_feed_70, kX12_feed_71, kX12_feed_72, kX12_feed_75, kX12_feed_76E, kX12_feed_79, kX12_feed_80, kX12_feed_81, kX12_feed_84, kX12_feed_85, kX12_feed_88, kX12_feed_89E, kX12_feed_92, kX12_feed_93, kX12_feed_94, kX12_feed_97, kX12_feed_98, kX12_feed_101, kX12_feed_103E, kX12_feed_106, kX12_feed_107, kX12_feed_108, kX12_feed_111, kX12_feed_112, kX12_feed_115, kX12_feed_117E, kX12_feed_120, kX12_feed_121, kX12_feed_122, kX12_feed_125, kX12_feed_126, kX12_feed_129, kX12_feed_131E, kX12_feed_134, kX12_feed_135, kX12_feed_138E, kX12_feed_141, q_cut_i, q_cut_r, q_cut_l, q_cut_n, q_psh_n, q_psh_s, bI_eq0, ite_not, ↓if_pos, ↓if_neg, ↓ite_bI_t, ↓ite_bI_f, uX12_isByte, r0, uX8_length hT, T_of t1, v1, T_of t2, v2, T_of t3, v3, ll]
  · rw [e4' (by omega)] at T4
    refine ⟨M4, C_of (fun P => ?_), T4, cri M4 F4 ((((hw.qt q1).qt q2).qt q3).qt q4), F4, ((q1.tr q2).tr q3).tr q4⟩
    have ll := fun x : QP => uX8_length (d := d) (x := x) T4
    rw [show ((l ++ [a, b, b2, e]).length : Int) = l.length + 4 by simp] at ll
    rw [eX12_feed]
    simp (disch := first | assumption | exact bI_lo | exact bI_hi | exact bI_01 | (show (List.map q_wd _).sum ≤ 8; with_unfolding_all exact Nat.le_of_ble_eq_true rfl) | omega) only [kX12_feed_0, kX12_feed_1, kX12_feed_2, kX12_feed_5, kX12_feed_6, kX12_feed_7, kX12_feed_10, kX12_feed_12, kX12_feed_13, kX12_feed_14E, kX12_feed_17, kX12_feed_20, kX12_feed_21E, kX12_feed_24, kX12_feed_27, kX12_feed_29E, kX12_feed_32, kX12_feed_35, kX12_feed_37E, kX12_feed_40, kX12_feed_43, kX12_feed_45E, kX12_feed_48, kX12_feed_51, kX12_feed_53, kX12_feed_54, kX12_feed_55, kX12_feed_58E, kX12_feed_61, kX12_feed_62, kX12_feed_63, kX12_feed_65, kX12_feed_68, kX12_feed_70, kX12_feed_71, kX12_feed_72, kX12_feed_75, kX12_feed_76E, kX12_feed_79, kX12_feed_80, kX12_feed_81, kX12_feed_84, kX12_feed_85, kX12_feed_88, kX12_feed_89E, kX12_feed_92, kX12_feed_93, kX12_feed_94, kX12_feed_97, kX12_feed_98, kX12_feed_101, kX12_feed_103E, kX12_feed_106, kX12_feed_107, kX12_feed_108, kX12_feed_111, kX12_feed_112, kX12_feed_115, kX12_feed_117E, kX12_feed_120, kX12_feed_121, kX12_feed_122, kX12_feed_125, kX12_feed_126, kX12_feed_129, kX12_feed_131E, kX12_feed_134, kX12_feed_135, kX12_feed_138E, kX12_feed_141, q_cut_i, q_cut_r, q_cut_l, q_cut_n, q_psh_n, q_psh_s, bI_eq0, ite_not, ↓if_pos, ↓if_neg, ↓ite_bI_t, ↓ite_bI_f, uX12_isByte, r0, uX8_length hT, T_of t1, v1, T_of t2, v2, T_of t3, v3, T_of t4, v4, ll]
  · rw [e5' (by omega)] at T5
    refine ⟨M5, C_of (fun P => ?_), T5, cri M5 F5 (((((hw.qt q1).qt q2).qt q3).qt q4).qt q5), F5, (((q1.tr q2).tr q3).tr q4).tr q5⟩
    have ll := fun x : QP => uX8_length (d := d) (x := x) T5
    rw [show ((l ++ [a, b, b2, e, f]).length : Int) = l.length + 5 by simp] at ll
    rw [eX12_feed]
    simp (disch := first | assumption | exact bI_lo | exact bI_hi | exact bI_01 | (show (List.map q_wd _).sum ≤ 8; with_unfolding_all exact Nat.le_of_ble_eq_true rfl) | omega) only [kX12_feed_0, kX12_feed_1, kX12_feed_2, kX12_feed_5, kX12_feed_6, kX12_feed_7, kX12_feed_10, kX12_feed_12, kX12_feed_13, kX12_feed_14E, kX12_feed_17, kX12_feed_20, kX12_feed_21E, kX12_feed_24, kX12_feed_27, kX12_feed_29E, kX12_feed_32, kX12_feed_35, kX12_feed_37E, kX12_feed_40, kX12_feed_43, kX12_feed_45E, kX12_feed_48, kX12_feed_51, kX12_feed_53, kX12_feed_54, kX12_feed_55, kX12_feed_58E, kX12_feed_61, kX12_feed_62, kX12_feed_63, kX12_feed_65, kX12_feed_68, kX12_feed_70, kX12_feed_71, kX12_feed_72, kX12_feed_75, kX12_feed_76E, kX12_feed_79, kX12_feed_80, kX12_feed_81, kX12_feed_84, kX12_feed_85, kX12_feed_88, kX12_feed_89E, kX12_feed_92, kX12_feed_93, kX12_feed_94, kX12_feed_97, kX12_feed_98, kX12_feed_101, kX12_feed_103E, kX12_feed_106, kX12_feed_107, kX12_feed_108, kX12_feed_111, kX12_feed_112, kX12_feed_115, kX12_feed_117E, kX12_feed_120, kX12_feed_121, kX12_feed_122, kX12_feed_125, kX12_feed_126, kX12_feed_129, kX12_feed_131E, kX12_feed_134, kX12_feed_135, kX12_feed_138E, kX12_feed_141, q_cut_i, q_cut_r, q_cut_l, q_cut_n, q_psh_n, q_psh_s, bI_eq0, ite_not, ↓if_pos, ↓if_neg, ↓ite_bI_t, ↓ite_bI_f, uX12_isByte, r0, uX8_length hT, T_of t1, v1, T_of t2, v2, T_of t3, v3, T_of t4, v4, T_of t5, v5, ll]
end FEE
