
/-! History.print -/
theorem rLt_127 (w : Int) : 0 ≤ rLt w ∧ rLt w ≤ 127 := by
  unfold rLt
  repeat' split
  all_goals omega
theorem HI_fr {M M' : QM} {t s p r : Nat} {l : List (Int × Int × Int)} {A : Nat → Prop} (hw : q_wf M) (h : HI M t s p r l) (hf : q_fr A M M') (h1 : ¬ A t) (h2 : ¬ A s) (h3 : ¬ A p) (h4 : ¬ A r) : HI M' t s p r l :=
  HI_sm h (Sm_fr hf (hw.lt (by rw [h.1]; simp)) h1) (Sm_fr hf (hw.lt (by rw [h.2.2.2.2.2.1]; simp)) h2) (Sm_fr hf (hw.lt (by rw [h.2.2.2.2.2.2.1]; simp)) h3) (Sm_fr hf (hw.lt (by rw [h.2.2.2.2.2.2.2.1]; simp)) h4)
section STR
variable {M : QM} {d : Nat} {x : QP}
theorem uJ0_len (hC : CST M) : q_T (d + 2) iJ0_length_8abf5 [qr (q_gs M 1)] M x = x (some (qi 9)) M := by
  have k5a : 2 ≤ (q_kd M (q_gs M 5)).1 := by rw [hC.2.2.1]; exact Nat.le_of_ble_eq_true rfl
  have k5b : (q_kd M (q_gs M 5)).1 ≤ 9 := by rw [hC.2.2.1]; exact Nat.le_of_ble_eq_true rfl
  have k5c : ((q_kd M (q_gs M 5)).2 : Int) = 9 := by rw [hC.2.2.1]; rfl
  have s9 : q_shr 9 0 = 9 := (y_sh0 9 (by omega)).1
  have rc : ∀ x : QP, q_T (d + 1) iJ0_coder_7d493 [qr (q_gs M 1)] M x = x (some (qi 0)) M := fun x => by
    rw [eJ0_coder_7d493]
    simp (disch := first | assumption | exact bI_lo | exact bI_hi | exact bI_01 | (show (List.map q_wd _).sum ≤ 8; with_unfolding_all exact Nat.le_of_ble_eq_true rfl) | omega) only [kJ0_coder_7d493_0, kJ0_coder_7d493_3, kJ0_coder_7d493_6, kJ0_coder_7d493_7, kJ0_coder_7d493_10, kJ0_coder_7d493_13, kJ0_coder_7d493_14, q_cut_i, q_cut_r, q_cut_l, q_cut_n, q_psh_n, q_psh_s, bI_eq0, ite_not, ↓if_pos, ↓if_neg, ↓ite_bI_t, ↓ite_bI_f]
  rw [eJ0_length_8abf5]
  simp (disch := first | assumption | exact bI_lo | exact bI_hi | exact bI_01 | (show (List.map q_wd _).sum ≤ 8; with_unfolding_all exact Nat.le_of_ble_eq_true rfl) | omega) only [kJ0_length_8abf5_0, kJ0_length_8abf5_1, kJ0_length_8abf5_4, kJ0_length_8abf5_5, kJ0_length_8abf5_6E, kJ0_length_8abf5_9, kJ0_length_8abf5_10, q_cut_i, q_cut_r, q_cut_l, q_cut_n, q_psh_n, q_psh_s, bI_eq0, ite_not, ↓if_pos, ↓if_neg, ↓ite_bI_t, ↓ite_bI_f, rc, k5c, s9]
theorem uJ0_at {z : Int} (hC : CST M) (h0 : 0 ≤ z) (h1 : z < 9) : q_T (d + 4) iJ0_charAt_5068e [qr (q_gs M 1), qi z] M x = x (some (qi (rLt z))) M := by
  have k5a : 2 ≤ (q_kd M (q_gs M 5)).1 := by rw [hC.2.2.1]; exact Nat.le_of_ble_eq_true rfl
  have k5b : (q_kd M (q_gs M 5)).1 ≤ 9 := by rw [hC.2.2.1]; exact Nat.le_of_ble_eq_true rfl
  have k5d : (q_kd M (q_gs M 5)).1 = 4 ∨ (q_kd M (q_gs M 5)).1 = 8 := Or.inr (by rw [hC.2.2.1])
  have k5c : ((q_kd M (q_gs M 5)).2 : Int) = 9 := by rw [hC.2.2.1]; rfl
  have hv : q_fv M (q_gs M 5) z.toNat = qi (rLt z) := by
    rw [hC.2.2.2.2.2 z.toNat (by omega)]
    rw [show ((z.toNat : Nat) : Int) = z by omega]
  have hb := rLt_127 z
  have yb := y_byte hb.1 hb.2
  have rl : ∀ x : QP, q_T (d + 3) iJ0_isLatin1_aae02 [qr (q_gs M 1)] M x = x (some (qi 1)) M := fun x => by
    rw [eJ0_isLatin1_aae02]
    simp (disch := first | assumption | exact bI_lo | exact bI_hi | exact bI_01 | (show (List.map q_wd _).sum ≤ 8; with_unfolding_all exact Nat.le_of_ble_eq_true rfl) | omega) only [kJ0_isLatin1_aae02_0, kJ0_isLatin1_aae02_3, kJ0_isLatin1_aae02_6, kJ0_isLatin1_aae02_7, kJ0_isLatin1_aae02_10, kJ0_isLatin1_aae02_13, kJ0_isLatin1_aae02_14, kJ0_isLatin1_aae02_17, kJ0_isLatin1_aae02_18, q_cut_i, q_cut_r, q_cut_l, q_cut_n, q_psh_n, q_psh_s, bI_eq0, ite_not, ↓if_pos, ↓if_neg, ↓ite_bI_t, ↓ite_bI_f]
  have rc : ∀ x : QP, q_T (d + 2) iJ0_checkIndex_df160 [qi z, qi 9] M x = x none M := fun x => by
    rw [eJ0_checkIndex_df160]
    by_cases g : q_gs M 4 = 0
    · simp (disch := first | assumption | exact bI_lo | exact bI_hi | exact bI_01 | (show (List.map q_wd _).sum ≤ 8; with_unfolding_all exact Nat.le_of_ble_eq_true rfl) | omega) only [kJ0_checkIndex_df160_0, kJ0_checkIndex_df160_1, kJ0_checkIndex_df160_2, kJ0_checkIndex_df160_5E, kJ0_checkIndex_df160_8i, kJ0_checkIndex_df160_8r, kJ0_checkIndex_df160_9, q_cut_i, q_cut_r, q_cut_l, q_cut_n, q_psh_n, q_psh_s, bI_eq0, ite_not, if_pos g, uJ3_check (i := z) (n := 9) (by omega) (by omega) (by omega)]
    · simp (disch := first | assumption | exact bI_lo | exact bI_hi | exact bI_01 | (show (List.map q_wd _).sum ≤ 8; with_unfolding_all exact Nat.le_of_ble_eq_true rfl) | omega) only [kJ0_checkIndex_df160_0, kJ0_checkIndex_df160_1, kJ0_checkIndex_df160_2, kJ0_checkIndex_df160_5E, kJ0_checkIndex_df160_8i, kJ0_checkIndex_df160_8r, kJ0_checkIndex_df160_9, q_cut_i, q_cut_r, q_cut_l, q_cut_n, q_psh_n, q_psh_s, bI_eq0, ite_not, if_neg g, uJ3_check (i := z) (n := 9) (by omega) (by omega) (by omega)]
  have ra : ∀ x : QP, q_T (d + 3) iJ1_charAt_3b067 [qr (q_gs M 5), qi z] M x = x (some (qi (rLt z))) M := fun x => by
    rw [eJ1_charAt_3b067]
    simp (disch := first | assumption | exact bI_lo | exact bI_hi | exact bI_01 | (show (List.map q_wd _).sum ≤ 8; with_unfolding_all exact Nat.le_of_ble_eq_true rfl) | omega) only [kJ1_charAt_3b067_0, kJ1_charAt_3b067_1, kJ1_charAt_3b067_2, kJ1_charAt_3b067_3E, kJ1_charAt_3b067_6, kJ1_charAt_3b067_7, kJ1_charAt_3b067_8, kJ1_charAt_3b067_9, kJ1_charAt_3b067_12, kJ1_charAt_3b067_13, kJ1_charAt_3b067_14, q_cut_i, q_cut_r, q_cut_l, q_cut_n, q_psh_n, q_psh_s, bI_eq0, ite_not, k5c, rc, hv, yb.2.1, yb.2.2]
  rw [eJ0_charAt_5068e]
  simp (disch := first | assumption | exact bI_lo | exact bI_hi | exact bI_01 | (show (List.map q_wd _).sum ≤ 8; with_unfolding_all exact Nat.le_of_ble_eq_true rfl) | omega) only [kJ0_charAt_5068e_0, kJ0_charAt_5068e_1E, kJ0_charAt_5068e_4, kJ0_charAt_5068e_7, kJ0_charAt_5068e_8, kJ0_charAt_5068e_11, kJ0_charAt_5068e_12E, kJ0_charAt_5068e_15, kJ0_charAt_5068e_16, kJ0_charAt_5068e_17, kJ0_charAt_5068e_20, kJ0_charAt_5068e_24, q_cut_i, q_cut_r, q_cut_l, q_cut_n, q_psh_n, q_psh_s, bI_eq0, ite_not, ↓if_pos, ↓if_neg, ↓ite_bI_t, ↓ite_bI_f, rl, ra]
end STR
/-- the paper written on -/
def SBst (M : QM) (a e cap : Nat) (A : QM) (e' cap' : Nat) (L : List Int) : Prop := SBm A a e' cap' L ∧ q_fr (fun x => x = a ∨ x = e) M A ∧ q_wf A ∧ q_gr M A cap cap' ∧ (e' = e ∨ q_top M ≤ e')
theorem SBst.tr {M A B : QM} {a e cap e1 cap1 e2 cap2 : Nat} {L1 L2 : List Int} (h1 : SBst M a e cap A e1 cap1 L1) (h2 : SBst A a e1 cap1 B e2 cap2 L2) : SBst M a e cap B e2 cap2 L2 := by
  obtain ⟨a1, a2, a3, a4, a5⟩ := h1
  obtain ⟨b1, b2, b3, b4, b5⟩ := h2
  refine ⟨b1, a2.tr2 b2 (fun x hx z => ?_), b3, a4.tr b4, ?_⟩
  · rcases z with z | z
    · exact Or.inl z
    · rcases a5 with z2 | z2
      · exact Or.inr (z.trans z2)
      · omega
  · rcases b5 with z | z
    · rcases a5 with z2 | z2
      · exact Or.inl (z.trans z2)
      · right; omega
    · right; have := a2.1; omega
section PRT
variable {M : QM} {d : Nat} {t s p r a e cap : Nat} {l : List (Int × Int × Int)}
def hEv (l : List (Int × Int × Int)) (j : Nat) : Int × Int × Int := l.getD j (0, 0, 0)
theorem hEv_e {i : Nat} (h : i < l.length) : hEv l i = l[i] := by
  unfold hEv
  rw [List.getD_eq_getElem?_getD, List.getElem?_eq_getElem h]; rfl
theorem uX1_keptH (hT : HI M t s p r l) {x : QP} : q_T (d + 1) iX1_kept [qr t] M x = x (some (qi (min l.length 24 : Nat))) M := T_eq (fun P hP => sX1_kept hT hP) x
/-- one event -/
theorem print1 {l3 : Option CV} {k N : Nat} {L : List Int} (hT : HI M t s p r l) (hS : SBm M a e cap L) (hw : q_wf M) (hC : CST M) (hk : k < l.length) (hk2 : k < 24) (hL : L.length ≤ 300) (hy : 0 ≤ l[k].1 ∧ l[k].1 < 10000) (hs : 0 ≤ l[k].2.1 ∧ l[k].2.1 < 9) (hn : l[k].2.2 = -5 ∨ (0 ≤ l[k].2.2 ∧ l[k].2.2 < 10000)) : ∃ A e' cap' l3', (∀ P, Rr (q_C (d + 5)) mX1_print (21, [some (qr t), some (qr a), some (qi k), l3], [], M) P = Rr (q_C (d + 5)) mX1_print (2, [some (qr t), some (qr a), some (qi (k + 1 : Nat)), l3'], [], A) P) ∧ SBst M a e cap A e' cap' (L ++ ([rLt l[k].2.1] ++ (dgs 4 l[k].1 ++ (if l[k].2.2 = -5 then [] else [58] ++ dgs 4 l[k].2.2)))) := by
  have n8 : ∀ {B : QM} {e2 c2 : Nat} {L2 : List Int}, SBm B a e2 c2 L2 → ∀ b, (q_kd B b).1 = 8 → ¬ (b = a ∨ b = e2) := fun hB b hb z => by
    rcases z with z | z
    · rw [z, hB.1] at hb; simp at hb
    · rw [z, hB.2.2.2.2.1] at hb; simp at hb
  have nH : ∀ {B : QM} {e2 c2 : Nat} {L2 : List Int}, SBm B a e2 c2 L2 → HI B t s p r l → ∀ {B' : QM}, q_wf B → q_fr (fun x => x = a ∨ x = e2) B B' → HI B' t s p r l := fun hB hH B' hwB hf => by
    have ka := hB.1
    have ke := hB.2.2.2.2.1
    refine HI_fr hwB hH hf ?_ ?_ ?_ ?_
    · rintro (z | z)
      · exact q_neK hH.1 ka (by simp) z
      · exact q_neK hH.1 ke (by simp) z
    · rintro (z | z)
      · exact q_neK hH.2.2.2.2.2.1 ka (by simp) z
      · exact q_neK hH.2.2.2.2.2.1 ke (by simp) z
    · rintro (z | z)
      · exact q_neK hH.2.2.2.2.2.2.1 ka (by simp) z
      · exact q_neK hH.2.2.2.2.2.2.1 ke (by simp) z
    · rintro (z | z)
      · exact q_neK hH.2.2.2.2.2.2.2.1 ka (by simp) z
      · exact q_neK hH.2.2.2.2.2.2.2.1 ke (by simp) z
  have rl := rLt_127 l[k].2.1
  obtain ⟨M1, e1, c1, r1, S1, f1, w1, g1, d1⟩ := vSB_c (d := d) (c := rLt l[k].2.1) hS hw (by omega) rl.1 rl.2
  have st1 : SBst M a e cap M1 e1 c1 (L ++ [rLt l[k].2.1]) := ⟨S1, f1, w1, g1, d1⟩
  have H1 := nH hS hT hw f1
  have C1 := CST_fr hw hC f1 (n8 hS)
  have len1 : (L ++ [rLt l[k].2.1]).length = L.length + 1 := by simp
  obtain ⟨M2, e2, c2, r2, S2, f2, w2, g2, d2⟩ := vSB_i (d := d) (v := l[k].1) S1 w1 C1 (by omega) hy.1 hy.2
  have st2 := st1.tr (⟨S2, f2, w2, g2, d2⟩ : SBst M1 a e1 c1 M2 e2 c2 _)
  have H2 := nH S1 H1 w1 f2
  have C2 := CST_fr w1 C1 f2 (n8 S1)
  have dl := dgs_len 4 l[k].1
  have len2 : (L ++ [rLt l[k].2.1] ++ dgs 4 l[k].1).length ≤ L.length + 5 := by rw [List.length_append]; omega
  obtain ⟨v0, v1, v2⟩ := hT.2.2.2.2.2.2.2.2.2.2.2.2.1 k hk hk2
  obtain ⟨w10, w11, w12⟩ := H1.2.2.2.2.2.2.2.2.2.2.2.2.1 k hk hk2
  obtain ⟨w20, w21, w22⟩ := H2.2.2.2.2.2.2.2.2.2.2.2.2.1 k hk hk2
  obtain ⟨kt, f0, f1', f2', -, ks, kp, kr, -⟩ := id hT
  obtain ⟨kt1, f10, f11, f12, -, ks1, kp1, kr1, -⟩ := id H1
  obtain ⟨kt2, f20, f21, f22, -, ks2, kp2, kr2, -⟩ := id H2
  have ka := hS.1
  have ka1 := S1.1
  have ka2 := S2.1
  have ep1 : (q_kd M p).1 = 2 := by rw [kp]
  have ep2 : ((q_kd M p).2 : Int) = 24 := by rw [kp]; rfl
  have es1 : (q_kd M1 s).1 = 2 := by rw [ks1]
  have es2 : ((q_kd M1 s).2 : Int) = 24 := by rw [ks1]; rfl
  have er1 : (q_kd M2 r).1 = 2 := by rw [kr2]
  have er2 : ((q_kd M2 r).2 : Int) = 24 := by rw [kr2]; rfl
  have en : ((k + 1 : Nat) : Int) = (k : Int) + 1 := by omega
  by_cases gn : l[k].2.2 = -5
  · refine ⟨M2, e2, c2, some (qi l[k].2.1), fun P => ?_, ?_⟩
    · rw [en]
      simp (disch := first | assumption | exact bI_lo | exact bI_hi | exact bI_01 | (show (List.map q_wd _).sum ≤ 8; with_unfolding_all exact Nat.le_of_ble_eq_true rfl) | omega) only [kX1_print_21, kX1_print_22, kX1_print_25, kX1_print_26, kX1_print_27, kX1_print_28, kX1_print_29, kX1_print_30, kX1_print_33, kX1_print_34, kX1_print_36E, kX1_print_39, kX1_print_42, kX1_print_44, kX1_print_45E, kX1_print_48, kX1_print_51, kX1_print_53E, kX1_print_56i, kX1_print_56r, kX1_print_57, kX1_print_58, kX1_print_59, kX1_print_62, kX1_print_63, kX1_print_64E, kX1_print_67i, kX1_print_67r, kX1_print_68, kX1_print_69, kX1_print_72, kX1_print_73, kX1_print_74, kX1_print_76, kX1_print_79, kX1_print_80, kX1_print_82E, kX1_print_85i, kX1_print_85r, kX1_print_86, kX1_print_87, kX1_print_88, kX1_print_91, kX1_print_92, kX1_print_93E, kX1_print_96i, kX1_print_96r, kX1_print_97, kX1_print_100, q_cut_i, q_cut_r, q_cut_l, q_cut_n, q_psh_n, q_psh_s, bI_eq0, ite_not, ↓if_pos, ↓if_neg, ↓ite_bI_t, ↓ite_bI_f, f1', q_toN, v1, uJ0_len hC, uJ0_at hC hs.1 hs.2, T_of r1, f10, w10, T_of r2, f22, w22]
    · rw [if_pos gn, List.append_nil, ← List.append_assoc]
      exact st2
  · have hn' : 0 ≤ l[k].2.2 ∧ l[k].2.2 < 10000 := by rcases hn with z | z; exact absurd z gn; exact z
    obtain ⟨M3, e3, c3, r3, S3, f3, w3, g3, d3⟩ := vSB_c (d := d) (c := 58) S2 w2 (by omega) (by omega) (by omega)
    have st3 := st2.tr (⟨S3, f3, w3, g3, d3⟩ : SBst M2 a e2 c2 M3 e3 c3 _)
    have H3 := nH S2 H2 w2 f3
    have C3 := CST_fr w2 C2 f3 (n8 S2)
    have len3 : (L ++ [rLt l[k].2.1] ++ dgs 4 l[k].1 ++ [58]).length ≤ L.length + 6 := by rw [List.length_append]; simp only [List.length_cons, List.length_nil]; omega
    obtain ⟨M4, e4, c4, r4, S4, f4, w4, g4, d4⟩ := vSB_i (d := d) (v := l[k].2.2) S3 w3 C3 (by omega) hn'.1 hn'.2
    have st4 := st3.tr (⟨S4, f4, w4, g4, d4⟩ : SBst M3 a e3 c3 M4 e4 c4 _)
    obtain ⟨w30, w31, w32⟩ := H3.2.2.2.2.2.2.2.2.2.2.2.2.1 k hk hk2
    obtain ⟨kt3, f30, f31, f32, -, ks3, kp3, kr3, -⟩ := id H3
    have ka3 := S3.1
    have ft1 : (q_kd M3 r).1 = 2 := by rw [kr3]
    have ft2 : ((q_kd M3 r).2 : Int) = 24 := by rw [kr3]; rfl
    refine ⟨M4, e4, c4, some (qi l[k].2.1), fun P => ?_, ?_⟩
    · rw [en]
      simp (disch := first | assumption | exact bI_lo | exact bI_hi | exact bI_01 | (show (List.map q_wd _).sum ≤ 8; with_unfolding_all exact Nat.le_of_ble_eq_true rfl) | omega) only [kX1_print_21, kX1_print_22, kX1_print_25, kX1_print_26, kX1_print_27, kX1_print_28, kX1_print_29, kX1_print_30, kX1_print_33, kX1_print_34, kX1_print_36E, kX1_print_39, kX1_print_42, kX1_print_44, kX1_print_45E, kX1_print_48, kX1_print_51, kX1_print_53E, kX1_print_56i, kX1_print_56r, kX1_print_57, kX1_print_58, kX1_print_59, kX1_print_62, kX1_print_63, kX1_print_64E, kX1_print_67i, kX1_print_67r, kX1_print_68, kX1_print_69, kX1_print_72, kX1_print_73, kX1_print_74, kX1_print_76, kX1_print_79, kX1_print_80, kX1_print_82E, kX1_print_85i, kX1_print_85r, kX1_print_86, kX1_print_87, kX1_print_88, kX1_print_91, kX1_print_92, kX1_print_93E, kX1_print_96i, kX1_print_96r, kX1_print_97, kX1_print_100, q_cut_i, q_cut_r, q_cut_l, q_cut_n, q_psh_n, q_psh_s, bI_eq0, ite_not, ↓if_pos, ↓if_neg, ↓ite_bI_t, ↓ite_bI_f, f1', q_toN, v1, uJ0_len hC, uJ0_at hC hs.1 hs.2, T_of r1, f10, w10, T_of r2, f22, w22, T_of r3, f32, w32, T_of r4]
    · rw [if_neg gn]
      have : L ++ ([rLt l[k].2.1] ++ (dgs 4 l[k].1 ++ ([58] ++ dgs 4 l[k].2.2))) = L ++ [rLt l[k].2.1] ++ dgs 4 l[k].1 ++ [58] ++ dgs 4 l[k].2.2 := by simp
      rw [this]
      exact st4
def hOk (l : List (Int × Int × Int)) : Prop := ∀ (k : Nat) (h : k < l.length), k < 24 → (0 ≤ l[k].1 ∧ l[k].1 < 10000) ∧ (0 ≤ l[k].2.1 ∧ l[k].2.1 < 9) ∧ (l[k].2.2 = -5 ∨ (0 ≤ l[k].2.2 ∧ l[k].2.2 < 10000))
theorem vX1_print (hT : HI M t s p r l) (hS : SBm M a e cap []) (hw : q_wf M) (hC : CST M) (hl : hOk l) : ∃ M' e' cap', q_C (d + 6) iX1_print [qr t, qr a] M none M' ∧ SBst M a e cap M' e' cap' (wAll (hEv l) (min l.length 24)) := by
  have loop : ∀ (m k : Nat) (A : QM) (e1 c1 : Nat) (l3 : Option CV), k + m = min l.length 24 → SBst M a e cap A e1 c1 (wAll (hEv l) k) → HI A t s p r l → CST A → ∃ B e2 c2, (∀ P, Rr (q_C (d + 5)) mX1_print (2, [some (qr t), some (qr a), some (qi k), l3], [], A) P = P none B) ∧ SBst M a e cap B e2 c2 (wAll (hEv l) (min l.length 24)) := by
    intro m
    induction m with
    | zero =>
      intro k A e1 c1 l3 hm hA hH hCA
      have ek : k = min l.length 24 := by omega
      refine ⟨A, e1, c1, fun P => ?_, by rw [← ek]; exact hA⟩
      have kk := hH.1
      have kp := fun x : QP => uX1_keptH (d := d + 4) (x := x) hH
      rw [← ek] at kp
      rw [kX1_print_2]
      simp (disch := first | assumption | exact bI_lo | exact bI_hi | exact bI_01 | (show (List.map q_wd _).sum ≤ 8; with_unfolding_all exact Nat.le_of_ble_eq_true rfl) | omega) only [kX1_print_3, kX1_print_4E, kX1_print_7, kX1_print_103, q_cut_i, q_cut_r, q_cut_l, q_cut_n, q_psh_n, q_psh_s, bI_eq0, ite_not, ↓if_pos, ↓if_neg, ↓ite_bI_t, ↓ite_bI_f, kp]
    | succ m ih =>
      intro k A e1 c1 l3 hm hA hH hCA
      have kl : k < l.length := by omega
      have k24 : k < 24 := by omega
      obtain ⟨o1, o2, o3⟩ := hl k kl k24
      have wl := wAll_len (hEv l) k
      have kk := hH.1
      have kp := fun x : QP => uX1_keptH (d := d + 4) (x := x) hH
      have ka := hA.1.1
      have next : ∀ (B : QM) (e2 c2 : Nat), SBst M a e cap B e2 c2 (wAll (hEv l) (k + 1)) → HI B t s p r l → CST B → ∀ l3', ∃ B' e3 c3, (∀ P, Rr (q_C (d + 5)) mX1_print (2, [some (qr t), some (qr a), some (qi (k + 1 : Nat)), l3'], [], B) P = P none B') ∧ SBst M a e cap B' e3 c3 (wAll (hEv l) (min l.length 24)) := fun B e2 c2 hB hH2 hC2 l3' => ih (k + 1) B e2 c2 l3' (by omega) hB hH2 hC2
      have fH : ∀ {B : QM} {e2 c2 : Nat} {L2 : List Int}, SBm B a e2 c2 L2 → HI B t s p r l → CST B → ∀ {B' : QM}, q_wf B → q_fr (fun x => x = a ∨ x = e2) B B' → HI B' t s p r l ∧ CST B' := fun {B e2 c2 L2} hB hH3 hC3 {B'} hwB hf => by
        have ka := hB.1
        have ke := hB.2.2.2.2.1
        refine ⟨HI_fr hwB hH3 hf ?_ ?_ ?_ ?_, CST_fr hwB hC3 hf (fun b hb z => ?_)⟩
        · rintro (z | z)
          · exact q_neK hH3.1 ka (by simp) z
          · exact q_neK hH3.1 ke (by simp) z
        · rintro (z | z)
          · exact q_neK hH3.2.2.2.2.2.1 ka (by simp) z
          · exact q_neK hH3.2.2.2.2.2.1 ke (by simp) z
        · rintro (z | z)
          · exact q_neK hH3.2.2.2.2.2.2.1 ka (by simp) z
          · exact q_neK hH3.2.2.2.2.2.2.1 ke (by simp) z
        · rintro (z | z)
          · exact q_neK hH3.2.2.2.2.2.2.2.1 ka (by simp) z
          · exact q_neK hH3.2.2.2.2.2.2.2.1 ke (by simp) z
        · rcases z with z | z
          · rw [z, ka] at hb; simp at hb
          · rw [z, ke] at hb; simp at hb
      have hw1 := hA.2.2.1
      by_cases g0 : k = 0
      · subst g0
        obtain ⟨B, e2, c2, l3', q1, q2⟩ := print1 (d := d) (l3 := l3) (N := 0) hH hA.1 hw1 hCA kl k24 (by omega) o1 o2 o3
        have hB := hA.tr q2
        obtain ⟨hB2, hB3⟩ := fH hA.1 hH hCA hw1 q2.2.1
        obtain ⟨B', e3, c3, t1, t2⟩ := next B e2 c2 (by
          rw [wAll, hEv_e kl]
          exact hB) hB2 hB3 l3'
        refine ⟨B', e3, c3, fun P => ?_, t2⟩
        have q1' := q1 P
        rw [t1 P] at q1'
        rw [kX1_print_2]
        simp (disch := first | assumption | exact bI_lo | exact bI_hi | exact bI_01 | (show (List.map q_wd _).sum ≤ 8; with_unfolding_all exact Nat.le_of_ble_eq_true rfl) | omega) only [kX1_print_3, kX1_print_4E, kX1_print_7, kX1_print_10, kX1_print_11, q_cut_i, q_cut_r, q_cut_l, q_cut_n, q_psh_n, q_psh_s, bI_eq0, ite_not, ↓if_pos, ↓if_neg, ↓ite_bI_t, ↓ite_bI_f, kp]
        exact q1'
      · obtain ⟨A1, e1', c1', r1, S1, f1, w1, g1, d1⟩ := vSB_c (d := d) (c := 32) hA.1 hw1 (by omega) (by omega) (by omega)
        obtain ⟨hH1, hC1⟩ := fH hA.1 hH hCA hw1 f1
        have st1 := hA.tr (⟨S1, f1, w1, g1, d1⟩ : SBst A a e1 c1 A1 e1' c1' _)
        have len1 : (wAll (hEv l) k ++ [32]).length = (wAll (hEv l) k).length + 1 := by simp
        obtain ⟨B, e2, c2, l3', q1, q2⟩ := print1 (d := d) (l3 := l3) (N := 0) hH1 S1 w1 hC1 kl k24 (by omega) o1 o2 o3
        have hB := st1.tr q2
        obtain ⟨hB2, hB3⟩ := fH S1 hH1 hC1 w1 q2.2.1
        obtain ⟨B', e3, c3, t1, t2⟩ := next B e2 c2 (by
          rw [wAll, hEv_e kl]
          have : (k == 0) = false := by simp [g0]
          rw [this]
          unfold wEv
          rw [if_neg (by decide), ← List.append_assoc]
          exact hB) hB2 hB3 l3'
        refine ⟨B', e3, c3, fun P => ?_, t2⟩
        have q1' := q1 P
        rw [t1 P] at q1'
        rw [kX1_print_2]
        simp (disch := first | assumption | exact bI_lo | exact bI_hi | exact bI_01 | (show (List.map q_wd _).sum ≤ 8; with_unfolding_all exact Nat.le_of_ble_eq_true rfl) | omega) only [kX1_print_3, kX1_print_4E, kX1_print_7, kX1_print_10, kX1_print_11, kX1_print_14, kX1_print_15, kX1_print_17E, kX1_print_20i, kX1_print_20r, q_cut_i, q_cut_r, q_cut_l, q_cut_n, q_psh_n, q_psh_s, bI_eq0, ite_not, ↓if_pos, ↓if_neg, ↓ite_bI_t, ↓ite_bI_f, kp, T_of r1]
        exact q1'
  obtain ⟨B, e2, c2, q1, q2⟩ := loop (min l.length 24) 0 M e cap none (by omega) ⟨hS, q_fr.rf, hw, q_gr.rf q_qt.rf, Or.inl rfl⟩ hT hC
  refine ⟨B, e2, c2, C_of (fun P => ?_), q2⟩
  have q1' := q1 P
  rw [eX1_print]
  simp (disch := first | assumption | exact bI_lo | exact bI_hi | exact bI_01 | (show (List.map q_wd _).sum ≤ 8; with_unfolding_all exact Nat.le_of_ble_eq_true rfl) | omega) only [kX1_print_0, kX1_print_1, q_cut_i, q_cut_r, q_cut_l, q_cut_n, q_psh_n, q_psh_s, bI_eq0, ite_not]
  exact q1'
end PRT
