
/-! Reader: a command -/
def sF (c : Int) : Int := if c = 102 then 0 else if c = 114 then 1 else if c = 109 then 2 else if c = 115 then 3 else if c = 103 then 4 else if c = 99 then 5 else -1
theorem uX5_sortFor {d : Nat} {M : QM} {x : QP} {c : Int} (h1 : -2147483648 ≤ c) (h2 : c < 2147483648) : q_T (d + 1) iX5_sortFor [qi c] M x = x (some (qi (sF c))) M := by
  rw [eX5_sortFor]
  unfold sF
  by_cases g1 : c = 102
  · subst g1
    simp (disch := first | assumption | exact bI_lo | exact bI_hi | exact bI_01 | (show (List.map q_wd _).sum ≤ 8; with_unfolding_all exact Nat.le_of_ble_eq_true rfl) | omega) only [kX5_sortFor_0, kX5_sortFor_1, kX5_sortFor_84, kX5_sortFor_85, kX5_sortFor_86, kX5_sortFor_87, kX5_sortFor_88, kX5_sortFor_89, kX5_sortFor_90, kX5_sortFor_91, kX5_sortFor_92, kX5_sortFor_93, kX5_sortFor_94, kX5_sortFor_95, kX5_sortFor_96, kX5_sortFor_97, q_cut_i, q_cut_r, q_cut_l, q_cut_n, q_psh_n, q_psh_s, bI_eq0, ite_not, ↓if_pos, ↓if_neg, ↓ite_bI_t, ↓ite_bI_f]
  · by_cases g2 : c = 114
    · subst g2
      simp (disch := first | assumption | exact bI_lo | exact bI_hi | exact bI_01 | (show (List.map q_wd _).sum ≤ 8; with_unfolding_all exact Nat.le_of_ble_eq_true rfl) | omega) only [kX5_sortFor_0, kX5_sortFor_1, kX5_sortFor_84, kX5_sortFor_85, kX5_sortFor_86, kX5_sortFor_87, kX5_sortFor_88, kX5_sortFor_89, kX5_sortFor_90, kX5_sortFor_91, kX5_sortFor_92, kX5_sortFor_93, kX5_sortFor_94, kX5_sortFor_95, kX5_sortFor_96, kX5_sortFor_97, q_cut_i, q_cut_r, q_cut_l, q_cut_n, q_psh_n, q_psh_s, bI_eq0, ite_not, ↓if_pos, ↓if_neg, ↓ite_bI_t, ↓ite_bI_f]
    · by_cases g3 : c = 109
      · subst g3
        simp (disch := first | assumption | exact bI_lo | exact bI_hi | exact bI_01 | (show (List.map q_wd _).sum ≤ 8; with_unfolding_all exact Nat.le_of_ble_eq_true rfl) | omega) only [kX5_sortFor_0, kX5_sortFor_1, kX5_sortFor_84, kX5_sortFor_85, kX5_sortFor_86, kX5_sortFor_87, kX5_sortFor_88, kX5_sortFor_89, kX5_sortFor_90, kX5_sortFor_91, kX5_sortFor_92, kX5_sortFor_93, kX5_sortFor_94, kX5_sortFor_95, kX5_sortFor_96, kX5_sortFor_97, q_cut_i, q_cut_r, q_cut_l, q_cut_n, q_psh_n, q_psh_s, bI_eq0, ite_not, ↓if_pos, ↓if_neg, ↓ite_bI_t, ↓ite_bI_f]
      · by_cases g4 : c = 115
        · subst g4
          simp (disch := first | assumption | exact bI_lo | exact bI_hi | exact bI_01 | (show (List.map q_wd _).sum ≤ 8; with_unfolding_all exact Nat.le_of_ble_eq_true rfl) | omega) only [kX5_sortFor_0, kX5_sortFor_1, kX5_sortFor_84, kX5_sortFor_85, kX5_sortFor_86, kX5_sortFor_87, kX5_sortFor_88, kX5_sortFor_89, kX5_sortFor_90, kX5_sortFor_91, kX5_sortFor_92, kX5_sortFor_93, kX5_sortFor_94, kX5_sortFor_95, kX5_sortFor_96, kX5_sortFor_97, q_cut_i, q_cut_r, q_cut_l, q_cut_n, q_psh_n, q_psh_s, bI_eq0, ite_not, ↓if_pos, ↓if_neg, ↓ite_bI_t, ↓ite_bI_f]
        · by_cases g5 : c = 103
          · subst g5
            simp (disch := first | assumption | exact bI_lo | exact bI_hi | exact bI_01 | (show (List.map q_wd _).sum ≤ 8; with_unfolding_all exact Nat.le_of_ble_eq_true rfl) | omega) only [kX5_sortFor_0, kX5_sortFor_1, kX5_sortFor_84, kX5_sortFor_85, kX5_sortFor_86, kX5_sortFor_87, kX5_sortFor_88, kX5_sortFor_89, kX5_sortFor_90, kX5_sortFor_91, kX5_sortFor_92, kX5_sortFor_93, kX5_sortFor_94, kX5_sortFor_95, kX5_sortFor_96, kX5_sortFor_97, q_cut_i, q_cut_r, q_cut_l, q_cut_n, q_psh_n, q_psh_s, bI_eq0, ite_not, ↓if_pos, ↓if_neg, ↓ite_bI_t, ↓ite_bI_f]
          · by_cases g6 : c = 99
            · subst g6
              simp (disch := first | assumption | exact bI_lo | exact bI_hi | exact bI_01 | (show (List.map q_wd _).sum ≤ 8; with_unfolding_all exact Nat.le_of_ble_eq_true rfl) | omega) only [kX5_sortFor_0, kX5_sortFor_1, kX5_sortFor_84, kX5_sortFor_85, kX5_sortFor_86, kX5_sortFor_87, kX5_sortFor_88, kX5_sortFor_89, kX5_sortFor_90, kX5_sortFor_91, kX5_sortFor_92, kX5_sortFor_93, kX5_sortFor_94, kX5_sortFor_95, kX5_sortFor_96, kX5_sortFor_97, q_cut_i, q_cut_r, q_cut_l, q_cut_n, q_psh_n, q_psh_s, bI_eq0, ite_not, ↓if_pos, ↓if_neg, ↓ite_bI_t, ↓ite_bI_f]
            · rw [if_neg g1, if_neg g2, if_neg g3, if_neg g4, if_neg g5, if_neg g6]
              have f96 : Rr (q_C d) mX5_sortFor (96, [some (qi c)], [], M) x = x (some (qi (-1))) M := by
                simp (disch := first | assumption | exact bI_lo | exact bI_hi | exact bI_01 | (show (List.map q_wd _).sum ≤ 8; with_unfolding_all exact Nat.le_of_ble_eq_true rfl) | omega) only [kX5_sortFor_96, kX5_sortFor_97, q_cut_i, q_cut_r, q_cut_l, q_cut_n, q_psh_n, q_psh_s, bI_eq0, ite_not]
              rw [kX5_sortFor_0, kX5_sortFor_1 h1 h2]
              simp only [if_neg g1, if_neg g2, if_neg g3, if_neg g4, if_neg g5, if_neg g6, f96, ite_self]
def pOd (h : Int → Int) (q : pQ) : Od := (sF q.1, q.2.1, q.2.2.1, q.2.2.2.1, (pkW (wLs h q.2.2.2.2.1 q.2.2.2.2.2) : Nat))
def rcP (h : Int → Int) (res : pR) (J : List Od) (ok a' : Int) (J' : List Od) : Prop := (ok = 0 ∧ res = (a', none) ∧ J' = J) ∨ (ok = 1 ∧ ∃ q, res = (a', some q) ∧ J' = J ++ [pOd h q]) ∨ (ok = 1 ∧ res = (a', none) ∧ (97 ≤ h a' ∧ h a' ≤ 122) ∧ J'.length = J.length + 1)
/-- the reader, the tape, the list -/
def RDB (M : QM) (r b t s : Nat) (l : List Int) (e cap : Nat) (L : List Nat) (J : List Od) (a nu w : Int) : Prop := RD M r b a nu w ∧ TP M t s l ∧ JR M b e cap L J ∧ q_wf M ∧ q_kd M (q_gs M 0) = (9, 0)
theorem RDB.st {M M' : QM} {r b t s : Nat} {l : List Int} {e cap : Nat} {L : List Nat} {J : List Od} {a nu w a' nu' w' : Int} (h : RDB M r b t s l e cap L J a nu w) (hR : RD M' r b a' nu' w') (hf : q_fr (fun x => x = r) M M') (hq : q_qt M M') : RDB M' r b t s l e cap L J a' nu' w' := by
  obtain ⟨h1, h2, h3, h4, h5⟩ := h
  refine ⟨hR, TP_fr h4 h2 hf (fun z => q_neK h2.1 h1.1 (by simp) z) (fun z => q_neK h2.2.2.2.1 h1.1 (by simp) z), JR_fr h4 h3 hf (fun z => q_neK h3.1.1 h1.1 (by simp) z) (fun hcp z => q_neK (AL_k5 h3.1 hcp) h1.1 (by simp) z) (fun v hv z => q_neK hv h1.1 (by simp) z), h4.qt hq, ?_⟩
  rw [hf.2.1, hf.2.2.1 _ (h4.lt (by rw [h5]; simp)), h5]
def rdO (M B : QM) (r b t s : Nat) (l : List Int) (e cap e' cap' : Nat) (L' : List Nat) (J' : List Od) (a' : Int) (k5 : Nat) : Prop := (∃ nu w, RDB B r b t s l e' cap' L' J' a' nu w) ∧ q_fr (fun x => x = r ∨ x = b ∨ (x = e ∧ 0 < cap)) M B ∧ q_gu M B cap cap' k5 (5 * k5) ∧ ((e' = e ∧ cap' = cap) ∨ q_top M ≤ e')
theorem rdO.pre {M M1 B : QM} {r b t s : Nat} {l : List Int} {e cap e' cap' : Nat} {L' : List Nat} {J' : List Od} {a' : Int} {k5 : Nat} (hf : q_fr (fun x => x = r) M M1) (hq : q_qt M M1) (h : rdO M1 B r b t s l e cap e' cap' L' J' a' k5) : rdO M B r b t s l e cap e' cap' L' J' a' k5 := by
  obtain ⟨h1, h2, h3, h4⟩ := h
  refine ⟨h1, (hf.wk (fun x _ z => Or.inl z)).tr h2, ?_, ?_⟩
  · obtain ⟨z1, z2, z3⟩ := h3
    obtain ⟨-, -, y1, y2⟩ := hq
    refine ⟨z1, ?_, ?_⟩ <;> omega
  · rw [← hq.2.1]; exact h4
theorem rdO.tr {M M1 B : QM} {r b t s : Nat} {l : List Int} {e cap e1 cap1 e' cap' : Nat} {L1 L' : List Nat} {J1 J' : List Od} {a1 a' : Int} {k1 k2 : Nat} (h : rdO M M1 r b t s l e cap e1 cap1 L1 J1 a1 k1) (h' : rdO M1 B r b t s l e1 cap1 e' cap' L' J' a' k2) : rdO M B r b t s l e cap e' cap' L' J' a' (k1 + k2) := by
  obtain ⟨h1, h2, h3, h4⟩ := h
  obtain ⟨g1, g2, g3, g4⟩ := h'
  refine ⟨g1, h2.tr2 g2 (fun x hx z => ?_), ?_, ?_⟩
  · rcases z with z | z | z
    · exact Or.inl z
    · exact Or.inr (Or.inl z)
    · rcases h4 with y | y
      · right; right; rw [← y.1, ← y.2]; exact z
      · omega
  · obtain ⟨z1, z2, z3⟩ := h3
    obtain ⟨y1, y2, y3⟩ := g3
    refine ⟨?_, ?_, ?_⟩ <;> omega
  · have := h2.1
    rcases g4 with z | z
    · rcases h4 with y | y
      · exact Or.inl ⟨z.1.trans y.1, z.2.trans y.2⟩
      · right; omega
    · right; omega
theorem rdO.rf {M : QM} {r b t s : Nat} {l : List Int} {e cap : Nat} {L : List Nat} {J : List Od} {a nu w : Int} {k5 : Nat} (h : RDB M r b t s l e cap L J a nu w) : rdO M M r b t s l e cap e cap L J a k5 := ⟨⟨nu, w, h⟩, q_fr.rf, ⟨by omega, by omega, by omega⟩, Or.inl ⟨rfl, rfl⟩⟩
section RDC
variable {M : QM} {h : Int → Int} {r b t s : Nat} {l : List Int} {e cap : Nat} {L : List Nat} {J : List Od} {a nu w : Int} {d : Nat} {x : QP}
theorem rcE {st f s2 dd : Int} (hB : RDB M r b t s l e cap L J a nu w) (hl : J.length ≤ 1000) (hq : odR (st, f, s2, dd, w)) : ∃ B e' cap' L', (∀ P, Rr (q_C (d + 6)) mX5_readCommand (166, [some (qr r), some (qr t), some (qi st), some (qi f), some (qi s2), some (qi dd)], [], M) P = P (some (qi 1)) B) ∧ rdO M B r b t s l e cap e' cap' L' (J ++ [(st, f, s2, dd, w)]) a 1 := by
  obtain ⟨hR, hT, hJ, hw, h9⟩ := hB
  obtain ⟨k, f0, f1, f2, f3⟩ := id hR
  obtain ⟨M1, t1, o1, fr1, w1, n1, s1⟩ := newOrd (d := d + 5) (st, f, s2, dd, w) hw
  have kT := hT.1
  have kb := hJ.1.1
  have J1 : JR M1 b e cap L J := JR_fr hw hJ fr1 not_false (fun _ => not_false) (fun _ _ => not_false)
  have R1 := RD.fr hw hR fr1 not_false
  have T1 := TP_fr hw hT fr1 not_false not_false
  have h91 : q_kd M1 (q_gs M1 0) = (9, 0) := by rw [fr1.2.1, fr1.2.2.1 _ (hw.lt (by rw [h9]; simp)), h9]
  have ll := hJ.2.1
  have kb1 := J1.1.1
  obtain ⟨M2, e', c', t2, A2, f2', w2, r2, d2⟩ := vAL_add (d := d) w1 J1.1 h91 (by omega) o1.1
  have ob2 : ∀ v, q_kd M1 v = (1, 3) → Sm M1 M2 v := fun v hv => by
    refine Sm_fr f2' (w1.lt (by rw [hv]; simp)) ?_
    rintro (z | z)
    · rw [z, J1.1.1] at hv; simp at hv
    · rw [z.1, J1.1.2.2.2.2.1] at hv; exact ALk_n1 hv.symm
  have nr : ¬ (r = b ∨ (r = e ∧ 0 < cap)) := by
    rintro (z | z)
    · exact q_neK hR.1 hJ.1.1 (by simp) z
    · exact q_neK hR.1 hJ.1.2.2.2.2.1 ALk_n1 z.1
  have nt : ¬ (t = b ∨ (t = e ∧ 0 < cap)) := by
    rintro (z | z)
    · exact q_neK hT.1 hJ.1.1 (by simp) z
    · exact q_neK hT.1 hJ.1.2.2.2.2.1 ALk_n1 z.1
  have ns : ¬ (s = b ∨ (s = e ∧ 0 < cap)) := by
    rintro (z | z)
    · exact q_neK hT.2.2.2.1 hJ.1.1 (by simp) z
    · exact q_neK hT.2.2.2.1 (AL_k5 hJ.1 z.2) (by simp) z.1
  have rl : r < q_top M := hw.lt (by rw [k]; simp)
  refine ⟨M2, e', c', L ++ [q_top M], fun P => ?_, ⟨nu, w, RD.fr w1 R1 f2' nr, TP_fr w1 T1 f2' nt ns, JR_push J1 A2 ob2 o1 hq, w2, ?_⟩, ?_, ?_, ?_⟩
  · have t1' : q_C (d + 6) iX3_init [qr (q_top M), qi st, qi f, qi s2, qi dd, ql w] (q_al M (1, 3) 5 (fun k => q_dv (tyX3 k))) none M1 := t1
    have kr0 : q_kd (q_al M (1, 3) 5 (fun k => q_dv (tyX3 k))) r = (1, 5) := by rw [q_kd_al, if_neg (by omega), k]
    have v3 : q_fv (q_al M (1, 3) 5 (fun k => q_dv (tyX3 k))) r 3 = ql w := by rw [q_fv_al, if_neg (by omega), f3]
    simp (disch := first | assumption | exact bI_lo | exact bI_hi | exact bI_01 | (show (List.map q_wd _).sum ≤ 8; with_unfolding_all exact Nat.le_of_ble_eq_true rfl) | omega | (simp only [q_kd_wr]; first | assumption | omega)) only [kX5_readCommand_166, kX5_readCommand_167, kX5_readCommand_170, kX5_readCommand_173i, kX5_readCommand_173r, kX5_readCommand_174, kX5_readCommand_175, kX5_readCommand_176, kX5_readCommand_178, kX5_readCommand_180, kX5_readCommand_181, kX5_readCommand_184E, kX5_readCommand_187E, kX5_readCommand_190i, kX5_readCommand_190r, kX5_readCommand_191, kX5_readCommand_192, q_cut_i, q_cut_r, q_cut_l, q_cut_n, q_psh_n, q_psh_s, bI_eq0, ite_not, ↓if_pos, ↓if_neg, ↓ite_bI_t, ↓ite_bI_f, f0, v3, T_of t1', T_of t2]
  · rw [f2'.2.1, f2'.2.2.1 _ (w1.lt (by rw [h91]; simp)), h91]
  · exact (fr1.wk (fun _ _ z => z.elim)).tr (f2'.wk (fun x _ z => Or.inr z))
  · obtain ⟨z1, z2, z3⟩ := r2
    refine ⟨z1, ?_, ?_⟩ <;> omega
  · rcases d2 with z | z
    · exact Or.inl z
    · right; have := fr1.1; omega
theorem odR_i {st f s2 dd w : Int} (h1 : -1 ≤ st ∧ st ≤ 9) (h2 : 0 ≤ f ∧ f ≤ 9999) (h3 : 0 ≤ s2 ∧ s2 ≤ 9999) (h4 : 0 ≤ dd ∧ dd ≤ 9999) (h5 : 0 ≤ w) (h6 : w < 2 ^ 40) : odR (st, f, s2, dd, w) :=
  ⟨⟨(show -2147483648 ≤ st by omega), (show st < 2147483648 by omega)⟩, ⟨(show -2147483648 ≤ f by omega), (show f < 2147483648 by omega)⟩, ⟨(show -2147483648 ≤ s2 by omega), (show s2 < 2147483648 by omega)⟩, ⟨(show -2147483648 ≤ dd by omega), (show dd < 2147483648 by omega)⟩, h5, h6⟩
theorem sF_b (c : Int) : -1 ≤ sF c ∧ sF c ≤ 5 := by
  unfold sF
  repeat' split
  all_goals omega
theorem rcW (hh : ∀ i : Int, 0 ≤ i → tpH l i = h i) (hb : ∀ i, -1000 ≤ h i ∧ h i < 1000) {c f s2 dd : Int} (hB : RDB M r b t s l e cap L J a nu w) (hl : J.length ≤ 1000) (ha0 : 0 ≤ a) (ha1 : a < 130) (hc : c = 102 ∨ c = 114 ∨ c = 109 ∨ c = 115 ∨ c = 103 ∨ c = 99) (h2 : 0 ≤ f ∧ f ≤ 9999) (h3 : 0 ≤ s2 ∧ s2 ≤ 9999) (h4 : 0 ≤ dd ∧ dd ≤ 9999) : ∃ B e' cap' L' J' ok a', (∀ P, Rr (q_C (d + 6)) mX5_readCommand (127, [some (qr r), some (qr t), some (qi (sF c)), some (qi f), some (qi s2), some (qi dd)], [], M) P = P (some (qi ok)) B) ∧ rdO M B r b t s l e cap e' cap' L' J' a' 1 ∧ rcP h (pW h c f s2 dd a) J ok a' J' ∧ 0 ≤ a' ∧ a' < 150 := by
  have hR := hB.1
  have hT := hB.2.1
  have kr := hR.1
  have kt := hT.1
  have sb := sF_b c
  have hb' : ∀ i, -2147483648 ≤ h i ∧ h i < 2147483648 := fun i => by have := hb i; omega
  obtain ⟨M0, hM0⟩ : ∃ M0, q_wr M r 3 (ql 0) = M0 := ⟨_, rfl⟩
  have R0 : RD M0 r b a nu 0 := by rw [← hM0]; exact hR.w3 0
  have f0 : q_fr (fun x => x = r) M M0 := by rw [← hM0]; exact q_fr.wr rfl
  have q0 : q_qt M M0 := by rw [← hM0]; exact q_qt.wr
  have B0 := hB.st R0 f0 q0
  have kr0 := R0.1
  by_cases gc : c = 102 ∨ c = 114 ∨ c = 115
  · have hs : sF c = 0 ∨ sF c = 1 ∨ sF c = 3 := by unfold sF; rcases gc with rfl | rfl | rfl <;> simp
    obtain ⟨M1, t1, R1, f1, q1⟩ := vX5_sign (d := d + 4) (c := 58) R0 B0.2.1 hh hb' ha0 (by omega) (by omega) (by omega)
    have B1 := B0.st R1 f1 q1
    have kr1 := R1.1
    have pre1 : ∀ {P : QP}, Rr (q_C (d + 6)) mX5_readCommand (127, [some (qr r), some (qr t), some (qi (sF c)), some (qi f), some (qi s2), some (qi dd)], [], M) P = Rr (q_C (d + 6)) mX5_readCommand (153, [some (qr r), some (qr t), some (qi (sF c)), some (qi f), some (qi s2), some (qi dd)], [qi (bI (h a = 58))], M1) P := fun {P} => by
      rcases hs with g | g | g
      · rw [g]
        simp (disch := first | assumption | exact bI_lo | exact bI_hi | exact bI_01 | (show (List.map q_wd _).sum ≤ 8; with_unfolding_all exact Nat.le_of_ble_eq_true rfl) | omega) only [kX5_readCommand_127, kX5_readCommand_128, kX5_readCommand_129, kX5_readCommand_132, kX5_readCommand_133, kX5_readCommand_136, kX5_readCommand_137, kX5_readCommand_138, kX5_readCommand_141, kX5_readCommand_142, kX5_readCommand_143, kX5_readCommand_146, kX5_readCommand_147, kX5_readCommand_148, kX5_readCommand_150E, q_cut_i, q_cut_r, q_cut_l, q_cut_n, q_psh_n, q_psh_s, bI_eq0, ite_not, ↓if_pos, ↓if_neg, ↓ite_bI_t, ↓ite_bI_f, hM0, T_of t1]
      · rw [g]
        simp (disch := first | assumption | exact bI_lo | exact bI_hi | exact bI_01 | (show (List.map q_wd _).sum ≤ 8; with_unfolding_all exact Nat.le_of_ble_eq_true rfl) | omega) only [kX5_readCommand_127, kX5_readCommand_128, kX5_readCommand_129, kX5_readCommand_132, kX5_readCommand_133, kX5_readCommand_136, kX5_readCommand_137, kX5_readCommand_138, kX5_readCommand_141, kX5_readCommand_142, kX5_readCommand_143, kX5_readCommand_146, kX5_readCommand_147, kX5_readCommand_148, kX5_readCommand_150E, q_cut_i, q_cut_r, q_cut_l, q_cut_n, q_psh_n, q_psh_s, bI_eq0, ite_not, ↓if_pos, ↓if_neg, ↓ite_bI_t, ↓ite_bI_f, hM0, T_of t1]
      · rw [g]
        simp (disch := first | assumption | exact bI_lo | exact bI_hi | exact bI_01 | (show (List.map q_wd _).sum ≤ 8; with_unfolding_all exact Nat.le_of_ble_eq_true rfl) | omega) only [kX5_readCommand_127, kX5_readCommand_128, kX5_readCommand_129, kX5_readCommand_132, kX5_readCommand_133, kX5_readCommand_136, kX5_readCommand_137, kX5_readCommand_138, kX5_readCommand_141, kX5_readCommand_142, kX5_readCommand_143, kX5_readCommand_146, kX5_readCommand_147, kX5_readCommand_148, kX5_readCommand_150E, q_cut_i, q_cut_r, q_cut_l, q_cut_n, q_psh_n, q_psh_s, bI_eq0, ite_not, ↓if_pos, ↓if_neg, ↓ite_bI_t, ↓ite_bI_f, hM0, T_of t1]
    unfold pW
    rw [if_pos gc]
    by_cases g1 : h a = 58
    · rw [if_neg (fun z => z g1)]
      rw [if_pos g1] at R1 B1
      obtain ⟨M2, t2, R2, f2, q2⟩ := vX5_word (d := d + 4) B1.2.2.2.1 R1 B1.2.1 hh hb (by omega) (by omega)
      have B2 := B1.st R2 f2 q2
      have wle := wCnt_le h 9 (a + 1)
      by_cases g2 : 97 ≤ h (a + 1) ∧ h (a + 1) ≤ 122
      · rw [if_neg (fun z => z g2)]
        have wc0 : 0 < wCnt h 9 (a + 1) := by rw [wCnt, if_pos g2]; omega
        have hpk := pkW_b (h := h) (a := a + 1) (n := min (wCnt h 9 (a + 1)) 8) (by omega) (fun i hi => wCnt_at h 9 (a + 1) i (by omega))
        obtain ⟨B, e', cap', L', t3, O⟩ := rcE (d := d) (st := sF c) (f := f) (s2 := s2) (dd := dd) B2 hl (odR_i (by omega) h2 h3 h4 (by omega) (by omega))
        have O' := rdO.pre f0 q0 (rdO.pre f1 q1 (rdO.pre f2 q2 O))
        have go : ∀ P, Rr (q_C (d + 6)) mX5_readCommand (127, [some (qr r), some (qr t), some (qi (sF c)), some (qi f), some (qi s2), some (qi dd)], [], M) P = P (some (qi 1)) B := fun P => by
          rw [pre1, bI_pos g1]
          rw [bI_pos g2] at t2
          simp (disch := first | assumption | exact bI_lo | exact bI_hi | exact bI_01 | (show (List.map q_wd _).sum ≤ 8; with_unfolding_all exact Nat.le_of_ble_eq_true rfl) | omega) only [kX5_readCommand_153, kX5_readCommand_156, kX5_readCommand_157, kX5_readCommand_158E, kX5_readCommand_161, q_cut_i, q_cut_r, q_cut_l, q_cut_n, q_psh_n, q_psh_s, bI_eq0, ite_not, ↓if_pos, ↓if_neg, ↓ite_bI_t, ↓ite_bI_f, T_of t2]
          exact t3 P
        by_cases g3 : wCnt h 9 (a + 1) = 9
        · rw [if_pos g3]
          have em : (min (wCnt h 9 (a + 1)) 8 : Nat) = 8 := by omega
          rw [em] at O'
          refine ⟨B, e', cap', L', _, 1, a + 1 + (8 : Nat), go, O', Or.inr (Or.inr ⟨rfl, rfl, ?_, by simp⟩), by omega, by omega⟩
          have := wCnt_at h 9 (a + 1) 8 (by omega)
          exact this
        · rw [if_neg g3]
          have em : (min (wCnt h 9 (a + 1)) 8 : Nat) = wCnt h 9 (a + 1) := by omega
          rw [em] at O'
          exact ⟨B, e', cap', L', _, 1, _, go, O', Or.inr (Or.inl ⟨rfl, _, rfl, rfl⟩), by omega, by omega⟩
      · rw [if_pos g2]
        have wc0 : wCnt h 9 (a + 1) = 0 := by rw [wCnt, if_neg g2]
        rw [wc0] at B2
        have eb : a + 1 + ((min 0 8 : Nat) : Int) = a + 1 := by simp
        rw [eb] at B2
        refine ⟨M2, e, cap, L, J, 0, a + 1, fun P => ?_, rdO.pre f0 q0 (rdO.pre f1 q1 (rdO.pre f2 q2 (rdO.rf B2))), Or.inl ⟨rfl, rfl, rfl⟩, by omega, by omega⟩
        rw [pre1, bI_pos g1]
        rw [bI_neg g2] at t2
        simp (disch := first | assumption | exact bI_lo | exact bI_hi | exact bI_01 | (show (List.map q_wd _).sum ≤ 8; with_unfolding_all exact Nat.le_of_ble_eq_true rfl) | omega) only [kX5_readCommand_153, kX5_readCommand_156, kX5_readCommand_157, kX5_readCommand_158E, kX5_readCommand_161, kX5_readCommand_164, kX5_readCommand_165, q_cut_i, q_cut_r, q_cut_l, q_cut_n, q_psh_n, q_psh_s, bI_eq0, ite_not, ↓if_pos, ↓if_neg, ↓ite_bI_t, ↓ite_bI_f, T_of t2]
    · rw [if_pos g1]
      rw [if_neg g1] at B1
      refine ⟨M1, e, cap, L, J, 0, a, fun P => ?_, rdO.pre f0 q0 (rdO.pre f1 q1 (rdO.rf B1)), Or.inl ⟨rfl, rfl, rfl⟩, by omega, by omega⟩
      rw [pre1, bI_neg g1]
      simp (disch := first | assumption | exact bI_lo | exact bI_hi | exact bI_01 | (show (List.map q_wd _).sum ≤ 8; with_unfolding_all exact Nat.le_of_ble_eq_true rfl) | omega) only [kX5_readCommand_153, kX5_readCommand_156, kX5_readCommand_157, kX5_readCommand_158E, kX5_readCommand_161, kX5_readCommand_164, kX5_readCommand_165, q_cut_i, q_cut_r, q_cut_l, q_cut_n, q_psh_n, q_psh_s, bI_eq0, ite_not, ↓if_pos, ↓if_neg, ↓ite_bI_t, ↓ite_bI_f]
  · have hs : sF c = 2 ∨ sF c = 4 ∨ sF c = 5 := by
      have hc2 : c = 109 ∨ c = 103 ∨ c = 99 := by omega
      unfold sF; rcases hc2 with rfl | rfl | rfl <;> simp
    unfold pW
    rw [if_neg gc]
    obtain ⟨B, e', cap', L', t3, O⟩ := rcE (d := d) (st := sF c) (f := f) (s2 := s2) (dd := dd) B0 hl (odR_i (by omega) h2 h3 h4 (by omega) (by omega))
    refine ⟨B, e', cap', L', _, 1, a, fun P => ?_, rdO.pre f0 q0 O, Or.inr (Or.inl ⟨rfl, _, rfl, rfl⟩), by omega, by omega⟩
    have t3' := t3 P
    rcases hs with g | g | g
    · rw [g] at t3' ⊢
      simp (disch := first | assumption | exact bI_lo | exact bI_hi | exact bI_01 | (show (List.map q_wd _).sum ≤ 8; with_unfolding_all exact Nat.le_of_ble_eq_true rfl) | omega) only [kX5_readCommand_127, kX5_readCommand_128, kX5_readCommand_129, kX5_readCommand_132, kX5_readCommand_133, kX5_readCommand_136, kX5_readCommand_137, kX5_readCommand_138, kX5_readCommand_141, kX5_readCommand_142, kX5_readCommand_143, q_cut_i, q_cut_r, q_cut_l, q_cut_n, q_psh_n, q_psh_s, bI_eq0, ite_not, ↓if_pos, ↓if_neg, ↓ite_bI_t, ↓ite_bI_f, hM0]
      exact t3'
    · rw [g] at t3' ⊢
      simp (disch := first | assumption | exact bI_lo | exact bI_hi | exact bI_01 | (show (List.map q_wd _).sum ≤ 8; with_unfolding_all exact Nat.le_of_ble_eq_true rfl) | omega) only [kX5_readCommand_127, kX5_readCommand_128, kX5_readCommand_129, kX5_readCommand_132, kX5_readCommand_133, kX5_readCommand_136, kX5_readCommand_137, kX5_readCommand_138, kX5_readCommand_141, kX5_readCommand_142, kX5_readCommand_143, q_cut_i, q_cut_r, q_cut_l, q_cut_n, q_psh_n, q_psh_s, bI_eq0, ite_not, ↓if_pos, ↓if_neg, ↓ite_bI_t, ↓ite_bI_f, hM0]
      exact t3'
    · rw [g] at t3' ⊢
      simp (disch := first | assumption | exact bI_lo | exact bI_hi | exact bI_01 | (show (List.map q_wd _).sum ≤ 8; with_unfolding_all exact Nat.le_of_ble_eq_true rfl) | omega) only [kX5_readCommand_127, kX5_readCommand_128, kX5_readCommand_129, kX5_readCommand_132, kX5_readCommand_133, kX5_readCommand_136, kX5_readCommand_137, kX5_readCommand_138, kX5_readCommand_141, kX5_readCommand_142, kX5_readCommand_143, q_cut_i, q_cut_r, q_cut_l, q_cut_n, q_psh_n, q_psh_s, bI_eq0, ite_not, ↓if_pos, ↓if_neg, ↓ite_bI_t, ↓ite_bI_f, hM0]
      exact t3'
theorem rcD (hh : ∀ i : Int, 0 ≤ i → tpH l i = h i) (hb : ∀ i, -1000 ≤ h i ∧ h i < 1000) {c f s2 : Int} {l5 : Option CV} (hB : RDB M r b t s l e cap L J a nu w) (hl : J.length ≤ 1000) (ha0 : 0 ≤ a) (ha1 : a < 120) (hc : c = 102 ∨ c = 114 ∨ c = 109 ∨ c = 115 ∨ c = 103 ∨ c = 99) (h2 : 0 ≤ f ∧ f ≤ 9999) (h3 : 0 ≤ s2 ∧ s2 ≤ 9999) : ∃ B e' cap' L' J' ok a', (∀ P, Rr (q_C (d + 6)) mX5_readCommand (101, [some (qr r), some (qr t), some (qi (sF c)), some (qi f), some (qi s2), l5], [], M) P = P (some (qi ok)) B) ∧ rdO M B r b t s l e cap e' cap' L' J' a' 1 ∧ rcP h (pD h c f s2 a) J ok a' J' ∧ 0 ≤ a' ∧ a' < 150 := by
  have hR := hB.1
  have hT := hB.2.1
  have kr := hR.1
  have kt := hT.1
  have hb' : ∀ i, -2147483648 ≤ h i ∧ h i < 2147483648 := fun i => by have := hb i; omega
  obtain ⟨M1, t1, R1, f1, q1⟩ := vX5_sign (d := d + 4) (c := 64) hR hT hh hb' ha0 (by omega) (by omega) (by omega)
  have B1 := hB.st R1 f1 q1
  have kr1 := R1.1
  unfold pD
  by_cases g1 : h a = 64
  · rw [if_neg (fun z => z g1)]
    rw [if_pos g1] at R1 B1
    obtain ⟨M2, t2, R2, f2, q2⟩ := vX5_num (d := d + 4) B1.2.2.2.1 R1 B1.2.1 hh hb (by omega) (by omega)
    have B2 := B1.st R2 f2 q2
    have da := dRun_a h 4 (a + 1) 0
    have d4 := dRun_4 h (a + 1)
    rw [bI_pos g1] at t1
    by_cases g2 : 48 ≤ h (a + 1) ∧ h (a + 1) ≤ 57
    · rw [if_neg (fun z => z g2)]
      obtain ⟨B, e', cap', L', J', ok, a', t3, O, rp, b1, b2⟩ := rcW (d := d) hh hb (c := c) (f := f) (s2 := s2) (dd := (dRun h 4 (a + 1) 0).2) B2 hl (by omega) (by omega) hc h2 h3 (by omega)
      refine ⟨B, e', cap', L', J', ok, a', fun P => ?_, rdO.pre f1 q1 (rdO.pre f2 q2 O), rp, b1, b2⟩
      have t3' := t3 P
      rw [bI_pos g2] at t2
      have kr2 := R2.1
      have v2 := R2.2.2.2.1
      simp (disch := first | assumption | exact bI_lo | exact bI_hi | exact bI_01 | (show (List.map q_wd _).sum ≤ 8; with_unfolding_all exact Nat.le_of_ble_eq_true rfl) | omega) only [kX5_readCommand_101, kX5_readCommand_102, kX5_readCommand_103, kX5_readCommand_105E, kX5_readCommand_108, kX5_readCommand_111, kX5_readCommand_112, kX5_readCommand_113E, kX5_readCommand_116, kX5_readCommand_119, kX5_readCommand_120, kX5_readCommand_121, kX5_readCommand_122, kX5_readCommand_125, q_cut_i, q_cut_r, q_cut_l, q_cut_n, q_psh_n, q_psh_s, bI_eq0, ite_not, ↓if_pos, ↓if_neg, ↓ite_bI_t, ↓ite_bI_f, T_of t1, T_of t2, v2]
      exact t3'
    · rw [if_pos g2]
      have e1 : dRun h 4 (a + 1) 0 = (a + 1, 0) := by rw [dRun, if_neg g2]
      rw [e1] at B2
      refine ⟨M2, e, cap, L, J, 0, a + 1, fun P => ?_, rdO.pre f1 q1 (rdO.pre f2 q2 (rdO.rf B2)), Or.inl ⟨rfl, rfl, rfl⟩, by omega, by omega⟩
      rw [bI_neg g2] at t2
      simp (disch := first | assumption | exact bI_lo | exact bI_hi | exact bI_01 | (show (List.map q_wd _).sum ≤ 8; with_unfolding_all exact Nat.le_of_ble_eq_true rfl) | omega) only [kX5_readCommand_101, kX5_readCommand_102, kX5_readCommand_103, kX5_readCommand_105E, kX5_readCommand_108, kX5_readCommand_111, kX5_readCommand_112, kX5_readCommand_113E, kX5_readCommand_116, kX5_readCommand_119, kX5_readCommand_120, q_cut_i, q_cut_r, q_cut_l, q_cut_n, q_psh_n, q_psh_s, bI_eq0, ite_not, ↓if_pos, ↓if_neg, ↓ite_bI_t, ↓ite_bI_f, T_of t1, T_of t2]
  · rw [if_pos g1]
    rw [if_neg g1] at B1
    rw [bI_neg g1] at t1
    refine ⟨M1, e, cap, L, J, 0, a, fun P => ?_, rdO.pre f1 q1 (rdO.rf B1), Or.inl ⟨rfl, rfl, rfl⟩, by omega, by omega⟩
    simp (disch := first | assumption | exact bI_lo | exact bI_hi | exact bI_01 | (show (List.map q_wd _).sum ≤ 8; with_unfolding_all exact Nat.le_of_ble_eq_true rfl) | omega) only [kX5_readCommand_101, kX5_readCommand_102, kX5_readCommand_103, kX5_readCommand_105E, kX5_readCommand_108, kX5_readCommand_111, kX5_readCommand_112, kX5_readCommand_113E, kX5_readCommand_116, kX5_readCommand_119, kX5_readCommand_120, q_cut_i, q_cut_r, q_cut_l, q_cut_n, q_psh_n, q_psh_s, bI_eq0, ite_not, ↓if_pos, ↓if_neg, ↓ite_bI_t, ↓ite_bI_f, T_of t1]
theorem rcS (hh : ∀ i : Int, 0 ≤ i → tpH l i = h i) (hb : ∀ i, -1000 ≤ h i ∧ h i < 1000) {c f : Int} {l5 : Option CV} (hB : RDB M r b t s l e cap L J a nu w) (hl : J.length ≤ 1000) (ha0 : 0 ≤ a) (ha1 : a < 110) (hc : c = 102 ∨ c = 114 ∨ c = 109 ∨ c = 115 ∨ c = 103 ∨ c = 99) (h2 : 0 ≤ f ∧ f ≤ 9999) : ∃ B e' cap' L' J' ok a', (∀ P, Rr (q_C (d + 6)) mX5_readCommand (61, [some (qr r), some (qr t), some (qi (sF c)), some (qi f), some (qi 0), l5], [], M) P = P (some (qi ok)) B) ∧ rdO M B r b t s l e cap e' cap' L' J' a' 1 ∧ rcP h (pS h c f a) J ok a' J' ∧ 0 ≤ a' ∧ a' < 150 := by
  have hR := hB.1
  have hT := hB.2.1
  have kr := hR.1
  have kt := hT.1
  have hb' : ∀ i, -2147483648 ≤ h i ∧ h i < 2147483648 := fun i => by have := hb i; omega
  unfold pS
  by_cases gc : c = 102 ∨ c = 109 ∨ c = 103
  · rw [if_pos gc]
    have hs : sF c = 0 ∨ sF c = 2 ∨ sF c = 4 := by unfold sF; rcases gc with rfl | rfl | rfl <;> simp
    obtain ⟨M1, t1, R1, f1, q1⟩ := vX5_sign (d := d + 4) (c := 62) hR hT hh hb' ha0 (by omega) (by omega) (by omega)
    have B1 := hB.st R1 f1 q1
    have kr1 := R1.1
    have pre1 : ∀ {P : QP}, Rr (q_C (d + 6)) mX5_readCommand (61, [some (qr r), some (qr t), some (qi (sF c)), some (qi f), some (qi 0), l5], [], M) P = Rr (q_C (d + 6)) mX5_readCommand (82, [some (qr r), some (qr t), some (qi (sF c)), some (qi f), some (qi 0), l5], [qi (bI (h a = 62))], M1) P := fun {P} => by
      rcases hs with g | g | g
      · rw [g]
        simp (disch := first | assumption | exact bI_lo | exact bI_hi | exact bI_01 | (show (List.map q_wd _).sum ≤ 8; with_unfolding_all exact Nat.le_of_ble_eq_true rfl) | omega) only [kX5_readCommand_61, kX5_readCommand_62, kX5_readCommand_65, kX5_readCommand_66, kX5_readCommand_67, kX5_readCommand_70, kX5_readCommand_71, kX5_readCommand_72, kX5_readCommand_75, kX5_readCommand_76, kX5_readCommand_77, kX5_readCommand_79E, q_cut_i, q_cut_r, q_cut_l, q_cut_n, q_psh_n, q_psh_s, bI_eq0, ite_not, ↓if_pos, ↓if_neg, ↓ite_bI_t, ↓ite_bI_f, T_of t1]
      · rw [g]
        simp (disch := first | assumption | exact bI_lo | exact bI_hi | exact bI_01 | (show (List.map q_wd _).sum ≤ 8; with_unfolding_all exact Nat.le_of_ble_eq_true rfl) | omega) only [kX5_readCommand_61, kX5_readCommand_62, kX5_readCommand_65, kX5_readCommand_66, kX5_readCommand_67, kX5_readCommand_70, kX5_readCommand_71, kX5_readCommand_72, kX5_readCommand_75, kX5_readCommand_76, kX5_readCommand_77, kX5_readCommand_79E, q_cut_i, q_cut_r, q_cut_l, q_cut_n, q_psh_n, q_psh_s, bI_eq0, ite_not, ↓if_pos, ↓if_neg, ↓ite_bI_t, ↓ite_bI_f, T_of t1]
      · rw [g]
        simp (disch := first | assumption | exact bI_lo | exact bI_hi | exact bI_01 | (show (List.map q_wd _).sum ≤ 8; with_unfolding_all exact Nat.le_of_ble_eq_true rfl) | omega) only [kX5_readCommand_61, kX5_readCommand_62, kX5_readCommand_65, kX5_readCommand_66, kX5_readCommand_67, kX5_readCommand_70, kX5_readCommand_71, kX5_readCommand_72, kX5_readCommand_75, kX5_readCommand_76, kX5_readCommand_77, kX5_readCommand_79E, q_cut_i, q_cut_r, q_cut_l, q_cut_n, q_psh_n, q_psh_s, bI_eq0, ite_not, ↓if_pos, ↓if_neg, ↓ite_bI_t, ↓ite_bI_f, T_of t1]
    by_cases g1 : h a = 62
    · rw [if_neg (fun z => z g1)]
      rw [if_pos g1] at R1 B1
      obtain ⟨M2, t2, R2, f2, q2⟩ := vX5_num (d := d + 4) B1.2.2.2.1 R1 B1.2.1 hh hb (by omega) (by omega)
      have B2 := B1.st R2 f2 q2
      have da := dRun_a h 4 (a + 1) 0
      have d4 := dRun_4 h (a + 1)
      by_cases g2 : 48 ≤ h (a + 1) ∧ h (a + 1) ≤ 57
      · rw [if_neg (fun z => z g2)]
        obtain ⟨B, e', cap', L', J', ok, a', t3, O, rp, b1, b2⟩ := rcD (d := d) hh hb (c := c) (f := f) (s2 := (dRun h 4 (a + 1) 0).2) (l5 := l5) B2 hl (by omega) (by omega) hc h2 (by omega)
        refine ⟨B, e', cap', L', J', ok, a', fun P => ?_, rdO.pre f1 q1 (rdO.pre f2 q2 O), rp, b1, b2⟩
        have t3' := t3 P
        rw [bI_pos g2] at t2
        have kr2 := R2.1
        have v2 := R2.2.2.2.1
        rw [pre1, bI_pos g1]
        simp (disch := first | assumption | exact bI_lo | exact bI_hi | exact bI_01 | (show (List.map q_wd _).sum ≤ 8; with_unfolding_all exact Nat.le_of_ble_eq_true rfl) | omega) only [kX5_readCommand_82, kX5_readCommand_85, kX5_readCommand_86, kX5_readCommand_87E, kX5_readCommand_90, kX5_readCommand_93, kX5_readCommand_94, kX5_readCommand_95, kX5_readCommand_96, kX5_readCommand_99, q_cut_i, q_cut_r, q_cut_l, q_cut_n, q_psh_n, q_psh_s, bI_eq0, ite_not, ↓if_pos, ↓if_neg, ↓ite_bI_t, ↓ite_bI_f, T_of t2, v2]
        exact t3'
      · rw [if_pos g2]
        have e1 : dRun h 4 (a + 1) 0 = (a + 1, 0) := by rw [dRun, if_neg g2]
        rw [e1] at B2
        refine ⟨M2, e, cap, L, J, 0, a + 1, fun P => ?_, rdO.pre f1 q1 (rdO.pre f2 q2 (rdO.rf B2)), Or.inl ⟨rfl, rfl, rfl⟩, by omega, by omega⟩
        rw [bI_neg g2] at t2
        rw [pre1, bI_pos g1]
        simp (disch := first | assumption | exact bI_lo | exact bI_hi | exact bI_01 | (show (List.map q_wd _).sum ≤ 8; with_unfolding_all exact Nat.le_of_ble_eq_true rfl) | omega) only [kX5_readCommand_82, kX5_readCommand_85, kX5_readCommand_86, kX5_readCommand_87E, kX5_readCommand_90, kX5_readCommand_93, kX5_readCommand_94, q_cut_i, q_cut_r, q_cut_l, q_cut_n, q_psh_n, q_psh_s, bI_eq0, ite_not, ↓if_pos, ↓if_neg, ↓ite_bI_t, ↓ite_bI_f, T_of t2]
    · rw [if_pos g1]
      rw [if_neg g1] at B1
      refine ⟨M1, e, cap, L, J, 0, a, fun P => ?_, rdO.pre f1 q1 (rdO.rf B1), Or.inl ⟨rfl, rfl, rfl⟩, by omega, by omega⟩
      rw [pre1, bI_neg g1]
      simp (disch := first | assumption | exact bI_lo | exact bI_hi | exact bI_01 | (show (List.map q_wd _).sum ≤ 8; with_unfolding_all exact Nat.le_of_ble_eq_true rfl) | omega) only [kX5_readCommand_82, kX5_readCommand_85, kX5_readCommand_86, kX5_readCommand_87E, kX5_readCommand_90, kX5_readCommand_93, kX5_readCommand_94, q_cut_i, q_cut_r, q_cut_l, q_cut_n, q_psh_n, q_psh_s, bI_eq0, ite_not, ↓if_pos, ↓if_neg, ↓ite_bI_t, ↓ite_bI_f]
  · rw [if_neg gc]
    have hs : sF c = 1 ∨ sF c = 3 ∨ sF c = 5 := by
      have hc2 : c = 114 ∨ c = 115 ∨ c = 99 := by omega
      unfold sF; rcases hc2 with rfl | rfl | rfl <;> simp
    obtain ⟨B, e', cap', L', J', ok, a', t3, O, rp, b1, b2⟩ := rcD (d := d) hh hb (c := c) (f := f) (s2 := 0) (l5 := l5) hB hl ha0 (by omega) hc h2 (by omega)
    refine ⟨B, e', cap', L', J', ok, a', fun P => ?_, O, rp, b1, b2⟩
    have t3' := t3 P
    rcases hs with g | g | g
    · rw [g] at t3' ⊢
      simp (disch := first | assumption | exact bI_lo | exact bI_hi | exact bI_01 | (show (List.map q_wd _).sum ≤ 8; with_unfolding_all exact Nat.le_of_ble_eq_true rfl) | omega) only [kX5_readCommand_61, kX5_readCommand_62, kX5_readCommand_65, kX5_readCommand_66, kX5_readCommand_67, kX5_readCommand_70, kX5_readCommand_71, kX5_readCommand_72, q_cut_i, q_cut_r, q_cut_l, q_cut_n, q_psh_n, q_psh_s, bI_eq0, ite_not, ↓if_pos, ↓if_neg, ↓ite_bI_t, ↓ite_bI_f]
      exact t3'
    · rw [g] at t3' ⊢
      simp (disch := first | assumption | exact bI_lo | exact bI_hi | exact bI_01 | (show (List.map q_wd _).sum ≤ 8; with_unfolding_all exact Nat.le_of_ble_eq_true rfl) | omega) only [kX5_readCommand_61, kX5_readCommand_62, kX5_readCommand_65, kX5_readCommand_66, kX5_readCommand_67, kX5_readCommand_70, kX5_readCommand_71, kX5_readCommand_72, q_cut_i, q_cut_r, q_cut_l, q_cut_n, q_psh_n, q_psh_s, bI_eq0, ite_not, ↓if_pos, ↓if_neg, ↓ite_bI_t, ↓ite_bI_f]
      exact t3'
    · rw [g] at t3' ⊢
      simp (disch := first | assumption | exact bI_lo | exact bI_hi | exact bI_01 | (show (List.map q_wd _).sum ≤ 8; with_unfolding_all exact Nat.le_of_ble_eq_true rfl) | omega) only [kX5_readCommand_61, kX5_readCommand_62, kX5_readCommand_65, kX5_readCommand_66, kX5_readCommand_67, kX5_readCommand_70, kX5_readCommand_71, kX5_readCommand_72, q_cut_i, q_cut_r, q_cut_l, q_cut_n, q_psh_n, q_psh_s, bI_eq0, ite_not, ↓if_pos, ↓if_neg, ↓ite_bI_t, ↓ite_bI_f]
      exact t3'
theorem vX5_cmd (hh : ∀ i : Int, 0 ≤ i → tpH l i = h i) (hb : ∀ i, -1000 ≤ h i ∧ h i < 1000) (hB : RDB M r b t s l e cap L J a nu w) (hl : J.length ≤ 1000) (ha0 : 0 ≤ a) (ha1 : a < 100) : ∃ B e' cap' L' J' ok a', q_C (d + 7) iX5_readCommand [qr r, qr t] M (some (qi ok)) B ∧ rdO M B r b t s l e cap e' cap' L' J' a' 1 ∧ rcP h (pCmd h a) J ok a' J' ∧ 0 ≤ a' ∧ a' < 150 := by
  have hR := hB.1
  have hT := hB.2.1
  obtain ⟨kr, f0, f1, f2, f3⟩ := id hR
  have kt := hT.1
  obtain ⟨hb1, hb2⟩ := hb a
  have hat := fun x : QP => uX8_at (d := d + 5) (x := x) hT hh ha0 (by omega)
  have hso := fun x : QP => uX5_sortFor (d := d + 5) (M := M) (x := x) (c := h a) (by omega) (by omega)
  unfold pCmd
  by_cases gc : h a = 102 ∨ h a = 114 ∨ h a = 109 ∨ h a = 115 ∨ h a = 103 ∨ h a = 99
  · rw [if_neg (fun z => z gc)]
    obtain ⟨M1, hM1⟩ : ∃ M1, q_wr M r 1 (qi (a + 1)) = M1 := ⟨_, rfl⟩
    have R1 : RD M1 r b (a + 1) nu w := by rw [← hM1]; exact hR.w1 _
    have fr1 : q_fr (fun x => x = r) M M1 := by rw [← hM1]; exact q_fr.wr rfl
    have q1 : q_qt M M1 := by rw [← hM1]; exact q_qt.wr
    have B1 := hB.st R1 fr1 q1
    have kr1 := R1.1
    have kt1 := B1.2.1.1
    have sb := sF_b (h a)
    have sp : 0 ≤ sF (h a) := by unfold sF; rcases gc with g | g | g | g | g | g <;> rw [g] <;> decide
    by_cases gf : h a = 102
    · rw [if_pos gf]
      have s0 : sF (h a) = 0 := by rw [gf]; rfl
      rw [s0] at hso
      obtain ⟨M2, t2, R2, fr2, q2⟩ := vX5_kind (d := d + 4) R1 B1.2.1 hh hb (by omega) (by omega)
      have B2 := B1.st R2 fr2 q2
      have kr2 := R2.1
      by_cases g2 : 48 ≤ h (a + 1) ∧ h (a + 1) ≤ 51
      · rw [if_neg (fun z => z g2)]
        rw [if_pos g2, show a + 1 + 1 = a + 2 by omega] at B2 R2
        rw [bI_pos g2] at t2
        obtain ⟨B, e', cap', L', J', ok, a', t3, O, rp, b1, b2⟩ := rcS (d := d) hh hb (c := h a) (f := h (a + 1) - 48) (l5 := none) B2 hl (by omega) (by omega) gc (by omega)
        refine ⟨B, e', cap', L', J', ok, a', C_of (fun P => ?_), rdO.pre fr1 q1 (rdO.pre fr2 q2 O), rp, b1, b2⟩
        have t3' := t3 P
        rw [s0] at t3'
        have v2 := R2.2.2.2.1
        rw [eX5_readCommand]
        simp (disch := first | assumption | exact bI_lo | exact bI_hi | exact bI_01 | (show (List.map q_wd _).sum ≤ 8; with_unfolding_all exact Nat.le_of_ble_eq_true rfl) | omega) only [kX5_readCommand_0, kX5_readCommand_1, kX5_readCommand_2, kX5_readCommand_5E, kX5_readCommand_8E, kX5_readCommand_11, kX5_readCommand_12, kX5_readCommand_13, kX5_readCommand_16, kX5_readCommand_17, kX5_readCommand_18, kX5_readCommand_19i, kX5_readCommand_19r, kX5_readCommand_20, kX5_readCommand_23, kX5_readCommand_24, kX5_readCommand_25, kX5_readCommand_28, kX5_readCommand_29, kX5_readCommand_32, kX5_readCommand_33, kX5_readCommand_34E, kX5_readCommand_37, kX5_readCommand_40, kX5_readCommand_43, kX5_readCommand_44, kX5_readCommand_45E, kX5_readCommand_48, kX5_readCommand_51, kX5_readCommand_52, kX5_readCommand_53, kX5_readCommand_54, kX5_readCommand_57, kX5_readCommand_58, kX5_readCommand_59, q_cut_i, q_cut_r, q_cut_l, q_cut_n, q_psh_n, q_psh_s, bI_eq0, ite_not, ↓if_pos, ↓if_neg, ↓ite_bI_t, ↓ite_bI_f, f1, hat, hso, hM1, T_of t2, v2]
        exact t3'
      · rw [if_pos g2]
        rw [if_neg g2] at B2
        rw [bI_neg g2] at t2
        refine ⟨M2, e, cap, L, J, 0, a + 1, C_of (fun P => ?_), rdO.pre fr1 q1 (rdO.pre fr2 q2 (rdO.rf B2)), Or.inl ⟨rfl, rfl, rfl⟩, by omega, by omega⟩
        rw [eX5_readCommand]
        simp (disch := first | assumption | exact bI_lo | exact bI_hi | exact bI_01 | (show (List.map q_wd _).sum ≤ 8; with_unfolding_all exact Nat.le_of_ble_eq_true rfl) | omega) only [kX5_readCommand_0, kX5_readCommand_1, kX5_readCommand_2, kX5_readCommand_5E, kX5_readCommand_8E, kX5_readCommand_11, kX5_readCommand_12, kX5_readCommand_13, kX5_readCommand_16, kX5_readCommand_17, kX5_readCommand_18, kX5_readCommand_19i, kX5_readCommand_19r, kX5_readCommand_20, kX5_readCommand_23, kX5_readCommand_24, kX5_readCommand_25, kX5_readCommand_28, kX5_readCommand_29, kX5_readCommand_32, kX5_readCommand_33, kX5_readCommand_34E, kX5_readCommand_37, kX5_readCommand_40, kX5_readCommand_43, kX5_readCommand_44, kX5_readCommand_45E, kX5_readCommand_48, kX5_readCommand_51, kX5_readCommand_52, kX5_readCommand_53, kX5_readCommand_54, kX5_readCommand_57, kX5_readCommand_58, kX5_readCommand_59, q_cut_i, q_cut_r, q_cut_l, q_cut_n, q_psh_n, q_psh_s, bI_eq0, ite_not, ↓if_pos, ↓if_neg, ↓ite_bI_t, ↓ite_bI_f, f1, hat, hso, hM1, T_of t2]
    · rw [if_neg gf]
      have s1 : ¬ sF (h a) = 0 := by unfold sF; rw [if_neg gf]; repeat' split
                                     all_goals omega
      obtain ⟨M2, t2, R2, fr2, q2⟩ := vX5_num (d := d + 4) B1.2.2.2.1 R1 B1.2.1 hh hb (by omega) (by omega)
      have B2 := B1.st R2 fr2 q2
      have kr2 := R2.1
      have da := dRun_a h 4 (a + 1) 0
      have d4 := dRun_4 h (a + 1)
      by_cases g2 : 48 ≤ h (a + 1) ∧ h (a + 1) ≤ 57
      · rw [if_neg (fun z => z g2)]
        rw [bI_pos g2] at t2
        obtain ⟨B, e', cap', L', J', ok, a', t3, O, rp, b1, b2⟩ := rcS (d := d) hh hb (c := h a) (f := (dRun h 4 (a + 1) 0).2) (l5 := none) B2 hl (by omega) (by omega) gc (by omega)
        refine ⟨B, e', cap', L', J', ok, a', C_of (fun P => ?_), rdO.pre fr1 q1 (rdO.pre fr2 q2 O), rp, b1, b2⟩
        have t3' := t3 P
        have v2 := R2.2.2.2.1
        rw [eX5_readCommand]
        simp (disch := first | assumption | exact bI_lo | exact bI_hi | exact bI_01 | (show (List.map q_wd _).sum ≤ 8; with_unfolding_all exact Nat.le_of_ble_eq_true rfl) | omega) only [kX5_readCommand_0, kX5_readCommand_1, kX5_readCommand_2, kX5_readCommand_5E, kX5_readCommand_8E, kX5_readCommand_11, kX5_readCommand_12, kX5_readCommand_13, kX5_readCommand_16, kX5_readCommand_17, kX5_readCommand_18, kX5_readCommand_19i, kX5_readCommand_19r, kX5_readCommand_20, kX5_readCommand_23, kX5_readCommand_24, kX5_readCommand_25, kX5_readCommand_28, kX5_readCommand_29, kX5_readCommand_32, kX5_readCommand_33, kX5_readCommand_34E, kX5_readCommand_37, kX5_readCommand_40, kX5_readCommand_43, kX5_readCommand_44, kX5_readCommand_45E, kX5_readCommand_48, kX5_readCommand_51, kX5_readCommand_52, kX5_readCommand_53, kX5_readCommand_54, kX5_readCommand_57, kX5_readCommand_58, kX5_readCommand_59, q_cut_i, q_cut_r, q_cut_l, q_cut_n, q_psh_n, q_psh_s, bI_eq0, ite_not, ↓if_pos, ↓if_neg, ↓ite_bI_t, ↓ite_bI_f, f1, hat, hso, hM1, T_of t2, v2]
        exact t3'
      · rw [if_pos g2]
        have e1 : dRun h 4 (a + 1) 0 = (a + 1, 0) := by rw [dRun, if_neg g2]
        rw [e1] at B2
        rw [bI_neg g2] at t2
        refine ⟨M2, e, cap, L, J, 0, a + 1, C_of (fun P => ?_), rdO.pre fr1 q1 (rdO.pre fr2 q2 (rdO.rf B2)), Or.inl ⟨rfl, rfl, rfl⟩, by omega, by omega⟩
        rw [eX5_readCommand]
        simp (disch := first | assumption | exact bI_lo | exact bI_hi | exact bI_01 | (show (List.map q_wd _).sum ≤ 8; with_unfolding_all exact Nat.le_of_ble_eq_true rfl) | omega) only [kX5_readCommand_0, kX5_readCommand_1, kX5_readCommand_2, kX5_readCommand_5E, kX5_readCommand_8E, kX5_readCommand_11, kX5_readCommand_12, kX5_readCommand_13, kX5_readCommand_16, kX5_readCommand_17, kX5_readCommand_18, kX5_readCommand_19i, kX5_readCommand_19r, kX5_readCommand_20, kX5_readCommand_23, kX5_readCommand_24, kX5_readCommand_25, kX5_readCommand_28, kX5_readCommand_29, kX5_readCommand_32, kX5_readCommand_33, kX5_readCommand_34E, kX5_readCommand_37, kX5_readCommand_40, kX5_readCommand_43, kX5_readCommand_44, kX5_readCommand_45E, kX5_readCommand_48, kX5_readCommand_51, kX5_readCommand_52, kX5_readCommand_53, kX5_readCommand_54, kX5_readCommand_57, kX5_readCommand_58, kX5_readCommand_59, q_cut_i, q_cut_r, q_cut_l, q_cut_n, q_psh_n, q_psh_s, bI_eq0, ite_not, ↓if_pos, ↓if_neg, ↓ite_bI_t, ↓ite_bI_f, f1, hat, hso, hM1, T_of t2]
  · rw [if_pos gc]
    have sn : sF (h a) = -1 := by
      unfold sF
      rw [if_neg (fun z => gc (Or.inl z)), if_neg (fun z => gc (Or.inr (Or.inl z))), if_neg (fun z => gc (Or.inr (Or.inr (Or.inl z)))), if_neg (fun z => gc (Or.inr (Or.inr (Or.inr (Or.inl z))))), if_neg (fun z => gc (Or.inr (Or.inr (Or.inr (Or.inr (Or.inl z)))))), if_neg (fun z => gc (Or.inr (Or.inr (Or.inr (Or.inr (Or.inr z))))))]
    rw [sn] at hso
    refine ⟨M, e, cap, L, J, 0, a, C_of (fun P => ?_), rdO.rf hB, Or.inl ⟨rfl, rfl, rfl⟩, ha0, by omega⟩
    rw [eX5_readCommand]
    simp (disch := first | assumption | exact bI_lo | exact bI_hi | exact bI_01 | (show (List.map q_wd _).sum ≤ 8; with_unfolding_all exact Nat.le_of_ble_eq_true rfl) | omega) only [kX5_readCommand_0, kX5_readCommand_1, kX5_readCommand_2, kX5_readCommand_5E, kX5_readCommand_8E, kX5_readCommand_11, kX5_readCommand_12, kX5_readCommand_13, kX5_readCommand_16, kX5_readCommand_17, q_cut_i, q_cut_r, q_cut_l, q_cut_n, q_psh_n, q_psh_s, bI_eq0, ite_not, ↓if_pos, ↓if_neg, ↓ite_bI_t, ↓ite_bI_f, f1, hat, hso]
end RDC
