
/-! Reader: the whole text -/
theorem dRun_1 {h : Int → Int} {a : Int} {k : Nat} {v : Int} (g : 48 ≤ h a ∧ h a ≤ 57) : a + 1 ≤ (dRun h (k + 1) a v).1 := by
  rw [dRun, if_pos g]
  exact (dRun_a h k (a + 1) _).1
theorem dRun_nn {h : Int → Int} {n : Int} (hn : ∀ i, n ≤ i → h i = -1) : ∀ (k : Nat) (a v : Int), a ≤ n → (dRun h k a v).1 ≤ n
  | 0, a, v, ha => ha
  | k + 1, a, v, ha => by
    rw [dRun]
    split
    · rename_i g
      have : a < n := by
        rcases Int.lt_or_le a n with z | z
        · exact z
        · have := hn a z; omega
      exact dRun_nn hn k (a + 1) _ (by omega)
    · exact ha
theorem wCnt_nn {h : Int → Int} {n : Int} (hn : ∀ i, n ≤ i → h i = -1) : ∀ (k : Nat) (a : Int), a ≤ n → a + wCnt h k a ≤ n
  | 0, a, ha => by simp [wCnt]; exact ha
  | k + 1, a, ha => by
    rw [wCnt]
    split
    · rename_i g
      have : a < n := by
        rcases Int.lt_or_le a n with z | z
        · exact z
        · have := hn a z; omega
      have := wCnt_nn hn k (a + 1) (by omega)
      omega
    · simp; exact ha
section PCN
variable {h : Int → Int} {n : Int}
theorem lt_n (hn : ∀ i, n ≤ i → h i = -1) {a : Int} (g : h a ≠ -1) : a < n := by
  rcases Int.lt_or_le a n with z | z
  · exact z
  · exact absurd (hn a z) g
theorem pW_n (hn : ∀ i, n ≤ i → h i = -1) {c f s dd a a' : Int} {q : pQ} (ha : a ≤ n) (e : pW h c f s dd a = (a', some q)) : a ≤ a' ∧ a' ≤ n := by
  unfold pW at e
  split at e
  · split at e
    · simp at e
    · rename_i g1
      have := lt_n hn (a := a) (by intro z; apply g1; rw [z]; decide)
      split at e
      · simp at e
      · rename_i g2
        have g3 := Decidable.not_not.mp g2
        have := lt_n hn (a := a + 1) (by omega)
        split at e
        · simp at e
        · have hw := wCnt_nn hn 9 (a + 1) (by omega)
          simp only [Prod.mk.injEq] at e
          have := e.1
          omega
  · simp only [Prod.mk.injEq] at e
    have := e.1
    omega
theorem pD_n (hn : ∀ i, n ≤ i → h i = -1) {c f s a a' : Int} {q : pQ} (ha : a ≤ n) (e : pD h c f s a = (a', some q)) : a + 2 ≤ a' ∧ a' ≤ n := by
  unfold pD at e
  split at e
  · simp at e
  · rename_i g1
    have g1' := Decidable.not_not.mp g1
    have := lt_n hn (a := a) (by omega)
    split at e
    · simp at e
    · rename_i g2
      have g3 := Decidable.not_not.mp g2
      have d1 : a + 1 + 1 ≤ (dRun h 4 (a + 1) 0).1 := dRun_1 (k := 3) (v := 0) g3
      have dn := dRun_nn hn 4 (a + 1) 0 (by omega)
      have := pW_n hn dn e
      omega
theorem pS_n (hn : ∀ i, n ≤ i → h i = -1) {c f a a' : Int} {q : pQ} (ha : a ≤ n) (e : pS h c f a = (a', some q)) : a + 2 ≤ a' ∧ a' ≤ n := by
  unfold pS at e
  split at e
  · split at e
    · simp at e
    · rename_i g1
      have g1' := Decidable.not_not.mp g1
      have := lt_n hn (a := a) (by omega)
      split at e
      · simp at e
      · rename_i g2
        have g3 := Decidable.not_not.mp g2
        have d1 : a + 1 + 1 ≤ (dRun h 4 (a + 1) 0).1 := dRun_1 (k := 3) (v := 0) g3
        have dn := dRun_nn hn 4 (a + 1) 0 (by omega)
        have := pD_n hn dn e
        omega
  · exact pD_n hn ha e
theorem pCmd_n (hn : ∀ i, n ≤ i → h i = -1) {a a' : Int} {q : pQ} (ha : a ≤ n) (e : pCmd h a = (a', some q)) : a + 4 ≤ a' ∧ a' ≤ n := by
  unfold pCmd at e
  split at e
  · simp at e
  · rename_i g0
    have g0' := Decidable.not_not.mp g0
    have := lt_n hn (a := a) (by omega)
    split at e
    · split at e
      · simp at e
      · rename_i g2
        have g3 := Decidable.not_not.mp g2
        have := lt_n hn (a := a + 1) (by omega)
        have := pS_n hn (by omega) e
        omega
    · split at e
      · simp at e
      · rename_i g2
        have g3 := Decidable.not_not.mp g2
        have d1 : a + 1 + 1 ≤ (dRun h 4 (a + 1) 0).1 := dRun_1 (k := 3) (v := 0) g3
        have dn := dRun_nn hn 4 (a + 1) 0 (by omega)
        have := pS_n hn dn e
        omega
theorem pAll_5 (hn : ∀ i, n ≤ i → h i = -1) : ∀ (k : Nat) (a e : Int) (ls : List pQ), a ≤ n → pAll h n k a = (e, some ls) → 5 * (ls.length : Int) ≤ n - a + 1
  | 0, a, e, ls, ha, hh => by simp [pAll] at hh
  | k + 1, a, e, ls, ha, hh => by
    rw [pAll] at hh
    split at hh
    · simp at hh
    · rename_i a' q hc
      have cn := pCmd_n hn ha hc
      split at hh
      · rename_i g
        have := lt_n hn (a := a') (by omega)
        split at hh
        · simp at hh
        · rename_i e2 l2 hp
          have ih := pAll_5 hn k (a' + 1) e2 l2 (by omega) hp
          simp only [Prod.mk.injEq, Option.some.injEq] at hh
          rw [← hh.2, List.length_cons]
          omega
      · split at hh
        · simp at hh
        · simp only [Prod.mk.injEq, Option.some.injEq] at hh
          rw [← hh.2]
          simp only [List.length_cons, List.length_nil]
          omega
end PCN
def rdP (h : Int → Int) (p : Int × Option (List pQ)) (res : Int) (J0 J' : List Od) : Prop := match p with
  | (e, none) => res = e ∧ 0 ≤ e ∧ e < 1000
  | (_, some ls) => res = -1 ∧ J' = J0 ++ ls.map (pOd h)
theorem rdO.post {M B B' : QM} {r b t s : Nat} {l : List Int} {e cap e' cap' : Nat} {L' : List Nat} {J' : List Od} {a' a2 nu w : Int} {k5 : Nat} (h : rdO M B r b t s l e cap e' cap' L' J' a' k5) (hB : RDB B' r b t s l e' cap' L' J' a2 nu w) (hf : q_fr (fun x => x = r) B B') (hq : q_qt B B') : rdO M B' r b t s l e cap e' cap' L' J' a2 k5 := by
  obtain ⟨h1, h2, h3, h4⟩ := h
  refine ⟨⟨nu, w, hB⟩, h2.tr (hf.wk (fun x _ z => Or.inl z)), ?_, h4⟩
  obtain ⟨z1, z2, z3⟩ := h3
  obtain ⟨-, -, y1, y2⟩ := hq
  refine ⟨z1, ?_, ?_⟩ <;> omega
section RDA
variable {M : QM} {h : Int → Int} {r b t s : Nat} {l : List Int} {e cap : Nat} {L : List Nat} {J : List Od} {a nu w : Int} {d : Nat} {x : QP}
theorem vX5_read (hh : ∀ i : Int, 0 ≤ i → tpH l i = h i) (hb : ∀ i, -1000 ≤ h i ∧ h i < 1000) (hn : ∀ i, (l.length : Int) ≤ i → h i = -1) (hB : RDB M r b t s l e cap L J a nu w) : ∃ B e' cap' L' J' res a', q_C (d + 8) iX5_read [qr r, qr t] M (some (qi res)) B ∧ rdO M B r b t s l e cap e' cap' L' J' a' 81 ∧ rdP h (pAll h l.length 81 0) res [] J' ∧ J'.length ≤ 81 := by
  have l80 := hB.2.1.2.2.2.2.1
  have hb' : ∀ i, -2147483648 ≤ h i ∧ h i < 2147483648 := fun i => by have := hb i; omega
  obtain ⟨hR, hT, hJ, hw, h9⟩ := id hB
  obtain ⟨kr, f0, f1, f2, f3⟩ := id hR
  have kt := hT.1
  have kb := hJ.1.1
  obtain ⟨M1, t1, A1, fr1, q1⟩ := vAL_clear (d := d + 6) hw hJ.1
  have nr : ¬ (r = b ∨ (r = e ∧ 0 < cap)) := by
    rintro (z | z)
    · exact q_neK hR.1 hJ.1.1 (by simp) z
    · exact q_neK hR.1 hJ.1.2.2.2.2.1 ALk_n1 z.1
  have nt : ¬ (t = b ∨ (t = e ∧ 0 < cap)) := by
    rintro (z | z)
    · exact q_neK hT.1 hJ.1.1 (by simp) z
    · exact q_neK hT.1 hJ.1.2.2.2.2.1 ALk_n1 z.1
  have ns : ¬ (s = b ∨ (s = e ∧ 0 < cap)) := by
    rintro (z | z)
    · exact q_neK hT.2.2.2.1 hJ.1.1 (by simp) z
    · exact q_neK hT.2.2.2.1 (AL_k5 hJ.1 z.2) (by simp) z.1
  have R1 := RD.fr hw hR fr1 nr
  have J1 : JR M1 b e cap [] [] := ⟨A1, rfl, fun i v q z => by simp at z⟩
  have B1 : RDB M1 r b t s l e cap [] [] a nu w := ⟨R1, TP_fr hw hT fr1 nt ns, J1, hw.qt q1, by rw [fr1.2.1, fr1.2.2.1 _ (hw.lt (by rw [h9]; simp)), h9]⟩
  obtain ⟨M2, hM2⟩ : ∃ M2, q_wr M1 r 1 (qi 0) = M2 := ⟨_, rfl⟩
  have R2 : RD M2 r b 0 nu w := by rw [← hM2]; exact R1.w1 0
  have fr2 : q_fr (fun x => x = r) M1 M2 := by rw [← hM2]; exact q_fr.wr rfl
  have q2 : q_qt M1 M2 := by rw [← hM2]; exact q_qt.wr
  have B2 := B1.st R2 fr2 q2
  have O2 : rdO M M2 r b t s l e cap e cap [] [] 0 0 := by
    refine ⟨⟨nu, w, B2⟩, (fr1.wk (fun x _ z => Or.inr z)).tr (fr2.wk (fun x _ z => Or.inl z)), ?_, Or.inl ⟨rfl, rfl⟩⟩
    have y1 := q1.2.2
    have y2 := q2.2.2
    obtain ⟨u1, u2⟩ := y1
    obtain ⟨u3, u4⟩ := y2
    refine ⟨Nat.le_refl _, ?_, ?_⟩ <;> omega
  have loop : ∀ (m k : Nat) (A : QM) (e1 cap1 : Nat) (L1 : List Nat) (J1 : List Od) (pos : Int), k + m = 80 → rdO M A r b t s l e cap e1 cap1 L1 J1 pos k → J1.length = k → 2 * (k : Int) ≤ pos → pos ≤ l.length → ∃ B e' cap' L' J' res a', (∀ P, Rr (q_C (d + 7)) mX5_read (14, [some (qr r), some (qr t), some (qi k)], [], A) P = P (some (qi res)) B) ∧ rdO M B r b t s l e cap e' cap' L' J' a' 81 ∧ rdP h (pAll h l.length (m + 1) pos) res J1 J' ∧ J'.length ≤ 81 := by
    intro m
    induction m with
    | zero => intro k A e1 cap1 L1 J1 pos hm hA hJ1 h2k hpos; omega
    | succ m ih =>
      intro k A e1 cap1 L1 J1 pos hm hA hJ1 h2k hpos
      obtain ⟨⟨nuA, wA, BA⟩, -⟩ := id hA
      have krA := BA.1.1
      have ktA := BA.2.1.1
      have ek : ((k + 1 : Nat) : Int) = (k : Int) + 1 := by omega
      have up : ∀ {B : QM} {e' cap' : Nat} {L' : List Nat} {J' : List Od} {a' : Int}, rdO M B r b t s l e cap e' cap' L' J' a' (k + 1) → rdO M B r b t s l e cap e' cap' L' J' a' 81 := fun {B e' cap' L' J' a'} O => by
        obtain ⟨y1, y2, y3, y4⟩ := O
        obtain ⟨u1, u2, u3⟩ := y3
        refine ⟨y1, y2, ⟨u1, ?_, ?_⟩, y4⟩ <;> omega
      obtain ⟨B, e', cap', L', J', ok, a', c1, O1, rp, b1, b2⟩ := vX5_cmd (d := d) hh hb BA (by omega) (by omega) (by omega)
      have O := hA.tr O1
      obtain ⟨⟨nuB, wB, BB⟩, -⟩ := id O
      have krB := BB.1.1
      have ktB := BB.2.1.1
      have vB := BB.1.2.2.1
      have lenB := fun x : QP => uX8_length (d := d + 6) (x := x) BB.2.1
      rw [pAll]
      rcases rp with ⟨rfl, hp, hJ'⟩ | ⟨rfl, q, hp, hJ'⟩ | ⟨rfl, hp, hlt, hJ'⟩
      · rw [hp]
        refine ⟨B, e', cap', L', J', a', a', fun P => ?_, up O, ⟨rfl, b1, by omega⟩, by rw [hJ']; omega⟩
        rw [kX5_read_14]
        simp (disch := first | assumption | exact bI_lo | exact bI_hi | exact bI_01 | (show (List.map q_wd _).sum ≤ 8; with_unfolding_all exact Nat.le_of_ble_eq_true rfl) | omega) only [kX5_read_15, kX5_read_17, kX5_read_20, kX5_read_21, kX5_read_22E, kX5_read_25, kX5_read_28, kX5_read_29, kX5_read_32, q_cut_i, q_cut_r, q_cut_l, q_cut_n, q_psh_n, q_psh_s, bI_eq0, ite_not, ↓if_pos, ↓if_neg, ↓ite_bI_t, ↓ite_bI_f, T_of c1, vB]
      · rw [hp]
        have cn := pCmd_n hn hpos hp
        have jl : J'.length = k + 1 := by rw [hJ']; simp; omega
        obtain ⟨M3, t3, R3, fr3, q3⟩ := vX5_sign (d := d + 5) (c := 59) BB.1 BB.2.1 hh hb' b1 (by omega) (by omega) (by omega)
        have B3 := BB.st R3 fr3 q3
        have O3 := O.post B3 fr3 q3
        by_cases g : h a' = 59
        · have an := lt_n hn (a := a') (by omega)
          rw [if_pos g] at B3 O3 R3
          rw [bI_pos g] at t3
          obtain ⟨B', e2, cap2, L2, J2, res, a2, u1, u2, u3, u4⟩ := ih (k + 1) M3 e' cap' L' J' (a' + 1) (by omega) O3 jl (by omega) (by omega)
          refine ⟨B', e2, cap2, L2, J2, res, a2, fun P => ?_, u2, ?_, u4⟩
          · have u1' := u1 P
            rw [ek] at u1'
            rw [kX5_read_14]
            simp (disch := first | assumption | exact bI_lo | exact bI_hi | exact bI_01 | (show (List.map q_wd _).sum ≤ 8; with_unfolding_all exact Nat.le_of_ble_eq_true rfl) | omega) only [kX5_read_15, kX5_read_17, kX5_read_20, kX5_read_21, kX5_read_22E, kX5_read_25, kX5_read_28, kX5_read_29, kX5_read_32, kX5_read_33, kX5_read_34, kX5_read_37, kX5_read_38E, kX5_read_41, kX5_read_44, kX5_read_45, kX5_read_46, kX5_read_47, kX5_read_48, kX5_read_50E, kX5_read_53, kX5_read_56, kX5_read_57, kX5_read_60, kX5_read_61, kX5_read_64, q_cut_i, q_cut_r, q_cut_l, q_cut_n, q_psh_n, q_psh_s, bI_eq0, ite_not, ↓if_pos, ↓if_neg, ↓ite_bI_t, ↓ite_bI_f, T_of c1, vB, lenB, T_of t3]
            exact u1'
          · simp only [if_pos g]
            unfold rdP at u3 ⊢
            generalize pAll h l.length (m + 1) (a' + 1) = pp at u3 ⊢
            obtain ⟨p1, p2⟩ := pp
            cases p2 with
            | none => exact u3
            | some ls =>
              refine ⟨u3.1, ?_⟩
              rw [u3.2, hJ', List.map_cons, List.append_assoc]; rfl
        · rw [if_neg g] at B3 O3 R3
          rw [bI_neg g] at t3
          by_cases gn : a' = l.length
          · refine ⟨B, e', cap', L', J', -1, a', fun P => ?_, up O, ?_, by omega⟩
            · rw [kX5_read_14]
              simp (disch := first | assumption | exact bI_lo | exact bI_hi | exact bI_01 | (show (List.map q_wd _).sum ≤ 8; with_unfolding_all exact Nat.le_of_ble_eq_true rfl) | omega) only [kX5_read_15, kX5_read_17, kX5_read_20, kX5_read_21, kX5_read_22E, kX5_read_25, kX5_read_28, kX5_read_29, kX5_read_32, kX5_read_33, kX5_read_34, kX5_read_37, kX5_read_38E, kX5_read_41, kX5_read_44, kX5_read_45, q_cut_i, q_cut_r, q_cut_l, q_cut_n, q_psh_n, q_psh_s, bI_eq0, ite_not, ↓if_pos, ↓if_neg, ↓ite_bI_t, ↓ite_bI_f, T_of c1, vB, lenB]
            · simp only [if_neg g]
              rw [if_neg (by omega)]
              exact ⟨rfl, by rw [hJ']; rfl⟩
          · have v3 := R3.2.2.1
            have kr3 := R3.1
            refine ⟨M3, e', cap', L', J', a', a', fun P => ?_, up O3, ?_, by omega⟩
            · rw [kX5_read_14]
              simp (disch := first | assumption | exact bI_lo | exact bI_hi | exact bI_01 | (show (List.map q_wd _).sum ≤ 8; with_unfolding_all exact Nat.le_of_ble_eq_true rfl) | omega) only [kX5_read_15, kX5_read_17, kX5_read_20, kX5_read_21, kX5_read_22E, kX5_read_25, kX5_read_28, kX5_read_29, kX5_read_32, kX5_read_33, kX5_read_34, kX5_read_37, kX5_read_38E, kX5_read_41, kX5_read_44, kX5_read_45, kX5_read_46, kX5_read_47, kX5_read_48, kX5_read_50E, kX5_read_53, kX5_read_56, kX5_read_57, kX5_read_60, q_cut_i, q_cut_r, q_cut_l, q_cut_n, q_psh_n, q_psh_s, bI_eq0, ite_not, ↓if_pos, ↓if_neg, ↓ite_bI_t, ↓ite_bI_f, T_of c1, vB, lenB, T_of t3, v3]
            · simp only [if_neg g]
              rw [if_pos (by omega)]
              exact ⟨rfl, b1, by omega⟩
      · rw [hp]
        have an := lt_n hn (a := a') (by omega)
        obtain ⟨M3, t3, R3, fr3, q3⟩ := vX5_sign (d := d + 5) (c := 59) BB.1 BB.2.1 hh hb' b1 (by omega) (by omega) (by omega)
        have B3 := BB.st R3 fr3 q3
        have O3 := O.post B3 fr3 q3
        have g : ¬ h a' = 59 := by omega
        rw [if_neg g] at B3 O3 R3
        rw [bI_neg g] at t3
        have v3 := R3.2.2.1
        have kr3 := R3.1
        refine ⟨M3, e', cap', L', J', a', a', fun P => ?_, up O3, ⟨rfl, b1, by omega⟩, by omega⟩
        rw [kX5_read_14]
        simp (disch := first | assumption | exact bI_lo | exact bI_hi | exact bI_01 | (show (List.map q_wd _).sum ≤ 8; with_unfolding_all exact Nat.le_of_ble_eq_true rfl) | omega) only [kX5_read_15, kX5_read_17, kX5_read_20, kX5_read_21, kX5_read_22E, kX5_read_25, kX5_read_28, kX5_read_29, kX5_read_32, kX5_read_33, kX5_read_34, kX5_read_37, kX5_read_38E, kX5_read_41, kX5_read_44, kX5_read_45, kX5_read_46, kX5_read_47, kX5_read_48, kX5_read_50E, kX5_read_53, kX5_read_56, kX5_read_57, kX5_read_60, q_cut_i, q_cut_r, q_cut_l, q_cut_n, q_psh_n, q_psh_s, bI_eq0, ite_not, ↓if_pos, ↓if_neg, ↓ite_bI_t, ↓ite_bI_f, T_of c1, vB, lenB, T_of t3, v3]
  obtain ⟨B, e', cap', L', J', res, a', u1, u2, u3, u4⟩ := loop 80 0 M2 e cap [] [] 0 (by omega) O2 rfl (by omega) (by omega)
  refine ⟨B, e', cap', L', J', res, a', C_of (fun P => ?_), u2, u3, u4⟩
  have u1' := u1 P
  have k1r : q_kd M1 r = (1, 5) := R1.1
  rw [eX5_read]
  simp (disch := first | assumption | exact bI_lo | exact bI_hi | exact bI_01 | (show (List.map q_wd _).sum ≤ 8; with_unfolding_all exact Nat.le_of_ble_eq_true rfl) | omega) only [kX5_read_0, kX5_read_1, kX5_read_4E, kX5_read_7, kX5_read_8, kX5_read_9, kX5_read_12, kX5_read_13, q_cut_i, q_cut_r, q_cut_l, q_cut_n, q_psh_n, q_psh_s, bI_eq0, ite_not, f0, T_of t1, hM2]
  exact u1'
end RDA
