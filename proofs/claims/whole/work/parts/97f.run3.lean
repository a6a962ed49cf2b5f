
/-! run, as a whole -/
def runO (M M' : QM) (g cN cT c : Nat → Nat) (e1 c1 e2 c2 : Nat) (L2 : List Nat) (e3 c3 : Nat) (J2 : List Od) (hs hc : Int) (C' : CWs) (J' : List Od) (ms' : List Int) (lr' : Int) : Prop := ∃ g' cN' cT' c' e1' c1' L1' e3' c3', CRI M' g' cN' cT' c' e1' c1' L1' e2 c2 L2 C' J' J2 ms' hs lr' hc ∧ TP M' (g 1) (g 2) [] ∧ RDI M' g e1' c1' e2 c2 e3' c3' ∧ q_fr (rnFr g e1 c1 e3 c3) M M' ∧ gE M g g' e1 c1 e1' c1' ∧ ((e3' = e3 ∧ c3' = c3) ∨ q_top M ≤ e3') ∧ q_gu M M' (c1 + poS cN cT c + c3) (c1' + poS cN' cT' c' + c3') 81 405
def runP (M M' : QM) (g cN cT c : Nat → Nat) (e1 c1 e2 c2 : Nat) (L2 : List Nat) (e3 c3 : Nat) (h : Int → Int) (C : CWs) (J J2 : List Od) (ms : List Int) (hs lr hc : Int) (ans : Int) (p : Int × Option (List pQ)) : Prop := match p with
  | (e, none) => ans = -100 - e ∧ runO M M' g cN cT c e1 c1 e2 c2 L2 e3 c3 J2 hs hc C J ms lr
  | (_, some ls) => match rnR C (ls.map (pOd h)) 0 with
    | (C', none) => ans = ls.length ∧ runO M M' g cN cT c e1 c1 e2 c2 L2 e3 c3 J2 hs hc C' (J ++ ls.map (pOd h)) (kpM ms J.length) lr
    | (C', some (i, y)) => ans = -200 - i ∧ runO M M' g cN cT c e1 c1 e2 c2 L2 e3 c3 J2 hs hc (cRun (clrC C') J) J ms y
def osOk (C : CWs) (J os : List Od) : Prop := ∀ (i : Nat) (q : Od), os[i]? = some q → (∀ (j : Nat) (q' : Od), j < i → os[j]? = some q' → cwh (cRun C (os.take j)) q' = 0) → CB (cRun C (os.take i)) ∧ (cwh (cRun C (os.take i)) q = 0 → oOk (cRun C (os.take i)) q) ∧ (cwh (cRun C (os.take i)) q ≠ 0 → jOk (cRun C (os.take i)) J)
section RN3
variable {M : QM} {g cN cT c : Nat → Nat} {e1 c1 e2 c2 : Nat} {L1 L2 : List Nat} {C : CWs} {J J2 : List Od} {ms : List Int} {hs lr hc : Int} {d : Nat}
theorem vX12_run {h : Int → Int} {l : List Int} {e3 c3 : Nat} (hI : CRI M g cN cT c e1 c1 L1 e2 c2 L2 C J J2 ms hs lr hc) (hT : TP M (g 1) (g 2) l) (hD : RDI M g e1 c1 e2 c2 e3 c3) (hh : ∀ i : Int, 0 ≤ i → tpH l i = h i) (hb : ∀ i, -1000 ≤ h i ∧ h i < 1000) (hn : ∀ i, (l.length : Int) ≤ i → h i = -1) (hJl : J.length ≤ 512) (hok : ∀ e ls, pAll h l.length 81 0 = (e, some ls) → J.length + ls.length ≤ 512 ∧ osOk C J (ls.map (pOd h))) : ∃ M' ans, q_C (d + 9) iX12_run [qr (g 0)] M (some (qi ans)) M' ∧ runP M M' g cN cT c e1 c1 e2 c2 L2 e3 c3 h C J J2 ms hs lr hc ans (pAll h l.length 81 0) := by
  obtain ⟨M2, e3', c3', L3', os', res, t1, I2, T2, ⟨a', nu', w', R2⟩, J3, ol, rp, d1, d2, fr, dB, gu⟩ := run_head (d := d) hI hT hD hh hb hn
  obtain ⟨hg, hw, hk, h0, hR, hM, hC, hJ, hJ2, hd⟩ := id I2
  obtain ⟨k0, r0, r1, r2, r3, r4, r5, r6, r7, r8, r9, r10, r11, r12, r13⟩ := id hR
  have kj := hJ.1.1
  have kr := R2.1
  have jl := hJ.2.1
  generalize hp : pAll h l.length 81 0 = p at rp hok ⊢
  obtain ⟨e, o⟩ := p
  cases o with
  | none =>
    obtain ⟨rfl, b0, b1⟩ := rp
    refine ⟨M2, -100 - res, C_of (fun P => ?_), rfl, g, cN, cT, c, e1, c1, L1, e3', c3', I2, T2, ⟨⟨a', nu', w', R2⟩, ⟨L3', os', J3⟩, d1, d2⟩, fr, gE.rf, dB, ?_⟩
    · rw [t1]
      simp (disch := first | assumption | exact bI_lo | exact bI_hi | exact bI_01 | (show (List.map q_wd _).sum ≤ 8; with_unfolding_all exact Nat.le_of_ble_eq_true rfl) | omega) only [kX12_run_20, kX12_run_23, kX12_run_25, kX12_run_26, kX12_run_27, q_cut_i, q_cut_r, q_cut_l, q_cut_n, q_psh_n, q_psh_s, bI_eq0, ite_not, ↓if_pos, ↓if_neg, ↓ite_bI_t, ↓ite_bI_f]
    · obtain ⟨u1, u2, u3⟩ := gu
      refine ⟨?_, ?_, ?_⟩ <;> omega
  | some ls =>
    obtain ⟨rfl, hos⟩ := rp
    rw [List.nil_append] at hos
    subst hos
    obtain ⟨hl, ho⟩ := hok e ls rfl
    have ml : (ls.map (pOd h)).length = ls.length := List.length_map ..
    obtain ⟨M', ans, q1, q2⟩ := run_loop (d := d) (res := -1) I2 T2 R2 J3 d1 d2 (by rw [ml]; exact hl) ol ho
    refine ⟨M', ans, C_of (fun P => ?_), ?_⟩
    · have q1' := q1 P
      rw [ml] at q1'
      have sz := fun x : QP => uX5_size (d := d + 6) (x := x) R2 J3
      rw [ml] at sz
      rw [t1]
      simp (disch := first | assumption | exact bI_lo | exact bI_hi | exact bI_01 | (show (List.map q_wd _).sum ≤ 8; with_unfolding_all exact Nat.le_of_ble_eq_true rfl) | omega) only [kX12_run_20, kX12_run_23, kX12_run_25, kX12_run_26, kX12_run_27, kX12_run_28, kX12_run_29, kX12_run_32E, kX12_run_35, kX12_run_36, kX12_run_37, kX12_run_40E, kX12_run_43, kX12_run_44, kX12_run_45, kX12_run_46, kX12_run_47, kX12_run_50, kX12_run_53, kX12_run_55, kX12_run_56, kX12_run_57, q_cut_i, q_cut_r, q_cut_l, q_cut_n, q_psh_n, q_psh_s, bI_eq0, ite_not, ↓if_pos, ↓if_neg, ↓ite_bI_t, ↓ite_bI_f, r1, sz, r6, uAL_size hJ.1, jl]
      exact q1'
    · unfold runP
      simp only
      generalize rnR C (ls.map (pOd h)) 0 = z at q2 ⊢
      obtain ⟨C', o⟩ := z
      have up : ∀ {C2 : CWs} {J' : List Od} {ms' : List Int} {lr' : Int}, rnO M2 M' g cN cT c e1 c1 e2 c2 L2 e3' c3' J2 hs hc C2 J' ms' lr' → runO M M' g cN cT c e1 c1 e2 c2 L2 e3 c3 J2 hs hc C2 J' ms' lr' := fun {C2 J' ms' lr'} hO => by
        obtain ⟨g', cN', cT', c', e1', c1', L1', z1, z2, z3, z4, z5, z6⟩ := hO
        refine ⟨g', cN', cT', c', e1', c1', L1', e3', c3', z1, z2, z3, fr.tr (z4.wk (fun x _ z => ?_)), z5.wk fr.1, dB, ?_⟩
        · rcases z with ⟨s, hs, hS, e⟩ | z
          · refine Or.inl ⟨s, hs, ?_, e⟩
            rcases hS with y | y | y | y
            · exact Or.inl y
            · exact Or.inr (Or.inr (Or.inr (Or.inr (Or.inl y))))
            · exact Or.inr (Or.inr (Or.inr (Or.inr (Or.inr (Or.inl y)))))
            · exact Or.inr (Or.inr (Or.inr (Or.inr (Or.inr (Or.inr y)))))
          · exact Or.inr (Or.inl z)
        · obtain ⟨u1, u2, u3⟩ := gu
          obtain ⟨v1, v2, v3⟩ := z6
          refine ⟨?_, ?_, ?_⟩ <;> omega
      cases o with
      | none =>
        obtain ⟨rfl, q3⟩ := q2
        rw [ml]
        exact ⟨rfl, up q3⟩
      | some iy =>
        obtain ⟨i, y⟩ := iy
        exact ⟨q2.1, up q2.2⟩
end RN3
