/-! our machine ends in one way; a call as an equation -/
theorem Rn_det {C : QC} (hC : ∀ y as M r M1 r' M1', C y as M r M1 → C y as M r' M1' → r = r' ∧ M1 = M1') {mi : QI} {r r' : Option CV} {M1 M1' : QM} : ∀ (n n' : Nat) (S : QS), Rn C mi n S (q_ex r M1) → Rn C mi n' S (q_ex r' M1') → r = r' ∧ M1 = M1'
  | 0, _, _, h, _ => h.elim
  | n + 1, 0, _, _, h => h.elim
  | n + 1, n' + 1, S, h, h' => by
    obtain ⟨i, len, hd, h⟩ := h
    obtain ⟨i', len', hd', h'⟩ := h'
    cases hd.symm.trans hd'
    cases hS : q_stp mi i len S with
    | some S' =>
      rw [hS] at h h'
      exact Rn_det hC n n' S' h h'
    | none =>
      rw [hS] at h h'
      dsimp only at h h'
      cases hv : q_fin mi.2.2.2 i len S.2.2.1 with
      | some v =>
        rw [hv] at h h'
        exact ⟨h.1.symm.trans h'.1, h.2.symm.trans h'.2⟩
      | none =>
        rw [hv] at h h'
        dsimp only at h h'
        cases hc : q_inv mi.1 i len S.2.2.1 S.2.2.2 with
        | none => rw [hc] at h; exact h.elim
        | some c =>
          rw [hc] at h h'
          obtain ⟨v, M2, g1, g2⟩ := h
          obtain ⟨v', M2', g1', g2'⟩ := h'
          obtain ⟨rfl, rfl⟩ := hC _ _ _ _ _ _ _ g1 g1'
          exact Rn_det hC n n' _ g2 g2'
theorem q_C_det : ∀ (d : Nat) (y : Nat) (as : List CV) (M : QM) (r : Option CV) (M1 : QM) (r' : Option CV) (M1' : QM), q_C d y as M r M1 → q_C d y as M r' M1' → r = r' ∧ M1 = M1'
  | 0, _, _, _, _, _, _, _, h, _ => h.elim
  | d + 1, y, as, M, r, M1, r', M1', h, h' => by
    obtain ⟨e, he, -, n, h⟩ := h
    obtain ⟨e', he', -, n', h'⟩ := h'
    cases he.symm.trans he'
    exact Rn_det (q_C_det d) n n' _ h h'
theorem T_of {d y : Nat} {as : List CV} {M M1 : QM} {v : Option CV} (h : q_C d y as M v M1) (P : QP) : q_T d y as M P = P v M1 := by
  apply propext
  constructor
  · rintro ⟨r, M2, h1, h2⟩
    obtain ⟨rfl, rfl⟩ := q_C_det d _ _ _ _ _ _ _ h h1
    exact h2
  · intro hP
    exact ⟨v, M1, h, hP⟩
theorem T_eq {d y : Nat} {as : List CV} {M M1 : QM} {v : Option CV} (h : ∀ P : QP, P v M1 → q_T d y as M P) (P : QP) : q_T d y as M P = P v M1 :=
  T_of (q_Tx (h (q_ex v M1) ⟨rfl, rfl⟩)) P
theorem C_of {d y : Nat} {as : List CV} {M M1 : QM} {v : Option CV} (h : ∀ P : QP, q_T d y as M P = P v M1) : q_C d y as M v M1 :=
  q_Tx (by rw [h]; exact ⟨rfl, rfl⟩)
def q_psh : Option CV → List CV → List CV
  | none, r => r
  | some v, r => v :: r
theorem q_psh_n {r : List CV} : q_psh none r = r := rfl
theorem q_psh_s {v : CV} {r : List CV} : q_psh (some v) r = v :: r := rfl
section QG
variable {d0 : Nat} {ow : Nat} {cc : ByteArray} {ini : Bool} {ret : Option FieldType} {x : QP} {pc : Nat} {L : QL} {st : List CV} {M : QM}
theorem g_invE {i : Instr} {len : Nat} {y : Nat} {as rest : List CV} (hd : decode cc pc = .ok (i, len)) (h0 : q_pl i len pc L st = none) (h1 : q_mm ow ini i len pc L st M = none) (h2 : q_ac ow i len pc L st M = none) (h3 : q_xs ow i len pc L st M = none) (h4 : q_fin ret i len st = none) (h : q_inv ow i len st M = some (y, as, rest)) :
    Rr (q_C d0) (ow, cc, ini, ret) (pc, L, st, M) x = q_T d0 y as M (fun v M1 => Rr (q_C d0) (ow, cc, ini, ret) (pc + 3, L, q_psh v rest, M1) x) := by
  have hs : q_stp (ow, cc, ini, ret) i len (pc, L, st, M) = none := by
    show (match q_pl i len pc L st with | some q => _ | none => _) = _; rw [h0]; show (match q_mm ow ini i len pc L st M with | some q => _ | none => _) = _; rw [h1]; show (match q_ac ow i len pc L st M with | some q => _ | none => _) = _; rw [h2]; exact h3
  have hp : ∀ v : Option CV, v.toList ++ rest = q_psh v rest := fun v => by cases v <;> rfl
  apply propext
  constructor
  · rintro ⟨n, hn⟩
    cases n with
    | zero => exact hn.elim
    | succ n =>
      obtain ⟨i', len', hd', hn⟩ := hn
      cases hd.symm.trans hd'
      rw [hs] at hn
      dsimp only at hn
      rw [h4] at hn
      dsimp only at hn
      rw [h] at hn
      obtain ⟨v, M1, g1, g2⟩ := hn
      refine ⟨v, M1, g1, n, ?_⟩
      rw [← hp]; exact g2
  · rintro ⟨v, M1, hC, n, hn⟩
    refine ⟨n + 1, i, len, hd, by rw [hs]; dsimp only; rw [h4]; dsimp only; rw [h]; exact ⟨v, M1, hC, by rw [← hp] at hn; exact hn⟩⟩
theorem g_csE {idx : Nat} {e : Nat × Nat × Nat × List Nat} {d : QD} {as rest : List CV} (hd : decode cc pc = .ok (.invokestatic idx, 3)) (hl : q_lk q_itab ow idx = some e) (h0 : q_lk q_actab ow idx = none) (h1 : q_lk q_mxtab ow idx = none) (hm : q_mtab[e.2.1]? = some d) (hk : e.1 = 1 ∨ e.1 = 2) (hn : as.length = d.2.2.2.2.1) (hw : (rest.map q_wd).sum ≤ 8) :
    Rr (q_C d0) (ow, cc, ini, ret) (pc, L, as.reverse ++ rest, M) x = q_T d0 e.2.1 as M (fun v M1 => Rr (q_C d0) (ow, cc, ini, ret) (pc + 3, L, q_psh v rest, M1) x) := by
  refine g_invE (y := e.2.1) (as := as) (rest := rest) hd rfl rfl ?_ ?_ rfl ?_
  · simp only [q_ac, h0]
    split <;> first | rfl | contradiction
  · simp only [q_xs, h1]
    split <;> first | rfl | contradiction
  · simp only [q_inv, hl, hm, ← hn]
    rw [if_pos ⟨hk, by simp, by rw [← List.length_reverse, List.drop_left]; exact hw⟩]
    rw [← List.length_reverse, List.take_left, List.drop_left, List.reverse_reverse]
theorem g_cvE {idx b : Nat} {e : Nat × Nat × Nat × List Nat} {d : QD} {as rest : List CV} (hd : decode cc pc = .ok (.invokevirtual idx, 3)) (hl : q_lk q_itab ow idx = some e) (h0 : q_lk q_gctab ow idx = none) (hm : q_mtab[e.2.1]? = some d) (hk : e.1 = 0 ∨ e.1 = 5) (hn : as.length = d.2.2.2.2.1) (hb : q_kd M b = (1, e.2.2.1)) (hw : (rest.map q_wd).sum ≤ 8) :
    Rr (q_C d0) (ow, cc, ini, ret) (pc, L, as.reverse ++ (qr b :: rest), M) x = q_T d0 e.2.1 (qr b :: as) M (fun v M1 => Rr (q_C d0) (ow, cc, ini, ret) (pc + 3, L, q_psh v rest, M1) x) := by
  refine g_invE (y := e.2.1) (as := qr b :: as) (rest := rest) hd rfl rfl rfl ?_ rfl ?_
  · simp only [q_xs, h0]
    split <;> first | rfl | contradiction
  · simp only [q_inv, hl, hm, ← hn]
    rw [← List.length_reverse, List.drop_left]
    dsimp only
    rw [if_pos ⟨Or.inl ⟨hk, hb⟩, hw, by simp⟩, List.take_left, List.reverse_reverse]
theorem g_cstrE {idx b : Nat} {e : Nat × Nat × Nat × List Nat} {d : QD} {as rest : List CV} (hd : decode cc pc = .ok (.invokevirtual idx, 3)) (hl : q_lk q_itab ow idx = some e) (h0 : q_lk q_gctab ow idx = none) (hm : q_mtab[e.2.1]? = some d) (hk : e.1 = 8) (hn : as.length = d.2.2.2.2.1) (hb : b = q_gs M 1) (hw : (rest.map q_wd).sum ≤ 8) :
    Rr (q_C d0) (ow, cc, ini, ret) (pc, L, as.reverse ++ (qr b :: rest), M) x = q_T d0 e.2.1 (qr b :: as) M (fun v M1 => Rr (q_C d0) (ow, cc, ini, ret) (pc + 3, L, q_psh v rest, M1) x) := by
  refine g_invE (y := e.2.1) (as := qr b :: as) (rest := rest) hd rfl rfl rfl ?_ rfl ?_
  · simp only [q_xs, h0]
    split <;> first | rfl | contradiction
  · simp only [q_inv, hl, hm, ← hn]
    rw [← List.length_reverse, List.drop_left]
    dsimp only
    rw [if_pos ⟨Or.inr ⟨hk, hb⟩, hw, by simp⟩, List.take_left, List.reverse_reverse]
theorem g_ciE {idx b : Nat} {e : Nat × Nat × Nat × List Nat} {d : QD} {as rest : List CV} (hd : decode cc pc = .ok (.invokespecial idx, 3)) (hl : q_lk q_itab ow idx = some e) (h0 : q_lk q_otab ow idx = none) (hm : q_mtab[e.2.1]? = some d) (hk : (e.1 = 3 ∨ e.1 = 4) ∨ (e.1 = 7 ∧ (q_kd M b).1 = 1)) (hn : as.length = d.2.2.2.2.1) (hw : (rest.map q_wd).sum ≤ 8) :
    Rr (q_C d0) (ow, cc, ini, ret) (pc, L, as.reverse ++ (qr b :: rest), M) x = q_T d0 e.2.1 (qr b :: as) M (fun v M1 => Rr (q_C d0) (ow, cc, ini, ret) (pc + 3, L, q_psh v rest, M1) x) := by
  refine g_invE (y := e.2.1) (as := qr b :: as) (rest := rest) hd rfl ?_ rfl rfl rfl ?_
  · simp only [q_mm, h0]
    split <;> first | rfl | contradiction
  · simp only [q_inv, hl, hm, ← hn]
    rw [← List.length_reverse, List.drop_left]
    dsimp only
    rw [if_pos ⟨hk, hw, by simp⟩, List.take_left, List.reverse_reverse]
end QG
def bI (p : Prop) [Decidable p] : Int := if p then 1 else 0
section QB
theorem bI_pos {p : Prop} {h0 : Decidable p} (h : p) : @bI p h0 = 1 := if_pos h
theorem bI_neg {p : Prop} {h0 : Decidable p} (h : ¬ p) : @bI p h0 = 0 := if_neg h
theorem bI_eq0 {p : Prop} {h0 : Decidable p} : (@bI p h0 = 0) = ¬ p := by
  by_cases h : p
  · rw [bI_pos h]; simp [h]
  · rw [bI_neg h]; simp [h]
theorem bI_lo {p : Prop} {h0 : Decidable p} : -2147483648 ≤ @bI p h0 := by
  by_cases h : p
  · rw [bI_pos h]; omega
  · rw [bI_neg h]; omega
theorem bI_hi {p : Prop} {h0 : Decidable p} : @bI p h0 < 2147483648 := by
  by_cases h : p
  · rw [bI_pos h]; omega
  · rw [bI_neg h]; omega
theorem bI_01 {p : Prop} {h0 : Decidable p} : @bI p h0 = 0 ∨ @bI p h0 = 1 := by
  by_cases h : p
  · exact Or.inr (bI_pos h)
  · exact Or.inl (bI_neg h)
theorem bI_c {p q : Prop} {h0 : Decidable p} {h1 : Decidable q} (h : p ↔ q) : @bI p h0 = @bI q h1 := by
  by_cases hp : p
  · rw [bI_pos hp, bI_pos (h.mp hp)]
  · rw [bI_neg hp, bI_neg (fun g => hp (h.mpr g))]
end QB
