/-! runs of our machine: steps, calls, ends; a run is sound for the machine of the Statement -/
abbrev QI : Type := Nat × ByteArray × Bool × Option FieldType
def q_stp (mi : QI) (i : Instr) (len : Nat) (S : QS) : Option QS :=
  match q_pl i len S.1 S.2.1 S.2.2.1 with
  | some q => some (q.1, q.2.1, q.2.2, S.2.2.2)
  | none => match q_mm mi.1 mi.2.2.1 i len S.1 S.2.1 S.2.2.1 S.2.2.2 with
    | some q => some q
    | none => match q_ac mi.1 i len S.1 S.2.1 S.2.2.1 S.2.2.2 with
      | some q => some q
      | none => q_xs mi.1 i len S.1 S.2.1 S.2.2.1 S.2.2.2
def q_rt : FieldType → Int → Bool
  | .int, _ => true
  | .boolean, z => decide (z = 0) || decide (z = 1)
  | .byte, z => decide (-128 ≤ z) && decide (z ≤ 127)
  | .char, z => decide (0 ≤ z) && decide (z ≤ 65535)
  | _, _ => false
def q_fin (ret : Option FieldType) (i : Instr) (len : Nat) (st : List CV) : Option (Option CV) :=
  match i with
  | .ireturn => match len, st, ret with
    | 1, [.inl z], some t => if q_rt t z = true then some (some (qi z)) else none
    | _, _, _ => none
  | .lreturn => match len, st, ret with
    | 1, [.inr (.inl z)], some .long => some (some (ql z))
    | _, _, _ => none
  | .areturn => match len, st, ret with
    | 1, [.inr (.inr r)], some (.object _) => some (some (.inr (.inr r)))
    | 1, [.inr (.inr r)], some (.array _) => some (some (.inr (.inr r)))
    | _, _, _ => none
  | .return_ => match len, st, ret with
    | 1, [], none => some none
    | _, _, _ => none
  | _ => none
/-- the callee, its arguments, the stack that stays -/
def q_inv (ow : Nat) (i : Instr) (len : Nat) (st : List CV) (M : QM) : Option (Nat × List CV × List CV) :=
  match i with
  | .invokestatic x => match len, q_lk q_itab ow x with
    | 3, some e => match q_mtab[e.2.1]? with
      | some d => if (e.1 = 1 ∨ e.1 = 2) ∧ d.2.2.2.2.1 ≤ st.length ∧ ((st.drop d.2.2.2.2.1).map q_wd).sum ≤ 8 then some (e.2.1, (st.take d.2.2.2.2.1).reverse, st.drop d.2.2.2.2.1) else none
      | none => none
    | _, _ => none
  | .invokevirtual x => match len, q_lk q_itab ow x with
    | 3, some e => match q_mtab[e.2.1]? with
      | some d => match st.drop d.2.2.2.2.1 with
        | .inr (.inr (some b)) :: rest => if (((e.1 = 0 ∨ e.1 = 5) ∧ q_kd M b = (1, e.2.2.1)) ∨ (e.1 = 8 ∧ b = q_gs M 1)) ∧ (rest.map q_wd).sum ≤ 8 ∧ d.2.2.2.2.1 ≤ st.length then some (e.2.1, qr b :: (st.take d.2.2.2.2.1).reverse, rest) else none
        | _ => none
      | none => none
    | _, _ => none
  | .invokespecial x => match len, q_lk q_itab ow x with
    | 3, some e => match q_mtab[e.2.1]? with
      | some d => match st.drop d.2.2.2.2.1 with
        | .inr (.inr (some b)) :: rest => if ((e.1 = 3 ∨ e.1 = 4) ∨ (e.1 = 7 ∧ (q_kd M b).1 = 1)) ∧ (rest.map q_wd).sum ≤ 8 ∧ d.2.2.2.2.1 ≤ st.length then some (e.2.1, qr b :: (st.take d.2.2.2.2.1).reverse, rest) else none
        | _ => none
      | none => none
    | _, _ => none
  | _ => none
abbrev QC : Type := Nat → List CV → QM → Option CV → QM → Prop
abbrev QP : Type := Option CV → QM → Prop
/-- within so many steps it ends, and what it answers and leaves is so -/
def Rn (C : QC) (mi : QI) : Nat → QS → QP → Prop
  | 0, _, _ => False
  | n + 1, S, x => ∃ (i : Instr) (len : Nat), decode mi.2.1 S.1 = .ok (i, len) ∧ (match q_stp mi i len S with
    | some S' => Rn C mi n S' x
    | none => match q_fin mi.2.2.2 i len S.2.2.1 with
      | some v => x v S.2.2.2
      | none => match q_inv mi.1 i len S.2.2.1 S.2.2.2 with
        | some c => ∃ v M1, C c.1 c.2.1 S.2.2.2 v M1 ∧ Rn C mi n (S.1 + 3, S.2.1, v.toList ++ c.2.2, M1) x
        | none => False)
def q_ex (r : Option CV) (M1 : QM) : QP := fun r2 M2 => r2 = r ∧ M2 = M1
def Rr (C : QC) (mi : QI) (S : QS) (x : QP) : Prop := ∃ n, Rn C mi n S x
def q_ent : List CV → QL
  | [] => []
  | .inr (.inl z) :: vs => some (ql z) :: none :: q_ent vs
  | .inl z :: vs => some (qi z) :: q_ent vs
  | .inr (.inr r) :: vs => some (.inr (.inr r)) :: q_ent vs
def q_L0 (as : List CV) (n : Nat) : QL := q_ent as ++ List.replicate (n - (q_ent as).length) none
def q_body (C : QC) (y : Nat) (as : List CV) (M : QM) (r : Option CV) (M1 : QM) : Prop :=
  ∃ e : QD, q_mtab[y]? = some e ∧ (q_ent as).length ≤ e.2.2.1 ∧ Rr C (e.2.2.2.2.2.2, e.2.1, decide (e.1.name = "<init>"), e.2.2.2.1) (0, q_L0 as e.2.2.1, [], M) (q_ex r M1)
def q_C : Nat → QC
  | 0 => fun _ _ _ _ _ => False
  | d + 1 => q_body (q_C d)
-- counts and constants along a run
def q_mono (M M1 : QM) : Prop := q_nc M ≤ q_nc M1 ∧ q_ns M ≤ q_ns M1 ∧ q_gs M1 = q_gs M
theorem q_mono.rf {M : QM} : q_mono M M := ⟨Nat.le_refl _, Nat.le_refl _, rfl⟩
theorem q_mono.tr {M M1 M2 : QM} (h : q_mono M M1) (h2 : q_mono M1 M2) : q_mono M M2 := ⟨Nat.le_trans h.1 h2.1, Nat.le_trans h.2.1 h2.2.1, h2.2.2.trans h.2.2⟩
theorem q_mono.wr {M : QM} {a k : Nat} {v : CV} : q_mono M (q_wr M a k v) := ⟨Nat.le_refl _, Nat.le_refl _, rfl⟩
theorem q_mono.al {M : QM} {kd : Nat × Nat} {n : Nat} {f : Nat → CV} : q_mono M (q_al M kd n f) := ⟨Nat.le_succ _, Nat.le_add_right _ _, rfl⟩
theorem q_mono.cp {M : QM} {a b c d n : Nat} : q_mono M (q_cp M a b c d n) := ⟨Nat.le_refl _, Nat.le_refl _, rfl⟩
theorem q_mono_ast {t : Nat} {M M' : QM} {a : Nat} {j : Int} {v : CV} (h : q_ast t M a j v = some M') : q_mono M M' := by
  unfold q_ast at h
  split at h
  · cases h; exact .wr
  · cases h
theorem q_mono_put {M : QM} {pc : Nat} {L : QL} {st : List CV} {t a : Nat} {j : Int} {v : CV} {S : QS} (h : q_put M pc L st (q_ast t M a j v) = some S) : q_mono M S.2.2.2 := by
  cases hq : q_ast t M a j v with
  | none => rw [hq] at h; cases h
  | some M' => rw [hq] at h; cases h; exact q_mono_ast hq
set_option maxHeartbeats 4000000 in
theorem q_mono_mm {ow : Nat} {ini : Bool} {i : Instr} {len pc : Nat} {L : QL} {st : List CV} {M : QM} {S : QS} (h : q_mm ow ini i len pc L st M = some S) : q_mono M S.2.2.2 := by
  unfold q_mm at h
  repeat' split at h
  all_goals first
    | (cases h; done)
    | (cases h; exact .rf)
    | (cases h; exact .wr)
    | (cases h; exact .al)
    | exact q_mono_put h
theorem q_mono_ac {ow : Nat} {i : Instr} {len pc : Nat} {L : QL} {st : List CV} {M : QM} {S : QS} (h : q_ac ow i len pc L st M = some S) : q_mono M S.2.2.2 := by
  unfold q_ac at h
  repeat' split at h
  all_goals first
    | (cases h; done)
    | (cases h; exact .cp)
theorem q_mono_xs {ow : Nat} {i : Instr} {len pc : Nat} {L : QL} {st : List CV} {M : QM} {S : QS} (h : q_xs ow i len pc L st M = some S) : q_mono M S.2.2.2 := by
  unfold q_xs at h
  repeat' split at h
  all_goals first
    | (cases h; done)
    | (cases h; exact .rf)
theorem q_mono_stp {mi : QI} {i : Instr} {len : Nat} {S S' : QS} (h : q_stp mi i len S = some S') : q_mono S.2.2.2 S'.2.2.2 := by
  unfold q_stp at h
  split at h
  · cases h; exact .rf
  · split at h
    · rename_i q; cases h; exact q_mono_mm q
    · split at h
      · rename_i q; cases h; exact q_mono_ac q
      · exact q_mono_xs h
theorem Rn_mono {C : QC} {mi : QI} (hC : ∀ y as M r M1, C y as M r M1 → q_mono M M1) {r : Option CV} {M1 : QM} : ∀ (n : Nat) (S : QS), Rn C mi n S (q_ex r M1) → q_mono S.2.2.2 M1
  | 0, _, h => h.elim
  | n + 1, S, h => by
    obtain ⟨i, len, -, h⟩ := h
    split at h
    · rename_i S' hS; exact (q_mono_stp hS).tr (Rn_mono hC n S' h)
    · split at h
      · rw [h.2]; exact .rf
      · split at h
        · obtain ⟨v, M2, h1, h2⟩ := h
          exact (hC _ _ _ _ _ h1).tr (Rn_mono hC n _ h2)
        · exact h.elim
theorem q_C_mono : ∀ (d : Nat) (y : Nat) (as : List CV) (M : QM) (r : Option CV) (M1 : QM), q_C d y as M r M1 → q_mono M M1
  | 0, _, _, _, _, _, h => h.elim
  | d + 1, y, as, M, r, M1, h => by
    obtain ⟨e, -, -, n, h⟩ := h
    exact Rn_mono (q_C_mono d) n _ h
theorem Rn_ex {C : QC} {mi : QI} {x : QP} : ∀ (n : Nat) (S : QS), Rn C mi n S x → ∃ r M1, Rn C mi n S (q_ex r M1) ∧ x r M1
  | 0, _, h => h.elim
  | n + 1, S, h => by
    obtain ⟨i, len, hd, h⟩ := h
    split at h
    · rename_i S' hS
      obtain ⟨r, M1, h1, h2⟩ := Rn_ex n S' h
      exact ⟨r, M1, ⟨i, len, hd, by rw [hS]; exact h1⟩, h2⟩
    · rename_i hS
      split at h
      · rename_i v hv
        exact ⟨v, S.2.2.2, ⟨i, len, hd, by rw [hS]; dsimp only; rw [hv]; exact ⟨rfl, rfl⟩⟩, h⟩
      · rename_i hv
        split at h
        · rename_i c hc
          obtain ⟨v, M2, g1, g2⟩ := h
          obtain ⟨r, M1, h1, h2⟩ := Rn_ex n _ g2
          exact ⟨r, M1, ⟨i, len, hd, by rw [hS]; dsimp only; rw [hv]; dsimp only; rw [hc]; exact ⟨v, M2, g1, h1⟩⟩, h2⟩
        · exact h.elim
theorem Rn_im {C : QC} {mi : QI} {x y : QP} (hxy : ∀ r M, x r M → y r M) : ∀ (n : Nat) (S : QS), Rn C mi n S x → Rn C mi n S y
  | 0, _, h => h.elim
  | n + 1, S, h => by
    obtain ⟨i, len, hd, h⟩ := h
    refine ⟨i, len, hd, ?_⟩
    cases hS : q_stp mi i len S with
    | some S' =>
      rw [hS] at h
      exact Rn_im hxy n S' h
    | none =>
      rw [hS] at h
      dsimp only at h ⊢
      cases hv : q_fin mi.2.2.2 i len S.2.2.1 with
      | some v =>
        rw [hv] at h
        exact hxy _ _ h
      | none =>
        rw [hv] at h
        dsimp only at h ⊢
        cases hc : q_inv mi.1 i len S.2.2.1 S.2.2.2 with
        | none => rw [hc] at h; exact h.elim
        | some c =>
          rw [hc] at h
          obtain ⟨v, M2, g1, g2⟩ := h
          exact ⟨v, M2, g1, Rn_im hxy n _ g2⟩
/-- a call: it ends, and so it is then -/
def q_T (d y : Nat) (as : List CV) (M : QM) (x : QP) : Prop := ∃ r M1, q_C d y as M r M1 ∧ x r M1
theorem q_T.im {d y : Nat} {as : List CV} {M : QM} {x x' : QP} (h : q_T d y as M x) (hx : ∀ r M1, x r M1 → x' r M1) : q_T d y as M x' := by
  obtain ⟨r, M1, h1, h2⟩ := h
  exact ⟨r, M1, h1, hx r M1 h2⟩
theorem Rr.im {C : QC} {mi : QI} {S : QS} {x y : QP} (h : Rr C mi S x) (hxy : ∀ r M, x r M → y r M) : Rr C mi S y := by
  obtain ⟨n, h⟩ := h
  exact ⟨n, Rn_im hxy n S h⟩
