/-! the steps that read, write or make memory -/
def q_lk {β : Type} (l : List (Nat × β)) (ow x : Nat) : Option β := if x < 10000 then q_look l (ow * 10000 + x) else none
theorem q_lk_mem {β : Type} {l : List (Nat × β)} {ow x : Nat} {v : β} (h : q_lk l ow x = some v) : (ow * 10000 + x, v) ∈ l ∧ (ow * 10000 + x) / 10000 = ow ∧ (ow * 10000 + x) % 10000 = x := by
  unfold q_lk at h
  split at h
  · exact ⟨q_look_mem h, by omega, by omega⟩
  · cases h
abbrev QS : Type := Nat × QL × List CV × QM
def q_len (kd : Nat × Nat) : Option Nat := if 2 ≤ kd.1 ∧ kd.1 ≤ 9 then some kd.2 else none
/-- reading place j of an array of one of these kinds -/
def q_ald (ts : List Nat) (M : QM) (a : Nat) (j : Int) : Option CV :=
  if (q_kd M a).1 ∈ ts ∧ 0 ≤ j ∧ j < (q_kd M a).2 then some (q_fv M a j.toNat) else none
def q_ast (t : Nat) (M : QM) (a : Nat) (j : Int) (v : CV) : Option QM :=
  if (q_kd M a).1 = t ∧ 0 ≤ j ∧ j < (q_kd M a).2 then some (q_wr M a j.toNat v) else none
def q_put (M : QM) (pc : Nat) (L : QL) (st : List CV) : Option QM → Option QS
  | some M' => some (pc, L, st, M')
  | none => none
def q_atab : List (Nat × (Nat × Nat)) := [(110025, (6, 208)), (150007, (5, 623)), (180002, (5, 619))]
def q_mm (ow : Nat) (ini : Bool) (i : Instr) (len pc : Nat) (L : QL) (st : List CV) (M : QM) : Option QS :=
  match i with
  | .getfield x => match len, st, q_lk q_ftab ow x with
    | 3, .inr (.inr (some a)) :: st, some e => if q_kd M a = (1, e.1) then some (pc + 3, L, q_fv M a e.2.1 :: st, M) else none
    | _, _, _ => none
  | .putfield x => match len, st, q_lk q_ftab ow x with
    | 3, v :: .inr (.inr (some a)) :: st, some e => match qcl[e.1]?, qty[e.1]? with
      | some r, some t => if q_kd M a = (1, e.1) ∧ q_fitb (t e.2.1) v = true ∧ ((r.2.1 e.2.1).2.2.2 = true → ini = true ∧ q_own[ow]? = some (r.2.1 e.2.1).1) then some (pc + 3, L, st, q_wr M a e.2.1 v) else none
      | _, _ => none
    | _, _, _ => none
  | .arraylength => match len, st with
    | 1, .inr (.inr (some a)) :: st => match q_len (q_kd M a) with
      | some n => some (pc + 1, L, qi n :: st, M)
      | none => none
    | _, _ => none
  | .iaload => match len, st with
    | 1, .inl j :: .inr (.inr (some a)) :: st => match q_ald [2, 7] M a j with
      | some v => some (pc + 1, L, v :: st, M)
      | none => none
    | _, _ => none
  | .laload => match len, st with
    | 1, .inl j :: .inr (.inr (some a)) :: st => match q_ald [3] M a j with
      | some v => some (pc + 1, L, v :: st, M)
      | none => none
    | _, _ => none
  | .baload => match len, st with
    | 1, .inl j :: .inr (.inr (some a)) :: st => match q_ald [4, 8] M a j with
      | some v => some (pc + 1, L, v :: st, M)
      | none => none
    | _, _ => none
  | .aaload => match len, st with
    | 1, .inl j :: .inr (.inr (some a)) :: st => match q_ald [5, 6, 9] M a j with
      | some v => some (pc + 1, L, v :: st, M)
      | none => none
    | _, _ => none
  | .iastore => match len, st with
    | 1, .inl x :: .inl j :: .inr (.inr (some a)) :: st => q_put M (pc + 1) L st (q_ast 2 M a j (qi x))
    | _, _ => none
  | .lastore => match len, st with
    | 1, .inr (.inl x) :: .inl j :: .inr (.inr (some a)) :: st => q_put M (pc + 1) L st (q_ast 3 M a j (ql x))
    | _, _ => none
  | .bastore => match len, st with
    | 1, .inl x :: .inl j :: .inr (.inr (some a)) :: st => q_put M (pc + 1) L st (q_ast 4 M a j (qi (q_i2b x)))
    | _, _ => none
  | .aastore => match len, st with
    | 1, .inr (.inr (some b)) :: .inl j :: .inr (.inr (some a)) :: st => if q_kd M b = (1, 3) then q_put M (pc + 1) L st (q_ast 5 M a j (qr b)) else if q_kd M b = (1, 4) then q_put M (pc + 1) L st (q_ast 6 M a j (qr b)) else none
    | 1, .inr (.inr none) :: .inl j :: .inr (.inr (some a)) :: st => if (q_kd M a).1 = 5 then q_put M (pc + 1) L st (q_ast 5 M a j qn) else none
    | _, _ => none
  | .new x => match len, q_lk q_ctab ow x with
    | 3, some e => match qcl[e.1]?, qty[e.1]? with
      | some r, some t => some (pc + 3, L, qr (q_top M) :: st, q_al M (1, e.1) r.2.2 (fun k => q_dv (t k)))
      | _, _ => none
    | _, _ => none
  | .newarray t => match len, st with
    | 2, .inl n :: st => if 0 ≤ n ∧ n ≤ 60000000 then (match t with
      | .int => some (pc + 2, L, qr (q_top M) :: st, q_al M (2, n.toNat) n.toNat (fun _ => qi 0))
      | .long => some (pc + 2, L, qr (q_top M) :: st, q_al M (3, n.toNat) n.toNat (fun _ => ql 0))
      | .byte => some (pc + 2, L, qr (q_top M) :: st, q_al M (4, n.toNat) n.toNat (fun _ => qi 0))
      | _ => none) else none
    | _, _ => none
  | .anewarray x => match len, st, q_lk q_atab ow x with
    | 3, .inl n :: st, some e => if 0 ≤ n ∧ n ≤ 60000000 ∧ (e.1 = 5 ∨ e.1 = 6) then some (pc + 3, L, qr (q_top M) :: st, q_al M (e.1, n.toNat) n.toNat (fun _ => qn)) else none
    | _, _, _ => none
  | .checkcast x => match len, st with
    | 3, .inr (.inr none) :: st => some (pc + 3, L, qn :: st, M)
    | 3, .inr (.inr (some a)) :: st => match q_lk q_ctab ow x with
      | some e => if q_kd M a = (1, e.1) then some (pc + 3, L, qr a :: st, M) else none
      | none => none
    | _, _ => none
  | .ldc x => match len, q_lk q_ltab ow x with
    | 2, some e => some (pc + 2, L, qi e.1 :: st, M)
    | _, _ => none
  | .ldc_w x => match len, q_lk q_ltab ow x with
    | 3, some e => some (pc + 3, L, qi e.1 :: st, M)
    | _, _ => none
  | .ldc2_w x => match len, q_lk q_l2tab ow x with
    | 3, some e => some (pc + 3, L, ql e.1 :: st, M)
    | _, _ => none
  | .getstatic x => match len, q_lk q_stab ow x with
    | 3, some e => some (pc + 3, L, q_sv (q_gs M) e.1 :: st, M)
    | _, _ => none
  | .invokespecial x => match len, st, q_lk q_otab ow x with
    | 3, .inr (.inr (some _)) :: st, some _ => if (st.map q_wd).sum ≤ 8 then some (pc + 3, L, st, M) else none
    | _, _, _ => none
  | _ => none
/-- what holds of the state at a method's entry beside its code: our words, and three that move by rows of their own -/
def q_nest : List Jvm.Cond := [.methodLinkNest RX12 9 yX8_init RX12, .methodLinkNest RX12 18 yX5_init RX12, .methodLinkNest RX11 11 yX0_init RX12, .methodLinkNest RX11 34 yX4_init RX12, .methodLinkNest RX4 32 yX2_init RX12, .methodLinkNest RX4 39 yX9_init RX12, .methodLinkNest RX4 46 yX1_init RX12, .methodLinkNest RX12 32 yX7_init RX12, .methodLinkNest RX12 39 yX9_init RX12, .methodLinkNest RX6 50 yX12_isDay RX12]
def q_NW (U : State) : Prop := (∀ w ∈ q_nest, va_Nw w U) ∧ va_AO "PlaceRegister$Place" U ∧ va_AO "java/lang/Object" U ∧ va_Nw (.castable "PlaceRegister$Order" "java/lang/Object") U
theorem q_NW.warm {s U : State} (hW : s.WarmedH U.vm) (h : q_NW s) : q_NW U := by
  obtain ⟨h1, h2, h3, h4⟩ := h
  refine ⟨fun w hw => ?_, h2.moved hW.alike, h3.moved hW.alike, va_Nw.warmC hW h4⟩
  have h0 := h1 w hw
  simp only [q_nest, List.mem_cons, List.not_mem_nil, or_false] at hw
  rcases hw with rfl | rfl | rfl | rfl | rfl | rfl | rfl | rfl | rfl | rfl <;> exact va_Nw.warmM hW h0
theorem q_NW.same {s U : State} (e : s.vm = U.vm) (h : q_NW s) : q_NW U := by
  obtain ⟨h1, h2, h3, h4⟩ := h
  have hal : s.vm.Alike U.vm := by rw [e]; exact Vm.Alike.refl _
  refine ⟨fun w hw => ?_, h2.moved hal, h3.moved hal, va_Nw.same rfl e h4⟩
  have h0 := h1 w hw
  simp only [q_nest, List.mem_cons, List.not_mem_nil, or_false] at hw
  rcases hw with rfl | rfl | rfl | rfl | rfl | rfl | rfl | rfl | rfl | rfl <;> exact va_Nw.same rfl e h0
def q_aokb (e : Nat × (Nat × Nat)) : Bool := match q_own[e.1 / 10000]? with
  | some own => (if e.2.1 = 6 then q_in e.2.2 (.classLink own (e.1 % 10000) "PlaceRegister$Place") else q_in e.2.2 (.classLink own (e.1 % 10000) "java/lang/Object"))
  | _ => false
theorem q_atab_ok : q_atab.all q_aokb = true := by decide +kernel
