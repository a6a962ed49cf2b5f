/-! the memory of our machine, what it says of the heap -/
def q_look {β : Type} : List (Nat × β) → Nat → Option β
  | [], _ => none
  | (k, v) :: l, x => if k = x then some v else q_look l x
theorem q_look_mem {β : Type} : ∀ {l : List (Nat × β)} {x : Nat} {v : β}, q_look l x = some v → (x, v) ∈ l
  | [], _, _, h => by cases h
  | (k, u) :: l, x, v, h => by
    unfold q_look at h
    split at h
    · rename_i hk; cases h; subst hk; exact List.mem_cons_self
    · exact List.mem_cons_of_mem _ (q_look_mem h)
abbrev QM : Type := (Nat → Nat × Nat) × (Nat → Nat → CV) × Nat × Nat × Nat × (Nat → Nat)
def q_kd (M : QM) (a : Nat) : Nat × Nat := M.1 a
def q_fv (M : QM) (a k : Nat) : CV := M.2.1 a k
def q_top (M : QM) : Nat := M.2.2.1
def q_nc (M : QM) : Nat := M.2.2.2.1
def q_ns (M : QM) : Nat := M.2.2.2.2.1
def q_gs (M : QM) : Nat → Nat := M.2.2.2.2.2
def q_wr (M : QM) (a k : Nat) (v : CV) : QM := (M.1, (fun b j => if b = a ∧ j = k then v else M.2.1 b j), M.2.2)
def q_al (M : QM) (kd : Nat × Nat) (n : Nat) (ini : Nat → CV) : QM := ((fun b => if b = M.2.2.1 then kd else M.1 b), (fun b j => if b = M.2.2.1 then ini j else M.2.1 b j), M.2.2.1 + 1, M.2.2.2.1 + 1, M.2.2.2.2.1 + n, M.2.2.2.2.2)
def q_cp (M : QM) (src sp dst dp n : Nat) : QM := (M.1, (fun b j => if b = dst ∧ dp ≤ j ∧ j < dp + n then M.2.1 src (sp + (j - dp)) else M.2.1 b j), M.2.2)
/-- statics: key, (number, class, name, type, word) -/
def q_stab : List (Nat × (Nat × String × String × String × Nat)) := [(150039, (0, "java/util/ArrayList", "DEFAULTCAPACITY_EMPTY_ELEMENTDATA", "[Ljava/lang/Object;", 147)), (170018, (1, "java/lang/String", "COMPACT_STRINGS", "Z", 354)), (261053, (4, "jdk/internal/util/Preconditions", "SIOOBE_FORMATTER", "Ljava/util/function/BiFunction;", 1104)), (260038, (1, "java/lang/String", "COMPACT_STRINGS", "Z", 1137)), (200083, (2, "java/lang/Integer", "DigitOnes", "[B", 1169)), (200087, (3, "java/lang/Integer", "DigitTens", "[B", 1171))]
def q_sv (g : Nat → Nat) : Nat → CV
  | 0 => qr (g 0)
  | 1 => qi 1
  | 2 => qr (g 2)
  | 3 => qr (g 3)
  | _ => if g 4 = 0 then qn else qr (g 4 - 1)
def q_sokb (e : Nat × (Nat × String × String × String × Nat)) : Bool := match q_own[e.1 / 10000]? with
  | some own => q_in e.2.2.2.2.2 (.fieldLink own (e.1 % 10000) e.2.2.1 e.2.2.2.1 e.2.2.2.2.1)
  | _ => false
theorem q_stab_ok : q_stab.all q_sokb = true := by decide +kernel
/-- kinds: 1 an object of class n; 2 to 6 our arrays of n cells (int, long, byte, Object, Place); 7 to 9 arrays that stood before (int, byte, Object) -/
def q_aty : Nat → FieldType
  | 3 => .long
  | 4 => .byte
  | 8 => .byte
  | 5 => .object "java/lang/Object"
  | 9 => .object "java/lang/Object"
  | 6 => .object "PlaceRegister$Place"
  | _ => .int
def q_at (D : va_G) (U : State) (H : Heap) (a : Nat) (kd : Nat × Nat) (f : Nat → CV) : Prop :=
  (kd.1 = 1 → ∃ r : vw_C, qcl[kd.2]? = some r ∧ t_OB a (D.1 kd.2) r.2.2 (D.2 kd.2) H (fun k => rv (f k))) ∧
  (2 ≤ kd.1 → kd.1 ≤ 6 → kd.2 < 2 ^ 31 ∧ ∃ cA : ClassId, H[a]? = some (arrV cA kd.2 (fun j => rv (f j))) ∧ ArrOfT U cA (q_aty kd.1) ∧ va_RA U cA (q_aty kd.1)) ∧
  (7 ≤ kd.1 → kd.1 ≤ 9 → kd.2 < 2 ^ 31 ∧ ∃ cell : Cell, H[a]? = some cell ∧ U.isArrayOf cell (q_aty kd.1) ∧ cell.vm ≠ .unknown ∧ kd.2 ≤ cell.slots.size ∧ cell.slots.size.toInt32 = Int32.ofInt kd.2 ∧ ∀ j : Nat, j < kd.2 → cell.slots[j]? = some (rv (f j)))
theorem q_at.kept {D : va_G} {U : State} {H H1 : Heap} {a : Nat} {kd : Nat × Nat} {f : Nat → CV} (h : q_at D U H a kd f) (hq : H1[a]? = H[a]?) : q_at D U H1 a kd f := by
  obtain ⟨h1, h2, h3⟩ := h
  refine ⟨fun k => ?_, fun k1 k2 => ?_, fun k1 k2 => ?_⟩
  · obtain ⟨r, e1, e2⟩ := h1 k
    exact ⟨r, e1, e2.kept hq⟩
  · obtain ⟨e0, cA, e1, e2⟩ := h2 k1 k2
    exact ⟨e0, cA, hq.trans e1, e2⟩
  · obtain ⟨e0, c, e1, e2⟩ := h3 k1 k2
    exact ⟨e0, c, hq.trans e1, e2⟩
theorem q_at.moved {D : va_G} {u U : State} {H : Heap} {a : Nat} {kd : Nat × Nat} {f : Nat → CV} (hvm : u.vm.Alike U.vm) (h : q_at D u H a kd f) : q_at D U H a kd f := by
  obtain ⟨h1, h2, h3⟩ := h
  refine ⟨h1, fun k1 k2 => ?_, fun k1 k2 => ?_⟩
  · obtain ⟨e0, cA, e1, e2, e3⟩ := h2 k1 k2
    exact ⟨e0, cA, e1, arrOfT_moved hvm e2, e3.moved hvm⟩
  · obtain ⟨e0, c, e1, e2, e3⟩ := h3 k1 k2
    exact ⟨e0, c, e1, State.isArrayOf_alike hvm e2, e3⟩
def q_HR (D : va_G) (H0 : Heap) (U : State) (M : QM) (H : Heap) : Prop :=
  H.size = q_top M ∧ H0.size ≤ q_top M ∧ (∀ q : Nat, q < H0.size → H[q]? = H0[q]?) ∧ (∀ a, q_top M ≤ a → (q_kd M a).1 = 0) ∧ (∀ a, q_at D U H a (q_kd M a) (q_fv M a)) ∧ (∀ a, 1 ≤ (q_kd M a).1 → (q_kd M a).1 ≤ 6 → H0.size ≤ a) ∧ va_K D qcl [] U ∧
  ∀ e ∈ q_stab, va_Z e.2.2.1 e.2.2.2.1 e.2.2.2.2.1 (rv (q_sv (q_gs M) e.2.1)) (fun q => H0.size ≤ q) U H
theorem q_HR.moved {D : va_G} {H0 : Heap} {u U : State} {M : QM} {H : Heap} (hvm : u.vm.Alike U.vm) (h : q_HR D H0 u M H) : q_HR D H0 U M H := by
  obtain ⟨h1, h2, h3, h4, h5, h6, h7, h8⟩ := h
  exact ⟨h1, h2, h3, h4, fun a => (h5 a).moved hvm, h6, va_K.moved hvm h7, fun e he => (h8 e he).moved hvm⟩
theorem q_HR.up {D : va_G} {H0 : Heap} {U : State} {M M1 : QM} {H H1 : Heap} {a : Nat} (h : q_HR D H0 U M H) (k1 : 1 ≤ (q_kd M a).1) (k2 : (q_kd M a).1 ≤ 6) (ek : q_kd M1 = q_kd M) (et : q_top M1 = q_top M) (eg : q_gs M1 = q_gs M) (ef : ∀ b, b ≠ a → q_fv M1 b = q_fv M b) (z : H1.size = H.size) (oq : ∀ q : Nat, q ≠ a → H1[q]? = H[q]?) (ha : q_at D U H1 a (q_kd M a) (q_fv M1 a)) : q_HR D H0 U M1 H1 := by
  obtain ⟨h1, h2, h3, h4, h5, h6, h7, h8⟩ := h
  have hba := h6 a k1 k2
  refine ⟨by rw [z, et]; exact h1, by rw [et]; exact h2, fun q hq => (oq q (by omega)).trans (h3 q hq), by rw [ek, et]; exact h4, fun b => ?_, by rw [ek]; exact h6, h7, fun e he => ?_⟩
  · rw [ek]
    by_cases hb : b = a
    · subst hb; exact ha
    · rw [ef b hb]; exact (h5 b).kept (oq b hb)
  · rw [eg]
    exact (h8 e he).kept (fun q _ hA => oq q (by omega))
theorem q_HR.al {D : va_G} {H0 : Heap} {U : State} {M : QM} {H H1 : Heap} {kd : Nat × Nat} {n : Nat} {ini : Nat → CV} (h : q_HR D H0 U M H) (z : H1.size = H.size + 1) (oq : ∀ q : Nat, q < H.size → H1[q]? = H[q]?) (ha : q_at D U H1 H.size kd ini) : q_HR D H0 U (q_al M kd n ini) H1 := by
  obtain ⟨h1, h2, h3, h4, h5, h6, h7, h8⟩ := h
  have et : q_top (q_al M kd n ini) = q_top M + 1 := rfl
  refine ⟨by rw [z, et, h1], by rw [et]; omega, fun q hq => (oq q (by omega)).trans (h3 q hq), fun a ha => ?_, fun b => ?_, fun b => ?_, h7, fun e he => ?_⟩
  · rw [et] at ha
    have : q_kd (q_al M kd n ini) a = q_kd M a := if_neg (by show ¬ a = q_top M; omega)
    rw [this]; exact h4 a (by omega)
  · by_cases hb : b = q_top M
    · have e1 : q_kd (q_al M kd n ini) b = kd := if_pos hb
      have e2 : q_fv (q_al M kd n ini) b = ini := by funext j; exact if_pos hb
      rw [e1, e2, hb, ← h1]; exact ha
    · have e1 : q_kd (q_al M kd n ini) b = q_kd M b := if_neg hb
      have e2 : q_fv (q_al M kd n ini) b = q_fv M b := by funext j; exact if_neg hb
      rw [e1, e2]
      by_cases hl : b < H.size
      · exact (h5 b).kept (oq b hl)
      · have h0 := h4 b (by omega)
        exact ⟨fun k => by omega, fun k => by omega, fun k => by omega⟩
  · by_cases hb : b = q_top M
    · intro _ _; omega
    · have e1 : q_kd (q_al M kd n ini) b = q_kd M b := if_neg hb
      rw [e1]; exact h6 b
  · exact (h8 e he).kept (fun q hq _ => oq q hq)
def q_dv : FieldType → CV
  | .long => ql 0
  | .object _ => qn
  | .array _ => qn
  | _ => qi 0
def q_okt : FieldType → Bool
  | .float => false
  | .double => false
  | _ => true
theorem q_dv_rv {t : FieldType} (h : q_okt t = true) : defaultValue t = rv (q_dv t) := by
  cases t <;> first | rfl | (simp [q_okt] at h)
def q_fitb : FieldType → CV → Bool
  | .int, .inl _ => true
  | .boolean, .inl z => decide (z = 0) || decide (z = 1)
  | .byte, .inl z => decide (-128 ≤ z) && decide (z ≤ 127)
  | .long, .inr (.inl _) => true
  | .object _, .inr (.inr _) => true
  | .array _, .inr (.inr _) => true
  | _, _ => false
theorem q_byte : ∀ k : Nat, k < 256 → (narrow .byte (.int (Int32.ofInt ((k : Int) - 128))) = .int (Int32.ofInt ((k : Int) - 128))) ∧ fits .byte (.int (Int32.ofInt ((k : Int) - 128))) = true := by decide +kernel
theorem q_fitb_ok {t : FieldType} {v : CV} (h : q_fitb t v = true) : narrow t (rv v) = rv v ∧ fits t (rv v) = true := by
  rcases v with z | z | (_ | a) <;> cases t <;> simp only [q_fitb, Bool.false_eq_true, Bool.or_eq_true, Bool.and_eq_true, decide_eq_true_eq] at h <;> first
    | exact ⟨rfl, rfl⟩
    | skip
  · have := q_byte (z + 128).toNat (by omega)
    have e : (((z + 128).toNat : Nat) : Int) - 128 = z := by omega
    rw [e] at this
    exact this
  · rcases h with rfl | rfl <;> exact ⟨by decide, by decide⟩
theorem q_tyok : ∀ t ∈ qty, ∀ k, k < 20 → q_okt (t k) = true := by
  intro t ht
  simp only [qty, List.mem_cons, List.not_mem_nil, or_false] at ht
  rcases ht with rfl | rfl | rfl | rfl | rfl | rfl | rfl | rfl | rfl | rfl | rfl | rfl | rfl | rfl | rfl | rfl <;> decide +kernel
