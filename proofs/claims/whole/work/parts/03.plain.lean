/-! A machine of its own over whole numbers: values, locals, the steps that touch no memory; each step is sound for the machine of the Statement. -/
abbrev CV : Type := Int ⊕ (Int ⊕ Option Nat)
abbrev qi (z : Int) : CV := Sum.inl z
abbrev ql (z : Int) : CV := Sum.inr (Sum.inl z)
abbrev qr (a : Nat) : CV := Sum.inr (Sum.inr (some a))
abbrev qn : CV := Sum.inr (Sum.inr none)
def rv : CV → Value
  | .inl z => .int (Int32.ofInt z)
  | .inr (.inl z) => .long (Int64.ofInt z)
  | .inr (.inr none) => .null
  | .inr (.inr (some a)) => .ref a
def q_wd : CV → Nat
  | .inr (.inl _) => 2
  | _ => 1
theorem q_wd_rv (v : CV) : (rv v).category = q_wd v := by
  rcases v with z | z | (_ | a) <;> rfl
abbrev QL : Type := List (Option CV)
def q_cut : Option CV → Option CV
  | some (.inr (.inl _)) => none
  | x => x
def q_s1 : QL → Nat → CV → QL
  | [], _, _ => []
  | _ :: L, 0, v => some v :: L
  | x :: L, i + 1, v => (match i with | 0 => q_cut x | _ + 1 => x) :: q_s1 L i v
def q_s2 : QL → Nat → CV → QL
  | [], _, _ => []
  | _ :: L, 0, v => some v :: (match L with | [] => [] | _ :: L' => none :: L')
  | x :: L, i + 1, v => (match i with | 0 => q_cut x | _ + 1 => x) :: q_s2 L i v
theorem q_s1_len : ∀ (L : QL) (i : Nat) (v : CV), (q_s1 L i v).length = L.length
  | [], _, _ => rfl
  | _ :: _, 0, _ => rfl
  | _ :: L, i + 1, v => by simp [q_s1, q_s1_len L i v]
theorem q_s2_len : ∀ (L : QL) (i : Nat) (v : CV), (q_s2 L i v).length = L.length
  | [], _, _ => rfl
  | [_], 0, _ => rfl
  | _ :: _ :: _, 0, _ => rfl
  | _ :: L, i + 1, v => by simp [q_s2, q_s2_len L i v]
theorem q_cut_some {x : Option CV} {v : CV} (h : q_cut x = some v) : x = some v ∧ q_wd v = 1 := by
  rcases x with _ | (z | z | (_ | a))
  · simp [q_cut] at h
  · simp only [q_cut, Option.some.injEq] at h; subst h; exact ⟨rfl, rfl⟩
  · simp [q_cut] at h
  · simp only [q_cut, Option.some.injEq] at h; subst h; exact ⟨rfl, rfl⟩
  · simp only [q_cut, Option.some.injEq] at h; subst h; exact ⟨rfl, rfl⟩
theorem q_s1_get : ∀ (L : QL) (i : Nat) (v : CV) (j : Nat) (w : CV), (q_s1 L i v)[j]? = some (some w) → (j = i ∧ w = v) ∨ (j ≠ i ∧ L[j]? = some (some w) ∧ (j + 1 = i → q_wd w = 1))
  | [], i, v, j, w, h => by simp [q_s1] at h
  | x :: L, 0, v, j, w, h => by
    cases j with
    | zero => simp [q_s1] at h; exact Or.inl ⟨rfl, h.symm⟩
    | succ j => simp [q_s1] at h; exact Or.inr ⟨by omega, by simpa using h, by omega⟩
  | x :: L, i + 1, v, j, w, h => by
    cases j with
    | zero =>
      refine Or.inr ⟨by omega, ?_, ?_⟩
      · cases i with
        | zero => simp only [q_s1, List.getElem?_cons_zero, Option.some.injEq] at h; simpa using (q_cut_some h).1
        | succ i => simpa [q_s1] using h
      · intro hi
        have : i = 0 := by omega
        subst this
        simp only [q_s1, List.getElem?_cons_zero, Option.some.injEq] at h
        exact (q_cut_some h).2
    | succ j =>
      have h' : (q_s1 L i v)[j]? = some (some w) := by simpa [q_s1] using h
      rcases q_s1_get L i v j w h' with ⟨a, b⟩ | ⟨a, b, c⟩
      · exact Or.inl ⟨by omega, b⟩
      · exact Or.inr ⟨by omega, by simpa using b, fun e => c (by omega)⟩
theorem q_s2_get : ∀ (L : QL) (i : Nat) (v : CV) (j : Nat) (w : CV), (q_s2 L i v)[j]? = some (some w) → (j = i ∧ w = v) ∨ (j ≠ i ∧ j ≠ i + 1 ∧ L[j]? = some (some w) ∧ (j + 1 = i → q_wd w = 1))
  | [], i, v, j, w, h => by simp [q_s2] at h
  | [x], 0, v, j, w, h => by
    cases j with
    | zero => simp [q_s2] at h; exact Or.inl ⟨rfl, h.symm⟩
    | succ j => simp [q_s2] at h
  | x :: y :: L, 0, v, j, w, h => by
    cases j with
    | zero => simp [q_s2] at h; exact Or.inl ⟨rfl, h.symm⟩
    | succ j =>
      cases j with
      | zero => simp [q_s2] at h
      | succ j => simp [q_s2] at h; exact Or.inr ⟨by omega, by omega, by simpa using h, by omega⟩
  | x :: L, i + 1, v, j, w, h => by
    cases j with
    | zero =>
      refine Or.inr ⟨by omega, by omega, ?_, ?_⟩
      · cases i with
        | zero => simp only [q_s2, List.getElem?_cons_zero, Option.some.injEq] at h; simpa using (q_cut_some h).1
        | succ i => simpa [q_s2] using h
      · intro hi
        have : i = 0 := by omega
        subst this
        simp only [q_s2, List.getElem?_cons_zero, Option.some.injEq] at h
        exact (q_cut_some h).2
    | succ j =>
      have h' : (q_s2 L i v)[j]? = some (some w) := by simpa [q_s2] using h
      rcases q_s2_get L i v j w h' with ⟨a, b⟩ | ⟨a, b, c, d⟩
      · exact Or.inl ⟨by omega, b⟩
      · exact Or.inr ⟨by omega, by omega, by simpa using c, fun e => d (by omega)⟩
def q_lv : Nat → QL → List (Nat × Value)
  | _, [] => []
  | k, some v :: L => (k, rv v) :: q_lv (k + 1) L
  | k, none :: L => q_lv (k + 1) L
theorem q_lv_mem : ∀ (L : QL) (k : Nat) (q : Nat × Value), q ∈ q_lv k L ↔ ∃ (j : Nat) (v : CV), q = (k + j, rv v) ∧ L[j]? = some (some v)
  | [], k, q => by simp [q_lv]
  | x :: L, k, q => by
    have ih := q_lv_mem L (k + 1) q
    have key : (∃ (j : Nat) (v : CV), q = (k + 1 + j, rv v) ∧ L[j]? = some (some v)) → ∃ (j : Nat) (v : CV), q = (k + j, rv v) ∧ (x :: L)[j]? = some (some v) := by
      rintro ⟨j, v, h1, h2⟩
      exact ⟨j + 1, v, by rw [h1]; congr 1; omega, by simpa using h2⟩
    cases x with
    | none =>
      simp only [q_lv, ih]
      refine ⟨key, ?_⟩
      rintro ⟨j, v, h1, h2⟩
      cases j with
      | zero => simp at h2
      | succ j => exact ⟨j, v, by rw [h1]; congr 1; omega, by simpa using h2⟩
    | some u =>
      simp only [q_lv, List.mem_cons, ih]
      constructor
      · rintro (h | h)
        · exact ⟨0, u, by simpa using h, by simp⟩
        · exact key h
      · rintro ⟨j, v, h1, h2⟩
        cases j with
        | zero => simp at h2; subst h2; exact Or.inl (by simpa using h1)
        | succ j => exact Or.inr ⟨j, v, by rw [h1]; congr 1; omega, by simpa using h2⟩
/-- the machine's locals hold what ours do -/
def q_LR (nL : Nat) (ls : Array Slot) (L : QL) : Prop := L.length = nL ∧ lv_has ls nL (q_lv 0 L)
theorem q_LR.at {nL : Nat} {ls : Array Slot} {L : QL} (h : q_LR nL ls L) {i : Nat} {v : CV} (hi : L[i]? = some (some v)) : ls[i]? = some (.val (rv v)) :=
  h.2.2.2 (i, rv v) ((q_lv_mem L 0 _).mpr ⟨i, v, by simp, hi⟩)
theorem q_LR.s1 {nL : Nat} {ls : Array Slot} {L : QL} (h : q_LR nL ls L) {i : Nat} {v : CV} {ls' : Array Slot} (h' : lv_has ls' nL ((i, rv v) :: (q_lv 0 L).filter (fun q => !(q.1 == i) && !(q.1 + 1 == i && q.2.category == 2)))) : q_LR nL ls' (q_s1 L i v) := by
  refine ⟨by rw [q_s1_len]; exact h.1, h'.1, h'.2.1, fun q hq => h'.2.2 q ?_⟩
  obtain ⟨j, w, e1, e2⟩ := (q_lv_mem _ _ _).mp hq
  rcases q_s1_get L i v j w e2 with ⟨a, b⟩ | ⟨a, b, c⟩
  · rw [e1, a, b]; simp
  · refine List.mem_cons_of_mem _ (List.mem_filter.mpr ⟨(q_lv_mem _ _ _).mpr ⟨j, w, e1, b⟩, ?_⟩)
    rw [e1]
    simp only [Nat.zero_add, q_wd_rv]
    by_cases hj : j + 1 = i
    · simp [a, c hj]
    · simp [a, hj]
theorem q_LR.s2 {nL : Nat} {ls : Array Slot} {L : QL} (h : q_LR nL ls L) {i : Nat} {v : CV} {ls' : Array Slot} (h' : lv_has ls' nL ((i, rv v) :: (q_lv 0 L).filter (fun q => !(q.1 == i) && (!(q.1 == i + 1) && !(q.1 + 1 == i && q.2.category == 2))))) : q_LR nL ls' (q_s2 L i v) := by
  refine ⟨by rw [q_s2_len]; exact h.1, h'.1, h'.2.1, fun q hq => h'.2.2 q ?_⟩
  obtain ⟨j, w, e1, e2⟩ := (q_lv_mem _ _ _).mp hq
  rcases q_s2_get L i v j w e2 with ⟨a, b⟩ | ⟨a, a2, b, c⟩
  · rw [e1, a, b]; simp
  · refine List.mem_cons_of_mem _ (List.mem_filter.mpr ⟨(q_lv_mem _ _ _).mpr ⟨j, w, e1, b⟩, ?_⟩)
    rw [e1]
    simp only [Nat.zero_add, q_wd_rv]
    by_cases hj : j + 1 = i
    · simp [a, a2, c hj]
    · simp [a, a2, hj]
abbrev q_R (z : Int) : Prop := -2147483648 ≤ z ∧ z < 2147483648
theorem q_toInt {z : Int} (h : q_R z) : (Int32.ofInt z).toInt = z := by
  rw [Int32.toInt_ofInt]
  obtain ⟨h1, h2⟩ := h
  exact Int.bmod_eq_of_le (by simpa using h1) (by simpa using h2)
theorem q_lt {a b : Int} (ha : q_R a) (hb : q_R b) : Int32.ofInt a < Int32.ofInt b ↔ a < b := by
  rw [Int32.lt_iff_toInt_lt, q_toInt ha, q_toInt hb]
theorem q_le {a b : Int} (ha : q_R a) (hb : q_R b) : Int32.ofInt a ≤ Int32.ofInt b ↔ a ≤ b := by
  rw [Int32.le_iff_toInt_le, q_toInt ha, q_toInt hb]
theorem q_eq {a b : Int} (ha : q_R a) (hb : q_R b) : Int32.ofInt a = Int32.ofInt b ↔ a = b := by
  rw [← Int32.toInt_inj, q_toInt ha, q_toInt hb]
def q_cmp : Jvm.ClassFile.Cond → Int → Int → Bool
  | .eq, a, b => decide (a = b)
  | .ne, a, b => !decide (a = b)
  | .lt, a, b => decide (a < b)
  | .ge, a, b => decide (b ≤ a)
  | .gt, a, b => decide (b < a)
  | .le, a, b => decide (a ≤ b)
/-- a branch: where to, if it is a place -/
def q_br (pc : Nat) (off : Int) : Option Nat := if 0 ≤ (pc : Int) + off then some ((pc : Int) + off).toNat else none
theorem q_br_some {pc tgt : Nat} {off : Int} (h : q_br pc off = some tgt) : (pc : Int) + off = (tgt : Int) := by
  unfold q_br at h
  split at h
  · cases h; omega
  · cases h
def q_go (c : Bool) (tgt : Option Nat) (nx : Nat) (L : QL) (st : List CV) : Option (Nat × QL × List CV) :=
  match tgt with
  | none => none
  | some t => some (if c then t else nx, L, st)
def q_shl (a b : Int) : Int := (Int32.ofInt a <<< (Int32.ofInt b &&& 31)).toInt
def q_shr (a b : Int) : Int := (Int32.ofInt a >>> (Int32.ofInt b &&& 31)).toInt
def q_ushr (a b : Int) : Int := ((Int32.ofInt a).toUInt32 >>> ((Int32.ofInt b).toUInt32 &&& Int32.toUInt32 31)).toInt32.toInt
def q_or (a b : Int) : Int := (Int32.ofInt a ||| Int32.ofInt b).toInt
def q_and (a b : Int) : Int := (Int32.ofInt a &&& Int32.ofInt b).toInt
def q_xor (a b : Int) : Int := (Int32.ofInt a ^^^ Int32.ofInt b).toInt
def q_div (a b : Int) : Int := (Int32.ofInt a / Int32.ofInt b).toInt
def q_rem (a b : Int) : Int := (Int32.ofInt a - Int32.ofInt a / Int32.ofInt b * Int32.ofInt b).toInt
def q_i2l (a : Int) : Int := (Int32.ofInt a).toInt64.toInt
def q_l2i (a : Int) : Int := (Int64.ofInt a).toInt32.toInt
def q_i2b (a : Int) : Int := (Int32.ofInt a).toInt8.toInt32.toInt
def q_i2c (a : Int) : Int := ((Int32.ofInt a).toUInt32 % 65536).toInt32.toInt
def q_lshl (a b : Int) : Int := (Int64.ofInt a <<< ((Int32.ofInt b).toInt64 &&& 63)).toInt
def q_lshr (a b : Int) : Int := (Int64.ofInt a >>> ((Int32.ofInt b).toInt64 &&& 63)).toInt
def q_lor (a b : Int) : Int := (Int64.ofInt a ||| Int64.ofInt b).toInt
def q_land (a b : Int) : Int := (Int64.ofInt a &&& Int64.ofInt b).toInt
def q_lcmp (a b : Int) : Int := (lg_cmp (Int64.ofInt a) (Int64.ofInt b)).toInt
theorem rv_i32 (x : Int32) : rv (qi x.toInt) = .int x := by show Value.int (Int32.ofInt x.toInt) = _; rw [Int32.ofInt_toInt]
theorem rv_i64 (x : Int64) : rv (ql x.toInt) = .long x := by show Value.long (Int64.ofInt x.toInt) = _; rw [Int64.ofInt_toInt]
/-- the steps that touch no memory and call nothing -/
def q_pl (i : Instr) (len pc : Nat) (L : QL) (st : List CV) : Option (Nat × QL × List CV) :=
  match i with
  | .aconst_null => match len with | 1 => some (pc + 1, L, qn :: st) | _ => none
  | .iconst z => match len with | 1 => some (pc + 1, L, qi z :: st) | _ => none
  | .bipush z => match len with | 2 => some (pc + 2, L, qi (Int8.ofInt z).toInt32.toInt :: st) | _ => none
  | .sipush z => match len with | 3 => some (pc + 3, L, qi (Int16.ofInt z).toInt32.toInt :: st) | _ => none
  | .lconst n => match len with | 1 => some (pc + 1, L, ql (Int64.ofNat n).toInt :: st) | _ => none
  | .iload k => match len, L[k]? with | 2, some (some (.inl z)) => some (pc + 2, L, qi z :: st) | _, _ => none
  | .iload_n k => match len, L[(k : Nat)]? with | 1, some (some (.inl z)) => some (pc + 1, L, qi z :: st) | _, _ => none
  | .lload k => match len, L[k]? with | 2, some (some (.inr (.inl z))) => some (pc + 2, L, ql z :: st) | _, _ => none
  | .lload_n k => match len, L[(k : Nat)]? with | 1, some (some (.inr (.inl z))) => some (pc + 1, L, ql z :: st) | _, _ => none
  | .aload k => match len, L[k]? with | 2, some (some (.inr (.inr z))) => some (pc + 2, L, .inr (.inr z) :: st) | _, _ => none
  | .aload_n k => match len, L[(k : Nat)]? with | 1, some (some (.inr (.inr z))) => some (pc + 1, L, .inr (.inr z) :: st) | _, _ => none
  | .istore k => match len, st with | 2, .inl z :: st => if k < L.length then some (pc + 2, q_s1 L k (qi z), st) else none | _, _ => none
  | .istore_n k => match len, st with | 1, .inl z :: st => if (k : Nat) < L.length then some (pc + 1, q_s1 L k (qi z), st) else none | _, _ => none
  | .astore k => match len, st with | 2, .inr (.inr z) :: st => if k < L.length then some (pc + 2, q_s1 L k (.inr (.inr z)), st) else none | _, _ => none
  | .astore_n k => match len, st with | 1, .inr (.inr z) :: st => if (k : Nat) < L.length then some (pc + 1, q_s1 L k (.inr (.inr z)), st) else none | _, _ => none
  | .lstore k => match len, st with | 2, .inr (.inl z) :: st => if k + 1 < L.length then some (pc + 2, q_s2 L k (ql z), st) else none | _, _ => none
  | .lstore_n k => match len, st with | 1, .inr (.inl z) :: st => if (k : Nat) + 1 < L.length then some (pc + 1, q_s2 L k (ql z), st) else none | _, _ => none
  | .iinc k n => match len, L[k]? with | 3, some (some (.inl z)) => some (pc + 3, q_s1 L k (qi (z + n)), st) | _, _ => none
  | .iadd => match len, st with | 1, .inl b :: .inl a :: st => some (pc + 1, L, qi (a + b) :: st) | _, _ => none
  | .isub => match len, st with | 1, .inl b :: .inl a :: st => some (pc + 1, L, qi (a - b) :: st) | _, _ => none
  | .imul => match len, st with | 1, .inl b :: .inl a :: st => some (pc + 1, L, qi (a * b) :: st) | _, _ => none
  | .ineg => match len, st with | 1, .inl a :: st => some (pc + 1, L, qi (-a) :: st) | _, _ => none
  | .idiv => match len, st with | 1, .inl b :: .inl a :: st => if Int32.ofInt b = 0 then none else some (pc + 1, L, qi (q_div a b) :: st) | _, _ => none
  | .irem => match len, st with | 1, .inl b :: .inl a :: st => if Int32.ofInt b = 0 then none else some (pc + 1, L, qi (q_rem a b) :: st) | _, _ => none
  | .ishl => match len, st with | 1, .inl b :: .inl a :: st => some (pc + 1, L, qi (q_shl a b) :: st) | _, _ => none
  | .ishr => match len, st with | 1, .inl b :: .inl a :: st => some (pc + 1, L, qi (q_shr a b) :: st) | _, _ => none
  | .iushr => match len, st with | 1, .inl b :: .inl a :: st => some (pc + 1, L, qi (q_ushr a b) :: st) | _, _ => none
  | .ior => match len, st with | 1, .inl b :: .inl a :: st => some (pc + 1, L, qi (q_or a b) :: st) | _, _ => none
  | .iand => match len, st with | 1, .inl b :: .inl a :: st => some (pc + 1, L, qi (q_and a b) :: st) | _, _ => none
  | .ixor => match len, st with | 1, .inl b :: .inl a :: st => some (pc + 1, L, qi (q_xor a b) :: st) | _, _ => none
  | .i2l => match len, st with | 1, .inl a :: st => some (pc + 1, L, ql (q_i2l a) :: st) | _, _ => none
  | .l2i => match len, st with | 1, .inr (.inl a) :: st => some (pc + 1, L, qi (q_l2i a) :: st) | _, _ => none
  | .i2b => match len, st with | 1, .inl a :: st => some (pc + 1, L, qi (q_i2b a) :: st) | _, _ => none
  | .i2c => match len, st with | 1, .inl a :: st => some (pc + 1, L, qi (q_i2c a) :: st) | _, _ => none
  | .lshl => match len, st with | 1, .inl b :: .inr (.inl a) :: st => some (pc + 1, L, ql (q_lshl a b) :: st) | _, _ => none
  | .lshr => match len, st with | 1, .inl b :: .inr (.inl a) :: st => some (pc + 1, L, ql (q_lshr a b) :: st) | _, _ => none
  | .lor => match len, st with | 1, .inr (.inl b) :: .inr (.inl a) :: st => some (pc + 1, L, ql (q_lor a b) :: st) | _, _ => none
  | .land => match len, st with | 1, .inr (.inl b) :: .inr (.inl a) :: st => some (pc + 1, L, ql (q_land a b) :: st) | _, _ => none
  | .lcmp => match len, st with | 1, .inr (.inl b) :: .inr (.inl a) :: st => some (pc + 1, L, qi (q_lcmp a b) :: st) | _, _ => none
  | .dup => match len, st with | 1, a :: st => if q_wd a = 1 then some (pc + 1, L, a :: a :: st) else none | _, _ => none
  | .dup_x1 => match len, st with | 1, a :: b :: st => if q_wd a = 1 ∧ q_wd b = 1 then some (pc + 1, L, a :: b :: a :: st) else none | _, _ => none
  | .dup2 => match len, st with | 1, a :: b :: st => if q_wd a = 1 ∧ q_wd b = 1 then some (pc + 1, L, a :: b :: a :: b :: st) else none | _, _ => none
  | .pop => match len, st with | 1, a :: st => if q_wd a = 1 then some (pc + 1, L, st) else none | _, _ => none
  | .goto off => match len with | 3 => q_go true (q_br pc off) 0 L st | _ => none
  | .ifCond c off => match len, st with | 3, .inl a :: st => if q_R a then q_go (q_cmp c a 0) (q_br pc off) (pc + 3) L st else none | _, _ => none
  | .if_icmp c off => match len, st with | 3, .inl b :: .inl a :: st => if q_R a ∧ q_R b then q_go (q_cmp c a b) (q_br pc off) (pc + 3) L st else none | _, _ => none
  | .ifnull off => match len, st with | 3, .inr (.inr a) :: st => q_go a.isNone (q_br pc off) (pc + 3) L st | _, _ => none
  | .ifnonnull off => match len, st with | 3, .inr (.inr a) :: st => q_go a.isSome (q_br pc off) (pc + 3) L st | _, _ => none
  | .tableswitch d lo hi offs => match st with
    | .inl a :: st => if q_R a then (if a < lo ∨ hi < a then q_go true (q_br pc d) 0 L st else match offs[(a - lo).toNat]? with | some off => q_go true (q_br pc off) 0 L st | none => none) else none
    | _ => none
  | .lookupswitch d ps => match st with
    | .inl a :: st => if q_R a ∧ (ps.toList.zip (ps.toList.drop 1)).all (fun (a, next) => a.1 < next.1) = true then q_go true (q_br pc (Op.lookupswitch.offset ps.toList d a)) 0 L st else none
    | _ => none
  | _ => none
