/-! from a run of ours of the law's code to the claim -/
theorem st_eqi {args : Array Value} {s : State} {t : Term} {z : Int32} (h : (Jvm.Cond.eq t (.int z)).before args s = true) : t.eval args s none [] s = some (.int z) := by
  cases hv : t.eval args s none [] s with
  | none => simp [Cond.before, Cond.holds, Cond.value, hv] at h
  | some w =>
    have hz : (Term.int z).eval args s none [] s = some (.int z) := rfl
    simp only [Cond.before, Cond.holds, Cond.value, hv, hz] at h
    cases w <;> simp_all
def st_E : Term := .static "java/util/ArrayList" "DEFAULTCAPACITY_EMPTY_ELEMENTDATA" "[Ljava/lang/Object;"
def st_O : Term := .static "java/lang/Integer" "DigitOnes" "[B"
def st_T : Term := .static "java/lang/Integer" "DigitTens" "[B"
def st_K : Term := .string "PlaceRegister$History" 41
def st_by : List Int32 := [70, 78, 77, 71, 67, 79, 84, 83, 80]
def st_G : Jvm.Cond := Jvm.Cond.and given_1 narrow_1
theorem st_g1 : Jvm.Cond.arrayOf st_E (.object "java/lang/Object") ∈ flatC st_G := by decide +kernel
theorem st_g2 : Jvm.Cond.eq (.length st_E) (.int 0) ∈ flatC st_G := by decide +kernel
theorem st_g3 : Jvm.Cond.eq (.static "java/lang/String" "COMPACT_STRINGS" "Z") (.int 1) ∈ flatC st_G := by decide +kernel
theorem st_g4 : Jvm.Cond.isRef (.static "jdk/internal/util/Preconditions" "SIOOBE_FORMATTER" "Ljava/util/function/BiFunction;") ∈ flatC st_G := by decide +kernel
theorem st_g5 : Jvm.Cond.arrayOf st_O .byte ∈ flatC st_G := by decide +kernel
theorem st_g6 : Jvm.Cond.eq (.length st_O) (.int 100) ∈ flatC st_G := by decide +kernel
theorem st_g7 : Jvm.Cond.arrayOf st_T .byte ∈ flatC st_G := by decide +kernel
theorem st_g8 : Jvm.Cond.eq (.length st_T) (.int 100) ∈ flatC st_G := by decide +kernel
theorem st_g9 : ∀ j : Nat, j < 100 → (flatC st_G)[16 + j]? = some (Jvm.Cond.eq (.elem st_O (.int (Int32.ofNat j))) (.int (Int32.ofInt (48 + (j % 10 : Nat))))) := by decide +kernel
theorem st_g10 : ∀ j : Nat, j < 100 → (flatC st_G)[119 + j]? = some (Jvm.Cond.eq (.elem st_T (.int (Int32.ofNat j))) (.int (Int32.ofInt (48 + (j / 10 : Nat))))) := by decide +kernel
theorem st_g11 : Jvm.Cond.exactly st_K "java/lang/String" ∈ flatC st_G := by decide +kernel
theorem st_g12 : Jvm.Cond.eq (.field st_K "java/lang/String" "coder" "B") (.int 0) ∈ flatC st_G := by decide +kernel
theorem st_g13 : Jvm.Cond.arrayOf (.field st_K "java/lang/String" "value" "[B") .byte ∈ flatC st_G := by decide +kernel
theorem st_g14 : Jvm.Cond.eq (.length (.field st_K "java/lang/String" "value" "[B")) (.int 9) ∈ flatC st_G := by decide +kernel
theorem st_g15 : ∀ j : Nat, j < 9 → Jvm.Cond.eq (.elem (.field st_K "java/lang/String" "value" "[B") (.int (Int32.ofNat j))) (.int (st_by.getD j 0)) ∈ flatC st_G := by decide +kernel
theorem st_g16 : Jvm.Cond.isRef (.mirror "[Ljava/lang/Object;") ∈ flatC st_G := by decide +kernel

/-- the memory that stands at the start: the script at b; what the JDK has made before -/
def st_let (j : Nat) : Int := [70, 78, 77, 71, 67, 79, 84, 83, 80].getD j 0
def st_M (b L : Nat) (xs : Nat → Int32) (top : Nat) (g : Nat → Nat) : QM :=
  ((fun a => if a = b then (7, L) else if a = g 0 then (9, 0) else if a = g 2 then (8, 100) else if a = g 3 then (8, 100) else if a = g 5 then (8, 9) else (0, 0)),
   (fun a j => if a = b then qi (xs j).toInt else if a = g 2 then qi (48 + (j % 10 : Nat)) else if a = g 3 then qi (48 + (j / 10 : Nat)) else if a = g 5 then qi (st_let j) else qn), top, 0, 0, g)
def st_ok (b top : Nat) (g : Nat → Nat) : Prop := b < top ∧ g 0 < top ∧ g 2 < top ∧ g 3 < top ∧ g 5 < top ∧ b ≠ g 0 ∧ b ≠ g 2 ∧ b ≠ g 3 ∧ b ≠ g 5 ∧ g 0 ≠ g 2 ∧ g 0 ≠ g 3 ∧ g 0 ≠ g 5 ∧ g 2 ≠ g 3 ∧ g 2 ≠ g 5 ∧ g 3 ≠ g 5
/-- what is left to show, over our machine alone -/
def st_claim : Prop := ∀ (b L : Nat) (xs : Nat → Int32) (top : Nat) (g : Nat → Nat), L ≤ 3584 → st_ok b top g → ∃ (d : Nat) (M1 : QM), d ≤ 1200 ∧ Rr (q_C d) (16, code, false, some .boolean) (0, [some (qr b), none, none, none], [], st_M b L xs top g) (q_ex (some (qi 1)) M1) ∧ q_nc M1 ≤ 600000 ∧ q_ns M1 ≤ 7302250
theorem st_arr {s : State} {c1 c2 : Cell} {t1 t2 : FieldType} (h1 : s.isArrayOf c1 t1) (h2 : s.isArrayOf c2 t2) (hc : c1.cls = c2.cls) : t1 = t2 := by
  obtain ⟨-, k1, hk1, m1, e1⟩ := h1
  obtain ⟨-, k2, hk2, m2, e2⟩ := h2
  rw [hc] at hk1
  cases hk1.symm.trans hk2
  have := e1.symm.trans e2
  cases this
  rfl
set_option maxHeartbeats 4000000 in
theorem st_begin {s : State} {b L : Nat} {xs : Nat → Int32} {args : Array Value} (hts : ∀ w ∈ lw_tbl, w.before args s = true) (hX : va_X b L xs s s.heap) (hbl : b < s.heap.size) (hgv : (Jvm.Cond.and given_1 narrow_1).before args s = true) (hL : L ≤ 3584) :
    (∀ w ∈ qT, w.before args s = true) ∧ ∃ (D : va_G) (g : Nat → Nat), st_ok b s.heap.size g ∧ q_HR D s.heap s (st_M b L xs s.heap.size g) s.heap ∧ q_NX g s.heap s := by
  have hs := flat_of_before _ hgv
  have hA : ∀ a : Nat, a < s.heap.size → ¬ (fun q : Nat => s.heap.size ≤ q) a := fun a h => Nat.not_le.mpr h
  have tw : ∀ {i : Nat} {w : Jvm.Cond}, lw_tbl[i]? = some w → w.before args s = true := fun h => hts _ (List.mem_of_getElem? h)
  have hT : ∀ w ∈ qT, w.before args s = true := by
    intro w hw
    rcases List.mem_append.mp (List.mem_filter.mp hw).1 with h | h
    · exact hts w h
    · have hni : (Jvm.Cond.instantiable RJ4 4).before args s = true := hts _ (by exact List.mem_of_getElem? (i := 346) (by decide +kernel))
      have hs0 : (Jvm.Cond.selects RJ4 yJ5_isLatin1_aae02 yJ5_isLatin1_aae02).before args s = true := hts _ (by exact List.mem_of_getElem? (i := 1056) (by decide +kernel))
      have hi0 : (Jvm.Cond.instanceMethod yJ5_isLatin1_aae02).before args s = true := hts _ (by exact List.mem_of_getElem? (i := 1054) (by decide +kernel))
      simp only [q_xsel, List.mem_cons, List.not_mem_nil, or_false] at h
      rcases h with rfl | rfl | rfl
      · exact q_selP (by decide) hni (hts _ (by exact List.mem_of_getElem? (i := 1036) (by decide +kernel))) (hts _ (by exact List.mem_of_getElem? (i := 1037) (by decide +kernel))) (y0 := yJ5_isLatin1_aae02) rfl hi0 hs0
      · exact q_selP (by decide) hni (hts _ (by exact List.mem_of_getElem? (i := 1040) (by decide +kernel))) (hts _ (by exact List.mem_of_getElem? (i := 1041) (by decide +kernel))) (y0 := yJ5_isLatin1_aae02) rfl hi0 hs0
      · exact q_selP (by decide) hni (hts _ (by exact List.mem_of_getElem? (i := 1086) (by decide +kernel))) (hts _ (by exact List.mem_of_getElem? (i := 1087) (by decide +kernel))) (y0 := yJ5_isLatin1_aae02) rfl hi0 hs0
  refine ⟨hT, ?_⟩
  -- the classes
  have hk0 : ∀ k : Nat, ∃ (c : ClassId) (f : Nat → Nat), ∀ q : vw_C, qcl[k]? = some q → u_Kn s q.1 q.2.1 q.2.2 c f := by
    intro k
    cases hq : qcl[k]? with
    | none => exact ⟨0, fun _ => 0, fun q h => by cases h⟩
    | some q =>
      obtain ⟨i, hi⟩ := q_cins k q hq
      obtain ⟨c, f, h⟩ := u_known (ws := qT) (T := q.2.1) (N := q.2.2) hT (q_cok hq).1 (hT _ (q_in_mem hi))
      exact ⟨c, f, fun q' h' => by cases h'; exact h⟩
  obtain ⟨dC, hk1⟩ := Classical.skolem.mp hk0
  obtain ⟨dI, hk2⟩ := Classical.skolem.mp hk1
  have hK : va_K (dC, dI) qcl [] s := ⟨fun k q h => hk2 k q h, fun k q h => by simp at h⟩
  -- the statics
  obtain ⟨tE, eE, hE⟩ := va_Tof (ty := .object "java/lang/Object") (N := 0) (f := fun _ => .null) (tm := st_E) (by decide) (hs _ st_g1) (st_eqi (hs _ st_g2)) (fun j hj => absurd hj (Nat.not_lt_zero j)) hA
  obtain ⟨tO, eO, hO⟩ := va_Tof (ty := .byte) (N := 100) (f := fun j => .int (Int32.ofInt (48 + (j % 10 : Nat)))) (tm := st_O) (by decide) (hs _ st_g5) (st_eqi (hs _ st_g6)) (fun j hj => st_eqi (hs _ (List.mem_of_getElem? (st_g9 j hj)))) hA
  obtain ⟨tT, eT, hTe⟩ := va_Tof (ty := .byte) (N := 100) (f := fun j => .int (Int32.ofInt (48 + (j / 10 : Nat)))) (tm := st_T) (by decide) (hs _ st_g7) (st_eqi (hs _ st_g8)) (fun j hj => st_eqi (hs _ (List.mem_of_getElem? (st_g10 j hj)))) hA
  have z1 : ∀ {P : Nat → Prop}, P 0 → ∀ i : Nat, i < 1 → P i := fun h i hi => by
    have : i = 0 := by omega
    subst this
    exact h
  obtain ⟨adK, adV, hS, eS⟩ := vk_Sof (N := 1) (tm := fun _ => st_K) (len := [9]) (byt := [st_by]) (z1 (by decide)) (fun i hi => hs _ st_g11) (fun i hi => hs _ st_g12) (fun i hi => hs _ st_g13)
    (z1 (hs _ st_g14)) (z1 (fun j hj => hs _ (st_g15 j hj))) (fun i j hi hj hne => absurd (by omega : i = j) hne) hA
  obtain ⟨hS0, -⟩ := hS
  obtain ⟨s1, s2, s3, s4⟩ := hS0 0 (by decide)
  have eK := eS 0 (by decide)
  obtain ⟨mi, hMi⟩ := va_Mi.of (hs _ st_g16)
  have hDc := va_Dc.of (hts (.declares ⟨"java/lang/Object", "getClass", "()Ljava/lang/Class;"⟩) (by exact List.mem_of_getElem? (i := 1699) (by decide +kernel)))
  have zE : va_Z "java/util/ArrayList" "DEFAULTCAPACITY_EMPTY_ELEMENTDATA" "[Ljava/lang/Object;" (.ref tE) (fun q => s.heap.size ≤ q) s s.heap := va_Zref (hts _ (by exact List.mem_of_getElem? (i := 148) (by decide +kernel))) (hts _ (by exact List.mem_of_getElem? (i := 82) (by decide +kernel))) eE hA
  have zO : va_Z "java/lang/Integer" "DigitOnes" "[B" (.ref tO) (fun q => s.heap.size ≤ q) s s.heap := va_Zref (hts _ (by exact List.mem_of_getElem? (i := 1170) (by decide +kernel))) (hts _ (by exact List.mem_of_getElem? (i := 105) (by decide +kernel))) eO hA
  have zT : va_Z "java/lang/Integer" "DigitTens" "[B" (.ref tT) (fun q => s.heap.size ≤ q) s s.heap := va_Zref (hts _ (by exact List.mem_of_getElem? (i := 1172) (by decide +kernel))) (hts _ (by exact List.mem_of_getElem? (i := 105) (by decide +kernel))) eT hA
  have zC : va_Z "java/lang/String" "COMPACT_STRINGS" "Z" (.int 1) (fun q => s.heap.size ≤ q) s s.heap := va_Zof (hts _ (by exact List.mem_of_getElem? (i := 355) (by decide +kernel))) (hts _ (by exact List.mem_of_getElem? (i := 92) (by decide +kernel))) (st_eqi (hs _ st_g3)) hA
  have zP := va_Zqof (A := fun q => s.heap.size ≤ q) (hts (.laysStatic "jdk/internal/util/Preconditions" "SIOOBE_FORMATTER" "Ljava/util/function/BiFunction;") (by exact List.mem_of_getElem? (i := 1105) (by decide +kernel))) (hts _ (by exact List.mem_of_getElem? (i := 103) (by decide +kernel))) (hs _ st_g4) hA
  obtain ⟨p4, zP⟩ : ∃ p4 : Nat, va_Z "jdk/internal/util/Preconditions" "SIOOBE_FORMATTER" "Ljava/util/function/BiFunction;" (rv (if p4 = 0 then qn else qr (p4 - 1))) (fun q => s.heap.size ≤ q) s s.heap := by
    rcases zP with h | ⟨t, h⟩
    · exact ⟨0, h⟩
    · exact ⟨t + 1, h⟩
  obtain ⟨g, hg⟩ : ∃ g : Nat → Nat, g = fun i => match i with | 0 => tE | 1 => adK 0 | 2 => tO | 3 => tT | 4 => p4 | 5 => adV 0 | _ => mi := ⟨_, rfl⟩
  have g0 : g 0 = tE := by subst hg; rfl
  have g1 : g 1 = adK 0 := by subst hg; rfl
  have g2 : g 2 = tO := by subst hg; rfl
  have g3 : g 3 = tT := by subst hg; rfl
  have g4 : g 4 = p4 := by subst hg; rfl
  have g5 : g 5 = adV 0 := by subst hg; rfl
  have g6 : g 6 = mi := by subst hg; rfl
  obtain ⟨cb, x1, x2, x3, x4, x5⟩ := hX
  obtain ⟨cE, y1, y2, y3, y4, y5, y6, y7⟩ := hE
  obtain ⟨cO, u1, u2, u3, u4, u5, u6, u7⟩ := hO
  obtain ⟨cT, w1, w2, w3, w4, w5, w6, w7⟩ := hTe
  obtain ⟨cV, v1, v2, v3, v4, v5, v6, v7⟩ := s4
  have lt : ∀ {a : Nat} {c : Cell}, s.heap[a]? = some c → a < s.heap.size := fun h => (Array.getElem?_eq_some_iff.mp h).1
  have ty : ∀ {a1 a2 : Nat} {c1 c2 : Cell} {t1 t2 : FieldType}, s.heap[a1]? = some c1 → s.heap[a2]? = some c2 → s.isArrayOf c1 t1 → s.isArrayOf c2 t2 → t1 ≠ t2 → a1 ≠ a2 := by
    intro a1 a2 c1 c2 t1 t2 h1 h2 h3 h4 hne e
    subst e
    cases h1.symm.trans h2
    exact hne (st_arr h3 h4 rfl)
  have hOT : tO ≠ tT := by
    intro e
    subst e
    cases u1.symm.trans w1
    have := (u6 10 (by decide)).symm.trans (w6 10 (by decide))
    revert this; decide
  have hOV : tO ≠ adV 0 := by
    intro e
    rw [← e] at v1
    cases u1.symm.trans v1
    have := u5.symm.trans v5
    revert this; decide
  have hTV : tT ≠ adV 0 := by
    intro e
    rw [← e] at v1
    cases w1.symm.trans v1
    have := w5.symm.trans v5
    revert this; decide
  have hok : st_ok b s.heap.size g := by
    unfold st_ok
    rw [g0, g2, g3, g5]
    exact ⟨hbl, lt y1, lt u1, lt w1, lt v1, ty x1 y1 x2 y2 (by decide), ty x1 u1 x2 u2 (by decide), ty x1 w1 x2 w2 (by decide), ty x1 v1 x2 v2 (by decide), ty y1 u1 y2 u2 (by decide), ty y1 w1 y2 w2 (by decide), ty y1 v1 y2 v2 (by decide), hOT, hOV, hTV⟩
  refine ⟨(dC, dI), g, hok, ⟨rfl, Nat.le_refl _, fun q _ => rfl, ?_, ?_, ?_, hK, ?_⟩, ?_⟩
  · intro a ha
    unfold st_ok at hok
    have ha : s.heap.size ≤ a := ha
    show (if a = b then _ else _ : Nat × Nat).1 = 0
    rw [if_neg (by omega), if_neg (by omega), if_neg (by omega), if_neg (by omega), if_neg (by omega)]
  · intro a
    by_cases ab : a = b
    · have e1 : q_kd (st_M b L xs s.heap.size g) a = (7, L) := if_pos ab
      have e2 : q_fv (st_M b L xs s.heap.size g) a = fun j => qi (xs j).toInt := by funext j; exact if_pos ab
      rw [e1, e2, ab]
      exact ⟨fun k => by simp at k, fun _ k => by simp at k, fun _ _ => ⟨by show L < _; omega, cb, x1, x2, x3, by rw [x4]; exact Nat.le_refl _, by rw [x4]; rfl, fun j hj => by rw [x5 j hj, rv_i32]⟩⟩
    by_cases a0 : a = g 0
    · have e1 : q_kd (st_M b L xs s.heap.size g) a = (9, 0) := (if_neg ab).trans (if_pos a0)
      rw [e1, a0, g0]
      exact ⟨fun k => by simp at k, fun _ k => by simp at k, fun _ _ => ⟨by decide, cE, y1, y2, y3, Nat.zero_le _, y5, fun j hj => absurd hj (Nat.not_lt_zero j)⟩⟩
    by_cases a2 : a = g 2
    · have e1 : q_kd (st_M b L xs s.heap.size g) a = (8, 100) := ((if_neg ab).trans (if_neg a0)).trans (if_pos a2)
      have e2 : q_fv (st_M b L xs s.heap.size g) a = fun j => qi (48 + (j % 10 : Nat)) := by funext j; exact (if_neg ab).trans (if_pos a2)
      rw [e1, e2, a2, g2]
      exact ⟨fun k => by simp at k, fun _ k => by simp at k, fun _ _ => ⟨by decide, cO, u1, u2, u3, u4, u5, fun j hj => u6 j hj⟩⟩
    by_cases a3 : a = g 3
    · have e1 : q_kd (st_M b L xs s.heap.size g) a = (8, 100) := (((if_neg ab).trans (if_neg a0)).trans (if_neg a2)).trans (if_pos a3)
      have e2 : q_fv (st_M b L xs s.heap.size g) a = fun j => qi (48 + (j / 10 : Nat)) := by funext j; exact ((if_neg ab).trans (if_neg a2)).trans (if_pos a3)
      rw [e1, e2, a3, g3]
      exact ⟨fun k => by simp at k, fun _ k => by simp at k, fun _ _ => ⟨by decide, cT, w1, w2, w3, w4, w5, fun j hj => w6 j hj⟩⟩
    by_cases a5 : a = g 5
    · have e1 : q_kd (st_M b L xs s.heap.size g) a = (8, 9) := ((((if_neg ab).trans (if_neg a0)).trans (if_neg a2)).trans (if_neg a3)).trans (if_pos a5)
      have e2 : q_fv (st_M b L xs s.heap.size g) a = fun j => qi (st_let j) := by funext j; exact (((if_neg ab).trans (if_neg a2)).trans (if_neg a3)).trans (if_pos a5)
      rw [e1, e2, a5, g5]
      refine ⟨fun k => by simp at k, fun _ k => by simp at k, fun _ _ => ⟨by decide, cV, v1, v2, v3, v4, v5, fun j hj => ?_⟩⟩
      have hj : j < 9 := hj
      rw [v6 j hj]
      revert hj
      have : ∀ j : Nat, j < 9 → some (Slot.val (Value.int (([st_by].getD 0 []).getD j 0))) = some (Slot.val (rv (qi (st_let j)))) := by decide
      intro hj
      have := this j hj
      simpa using this
    · have e1 : q_kd (st_M b L xs s.heap.size g) a = (0, 0) := ((((if_neg ab).trans (if_neg a0)).trans (if_neg a2)).trans (if_neg a3)).trans (if_neg a5)
      rw [e1]
      exact ⟨fun k => by simp at k, fun k => by simp at k, fun k => by simp at k⟩
  · intro a k1 k2
    exfalso
    have : (q_kd (st_M b L xs s.heap.size g) a).1 = 0 ∨ 7 ≤ (q_kd (st_M b L xs s.heap.size g) a).1 := by
      show (if a = b then (7, L) else if a = g 0 then (9, 0) else if a = g 2 then (8, 100) else if a = g 3 then (8, 100) else if a = g 5 then (8, 9) else (0, 0) : Nat × Nat).1 = 0 ∨ 7 ≤ (if a = b then (7, L) else if a = g 0 then (9, 0) else if a = g 2 then (8, 100) else if a = g 3 then (8, 100) else if a = g 5 then (8, 9) else (0, 0) : Nat × Nat).1
      repeat' split
      all_goals simp
    omega
  · intro ent he
    simp only [q_stab, List.mem_cons, List.not_mem_nil, or_false] at he
    have hgs : q_gs (st_M b L xs s.heap.size g) = g := rfl
    rw [hgs]
    have r0 : rv (q_sv g 0) = .ref tE := by show Value.ref (g 0) = _; rw [g0]
    have r1 : rv (q_sv g 1) = .int 1 := congrArg Value.int (by decide : Int32.ofInt 1 = 1)
    have r2 : rv (q_sv g 2) = .ref tO := by show Value.ref (g 2) = _; rw [g2]
    have r3 : rv (q_sv g 3) = .ref tT := by show Value.ref (g 3) = _; rw [g3]
    have r4 : rv (q_sv g 4) = rv (if p4 = 0 then qn else qr (p4 - 1)) := by show rv (if g 4 = 0 then qn else qr (g 4 - 1)) = _; rw [g4]
    rcases he with rfl | rfl | rfl | rfl | rfl | rfl <;> first
      | (show va_Z _ _ _ (rv (q_sv g 0)) _ s s.heap; rw [r0]; exact zE)
      | (show va_Z _ _ _ (rv (q_sv g 1)) _ s s.heap; rw [r1]; exact zC)
      | (show va_Z _ _ _ (rv (q_sv g 2)) _ s s.heap; rw [r2]; exact zO)
      | (show va_Z _ _ _ (rv (q_sv g 3)) _ s s.heap; rw [r3]; exact zT)
      | (show va_Z _ _ _ (rv (q_sv g 4)) _ s s.heap; rw [r4]; exact zP)
  · refine ⟨⟨fun w hw => ?_, va_AO.of (hts _ (by exact List.mem_of_getElem? (i := 209) (by decide +kernel))), va_AO.of (hts _ (by exact List.mem_of_getElem? (i := 618) (by decide +kernel))), va_Nw.of rfl (hts _ (by exact List.mem_of_getElem? (i := 1695) (by decide +kernel)))⟩, vk_R.of (hts _ (by exact List.mem_of_getElem? (i := 1128) (by decide +kernel))) (by rw [g1]; exact eK), by rw [g1]; exact s1, by rw [g1, g5]; exact s3, by rw [g1]; exact s2, by rw [g6]; exact hMi, hDc⟩
    have hwm : w ∈ lw_tbl := by
      have : ∀ w ∈ q_nest, w ∈ lw_tbl := by
        intro w hw
        simp only [q_nest, List.mem_cons, List.not_mem_nil, or_false] at hw
        rcases hw with rfl | rfl | rfl | rfl | rfl | rfl | rfl | rfl | rfl | rfl
        · exact List.mem_of_getElem? (i := 117) (by decide +kernel)
        · exact List.mem_of_getElem? (i := 131) (by decide +kernel)
        · exact List.mem_of_getElem? (i := 182) (by decide +kernel)
        · exact List.mem_of_getElem? (i := 211) (by decide +kernel)
        · exact List.mem_of_getElem? (i := 217) (by decide +kernel)
        · exact List.mem_of_getElem? (i := 234) (by decide +kernel)
        · exact List.mem_of_getElem? (i := 250) (by decide +kernel)
        · exact List.mem_of_getElem? (i := 335) (by decide +kernel)
        · exact List.mem_of_getElem? (i := 344) (by decide +kernel)
        · exact List.mem_of_getElem? (i := 493) (by decide +kernel)
      exact this w hw
    simp only [q_nest, List.mem_cons, List.not_mem_nil, or_false] at hw
    have hb := hts w hwm
    rcases hw with rfl | rfl | rfl | rfl | rfl | rfl | rfl | rfl | rfl | rfl <;> exact va_Nw.of rfl hb
set_option maxHeartbeats 4000000 in
theorem st_whole (hclaim : st_claim) {p : Program} {e : Env} {s : State} {m : MethodId} {below : List Frame} {meth : Method} {c : Code} (l : Launch) {b L : Nat} {xs : Nat → Int32} (hL : L ≤ 3584) (hx : p.tables.exec = Jvm.exec) (hb : c.code = code) (hr : meth.sig.returnType = ret) (hml : c.maxLocals = 4) (hown : s.vm.findClass "PlaceRegisterLaw" = some m.cls) (hts : ∀ w ∈ lw_tbl, w.before #[Value.ref b] s = true) (hX : va_X b L xs s s.heap) (hbl : b < s.heap.size) (hlocks : meth.locks = false) (hgv : (Jvm.Cond.and given_1 narrow_1).before #[Value.ref b] s = true)
    {Z : State → Prop} (hZ : ∀ (H : Heap) (pc : Nat) (ls : Array Slot), decode code pc = .ok (.ireturn, 1) → W p l e room_1 s m #[Value.ref b] below meth c H [] 600000 7302250 Z (F0 m pc ls [.int 1])) :
    W p l e room_1 s m #[Value.ref b] below meth c s.heap [] 0 0 Z (entryFrame m ([Value.ref b] : List Value).toArray 4) := by
  obtain ⟨hT, D, g, hok, hHR, hNX⟩ := st_begin hts hX hbl hgv hL
  obtain ⟨d, M1, hd, ⟨n, hrun⟩, hnc, hns⟩ := hclaim b L xs s.heap.size g hL hok
  have CX : q_Cx p s m meth c code #[Value.ref b] 4 16 "PlaceRegisterLaw" false := ⟨hx, hb, hml, rfl, hown, hT, hNX.1, fun h => (by cases h), hlocks⟩
  have hent : q_LR 4 ((lg_sl ([Value.ref b] : List Value) ++ List.replicate (4 - (lg_sl ([Value.ref b] : List Value)).length) Slot.unset).toArray) [some (qr b), none, none, none] := q_entry (as := [qr b]) (n := 4) (Nat.le_of_ble_eq_true rfl)
  rw [lg_entry_eq]
  refine q_Rn_sound (b0 := 0) (b1 := 0) (ret := some .boolean) (q_C_sound l D s.heap d) CX ⟨by show d + 1 ≤ 2048; omega, by show 64 * d + 320 ≤ 84000; omega⟩ hnc hns ?_ n 0 _ [] _ hrun s.heap [] 0 0 _ hent hHR hNX (fun q hq => absurd hq List.not_mem_nil) rfl rfl
  intro H locs cells slots pc ls i len st hdec hfin hH hlo hce hse
  unfold q_fin at hfin
  split at hfin
  · split at hfin
    · split at hfin
      · cases hfin
        refine va_forget hlo ?_
        exact W.widen (by omega) (by omega) (hZ H pc ls hdec)
      · cases hfin
    · cases hfin
  · split at hfin <;> cases hfin
  · split at hfin <;> cases hfin
  · split at hfin <;> cases hfin
  · cases hfin
