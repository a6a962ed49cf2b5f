/-! System.arraycopy, between arrays of ours of one kind -/
def q_actab : List (Nat × Nat) := [(120324, 566), (180150, 621), (150112, 845)]
def q_acokb (e : Nat × Nat) : Bool := match q_own[e.1 / 10000]? with
  | some own => q_in e.2 (.methodLink own (e.1 % 10000) arraycopyName)
  | _ => false
theorem q_actab_ok : q_actab.all q_acokb = true := by decide +kernel
theorem q_ac1 : q_in 568 (.native arraycopyName) = true := by decide +kernel
theorem q_ac2 : q_in 567 (.static arraycopyName) = true := by decide +kernel
theorem q_ac3 : q_in 99 (.initialized "java/lang/System") = true := by decide +kernel
theorem q_ac4 : nativeFrameWords "java/lang/System" "arraycopy" 5 ≤ 200 := by decide +kernel
def q_elok (t : Nat) (M : QM) (v : CV) : Bool := match t, v with
  | 2, .inl _ => true
  | 3, .inr (.inl _) => true
  | 4, .inl z => decide (-128 ≤ z) && decide (z ≤ 127)
  | 5, .inr (.inr none) => true
  | 5, .inr (.inr (some b)) => decide (q_kd M b = (1, 3))
  | _, _ => false
def q_acc (M : QM) (a0 a : Nat) (sp dp n : Int) : Bool :=
  decide ((q_kd M a0).1 = (q_kd M a).1 ∧ 2 ≤ (q_kd M a).1 ∧ (q_kd M a).1 ≤ 5 ∧ 0 ≤ sp ∧ 0 ≤ dp ∧ 0 ≤ n ∧ sp + n ≤ (q_kd M a0).2 ∧ dp + n ≤ (q_kd M a).2) && (List.range n.toNat).all (fun i => q_elok (q_kd M a).1 M (q_fv M a0 (sp.toNat + i)))
def q_ac (ow : Nat) (i : Instr) (len pc : Nat) (L : QL) (st : List CV) (M : QM) : Option QS :=
  match i with
  | .invokestatic x => match len, st, q_lk q_actab ow x with
    | 3, .inl n :: .inl dp :: .inr (.inr (some a)) :: .inl sp :: .inr (.inr (some a0)) :: st, some _ => if q_acc M a0 a sp dp n = true ∧ (st.map q_wd).sum ≤ 8 then some (pc + 3, L, st, q_cp M a0 sp.toNat a dp.toNat n.toNat) else none
    | _, _, _ => none
  | _ => none
section QAC
variable {p : Program} {l : Launch} {e : Env} {R : Room} {s : State} {m : MethodId} {args : Array Value} {below : List Frame} {meth : Method} {c : Code} {H : Heap} {locs : List Loc} {cells slots : Nat} {Q : State → Prop} {cc : ByteArray} {nL ow : Nat} {own : String} {ini : Bool}
variable {D : va_G} {H0 : Heap} {M : QM} {b0 b1 : Nat}
theorem q_cp_fv {M : QM} {a0 sp a dp n b : Nat} (h : b ≠ a) : q_fv (q_cp M a0 sp a dp n) b = q_fv M b := by
  funext j
  exact if_neg (fun q => h q.1)
set_option maxHeartbeats 4000000 in
theorem q_ac_sound (X : q_Cx p s m meth c cc args nL ow own ini) {i : Instr} {len pc pc0 : Nat} {L L0 : QL} {st st0 : List CV} {ls : Array Slot} {M' : QM} (hd : decode cc pc = .ok (i, len)) (h : q_ac ow i len pc L st M = some (pc0, L0, st0, M')) (hL : q_LR nL ls L) (hH : q_HR D H0 s M H)
    (hlo : ∀ q ∈ locs, H0.size ≤ q.base) (hc : cells + b0 = q_nc M) (hs : slots + b1 = q_ns M) (hR : 1 ≤ R.frames ∧ 220 ≤ R.locals)
    (kk : ∀ (H' : Heap) (locs' : List Loc) (cells' slots' : Nat) (ls' : Array Slot), q_LR nL ls' L0 → q_HR D H0 s M' H' → (∀ q ∈ locs', H0.size ≤ q.base) → cells' + b0 = q_nc M' → slots' + b1 = q_ns M' → W p l e R s m args below meth c H' locs' cells' slots' Q (F0 m pc0 ls' (st0.map rv))) :
    W p l e R s m args below meth c H locs cells slots Q (F0 m pc ls (st.map rv)) := by
  obtain ⟨hx, hb, hml, hown1, hown, hts, hNW, hini, hlocks⟩ := X
  cases i
  case invokestatic x =>
    simp only [q_ac] at h
    split at h
    · rename_i n dp a sp a0 rest ent he
      split at h
      · rename_i hk
        obtain ⟨hk, hw⟩ := hk
        cases h
        obtain ⟨hm, hq1, hq2⟩ := q_lk_mem he
        have ok := List.all_eq_true.mp q_actab_ok _ hm
        simp only [q_acokb, hq1, hq2, hown1] at ok
        unfold q_acc at hk
        rw [Bool.and_eq_true, decide_eq_true_eq] at hk
        obtain ⟨⟨k1, k2, k3, k4, k5, k6, k7, k8⟩, k9⟩ := hk
        have p31 : (2:Nat)^31 = 2147483648 := by decide
        obtain ⟨hl0, c0, e1, e2, e3⟩ := (hH.2.2.2.2.1 a0).2.1 (by omega) (by omega)
        obtain ⟨hl1, c1, g1, g2, g3⟩ := (hH.2.2.2.2.1 a).2.1 (by omega) (by omega)
        have hba := hH.2.2.2.2.2.1 a (by omega) (by omega)
        obtain ⟨s1, s2⟩ := q_clamp k4 (by omega)
        obtain ⟨d1, d2⟩ := q_clamp k5 (by omega)
        obtain ⟨n1, n2⟩ := q_clamp k6 (by omega)
        rw [k1] at e2
        obtain ⟨-, kc0, hk0, cm0, hkk0⟩ := e2 (q_kd M a0).2 (fun j => rv (q_fv M a0 j))
        obtain ⟨-, kc1, hk1, cm1, hkk1⟩ := g2 (q_kd M a).2 (fun j => rv (q_fv M a j))
        have nn : ∀ z : Int, q_R z → (Int32.ofInt z).toInt = z := fun z hz => q_toInt hz
        have hw2 : ((st0.map rv).map fun v => v.category).sum ≤ 8 := by
          rw [List.map_map]
          have : ((fun v : Value => v.category) ∘ rv) = q_wd := by funext v; exact q_wd_rv v
          rw [this]; exact hw
        intro T hT XX
        have hel : ∀ i : Nat, i < n.toNat → (arrV c0 (q_kd M a0).2 (fun j => rv (q_fv M a0 j))).slots.getD (sp.toNat + i) .null = rv (q_fv M a0 (sp.toNat + i)) := fun i hi => by
          rw [Array.getD_eq_getD_getElem?, arrV_read _ _ (by omega)]
          rfl
        obtain ⟨vm', X', step⟩ := XX.arraycopy hx hown (hts _ (q_in_mem ok)) (hts _ (q_in_mem q_ac1)) (hts _ (q_in_mem q_ac2)) (hts _ (q_in_mem q_ac3)) (src := a0) (dst := a) (cs := arrV c0 (q_kd M a0).2 (fun j => rv (q_fv M a0 j))) (cd := arrV c1 (q_kd M a).2 (fun j => rv (q_fv M a j))) (srcPos := Int32.ofInt sp) (destPos := Int32.ofInt dp) (n := Int32.ofInt n) (by rw [hT]; exact e1) (by rw [hT]; exact g1)
          (fun _ h => by cases h) (fun _ h => by cases h) (fun h => by cases h) (fun h => by cases h) hk0 hk1 hkk0 hkk1 (by
            have : (q_kd M a).1 = 2 ∨ (q_kd M a).1 = 3 ∨ (q_kd M a).1 = 4 ∨ (q_kd M a).1 = 5 := by omega
            rcases this with q | q | q | q <;> rw [q] <;> rfl) s2 d2 n2
          (by rw [nn sp ⟨by omega, by omega⟩, nn n ⟨by omega, by omega⟩, arrV_size]; omega)
          (by rw [nn dp ⟨by omega, by omega⟩, nn n ⟨by omega, by omega⟩, arrV_size]; omega)
          (fun vm₁ hal i hi => by
            rw [n1] at hi
            rw [s1]
            have hq := List.all_eq_true.mp k9 i (List.mem_range.mpr hi)
            rw [hel i hi]
            have : (q_kd M a).1 = 2 ∨ (q_kd M a).1 = 3 ∨ (q_kd M a).1 = 4 ∨ (q_kd M a).1 = 5 := by omega
            generalize hv : q_fv M a0 (sp.toNat + i) = v at hq ⊢
            rcases this with q | q | q | q <;> rw [q] at hq ⊢ <;> rcases v with z | z | (_ | b) <;> simp only [q_elok, Bool.false_eq_true, Bool.and_eq_true, decide_eq_true_eq] at hq
            · exact ⟨rfl, trivial⟩
            · exact ⟨rfl, trivial⟩
            · refine ⟨?_, trivial⟩
              have := (q_byte (z + 128).toNat (by omega)).2
              have e : (((z + 128).toNat : Nat) : Int) - 128 = z := by omega
              rw [e] at this
              exact this
            · exact ⟨rfl, trivial⟩
            · rw [q] at g3 hkk1
              obtain ⟨r, hr, cell, q1, q2, q3, q4⟩ := (hH.2.2.2.2.1 b).1 (by rw [hq])
              rw [hq] at hr q2
              cases hr
              obtain ⟨hSl, hcls⟩ := hH.2.2.2.2.2.2.1.1 _ _ (rfl : qcl[3]? = some (RX3, TX3, 5))
              obtain ⟨kA, comp, r1, r2, r3, -⟩ := g3
              cases hk1.symm.trans r1
              cases hkk1.symm.trans r2
              obtain ⟨c0', t0', f1, f2, f3⟩ := Cond.castable_spec (va_Nw.use (A := args) rfl hNW.2.2.2)
              cases hcls.1.symm.trans f1
              cases r3.symm.trans f2
              obtain ⟨kC, hkC, -⟩ := hcls.2
              obtain ⟨kE, hkE, -⟩ := Vm.findClass_spec r3
              obtain ⟨kC', hkC', -⟩ := hal.2.2 _ _ hkC
              obtain ⟨kE', hkE', -⟩ := hal.2.2 _ _ hkE
              refine ⟨rfl, cell, (show T.heap[b]? = some cell by rw [hT]; exact q1), (fun q h => by rw [q3] at h; cases h), ⟨kC', by rw [q2]; exact hkC'⟩, ⟨kE', hkE'⟩, ?_⟩
              show vm₁.assignable _ _ = true
              rw [hal.assignable, q2]
              exact f3)
          (g := F0 m pc ls (.int (Int32.ofInt n) :: .int (Int32.ofInt dp) :: .ref a :: .int (Int32.ofInt sp) :: .ref a0 :: st0.map rv)) rfl (by rw [hml]; exact hL.2.1) (rest := st0.map rv) rfl (by rw [hb]; exact hd) hR.1 (by
            have := hR.2
            have := q_ac4
            show 2 * 0 + _ + _ ≤ _
            omega)
        have ecp : copied (arrV c0 (q_kd M a0).2 (fun j => rv (q_fv M a0 j))) (arrV c1 (q_kd M a).2 (fun j => rv (q_fv M a j))) (Int32.ofInt sp) (Int32.ofInt dp) (Int32.ofInt n) = arrV c1 (q_kd M a).2 (fun j => rv (q_fv (q_cp M a0 sp.toNat a dp.toNat n.toNat) a j)) := by
          have h0 := va_copied rv c0 c1 (n0 := (q_kd M a0).2) (n1 := (q_kd M a).2) (sp := sp.toNat) (dp := dp.toNat) (n := n.toNat) (q_fv M a0) (q_fv M a) (by omega)
          have h1 : (fun j => rv (va_cpy (q_fv M a0) (q_fv M a) sp.toNat dp.toNat n.toNat j)) = fun j => rv (q_fv (q_cp M a0 sp.toNat a dp.toNat n.toNat) a j) := by
            funext j
            show rv (if _ then _ else _) = rv (if _ then _ else _)
            by_cases hj : dp.toNat ≤ j ∧ j < dp.toNat + n.toNat
            · rw [if_pos hj, if_pos ⟨rfl, hj⟩]; rfl
            · rw [if_neg hj, if_neg (fun q => hj q.2)]; rfl
          rw [← h1, ← h0]
          show (arrV c1 _ _).storeRun (Int32.ofInt dp).toNatClampNeg ((arrV c0 _ _).stretch (Int32.ofInt sp).toNatClampNeg (Int32.ofInt n).toNatClampNeg) = _
          rw [s1, d1, n1]
        rw [ecp] at X' step
        have hl : a < H.size := (Array.getElem?_eq_some_iff.mp g1).1
        have hheap : ((T.setVm vm').setCell a (arrV c1 (q_kd M a).2 (fun j => rv (q_fv (q_cp M a0 sp.toNat a dp.toNat n.toNat) a j)))).heap = H.setIfInBounds a (arrV c1 (q_kd M a).2 (fun j => rv (q_fv (q_cp M a0 sp.toNat a dp.toNat n.toNat) a j))) := by rw [← hT]; rfl
        have oq : ∀ q : Nat, q ≠ a → (H.setIfInBounds a (arrV c1 (q_kd M a).2 (fun j => rv (q_fv (q_cp M a0 sp.toNat a dp.toNat n.toNat) a j))))[q]? = H[q]? := fun q hq => by simp [Array.getElem?_setIfInBounds, Ne.symm hq]
        have hH' := hH.up (M1 := q_cp M a0 sp.toNat a dp.toNat n.toNat) (a := a) (H1 := H.setIfInBounds a (arrV c1 (q_kd M a).2 (fun j => rv (q_fv (q_cp M a0 sp.toNat a dp.toNat n.toNat) a j)))) (by omega) (by omega) rfl rfl rfl (fun b hb => q_cp_fv hb) (by simp) oq
          ⟨fun k => by omega, fun _ _ => ⟨hl1, c1, (by simp [Array.getElem?_setIfInBounds, hl]), g2, g3⟩, fun k => by omega⟩
        obtain ⟨t, a1, b1⟩ := kk _ _ cells slots ls hL hH' (fun q hq => by
          rcases List.mem_append.mp hq with h | h
          · exact hlo q h
          · obtain ⟨z, -, hz⟩ := List.mem_map.mp h
            rw [← hz]
            exact hba) hc hs _ hheap X'
        exact ⟨t, step t a1, b1⟩
      · cases h
    · cases h
  all_goals (simp [q_ac] at h; done)
end QAC
/-! the String constant, Math.max and Math.min -/
def q_strtab : List (Nat × Nat) := [(10041, 0)]
def q_sftab : List (Nat × (Nat × Nat)) := [(260009, (0, 1705)), (260015, (1, 1706))]
def q_mxtab : List (Nat × (Nat × Nat)) := [(90030, (0, 548)), (90036, (1, 555)), (220194, (0, 588)), (180304, (1, 620)), (150079, (0, 622)), (10025, (1, 933)), (70029, (1, 981)), (170138, (1, 1208)), (110196, (0, 1272))]
def q_sfokb (e : Nat × (Nat × Nat)) : Bool := match q_own[e.1 / 10000]? with
  | some own => if e.2.1 = 0 then q_in e.2.2 (.fieldLink own (e.1 % 10000) "java/lang/String" "value" "[B") else q_in e.2.2 (.fieldLink own (e.1 % 10000) "java/lang/String" "coder" "B")
  | _ => false
theorem q_sftab_ok : q_sftab.all q_sfokb = true := by decide +kernel
def q_mxokb (e : Nat × (Nat × Nat)) : Bool := match q_own[e.1 / 10000]? with
  | some own => if e.2.1 = 0 then q_in e.2.2 (.methodLink own (e.1 % 10000) Lib.Math.max.name) else q_in e.2.2 (.methodLink own (e.1 % 10000) Lib.Math.min.name)
  | _ => false
theorem q_mxtab_ok : q_mxtab.all q_mxokb = true := by decide +kernel
theorem q_mx1 : q_in 549 (.static Lib.Math.max.name) = true := by decide +kernel
theorem q_mx2 : q_in 556 (.static Lib.Math.min.name) = true := by decide +kernel
theorem q_mx3 : q_in 98 (.initialized "java/lang/Math") = true := by decide +kernel
theorem q_mx4 : q_in 550 (.code Lib.Math.max.name Lib.Math.max.code 2 (some .int)) = true := by decide +kernel
theorem q_mx5 : q_in 557 (.code Lib.Math.min.name Lib.Math.min.code 2 (some .int)) = true := by decide +kernel
def q_cltab : List (Nat × Nat) := [(180110, 617)]
def q_gctab : List (Nat × Nat) := [(180086, 596)]
def q_clokb (e : Nat × Nat) : Bool := match q_own[e.1 / 10000]? with
  | some own => q_in e.2 (.classLink own (e.1 % 10000) "[Ljava/lang/Object;")
  | _ => false
theorem q_cltab_ok : q_cltab.all q_clokb = true := by decide +kernel
def q_gcokb (e : Nat × Nat) : Bool := match q_own[e.1 / 10000]? with
  | some own => q_in e.2 (.methodLink own (e.1 % 10000) ⟨"java/lang/Object", "getClass", "()Ljava/lang/Class;"⟩)
  | _ => false
theorem q_gctab_ok : q_gctab.all q_gcokb = true := by decide +kernel
theorem q_gc1 : q_in 1698 (.selects "[Ljava/lang/Object;" ⟨"java/lang/Object", "getClass", "()Ljava/lang/Class;"⟩ ⟨"java/lang/Object", "getClass", "()Ljava/lang/Class;"⟩) = true := by decide +kernel
theorem q_gc2 : q_in 597 (.instanceMethod ⟨"java/lang/Object", "getClass", "()Ljava/lang/Class;"⟩) = true := by decide +kernel
theorem q_gc3 : q_in 613 (.native ⟨"java/lang/Object", "getClass", "()Ljava/lang/Class;"⟩) = true := by decide +kernel
def q_xs (ow : Nat) (i : Instr) (len pc : Nat) (L : QL) (st : List CV) (M : QM) : Option QS :=
  match i with
  | .ldc x => match len, q_lk q_strtab ow x with
    | 2, some _ => some (pc + 2, L, qr (q_gs M 1) :: st, M)
    | _, _ => match len, q_lk q_cltab ow x with
      | 2, some _ => some (pc + 2, L, qr (q_gs M 6) :: st, M)
      | _, _ => none
  | .invokevirtual x => match len, st, q_lk q_gctab ow x with
    | 3, .inr (.inr (some a)) :: st, some _ => if (q_kd M a).1 = 5 ∧ (st.map q_wd).sum ≤ 8 then some (pc + 3, L, qr (q_gs M 6) :: st, M) else none
    | _, _, _ => none
  | .if_acmp co off => match len, st, q_br pc off with
    | 3, .inr (.inr b) :: .inr (.inr a) :: st, some t => (match co with
      | .eq => some (if a = b then t else pc + 3, L, st, M)
      | .ne => some (if a = b then pc + 3 else t, L, st, M))
    | _, _, _ => none
  | .getfield x => match len, st, q_lk q_sftab ow x with
    | 3, .inr (.inr (some a)) :: st, some e => if a = q_gs M 1 then some (pc + 3, L, (if e.1 = 0 then qr (q_gs M 5) else qi 0) :: st, M) else none
    | _, _, _ => none
  | .invokestatic x => match len, st, q_lk q_mxtab ow x with
    | 3, .inl b :: .inl a :: st, some e => if q_R a ∧ q_R b ∧ (st.map q_wd).sum ≤ 8 then some (pc + 3, L, qi (if e.1 = 0 then max a b else min a b) :: st, M) else none
    | _, _, _ => none
  | _ => none
def q_NX (g : Nat → Nat) (H0 : Heap) (U : State) : Prop :=
  q_NW U ∧ vk_R RX1 41 "FNMGCOTSP" (g 1) U ∧ va_O "java/lang/String" (g 1) (fun q => H0.size ≤ q) U H0 ∧ va_OF "java/lang/String" "value" "[B" (.ref (g 5)) (g 1) (fun q => H0.size ≤ q) U H0 ∧ va_OF "java/lang/String" "coder" "B" (.int 0) (g 1) (fun q => H0.size ≤ q) U H0 ∧ va_Mi "[Ljava/lang/Object;" (g 6) U ∧ va_Dc U
theorem q_NX.warm {g : Nat → Nat} {H0 : Heap} {s U : State} (hW : s.WarmedH U.vm) (h : q_NX g H0 s) : q_NX g H0 U := ⟨h.1.warm hW, h.2.1.warm hW, h.2.2.1.moved hW.alike, h.2.2.2.1.moved hW.alike, h.2.2.2.2.1.moved hW.alike, h.2.2.2.2.2.1.moved hW.alike, h.2.2.2.2.2.2.moved hW.alike⟩
theorem q_NX.same {g : Nat → Nat} {H0 : Heap} {s U : State} (e : U.vm = s.vm) (h : q_NX g H0 s) : q_NX g H0 U := by
  have hal : s.vm.Alike U.vm := by rw [e]; exact Vm.Alike.refl _
  exact ⟨h.1.same e.symm, h.2.1.same e, h.2.2.1.moved hal, h.2.2.2.1.moved hal, h.2.2.2.2.1.moved hal, h.2.2.2.2.2.1.moved hal, h.2.2.2.2.2.2.moved hal⟩
section QXS
variable {p : Program} {l : Launch} {e : Env} {R : Room} {s : State} {m : MethodId} {args : Array Value} {below : List Frame} {meth : Method} {c : Code} {H : Heap} {locs : List Loc} {cells slots : Nat} {Q : State → Prop} {cc : ByteArray} {nL ow : Nat} {own : String} {ini : Bool}
variable {D : va_G} {H0 : Heap} {M : QM} {b0 b1 : Nat}
theorem q_low {D : va_G} {H0 : Heap} {U : State} {M : QM} {H : Heap} {a : Nat} {cell : Cell} (hH : q_HR D H0 U M H) (h : H0[a]? = some cell) : H[a]? = some cell := by
  rw [hH.2.2.1 a (Array.getElem?_eq_some_iff.mp h).1]
  exact h
theorem q_xs_sound (X : q_Cx p s m meth c cc args nL ow own ini) {i : Instr} {len pc pc0 : Nat} {L L0 : QL} {st st0 : List CV} {ls : Array Slot} {M' : QM} (hd : decode cc pc = .ok (i, len)) (h : q_xs ow i len pc L st M = some (pc0, L0, st0, M')) (hL : q_LR nL ls L) (hH : q_HR D H0 s M H) (hX : q_NX (q_gs M) H0 s)
    (hlo : ∀ q ∈ locs, H0.size ≤ q.base) (hc : cells + b0 = q_nc M) (hs : slots + b1 = q_ns M) (hR : 1 ≤ R.frames ∧ 220 ≤ R.locals) (hRc : cells ≤ R.cells) (hRs : slots ≤ R.slots)
    (kk : ∀ (H' : Heap) (locs' : List Loc) (cells' slots' : Nat) (ls' : Array Slot), q_LR nL ls' L0 → q_HR D H0 s M' H' → (∀ q ∈ locs', H0.size ≤ q.base) → cells' + b0 = q_nc M' → slots' + b1 = q_ns M' → W p l e R s m args below meth c H' locs' cells' slots' Q (F0 m pc0 ls' (st0.map rv))) :
    W p l e R s m args below meth c H locs cells slots Q (F0 m pc ls (st.map rv)) := by
  obtain ⟨hx, hb, hml, hown1, hown, hts, hNW, hini, hlocks⟩ := X
  cases i
  case ldc x =>
    simp only [q_xs] at h
    split at h
    · rename_i ent he
      cases h
      obtain ⟨hm, hq1, hq2⟩ := q_lk_mem he
      simp only [q_strtab, List.mem_cons, List.not_mem_nil, or_false, Prod.mk.injEq] at hm
      have how : ow = 1 ∧ x = 41 := by omega
      obtain ⟨rfl, rfl⟩ := how
      have : own = RX1 := (Option.some.inj hown1).symm
      subst this
      exact va_ldcS hx hb hown hX.2.1 hd (kk H locs cells slots ls hL hH hlo hc hs)
    · split at h
      · rename_i ent he hno
        cases h
        obtain ⟨hm, hq1, hq2⟩ := q_lk_mem he
        have ok := List.all_eq_true.mp q_cltab_ok _ hm
        simp only [q_clokb, hq1, hq2, hown1] at ok
        exact va_ldcM hx hb hown (hts _ (q_in_mem ok)) hX.2.2.2.2.2.1 hd (kk H locs cells slots ls hL hH hlo hc hs)
      · cases h
  case invokevirtual x =>
    simp only [q_xs] at h
    split at h
    · rename_i a rest ent he
      split at h
      · rename_i hk
        obtain ⟨hk, hw⟩ := hk
        cases h
        obtain ⟨hm, hq1, hq2⟩ := q_lk_mem he
        have ok := List.all_eq_true.mp q_gctab_ok _ hm
        simp only [q_gcokb, hq1, hq2, hown1] at ok
        obtain ⟨hl0, c0, e1, e2, e3⟩ := (hH.2.2.2.2.1 a).2.1 (by omega) (by omega)
        rw [hk] at e3
        have hw2 : ∀ rs : List CV, (rs.map q_wd).sum ≤ 8 → ((rs.map rv).map fun v => v.category).sum + 14 ≤ R.locals := by
          intro rs hrs
          rw [List.map_map]
          have : ((fun v : Value => v.category) ∘ rv) = q_wd := by funext v; exact q_wd_rv v
          rw [this]
          have := hR.2
          omega
        exact va_getC hx hb (by rw [hml]; exact hL.2.1.symm) hown (hts _ (q_in_mem ok)) (va_Dc.use hX.2.2.2.2.2.2) (hts _ (q_in_mem q_gc1)) (hts _ (q_in_mem q_gc2)) (hts _ (q_in_mem q_gc3)) hX.2.2.2.2.2.1 ⟨_, e1, rfl, va_nmO e3 rfl⟩ hR.1 (hw2 _ hw) hd (kk H locs cells slots ls hL hH hlo hc hs)
      · cases h
    · cases h
  case if_acmp co off =>
    simp only [q_xs] at h
    split at h
    · rename_i b a rest t ht
      have k := kk H locs cells slots ls
      have ht2 := q_br_some ht
      have er : ∀ z : Option Nat, rv (.inr (.inr z)) = va_rf z := fun z => by cases z <;> rfl
      cases co with
      | eq =>
        cases h
        simp only [List.map_cons, er]
        refine lv_acmp_eq hx hb hd ht2 (fun q => ?_) (fun q => ?_)
        · have k := k hL hH hlo hc hs
          rw [if_pos q] at k; exact k
        · have k := k hL hH hlo hc hs
          rw [if_neg q] at k; exact k
      | ne =>
        cases h
        simp only [List.map_cons, er]
        refine lv_acmp_ne hx hb hd ht2 (fun q => ?_) (fun q => ?_)
        · have k := k hL hH hlo hc hs
          rw [if_neg q] at k; exact k
        · have k := k hL hH hlo hc hs
          rw [if_pos q] at k; exact k
    · cases h
  case getfield x =>
    simp only [q_xs] at h
    split at h
    · rename_i a rest ent he
      split at h
      · rename_i hk
        cases h
        subst hk
        obtain ⟨hm, hq1, hq2⟩ := q_lk_mem he
        have ok := List.all_eq_true.mp q_sftab_ok _ hm
        simp only [q_sfokb, hq1, hq2, hown1] at ok
        have k := kk H locs cells slots ls hL hH hlo hc hs
        by_cases h0 : ent.1 = 0
        · rw [if_pos h0] at ok k
          obtain ⟨cf, kf, fi, f, cell, w1, w2, w3, w4, w5, w6⟩ := hX.2.2.2.1
          exact W.getf hx hb hown (hts _ (q_in_mem ok)) w1 w2 (q_low hH w3) w4 w5 rfl rfl hd k
        · rw [if_neg h0] at ok k
          obtain ⟨cf, kf, fi, f, cell, w1, w2, w3, w4, w5, w6⟩ := hX.2.2.2.2.1
          exact W.getf hx hb hown (hts _ (q_in_mem ok)) w1 w2 (q_low hH w3) w4 w5 rfl rfl hd k
      · cases h
    · cases h
  case invokestatic x =>
    simp only [q_xs] at h
    split at h
    · rename_i b a rest ent he
      split at h
      · rename_i hk
        obtain ⟨ha, hb', hw⟩ := hk
        cases h
        obtain ⟨hm, hq1, hq2⟩ := q_lk_mem he
        have ok := List.all_eq_true.mp q_mxtab_ok _ hm
        simp only [q_mxokb, hq1, hq2, hown1] at ok
        have k := kk H locs cells slots ls hL hH hlo hc hs
        have hw2 : ∀ rs : List CV, (rs.map q_wd).sum ≤ 8 → ((rs.map rv).map fun v => v.category).sum + 13 ≤ R.locals := by
          intro rs hrs
          rw [List.map_map]
          have : ((fun v : Value => v.category) ∘ rv) = q_wd := by funext v; exact q_wd_rv v
          rw [this]
          have := hR.2
          omega
        have ht1 := hts _ (q_in_mem q_mx1)
        have ht2 := hts _ (q_in_mem q_mx2)
        have ht3 := hts _ (q_in_mem q_mx3)
        have ht4 := hts _ (q_in_mem q_mx4)
        have ht5 := hts _ (q_in_mem q_mx5)
        by_cases h0 : ent.1 = 0
        · rw [if_pos h0] at ok k
          refine va_mmax hx hb (by rw [hml]; exact hL.2.1.symm) hown (hts _ (q_in_mem ok)) ht1 ht3 ht4 hR.1 (hw2 _ hw) hRc hRs hd ?_
          by_cases hab : a < b
          · rw [if_pos ((q_lt ha hb').mpr hab)]
            rw [Int.max_eq_right (by omega)] at k
            exact k
          · rw [if_neg (mt (q_lt ha hb').mp hab)]
            rw [Int.max_eq_left (by omega)] at k
            exact k
        · rw [if_neg h0] at ok k
          refine va_mmin hx hb (by rw [hml]; exact hL.2.1.symm) hown (hts _ (q_in_mem ok)) ht2 ht3 ht5 hR.1 (hw2 _ hw) hRc hRs hd ?_
          by_cases hab : b < a
          · rw [if_pos ((q_lt hb' ha).mpr hab)]
            rw [Int.min_eq_right (by omega)] at k
            exact k
          · rw [if_neg (mt (q_lt hb' ha).mp hab)]
            rw [Int.min_eq_left (by omega)] at k
            exact k
      · cases h
    · cases h
  all_goals (simp [q_xs] at h; done)
end QXS
