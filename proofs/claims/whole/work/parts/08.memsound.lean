/-! each memory step is sound -/
def q_Cx (p : Program) (s : State) (m : MethodId) (meth : Method) (c : Code) (cc : ByteArray) (args : Array Value) (nL ow : Nat) (own : String) (ini : Bool) : Prop :=
  p.tables.exec = Jvm.exec ∧ c.code = cc ∧ c.maxLocals = nL ∧ q_own[ow]? = some own ∧ s.vm.findClass own = some m.cls ∧ (∀ w ∈ qT, w.before args s = true) ∧ q_NW s ∧ (ini = true → meth.name = "<init>") ∧ meth.locks = false
theorem q_clamp {j : Int} (h0 : 0 ≤ j) (h1 : j < 2147483648) : (Int32.ofInt j).toNatClampNeg = j.toNat ∧ ¬ Int32.ofInt j < 0 := by
  have e := q_toInt (z := j) ⟨by omega, h1⟩
  refine ⟨by show (Int32.ofInt j).toInt.toNat = _; rw [e], ?_⟩
  rw [Int32.lt_iff_toInt_lt, e]
  simpa using h0
theorem q_stL {A : Nat → Prop} {locs : List Loc} {a k : Nat} (hlo : ∀ q ∈ locs, A q.base) (ha : A a) : ∀ q ∈ locs ++ [(⟨a, k⟩ : Loc)], A q.base := fun q hq => by
  rcases List.mem_append.mp hq with h | h
  · exact hlo q h
  · rw [List.mem_singleton.mp h]; exact ha
theorem q_fv_wr {M : QM} {a k b : Nat} {v : CV} (h : b ≠ a) : q_fv (q_wr M a k v) b = q_fv M b := by
  funext j
  exact if_neg (fun q => h q.1)
theorem q_updV {M : QM} {a k : Nat} {v : CV} : updV (fun j => rv (q_fv M a j)) k (rv v) = fun j => rv (q_fv (q_wr M a k v) a j) := by
  funext j
  unfold updV q_wr q_fv
  by_cases h : j = k
  · rw [if_pos h]; simp [h]
  · rw [if_neg h]; simp [h]
theorem rv_i32b (x : Int) : Value.int (Int32.ofInt x).toInt8.toInt32 = rv (qi (q_i2b x)) := by show _ = Value.int (Int32.ofInt ((Int32.ofInt x).toInt8.toInt32).toInt); rw [Int32.ofInt_toInt]
section QMM
variable {p : Program} {l : Launch} {e : Env} {R : Room} {s : State} {m : MethodId} {args : Array Value} {below : List Frame} {meth : Method} {c : Code} {H : Heap} {locs : List Loc} {cells slots : Nat} {Q : State → Prop} {cc : ByteArray} {nL ow : Nat} {own : String} {ini : Bool}
variable {D : va_G} {H0 : Heap} {M : QM} {b0 b1 : Nat}
/-- what is known at a store to an array of ours -/
theorem q_ast_sound {t : Nat} {a : Nat} {j : Int} {v : CV} {M' : QM} {H1 : Heap} (h : q_ast t M a j v = some M') (ht : 2 ≤ t ∧ t ≤ 6) (hH : q_HR D H0 s M H) :
    ∃ cA : ClassId, H[a]? = some (arrV cA (q_kd M a).2 (fun i => rv (q_fv M a i))) ∧ ArrOfT s cA (q_aty t) ∧ va_RA s cA (q_aty t) ∧ (Int32.ofInt j).toNatClampNeg = j.toNat ∧ ¬ Int32.ofInt j < 0 ∧ j.toNat < (q_kd M a).2 ∧ H0.size ≤ a ∧ M' = q_wr M a j.toNat v ∧
    (∀ H1 : Heap, H1[a]? = some ((arrV cA (q_kd M a).2 (fun i => rv (q_fv M a i))).setSlot j.toNat (rv v)) → H1.size = H.size → (∀ q, q ≠ a → H1[q]? = H[q]?) → q_HR D H0 s M' H1) := by
  unfold q_ast at h
  split at h
  · rename_i hk
    obtain ⟨hk, hj0, hj1⟩ := hk
    cases h
    obtain ⟨hlt, cA, e1, e2, e3⟩ := (hH.2.2.2.2.1 a).2.1 (by omega) (by omega)
    rw [hk] at e2 e3
    obtain ⟨g1, g2⟩ := q_clamp hj0 (by have : (2:Nat)^31 = 2147483648 := by decide
                                       omega)
    have hb := hH.2.2.2.2.2.1 a (by omega) (by omega)
    refine ⟨cA, e1, e2, e3, g1, g2, by omega, hb, rfl, fun H1 h1 z oq => ?_⟩
    refine hH.up (a := a) (by omega) (by omega) rfl rfl rfl (fun b hb => q_fv_wr hb) z oq ⟨fun k => by omega, fun _ _ => ⟨hlt, cA, ?_, by rw [hk]; exact e2, by rw [hk]; exact e3⟩, fun k => by omega⟩
    rw [h1, arrV_store, q_updV]
  · cases h
theorem q_ald_sound {ts : List Nat} {a : Nat} {j : Int} {v : CV} (h : q_ald ts M a j = some v) (ht : ∀ t ∈ ts, 2 ≤ t ∧ t ≤ 9) (hH : q_HR D H0 s M H) :
    ∃ cell : Cell, (q_kd M a).1 ∈ ts ∧ H[a]? = some cell ∧ s.isArrayOf cell (q_aty (q_kd M a).1) ∧ cell.vm ≠ .unknown ∧ ¬ (Int32.ofInt j < 0 ∨ cell.slots.size ≤ (Int32.ofInt j).toNatClampNeg) ∧ cell.slots[(Int32.ofInt j).toNatClampNeg]? = some (rv v) := by
  unfold q_ald at h
  split at h
  · rename_i hk
    obtain ⟨hk, hj0, hj1⟩ := hk
    cases h
    have h29 := ht _ hk
    have p31 : (2:Nat)^31 = 2147483648 := by decide
    by_cases h6 : (q_kd M a).1 ≤ 6
    · obtain ⟨hlt, cA, e1, e2, e3⟩ := (hH.2.2.2.2.1 a).2.1 (by omega) (by omega)
      obtain ⟨g1, g2⟩ := q_clamp hj0 (by omega)
      refine ⟨_, hk, e1, e2 _ _, (fun q => by cases q), ?_, ?_⟩
      · rw [arrV_size, g1]; rintro (q | q)
        · exact g2 q
        · omega
      · rw [g1, arrV_read _ _ (by omega)]
    · obtain ⟨hlt, cell, e1, e2, e3, e4, e4b, e5⟩ := (hH.2.2.2.2.1 a).2.2 (by omega) (by omega)
      obtain ⟨g1, g2⟩ := q_clamp hj0 (by omega)
      refine ⟨cell, hk, e1, e2, e3, ?_, ?_⟩
      · rw [g1]; rintro (q | q)
        · exact g2 q
        · omega
      · rw [g1]; exact e5 _ (by omega)
  · cases h
set_option maxHeartbeats 8000000 in
theorem q_mm_sound (X : q_Cx p s m meth c cc args nL ow own ini) {i : Instr} {len pc pc0 : Nat} {L L0 : QL} {st st0 : List CV} {ls : Array Slot} {M' : QM} (hd : decode cc pc = .ok (i, len)) (h : q_mm ow ini i len pc L st M = some (pc0, L0, st0, M')) (hL : q_LR nL ls L) (hH : q_HR D H0 s M H)
    (hlo : ∀ q ∈ locs, H0.size ≤ q.base) (hc : cells + b0 = q_nc M) (hs : slots + b1 = q_ns M) (hRc : q_nc M' ≤ R.cells + b0) (hRs : q_ns M' ≤ R.slots + b1) (hR : 1 ≤ R.frames ∧ 20 ≤ R.locals)
    (kk : ∀ (H' : Heap) (locs' : List Loc) (cells' slots' : Nat) (ls' : Array Slot), q_LR nL ls' L0 → q_HR D H0 s M' H' → (∀ q ∈ locs', H0.size ≤ q.base) → cells' + b0 = q_nc M' → slots' + b1 = q_ns M' → W p l e R s m args below meth c H' locs' cells' slots' Q (F0 m pc0 ls' (st0.map rv))) :
    W p l e R s m args below meth c H locs cells slots Q (F0 m pc ls (st.map rv)) := by
  obtain ⟨hx, hb, hml, hown1, hown, hts, hNW, hini, hlocks⟩ := X
  have hKK := hH.2.2.2.2.2.2.1
  cases i
  case getfield x =>
    simp only [q_mm] at h
    split at h
    · rename_i a rest ent he
      split at h
      · rename_i hk
        cases h
        obtain ⟨hm, hq1, hq2⟩ := q_lk_mem he
        have ok := List.all_eq_true.mp q_ftab_ok _ hm
        obtain ⟨r, hr, hOB⟩ := (hH.2.2.2.2.1 a).1 (by rw [hk])
        rw [hk] at hr hOB
        simp only [q_fok, hq1, hq2, hown1, hr, Bool.and_eq_true, Bool.or_eq_true, decide_eq_true_eq] at ok
        obtain ⟨⟨hkN, hl1⟩, hsm⟩ := ok
        obtain ⟨hin, hnm, t, ht, hty⟩ := q_cok hr
        obtain ⟨cell, q1, q2, q3, q4⟩ := hOB
        obtain ⟨hSl, hfc, kC, hkC, hkind⟩ := hKK.1 _ _ hr
        obtain ⟨cf, kf, fi, f, hi, hsl⟩ := hSl _ hkN
        refine W.getf hx hb hown (hts _ (q_in_mem hl1)) (?_ : s.fieldFound? _ _ _ = some (cf, kf, fi, f)) (u_facts hfc hkC (u_lays hts hin hkN) hi).1 q1 (by rw [q3]; exact fun h => by cases h) (v := rv (q_fv M a ent.2.1)) ?_ rfl rfl hd (kk H locs cells slots ls hL hH hlo hc hs)
        · rcases hsm with h1 | h1
          · rw [h1]; exact hi
          · exact u_same (hts _ (q_in_mem h1)) _ hi
        · rw [hsl]; exact q4 _ hkN
      · cases h
    · cases h
  case putfield x =>
    simp only [q_mm] at h
    split at h
    · rename_i v a rest ent he
      split at h
      · rename_i r t hr ht
        split at h
        · rename_i hk
          obtain ⟨hk, hfit, hfin⟩ := hk
          cases h
          obtain ⟨hm, hq1, hq2⟩ := q_lk_mem he
          have ok := List.all_eq_true.mp q_ftab_ok _ hm
          simp only [q_fok, hq1, hq2, hown1, hr, Bool.and_eq_true, Bool.or_eq_true, decide_eq_true_eq] at ok
          obtain ⟨⟨hkN, hl1⟩, hsm⟩ := ok
          obtain ⟨hin, hnm, t', ht', hty⟩ := q_cok hr
          cases ht.symm.trans ht'
          have hap := va_apart (own := own) hts hin t hty hnm hKK hr
          obtain ⟨r', hr', cell, q1, q2, q3, q4⟩ := (hH.2.2.2.2.1 a).1 (by rw [hk])
          rw [hk] at hr' q2 q4
          cases hr.symm.trans hr'
          obtain ⟨hSl, hfc, kC, hkC, hkind⟩ := hKK.1 _ _ hr
          obtain ⟨cf, kf, fi, f, hi, hsl⟩ := hSl _ hkN
          obtain ⟨hn1, hn2⟩ := q_fitb_ok hfit
          have hst := (u_facts hfc hkC (u_lays hts hin hkN) hi).1
          have hlay := hts _ (hin _ (u_in_lay hkN))
          have hsame : s.fieldFound? ent.2.2.1 (r.2.1 ent.2.1).2.1 (r.2.1 ent.2.1).2.2.1 = some (cf, kf, fi, f) := by
            rcases hsm with h1 | h1
            · rw [h1]; exact hi
            · exact u_same (hts _ (q_in_mem h1)) _ hi
          have hba := hH.2.2.2.2.2.1 a (by rw [hk]; exact Nat.le_refl 1) (by rw [hk]; exact Nat.le_of_ble_eq_true rfl)
          have fin : ∀ H1 : Heap, H1[a]? = some (cell.setSlot f.slot (rv v)) → H1.size = H.size → (∀ q, q ≠ a → H1[q]? = H[q]?) → W p l e R s m args below meth c H1 (locs ++ [⟨a, f.slot⟩]) cells slots Q (F0 m (pc + 3) ls (st0.map rv)) := by
            intro H1 h1 z oq
            refine kk H1 _ cells slots ls hL ?_ (q_stL hlo hba) hc hs
            refine hH.up (a := a) (by rw [hk]; exact Nat.le_refl 1) (by rw [hk]; exact Nat.le_of_ble_eq_true rfl) rfl rfl rfl (fun b hb => q_fv_wr hb) z oq ⟨fun _ => ⟨r, by rw [hk]; exact hr, ?_⟩, fun k => by rw [hk] at k; simp at k, fun k => by rw [hk] at k; simp at k⟩
            rw [hk]
            rw [hsl] at h1
            have := t_set q4 hap hkN (rv v)
            rw [q_updV] at this
            exact ⟨_, h1, q2, q3, this⟩
          by_cases hf : (r.2.1 ent.2.1).2.2.2 = true
          · obtain ⟨hi1, hi2⟩ := hfin hf
            have hdecl : (r.2.1 ent.2.1).1 = own := Option.some.inj (hi2.symm.trans hown1)
            unfold u_lay at hlay
            rw [if_pos hf] at hlay
            have hcf : m.cls = cf := by
              obtain ⟨_, _, c', _, _, _, -, -, hf', -, -, -, hown2, -⟩ := Cond.laysFinal_spec hlay
              have e1 : c' = cf := by have := hi.symm.trans hf'; simp at this; exact this.1.symm
              rw [hdecl] at hown2
              rw [← e1]; exact Option.some.inj (hown.symm.trans hown2)
            have h6 := u_fits hfc hkC hkind (Or.inr hlay) hi (hty _ hkN) hn1 hn2
            exact W.putFinK hx hb hown (hts _ (q_in_mem hl1)) hsame hst hcf (hini hi1) (by rw [q2]; exact h6) q1 q3 (by rw [hsl]; exact k2_hasslot (q4 _ hkN)) rfl rfl hd fin
          · unfold u_lay at hlay
            rw [if_neg hf] at hlay
            have h6 := u_store hfc hkC hkind hlay hi (hty _ hkN) hn1 hn2
            exact W.putK hx hb (f := f) ⟨hown, hts _ (q_in_mem hl1), ⟨_, _, _, hsame⟩, hst⟩ (by rw [q2]; exact h6) q1 q3 (by rw [hsl]; exact k2_hasslot (q4 _ hkN)) rfl rfl hd fin
        · cases h
      · cases h
    · cases h
  case arraylength =>
    simp only [q_mm] at h
    split at h
    · rename_i a rest
      split at h
      · rename_i n hn
        cases h
        unfold q_len at hn
        split at hn
        · rename_i hk
          cases hn
          by_cases h6 : (q_kd M a).1 ≤ 6
          · obtain ⟨hlt, cA, e1, e2, e3⟩ := (hH.2.2.2.2.1 a).2.1 hk.1 h6
            exact W.alen hx hb e1 (e2 _ _) (by rw [arrV_size]; rfl) rfl rfl hd (kk H locs cells slots ls hL hH hlo hc hs)
          · obtain ⟨hlt, cell, e1, e2, e3, e4, e4b, e5⟩ := (hH.2.2.2.2.1 a).2.2 (by omega) hk.2
            exact W.alen hx hb e1 e2 (by rw [e4b]) rfl rfl hd (kk H locs cells slots ls hL hH hlo hc hs)
        · cases hn
      · cases h
    · cases h
  case iaload =>
    simp only [q_mm] at h
    split at h
    · rename_i j a rest
      split at h
      · rename_i v hv
        cases h
        obtain ⟨cell, g0, g1, g2, g3, g4, g5⟩ := q_ald_sound hv (by decide) hH
        have hty : q_aty (q_kd M a).1 = .int := by
          simp only [List.mem_cons, List.not_mem_nil, or_false] at g0
          rcases g0 with g0 | g0 <;> rw [g0] <;> rfl
        rw [hty] at g2
        exact W.iald hx hb g1 g2 g3 g4 g5 rfl rfl hd (kk H locs cells slots ls hL hH hlo hc hs)
      · cases h
    · cases h
  case laload =>
    simp only [q_mm] at h
    split at h
    · rename_i j a rest
      split at h
      · rename_i v hv
        cases h
        obtain ⟨cell, g0, g1, g2, g3, g4, g5⟩ := q_ald_sound hv (by decide) hH
        have hty : q_aty (q_kd M a).1 = .long := by
          simp only [List.mem_cons, List.not_mem_nil, or_false] at g0
          rw [g0]; rfl
        rw [hty] at g2
        exact W.lald hx hb g1 g2 g3 g4 g5 rfl rfl hd (kk H locs cells slots ls hL hH hlo hc hs)
      · cases h
    · cases h
  case baload =>
    simp only [q_mm] at h
    split at h
    · rename_i j a rest
      split at h
      · rename_i v hv
        cases h
        obtain ⟨cell, g0, g1, g2, g3, g4, g5⟩ := q_ald_sound hv (by decide) hH
        have hty : q_aty (q_kd M a).1 = .byte := by
          simp only [List.mem_cons, List.not_mem_nil, or_false] at g0
          rcases g0 with g0 | g0 <;> rw [g0] <;> rfl
        rw [hty] at g2
        exact W.bald hx hb g1 g2 g3 g4 g5 rfl rfl hd (kk H locs cells slots ls hL hH hlo hc hs)
      · cases h
    · cases h
  case aaload =>
    simp only [q_mm] at h
    split at h
    · rename_i j a rest
      split at h
      · rename_i v hv
        cases h
        obtain ⟨cell, g0, g1, g2, g3, g4, g5⟩ := q_ald_sound hv (by decide) hH
        have hty : (q_aty (q_kd M a).1).isReference = true := by
          simp only [List.mem_cons, List.not_mem_nil, or_false] at g0
          rcases g0 with g0 | g0 | g0 <;> rw [g0] <;> rfl
        exact W.aald hx hb g1 g2 hty g3 g4 g5 rfl rfl hd (kk H locs cells slots ls hL hH hlo hc hs)
      · cases h
    · cases h
  case iastore =>
    simp only [q_mm] at h
    split at h
    · rename_i x j a rest
      unfold q_put at h
      split at h
      · rename_i M1 hv
        cases h
        obtain ⟨cA, g1, g2, g3, g4, g5, g6, g7, rfl, g8⟩ := q_ast_sound hv (by decide) hH (H1 := H)
        refine W.iast hx hb g1 (g2 _ _) (fun q => by cases q) (by rw [arrV_size, g4]; rintro (q | q); exact g5 q; omega) rfl rfl hd (fun H1 e1 z oq => ?_)
        rw [g4] at e1 ⊢
        exact kk H1 _ cells slots ls hL (g8 H1 (by rw [e1]; rfl) z oq) (q_stL hlo g7) hc hs
      · cases h
    · cases h
  case lastore =>
    simp only [q_mm] at h
    split at h
    · rename_i x j a rest
      unfold q_put at h
      split at h
      · rename_i M1 hv
        cases h
        obtain ⟨cA, g1, g2, g3, g4, g5, g6, g7, rfl, g8⟩ := q_ast_sound hv (by decide) hH (H1 := H)
        refine W.last hx hb g1 (g2 _ _) (fun q => by cases q) (by rw [arrV_size, g4]; rintro (q | q); exact g5 q; omega) rfl rfl hd (fun H1 e1 z oq => ?_)
        rw [g4] at e1 ⊢
        exact kk H1 _ cells slots ls hL (g8 H1 (by rw [e1]; rfl) z oq) (q_stL hlo g7) hc hs
      · cases h
    · cases h
  case bastore =>
    simp only [q_mm] at h
    split at h
    · rename_i x j a rest
      unfold q_put at h
      split at h
      · rename_i M1 hv
        cases h
        obtain ⟨cA, g1, g2, g3, g4, g5, g6, g7, rfl, g8⟩ := q_ast_sound hv (by decide) hH (H1 := H)
        refine W.bast hx hb g1 (g2 _ _) (fun q => by cases q) (by rw [arrV_size, g4]; rintro (q | q); exact g5 q; omega) rfl rfl hd (fun H1 e1 z oq => ?_)
        rw [g4] at e1 ⊢
        exact kk H1 _ cells slots ls hL (g8 H1 (by rw [e1]; rw [narrow_byte, rv_i32b]) z oq) (q_stL hlo g7) hc hs
      · cases h
    · cases h
  case aastore =>
    simp only [q_mm] at h
    split at h
    · rename_i b j a rest
      split at h
      · rename_i hkb
        unfold q_put at h
        split at h
        · rename_i M1 hv
          cases h
          obtain ⟨cA, g1, g2, g3, g4, g5, g6, g7, rfl, g8⟩ := q_ast_sound hv (by decide) hH (H1 := H)
          obtain ⟨r, hr, cell, q1, q2, q3, q4⟩ := (hH.2.2.2.2.1 b).1 (by rw [hkb])
          rw [hkb] at hr q2
          cases hr
          obtain ⟨hSl, hcls⟩ := hKK.1 _ _ (rfl : qcl[3]? = some (RX3, TX3, 5))
          obtain ⟨kA, comp, k1, k2, k3, -⟩ := g3
          obtain ⟨kE, hkE, -⟩ := Vm.findClass_spec k3
          obtain ⟨kC, hkC, -⟩ := hcls.2
          obtain ⟨c0, t0, f1, f2, f3⟩ := Cond.castable_spec (va_Nw.use (A := args) rfl hNW.2.2.2)
          cases hcls.1.symm.trans f1
          cases k3.symm.trans f2
          refine W.aast hx hb g1 (fun q h => by cases h) (fun h => by cases h) k1 k2 rfl hkE ⟨g5, by rw [arrV_size, g4]; exact g6⟩ q1 (fun q h => by rw [q3] at h; cases h) (by rw [q2]; exact hkC) (by rw [q2]; exact f3) rfl rfl hd (fun H1 e1 z oq => ?_)
          rw [g4] at e1 ⊢
          exact kk H1 _ cells slots ls hL (g8 H1 (by rw [e1]; rfl) z oq) (q_stL hlo g7) hc hs
        · cases h
      · split at h
        · rename_i hkb
          unfold q_put at h
          split at h
          · rename_i M1 hv
            cases h
            obtain ⟨cA, g1, g2, g3, g4, g5, g6, g7, rfl, g8⟩ := q_ast_sound hv (by decide) hH (H1 := H)
            obtain ⟨r, hr, cell, q1, q2, q3, q4⟩ := (hH.2.2.2.2.1 b).1 (by rw [hkb])
            rw [hkb] at hr q2
            cases hr
            obtain ⟨hSl, hcls⟩ := hKK.1 _ _ (rfl : qcl[4]? = some (RX4, TX4, 9))
            obtain ⟨kA, comp, k1, k2, k3, -⟩ := g3
            obtain ⟨kC, hkC, -⟩ := hcls.2
            have hcomp : comp = D.1 4 := Option.some.inj (k3.symm.trans hcls.1)
            subst hcomp
            refine W.aast hx hb g1 (fun q h => by cases h) (fun h => by cases h) k1 k2 rfl hkC ⟨g5, by rw [arrV_size, g4]; exact g6⟩ q1 (fun q h => by rw [q3] at h; cases h) (by rw [q2]; exact hkC) (by rw [q2]; exact va_assign hcls) rfl rfl hd (fun H1 e1 z oq => ?_)
            rw [g4] at e1 ⊢
            exact kk H1 _ cells slots ls hL (g8 H1 (by rw [e1]; rfl) z oq) (q_stL hlo g7) hc hs
          · cases h
        · cases h
    · rename_i j a rest
      split at h
      · rename_i hka
        unfold q_put at h
        split at h
        · rename_i M1 hv
          cases h
          obtain ⟨cA, g1, g2, g3, g4, g5, g6, g7, rfl, g8⟩ := q_ast_sound hv (by decide) hH (H1 := H)
          refine va_WaastN (C := "java/lang/Object") hx hb g1 (g2 _ _) (fun h => by cases h) (by rw [arrV_size, g4]; rintro (q | q); exact g5 q; omega) rfl rfl hd (fun H1 e1 z oq => ?_)
          rw [g4] at e1 ⊢
          exact kk H1 _ cells slots ls hL (g8 H1 (by rw [e1]; rfl) z oq) (q_stL hlo g7) hc hs
        · cases h
      · cases h
    · cases h
  case new x =>
    simp only [q_mm] at h
    split at h
    · rename_i ent he
      split at h
      · rename_i r t hr ht
        cases h
        obtain ⟨hm, hq1, hq2⟩ := q_lk_mem he
        have ok := List.all_eq_true.mp q_ctab_ok _ hm
        simp only [q_cokb, hq1, hq2, hown1, hr, Bool.and_eq_true] at ok
        obtain ⟨⟨ok1, ok2⟩, ok3⟩ := ok
        obtain ⟨hin, hnm, t', ht', hty⟩ := q_cok hr
        cases ht.symm.trans ht'
        have hKn := hKK.1 _ _ hr
        have hn1 : q_nc (q_al M (1, ent.1) r.2.2 (fun k => q_dv (t k))) = q_nc M + 1 := rfl
        have hn2 : q_ns (q_al M (1, ent.1) r.2.2 (fun k => q_dv (t k))) = q_ns M + r.2.2 := rfl
        rw [hn1] at hRc
        rw [hn2] at hRs
        have htop := hH.1
        refine W.newcK hx hb hown (hts _ (q_in_mem ok1)) (hts _ (q_in_mem ok2)) (hts _ (q_in_mem ok3)) rfl hd (by omega) (by omega) hKn.2.1 rfl fun H1 kC hkC e1 z1 o1 => ?_
        rw [htop]
        refine kk H1 locs _ _ ls hL (hH.al z1 o1 ⟨fun _ => ⟨r, hr, ?_⟩, fun k => by simp at k, fun k => by simp at k⟩) hlo (by rw [hn1]; omega) (by rw [hn2]; omega)
        refine (u_born t hts (fun w hw => hin w hw) hKn hkC e1 hty).to (fun k hk => q_dv_rv (q_tyok t (List.mem_of_getElem? ht) k ?_))
        have : ∀ r ∈ qcl, r.2.2 ≤ 20 := by decide
        have := this r (List.mem_of_getElem? hr)
        omega
      · cases h
    · cases h
  case newarray at_ =>
    simp only [q_mm] at h
    split at h
    · rename_i n rest
      split at h
      · rename_i hn
        have htop := hH.1
        obtain ⟨g1, g2⟩ := q_clamp hn.1 (by omega)
        have p31 : (2:Nat)^31 = 2147483648 := by decide
        split at h
        · cases h
          have hn1 : q_nc (q_al M (2, n.toNat) n.toNat (fun _ => qi 0)) = q_nc M + 1 := rfl
          have hn2 : q_ns (q_al M (2, n.toNat) n.toNat (fun _ => qi 0)) = q_ns M + n.toNat := rfl
          rw [hn1] at hRc
          rw [hn2] at hRs
          refine va_newaK hx hb (atype := .int) (hts _ (q_in_mem q_aci)) rfl hd rfl g2 g1 (by show n.toNat * 4 ≤ _; omega) (by omega) (by omega) rfl fun H1 cA e1 z1 o1 hAr hNm => ?_
          rw [htop]
          exact kk H1 locs _ _ ls hL (hH.al z1 o1 ⟨fun k => by simp at k, fun _ _ => ⟨by show n.toNat < _; omega, cA, e1, hAr, hNm⟩, fun k => by simp at k⟩) hlo (by rw [hn1]; omega) (by rw [hn2]; omega)
        · cases h
          have hn1 : q_nc (q_al M (3, n.toNat) n.toNat (fun _ => ql 0)) = q_nc M + 1 := rfl
          have hn2 : q_ns (q_al M (3, n.toNat) n.toNat (fun _ => ql 0)) = q_ns M + n.toNat := rfl
          rw [hn1] at hRc
          rw [hn2] at hRs
          refine va_newaK hx hb (atype := .long) (hts _ (q_in_mem q_acl)) rfl hd rfl g2 g1 (by show n.toNat * 8 ≤ _; omega) (by omega) (by omega) rfl fun H1 cA e1 z1 o1 hAr hNm => ?_
          rw [htop]
          exact kk H1 locs _ _ ls hL (hH.al z1 o1 ⟨fun k => by simp at k, fun _ _ => ⟨by show n.toNat < _; omega, cA, e1, hAr, hNm⟩, fun k => by simp at k⟩) hlo (by rw [hn1]; omega) (by rw [hn2]; omega)
        · cases h
          have hn1 : q_nc (q_al M (4, n.toNat) n.toNat (fun _ => qi 0)) = q_nc M + 1 := rfl
          have hn2 : q_ns (q_al M (4, n.toNat) n.toNat (fun _ => qi 0)) = q_ns M + n.toNat := rfl
          rw [hn1] at hRc
          rw [hn2] at hRs
          refine va_newaK hx hb (atype := .byte) (hts _ (q_in_mem q_acb)) rfl hd rfl g2 g1 (by show n.toNat * 1 ≤ _; omega) (by omega) (by omega) rfl fun H1 cA e1 z1 o1 hAr hNm => ?_
          rw [htop]
          exact kk H1 locs _ _ ls hL (hH.al z1 o1 ⟨fun k => by simp at k, fun _ _ => ⟨by show n.toNat < _; omega, cA, e1, hAr, hNm⟩, fun k => by simp at k⟩) hlo (by rw [hn1]; omega) (by rw [hn2]; omega)
        · cases h
      · cases h
    · cases h
  case anewarray x =>
    simp only [q_mm] at h
    split at h
    · rename_i n rest ent he
      split at h
      · rename_i hn
        obtain ⟨hn0, hn1', hn56⟩ := hn
        cases h
        obtain ⟨hm, hq1, hq2⟩ := q_lk_mem he
        have ok := List.all_eq_true.mp q_atab_ok _ hm
        simp only [q_aokb, hq1, hq2, hown1] at ok
        have htop := hH.1
        obtain ⟨g1, g2⟩ := q_clamp hn0 (by omega)
        have p31 : (2:Nat)^31 = 2147483648 := by decide
        have hn1 : q_nc (q_al M (ent.1, n.toNat) n.toNat (fun _ => qn)) = q_nc M + 1 := rfl
        have hn2 : q_ns (q_al M (ent.1, n.toNat) n.toNat (fun _ => qn)) = q_ns M + n.toNat := rfl
        rw [hn1] at hRc
        rw [hn2] at hRs
        have go : ∀ C : String, q_aty ent.1 = .object C → (Cond.classLink own x C).before args s = true → va_AO C s → W p l e R s m args below meth c H locs cells slots Q (F0 m pc ls ((qi n :: rest).map rv)) := by
          intro C hC hcl hao
          refine W.anew hx hb hown hcl (va_AO.use hao) rfl hd rfl g2 (by rw [g1]; omega) (by omega) (by rw [g1]; omega) fun cA kA comp f1 f2 f3 f4 => ?_
          rw [g1]
          generalize hH1 : H.push ({ cls := cA, slots := Array.replicate n.toNat .null, vm := .none } : Cell) = H1
          have z1 : H1.size = H.size + 1 := by rw [← hH1, Array.size_push]
          have e1 : H1[H.size]? = some (arrV cA n.toNat (fun _ => .null)) := by rw [← hH1, Array.getElem?_push_size, ← arrV_new]
          have o1 : ∀ q : Nat, q < H.size → H1[q]? = H[q]? := fun q hq => by rw [← hH1, Array.getElem?_push, if_neg (Nat.ne_of_lt hq)]
          have hAr : ArrOfT s cA (.object C) := fun N z => ⟨(fun k h => by cases h), kA, f2, comp, f3⟩
          rw [htop]
          exact kk H1 locs _ _ ls hL (hH.al z1 o1 ⟨fun k => by simp only at k; omega, fun _ _ => ⟨by show n.toNat < _; omega, cA, e1, by rw [hC]; exact hAr, by rw [hC]; exact ⟨kA, comp, f2, f3, f4, f1⟩⟩, fun k => by simp only at k; omega⟩) hlo (by rw [hn1]; omega) (by rw [hn2]; omega)
        rcases hn56 with h5 | h6
        · rw [if_neg (by omega)] at ok
          exact go "java/lang/Object" (by rw [h5]; rfl) (hts _ (q_in_mem ok)) hNW.2.2.1
        · rw [if_pos h6] at ok
          exact go "PlaceRegister$Place" (by rw [h6]; rfl) (hts _ (q_in_mem ok)) hNW.2.1
      · cases h
    · cases h
  case checkcast x =>
    simp only [q_mm] at h
    split at h
    · cases h
      exact lv_castN hx hb hd (kk H locs cells slots ls hL hH hlo hc hs)
    · rename_i a rest
      split at h
      · rename_i ent he
        split at h
        · rename_i hk
          cases h
          obtain ⟨hm, hq1, hq2⟩ := q_lk_mem he
          have ok := List.all_eq_true.mp q_ctab_ok _ hm
          obtain ⟨r, hr, cell, q1, q2, q3, q4⟩ := (hH.2.2.2.2.1 a).1 (by rw [hk])
          rw [hk] at hr q2
          simp only [q_cokb, hq1, hq2, hown1, hr, Bool.and_eq_true] at ok
          obtain ⟨⟨ok1, ok2⟩, ok3⟩ := ok
          have hcls := (hKK.1 _ _ hr).2
          have k := kk H locs cells slots ls hL hH hlo hc hs
          intro T hT XX
          obtain ⟨vm', X', stp⟩ := XX.checkcastYes hx hown (hts _ (q_in_mem ok1)) (by rw [hT]; exact q1) (by rw [q3]; rfl) hcls.1 (by rw [q2]; exact va_assign hcls) (g := F0 m pc ls (.ref a :: rest.map rv)) rfl rfl (by rw [hb]; exact hd)
          obtain ⟨t, a1, b1⟩ := k (T.setVm vm') hT X'
          exact ⟨t, stp t a1, b1⟩
        · cases h
      · cases h
    · cases h
  case ldc x =>
    simp only [q_mm] at h
    split at h
    · rename_i ent he
      cases h
      obtain ⟨hm, hq1, hq2⟩ := q_lk_mem he
      have ok := List.all_eq_true.mp q_ltab_ok _ hm
      simp only [q_lokb, hq1, hq2, hown1] at ok
      exact lv_ldc hx hb hown (hts _ (q_in_mem ok)) hd (kk H locs cells slots ls hL hH hlo hc hs)
    · cases h
  case ldc_w x =>
    simp only [q_mm] at h
    split at h
    · rename_i ent he
      cases h
      obtain ⟨hm, hq1, hq2⟩ := q_lk_mem he
      have ok := List.all_eq_true.mp q_ltab_ok _ hm
      simp only [q_lokb, hq1, hq2, hown1] at ok
      exact lv_ldcw hx hb hown (hts _ (q_in_mem ok)) hd (kk H locs cells slots ls hL hH hlo hc hs)
    · cases h
  case ldc2_w x =>
    simp only [q_mm] at h
    split at h
    · rename_i ent he
      cases h
      obtain ⟨hm, hq1, hq2⟩ := q_lk_mem he
      have ok := List.all_eq_true.mp q_l2tab_ok _ hm
      simp only [q_l2okb, hq1, hq2, hown1] at ok
      exact lv_ldc2 hx hb hown (hts _ (q_in_mem ok)) hd (kk H locs cells slots ls hL hH hlo hc hs)
    · cases h
  case getstatic x =>
    simp only [q_mm] at h
    split at h
    · rename_i ent he
      cases h
      obtain ⟨hm, hq1, hq2⟩ := q_lk_mem he
      have ok := List.all_eq_true.mp q_stab_ok _ hm
      simp only [q_sokb, hq1, hq2, hown1] at ok
      obtain ⟨cf, kf, fi, f, a1, cell, w1, w2, w3, w4, w5, w6, w7, w8⟩ := hH.2.2.2.2.2.2.2 _ hm
      exact W.gets hx hb hown (hts _ (q_in_mem ok)) w1 w2 w3 w4 w5 (fun q => by rw [q] at w6; cases w6) w7 rfl hd (kk H locs cells slots ls hL hH hlo hc hs)
    · cases h
  case invokespecial x =>
    simp only [q_mm] at h
    split at h
    · rename_i a rest ent he
      split at h
      · rename_i hw
        cases h
        obtain ⟨hm, hq1, hq2⟩ := q_lk_mem he
        have ok := List.all_eq_true.mp q_otab_ok _ hm
        simp only [q_ookb, hq1, hq2, hown1] at ok
        have hw2 : ((st0.map rv).map fun v => v.category).sum ≤ 8 := by
          rw [List.map_map]
          have : ((fun v : Value => v.category) ∘ rv) = q_wd := by funext v; exact q_wd_rv v
          rw [this]; exact hw
        have hw3 := lv_room (pc := pc) (ls := ls) (m := m) (rest := rv (qr a) :: st0.map rv) hw2
        refine W.objInit hx hb hown (hts _ (q_in_mem ok)) (hts _ (q_in_mem q_oi1)) (hts _ (q_in_mem q_oi2)) rfl (by rw [hml]; exact hL.2.1) (a := a) rfl hd hR.1 ?_ (kk H locs cells slots ls hL hH hlo hc hs)
        have := hR.2
        show 2 * (F0 m pc ls (rv (qr a) :: st0.map rv)).monitorRoom + _ + 12 ≤ _
        omega
      · cases h
    · cases h
  all_goals (simp [q_mm] at h; done)
end QMM
