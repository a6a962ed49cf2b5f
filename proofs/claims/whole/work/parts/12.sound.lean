/-! a run of ours is a run of the machine -/
def q_rm (d mc ms : Nat) : Room := { frames := d, cells := mc, slots := ms, locals := 64 * d + 256 }
def q_ws (e : QD) : List Jvm.Cond := .code e.1 e.2.1 e.2.2.1 e.2.2.2.1 :: qT
def q_Pc (D : va_G) (H0 : Heap) (as : List CV) (M : QM) : Array Value → State → Prop := fun v U => v = (as.map rv).toArray ∧ q_HR D H0 U M U.heap ∧ q_NX (q_gs M) H0 U
def q_Qc (D : va_G) (H0 : Heap) (r : Option CV) (M1 : QM) : Array Value → State → Outcome → State → Prop := fun _ _ oc t => oc = .returned (r.map rv) ∧ q_HR D H0 t M1 t.heap
def q_SC (l : Launch) (D : va_G) (H0 : Heap) (C : QC) (d : Nat) : Prop := ∀ (y : Nat) (as : List CV) (M : QM) (r : Option CV) (M1 : QM), C y as M r M1 → q_mono M M1 ∧ ∀ ent : QD, q_mtab[y]? = some ent → Met l ent.1 (q_ws ent) (q_rm d (q_nc M1 - q_nc M) (q_ns M1 - q_ns M)) (q_Pc D H0 as M) (q_Qc D H0 r M1) (q_nc M1 - q_nc M) (q_ns M1 - q_ns M) (fun q => H0.size ≤ q)
theorem q_blind {D : va_G} {H0 : Heap} {as : List CV} {M : QM} : FrameBlind (q_Pc D H0 as M) := fun a U g mk q => by
  obtain ⟨h1, h2, h3⟩ := q
  exact ⟨h1, q_HR.moved (u := U) (U := U.calling g mk a) (Vm.Alike.refl U.vm) h2, q_NX.same (s := U) (U := U.calling g mk a) rfl h3⟩
theorem q_qT_good : ∀ w ∈ qT, (w.onTables && w.keeps) = true ∨ ∃ ty, w = .arrayClass ty := fun w hw => good_of_word (List.mem_filter.mp hw).2
theorem q_ws_good {y : Nat} {ent : QD} (h : q_mtab[y]? = some ent) : GoodIn qT (q_ws ent) := by
  intro w hw
  have hm : w ∈ qT := by
    rcases List.mem_cons.mp hw with q | q
    · rw [q]; exact q_mtab_cd _ (List.mem_of_getElem? h)
    · exact q
  exact ⟨hm, q_qT_good w hm⟩
theorem q_sumc (rs : List CV) : ((rs.map rv).map fun v => v.category).sum = (rs.map q_wd).sum := by
  rw [List.map_map]
  have : ((fun v : Value => v.category) ∘ rv) = q_wd := by funext v; exact q_wd_rv v
  rw [this]
set_option maxRecDepth 8000 in
theorem q_rmle {a d r : Nat} (h : a ≤ 45) (h2 : 64 * d + 320 ≤ r) : 8 + (a + 11) + (64 * d + 256) ≤ r := by omega
section QCALL
variable {p : Program} {l : Launch} {e : Env} {R : Room} {s : State} {m : MethodId} {args : Array Value} {below : List Frame} {meth : Method} {c : Code} {H : Heap} {locs : List Loc} {cells slots : Nat} {Q : State → Prop} {cc : ByteArray} {nL ow : Nat} {own : String} {ini : Bool}
variable {D : va_G} {H0 : Heap} {M : QM} {b0 b1 : Nat}
theorem q_call {mc ms pc : Nat} {ls : Array Slot} {stk rest : List Value} {r : Option CV} {M1 : QM} {a : Array Value} (hr : va_Run p l e R s m args below meth c H locs cells slots mc ms (F0 m pc ls stk) rest (q_Qc D H0 r M1 a) (fun q => H0.size ≤ q)) (hlo : ∀ q ∈ locs, H0.size ≤ q.base)
    (kk : ∀ (H' : Heap) (locs' : List Loc), q_HR D H0 s M1 H' → (∀ q ∈ locs', H0.size ≤ q.base) → W p l e R s m args below meth c H' locs' (cells + mc) (slots + ms) Q (F0 m (pc + 3) ls ((r.map rv).toList ++ rest))) : W p l e R s m args below meth c H locs cells slots Q (F0 m pc ls stk) := by
  intro T hT X
  obtain ⟨v, st₀, t, T', L, h0, X', hL, e1, e2, ⟨hv, hh⟩, stp⟩ := hr T hT X
  have hv' : v = r.map rv := Outcome.returned.inj hv
  subst hv'
  have hal : s.vm.Alike t.vm := by rw [← e2]; exact X'.warmed.alike
  obtain ⟨t2, a1, b1⟩ := kk T'.heap (locs ++ L) (by rw [e1]; exact hh.moved hal.symm) (fun q hq => by
    rcases List.mem_append.mp hq with h | h
    · exact hlo q h
    · exact hL q h) T' rfl X'
  exact ⟨t2, stp t2 a1, b1⟩
theorem q_recv {b c0 : Nat} (hk : q_kd M b = (1, c0)) (hH : q_HR D H0 s M H) : ∃ r : vw_C, qcl[c0]? = some r ∧ ClassAt s r.1 (D.1 c0) ∧ ∃ cell : Cell, H[b]? = some cell ∧ cell.vm.isStatics = false ∧ s.vm.findClass r.1 = some cell.cls := by
  obtain ⟨r, hr, cell, q1, q2, q3, q4⟩ := (hH.2.2.2.2.1 b).1 (by rw [hk])
  rw [hk] at hr q2
  have hat := (hH.2.2.2.2.2.2.1.1 _ _ hr).2
  exact ⟨r, hr, hat, cell, q1, by rw [q3]; rfl, by rw [q2]; exact hat.1⟩
set_option maxHeartbeats 4000000 in
theorem q_inv_sound {d : Nat} {C : QC} (hC : q_SC l D H0 C d) (X : q_Cx p s m meth c cc args nL ow own ini) {i : Instr} {len pc : Nat} {L : QL} {st : List CV} {ls : Array Slot} {call : Nat × List CV × List CV} {r : Option CV} {M1 : QM} (hd : decode cc pc = .ok (i, len)) (h : q_inv ow i len st M = some call) (hcall : C call.1 call.2.1 M r M1) (hL : q_LR nL ls L) (hH : q_HR D H0 s M H) (hX : q_NX (q_gs M) H0 s)
    (hlo : ∀ q ∈ locs, H0.size ≤ q.base) (hc : cells + b0 = q_nc M) (hs : slots + b1 = q_ns M) (hRc : q_nc M1 ≤ R.cells + b0) (hRs : q_ns M1 ≤ R.slots + b1) (hR : d + 1 ≤ R.frames ∧ 64 * d + 320 ≤ R.locals)
    (kk : ∀ (H' : Heap) (locs' : List Loc) (cells' slots' : Nat) (ls' : Array Slot), q_LR nL ls' L → q_HR D H0 s M1 H' → (∀ q ∈ locs', H0.size ≤ q.base) → cells' + b0 = q_nc M1 → slots' + b1 = q_ns M1 → W p l e R s m args below meth c H' locs' cells' slots' Q (F0 m (pc + 3) ls' ((r.toList ++ call.2.2).map rv))) :
    W p l e R s m args below meth c H locs cells slots Q (F0 m pc ls (st.map rv)) := by
  obtain ⟨hx, hb, hml, hown1, hown, hts, hNW, hini, hlocks⟩ := X
  have hS : CallFix p m c cc nL s args qT own := ⟨hx, hb, hml, hown, hts⟩
  have hpre : ∀ as : List CV, ∀ U : State, U.heap = H → s.WarmedH U.vm → q_Pc D H0 as M (as.map rv).toArray U := fun as U hU hW => ⟨rfl, by rw [hU]; exact hH.moved hW.alike, hX.warm hW⟩
  have fin : ∀ {y : Nat} {as rest : List CV} {stk : List Value} {a : Array Value}, C y as M r M1 → call.2.2 = rest → va_Run p l e R s m args below meth c H locs cells slots (q_nc M1 - q_nc M) (q_ns M1 - q_ns M) (F0 m pc ls stk) (rest.map rv) (q_Qc D H0 r M1 a) (fun q => H0.size ≤ q) → W p l e R s m args below meth c H locs cells slots Q (F0 m pc ls stk) := by
    intro y as rest stk a hcl hrest hrun
    have hmn := (hC _ _ _ _ _ hcl).1
    refine q_call hrun hlo (fun H' locs' g1 g2 => ?_)
    have k := kk H' locs' (cells + (q_nc M1 - q_nc M)) (slots + (q_ns M1 - q_ns M)) ls hL g1 g2 (by have := hmn.1; omega) (by have := hmn.2.1; omega)
    rw [hrest, List.map_append] at k
    have : (r.map rv).toList = r.toList.map rv := by cases r <;> rfl
    rw [this]
    exact k
  have caps : ∀ {y : Nat} {as : List CV}, C y as M r M1 → cells + (q_nc M1 - q_nc M) ≤ R.cells ∧ slots + (q_ns M1 - q_ns M) ≤ R.slots := by
    intro y as hcl
    have hmn := (hC _ _ _ _ _ hcl).1
    have := hmn.1
    have := hmn.2.1
    omega
  have stk : ∀ {n : Nat} {b : CV} {rest : List CV}, st.drop n = b :: rest → st.map rv = ((st.take n).reverse.map rv).reverse ++ rv b :: rest.map rv := by
    intro n b rest hdrop
    rw [← List.map_reverse, List.reverse_reverse, ← List.map_cons, ← hdrop, ← List.map_append, List.take_append_drop]
  have mok : ∀ {y : Nat} {ent : QD}, q_mtab[y]? = some ent → q_own[ent.2.2.2.2.2.2]? = some ent.1.cls ∧ ent.2.2.1 ≤ 45 ∧ (ent.1.cls ≠ "java/lang/invoke/MethodHandle" ∧ ent.1.cls ≠ "java/lang/invoke/VarHandle") ∧ (parseMethodDescriptor ent.1.desc).map (fun d => d.parameters.length) = some ent.2.2.2.2.1 := by
    intro y ent he
    have := List.all_eq_true.mp q_mtab_ok _ (List.mem_of_getElem? he)
    simp only [q_mokb, Bool.and_eq_true, decide_eq_true_eq] at this
    exact ⟨this.1, this.2.2.1, this.2.2.2.1, this.2.2.2.2⟩
  have hroom : ∀ {ent : QD}, ent.2.2.1 ≤ 45 → (q_rm d (q_nc M1 - q_nc M) (q_ns M1 - q_ns M)).frames + 1 ≤ R.frames ∧ 8 + (ent.2.2.1 + 11) + (q_rm d (q_nc M1 - q_nc M) (q_ns M1 - q_ns M)).locals ≤ R.locals := by
    intro ent h45
    refine ⟨hR.1, ?_⟩
    exact q_rmle h45 hR.2
  cases i
  case invokestatic x =>
    simp only [q_inv] at h
    split at h
    · rename_i ent he
      split at h
      · rename_i dd hdd
        split at h
        · rename_i hk
          obtain ⟨hk12, hlen, hw⟩ := hk
          cases h
          obtain ⟨hm, hq1, hq2⟩ := q_lk_mem he
          have ok := List.all_eq_true.mp q_itab_ok _ hm
          obtain ⟨mo1, mo2, mo3, mo4⟩ := mok hdd
          have hst : st.map rv = ((st.take dd.2.2.2.2.1).reverse.map rv).reverse ++ (st.drop dd.2.2.2.2.1).map rv := by
            rw [← List.map_reverse, List.reverse_reverse, ← List.map_append, List.take_append_drop]
          have hMet := (hC _ _ _ _ _ hcall).2 _ hdd
          have hn : ((st.take dd.2.2.2.2.1).reverse.map rv).length = dd.2.2.2.2.1 := by simp; omega
          have hrw := lv_room (pc := pc) (ls := ls) (m := m) (rest := st.map rv) (by rw [q_sumc]; exact hw : (((st.drop dd.2.2.2.2.1).map rv).map fun v => v.category).sum ≤ 8)
          rcases hk12 with hk1 | hk2
          · simp only [q_iokb, hq1, hq2, hown1, hdd, hk1] at ok
            have := q_ins_mem ok
            simp only [List.forall_mem_cons] at this
            obtain ⟨w1, w2, w3, -⟩ := this
            exact fin hcall rfl (va_runS (As := (st.take dd.2.2.2.2.1).reverse.map rv) hS hMet ⟨callB_of dd.2.2.2.2.1 hts (q_ws_good hdd) rfl rfl rfl (hts _ w3) (hts _ w1) ⟨mo3.1, mo3.2, mo4⟩ (hroom mo2), hts _ w2⟩ ⟨q_blind, hpre _⟩ rfl hn hL.2.1 hst hrw hd (caps hcall))
          · simp only [q_iokb, hq1, hq2, hown1, hdd, hk2, Bool.and_eq_true, decide_eq_true_eq] at ok
            have := q_ins_mem ok.2
            simp only [List.forall_mem_cons] at this
            obtain ⟨w2, w3, -⟩ := this
            have w1 := va_Nw.use (A := args) rfl (hNW.1 _ (List.mem_of_getElem? ok.1))
            have hG := q_ws_good hdd
            have hcd : Cond.code dd.1 dd.2.1 dd.2.2.1 dd.2.2.2.1 ∈ q_ws dd := List.mem_cons_self
            exact fin hcall rfl (va_runSN (As := (st.take dd.2.2.2.2.1).reverse.map rv) (n := dd.2.2.2.2.1) hS hMet ⟨⟨⟨rfl, rfl, (hroom mo2).1, (hroom mo2).2, pay_in hts hG, hcd⟩, hts _ (hG _ hcd).1, hts _ w3, mo3, fun sig hsig => by rw [hsig] at mo4; exact (Option.some.inj mo4).symm, w1⟩, hts _ w2, trivial⟩ ⟨q_blind, hpre _⟩ rfl hn hL.2.1 hst hrw hd (caps hcall))
        · cases h
      · cases h
    · cases h
  case invokevirtual x =>
    simp only [q_inv] at h
    split at h
    · rename_i ent he
      split at h
      · rename_i dd hdd
        split at h
        · rename_i b rest hdrop
          split at h
          · rename_i hk
            obtain ⟨hkk, hw, hlen⟩ := hk
            cases h
            obtain ⟨hm, hq1, hq2⟩ := q_lk_mem he
            have ok := List.all_eq_true.mp q_itab_ok _ hm
            obtain ⟨mo1, mo2, mo3, mo4⟩ := mok hdd
            have hst := stk hdrop
            have hMet := (hC _ _ _ _ _ hcall).2 _ hdd
            have hn : ((st.take dd.2.2.2.2.1).reverse.map rv).length = dd.2.2.2.2.1 := by simp; omega
            have hrw := lv_room (pc := pc) (ls := ls) (m := m) (rest := st.map rv) (by rw [q_sumc]; exact hw : ((rest.map rv).map fun v => v.category).sum ≤ 8)
            have hG := q_ws_good hdd
            have hcd : Cond.code dd.1 dd.2.1 dd.2.2.1 dd.2.2.2.1 ∈ q_ws dd := List.mem_cons_self
            have hpr := hpre (qr b :: (st.take dd.2.2.2.2.1).reverse)
            rcases hkk with ⟨hk05, hkd⟩ | ⟨hk8, hbs⟩
            · obtain ⟨r0, hr0, hat, hrecv⟩ := q_recv hkd hH
              rcases hk05 with hk0 | hk5
              · simp only [q_iokb, hq1, hq2, hown1, hdd, hk0, hr0, Bool.and_eq_true, decide_eq_true_eq] at ok
                have := q_ins_mem ok.1
                simp only [List.forall_mem_cons] at this
                obtain ⟨w1, w2, w3, w4, -⟩ := this
                exact fin hcall rfl (va_runV (As := (st.take dd.2.2.2.2.1).reverse.map rv) (b := b) (C := r0.1) hS hMet ⟨callB_of dd.2.2.2.2.1 hts hG rfl rfl rfl (by rw [← ok.2]; exact hts _ w4) (hts _ w1) ⟨mo3.1, mo3.2, mo4⟩ (hroom mo2), hts _ w2, hts _ w3⟩ ⟨q_blind, hrecv, hpr⟩ rfl hn hL.2.1 hst hrw hd (caps hcall))
              · simp only [q_iokb, hq1, hq2, hown1, hdd, hk5, hr0] at ok
                have := q_ins_mem ok
                simp only [List.forall_mem_cons] at this
                obtain ⟨w1, w2, w3, w4, w5, -⟩ := this
                have hcode := hts _ (hG _ hcd).1
                exact fin hcall rfl (va_runU (As := (st.take dd.2.2.2.2.1).reverse.map rv) (b := b) (C := r0.1) (x := dd.1) (owner := dd.1.cls) (n := dd.2.2.2.2.1) hS hMet ⟨⟨rfl, rfl, (hroom mo2).1, (hroom mo2).2, pay_in hts hG, hcd⟩, hcode, hts _ w5, mo3, fun sig hsig => by rw [hsig] at mo4; exact (Option.some.inj mo4).symm, hts _ w1, hts _ w2, va_Decl.of (hts _ w4) hcode, hts _ w3, hts _ w4⟩ ⟨q_blind, hrecv, hpr⟩ rfl hn hL.2.1 hst hrw hd (caps hcall))
            · subst hbs
              simp only [q_iokb, hq1, hq2, hown1, hdd, hk8, Bool.and_eq_true, decide_eq_true_eq] at ok
              have := q_ins_mem ok.1
              simp only [List.forall_mem_cons] at this
              obtain ⟨w1, w2, w3, w4, -⟩ := this
              obtain ⟨cell, g1, g2, g3, g4⟩ := hX.2.2.1
              exact fin hcall rfl (va_runV (As := (st.take dd.2.2.2.2.1).reverse.map rv) (b := q_gs M 1) (C := "java/lang/String") hS hMet ⟨callB_of dd.2.2.2.2.1 hts hG rfl rfl rfl (by rw [ok.2]; exact hts _ w4) (hts _ w1) ⟨mo3.1, mo3.2, mo4⟩ (hroom mo2), hts _ w2, hts _ w3⟩ ⟨q_blind, ⟨cell, q_low hH g1, g2, g3⟩, hpr⟩ rfl hn hL.2.1 hst hrw hd (caps hcall))
          · cases h
        · cases h
      · cases h
    · cases h
  case invokespecial x =>
    simp only [q_inv] at h
    split at h
    · rename_i ent he
      split at h
      · rename_i dd hdd
        split at h
        · rename_i b rest hdrop
          split at h
          · rename_i hk
            obtain ⟨hkk, hw, hlen⟩ := hk
            cases h
            obtain ⟨hm, hq1, hq2⟩ := q_lk_mem he
            have ok := List.all_eq_true.mp q_itab_ok _ hm
            obtain ⟨mo1, mo2, mo3, mo4⟩ := mok hdd
            have hst := stk hdrop
            have hMet := (hC _ _ _ _ _ hcall).2 _ hdd
            have hn : ((st.take dd.2.2.2.2.1).reverse.map rv).length = dd.2.2.2.2.1 := by simp; omega
            have hrw := lv_room (pc := pc) (ls := ls) (m := m) (rest := st.map rv) (by rw [q_sumc]; exact hw : ((rest.map rv).map fun v => v.category).sum ≤ 8)
            have hG := q_ws_good hdd
            have hcd : Cond.code dd.1 dd.2.1 dd.2.2.1 dd.2.2.2.1 ∈ q_ws dd := List.mem_cons_self
            have hpr := hpre (qr b :: (st.take dd.2.2.2.2.1).reverse)
            rcases hkk with hk34 | ⟨hk7, hkd⟩
            · rcases hk34 with hk3 | hk4
              · simp only [q_iokb, hq1, hq2, hown1, hdd, hk3, Bool.and_eq_true, decide_eq_true_eq] at ok
                obtain ⟨ok1, ok2, ok3⟩ := ok
                have := q_ins_mem ok1
                simp only [List.forall_mem_cons] at this
                obtain ⟨w1, w2, w3, -⟩ := this
                exact fin hcall rfl (va_runI (As := (st.take dd.2.2.2.2.1).reverse.map rv) (b := b) hS hMet ⟨callB_of dd.2.2.2.2.1 hts hG (by rw [← ok3]; rfl) rfl rfl (hts _ w3) (hts _ w1) ⟨mo3.1, mo3.2, mo4⟩ (hroom mo2), ok2, hts _ w2⟩ ⟨q_blind, hpr⟩ rfl hn hL.2.1 hst hrw hd (caps hcall))
              · simp only [q_iokb, hq1, hq2, hown1, hdd, hk4, Bool.and_eq_true, decide_eq_true_eq] at ok
                obtain ⟨ok0, ok1, ok2, ok3⟩ := ok
                have := q_ins_mem ok1
                simp only [List.forall_mem_cons] at this
                obtain ⟨w2, w3, -⟩ := this
                have w1 := va_Nw.use (A := args) rfl (hNW.1 _ (List.mem_of_getElem? ok0))
                rw [ok3] at hcd
                exact fin hcall rfl (va_runIN (As := (st.take dd.2.2.2.2.1).reverse.map rv) (b := b) (n := dd.2.2.2.2.1) hS hMet ⟨⟨⟨rfl, rfl, (hroom mo2).1, (hroom mo2).2, pay_in hts hG, hcd⟩, hts _ (hG _ hcd).1, hts _ w3, mo3, fun sig hsig => by rw [hsig] at mo4; exact (Option.some.inj mo4).symm, w1⟩, ok2, hts _ w2⟩ ⟨q_blind, hpr⟩ rfl hn hL.2.1 hst hrw hd (caps hcall))
            · obtain ⟨r0, hr0, hat, hrecv⟩ := q_recv (c0 := (q_kd M b).2) (by rw [← hkd]) hH
              simp only [q_iokb, hq1, hq2, hown1, hdd, hk7, Bool.and_eq_true, decide_eq_true_eq] at ok
              have := q_ins_mem ok.1
              simp only [List.forall_mem_cons] at this
              obtain ⟨w1, w2, w3, w4, w5, -⟩ := this
              exact fin hcall rfl (va_runSU (As := (st.take dd.2.2.2.2.1).reverse.map rv) (b := b) (C := r0.1) (n := dd.2.2.2.2.1) hat hS hMet ⟨⟨rfl, rfl, (hroom mo2).1, (hroom mo2).2, pay_in hts hG, hcd⟩, hts _ w1, hts _ w2, hts _ w3, hts _ w4, hts _ w5, hts _ (hG _ hcd).1, ok.2, fun sig hsig => by rw [hsig] at mo4; exact (Option.some.inj mo4).symm⟩ ⟨q_blind, hrecv, hpr⟩ rfl hn hL.2.1 hst hrw hd (caps hcall))
          · cases h
        · cases h
      · cases h
    · cases h
  all_goals (simp [q_inv] at h; done)
/-- an end of a run, at a return of this kind -/
def q_endk (Q : State → Prop) (p : Program) (l : Launch) (e : Env) (R : Room) (s : State) (m : MethodId) (args : Array Value) (below : List Frame) (meth : Method) (c : Code) (cc : ByteArray) (D : va_G) (H0 : Heap) (ret : Option FieldType) (b0 b1 : Nat) (v : Option CV) (M1 : QM) : Prop :=
  ∀ (H : Heap) (locs : List Loc) (cells slots pc : Nat) (ls : Array Slot) (i : Instr) (len : Nat) (st : List CV), decode cc pc = .ok (i, len) → q_fin ret i len st = some v → q_HR D H0 s M1 H → (∀ q ∈ locs, H0.size ≤ q.base) → cells + b0 = q_nc M1 → slots + b1 = q_ns M1 → W p l e R s m args below meth c H locs cells slots Q (F0 m pc ls (st.map rv))
set_option maxHeartbeats 4000000 in
theorem q_Rn_sound {d : Nat} {C : QC} {ret : Option FieldType} (hC : q_SC l D H0 C d) (X : q_Cx p s m meth c cc args nL ow own ini) (hR : d + 1 ≤ R.frames ∧ 64 * d + 320 ≤ R.locals) {v : Option CV} {M1 : QM} (hRc : q_nc M1 ≤ R.cells + b0) (hRs : q_ns M1 ≤ R.slots + b1) (hend : q_endk Q p l e R s m args below meth c cc D H0 ret b0 b1 v M1) :
    ∀ (n : Nat) (pc : Nat) (L : QL) (st : List CV) (M : QM), Rn C (ow, cc, ini, ret) n (pc, L, st, M) (q_ex v M1) → ∀ (H : Heap) (locs : List Loc) (cells slots : Nat) (ls : Array Slot), q_LR nL ls L → q_HR D H0 s M H → q_NX (q_gs M) H0 s → (∀ q ∈ locs, H0.size ≤ q.base) → cells + b0 = q_nc M → slots + b1 = q_ns M → W p l e R s m args below meth c H locs cells slots Q (F0 m pc ls (st.map rv))
  | 0, _, _, _, _, h => h.elim
  | n + 1, pc, L, st, M, h => by
    intro H locs cells slots ls hL hH hX hlo hc hs
    have hCm : ∀ y as M r M1, C y as M r M1 → q_mono M M1 := fun y as M r M1 h => (hC y as M r M1 h).1
    have ih := q_Rn_sound hC X hR hRc hRs hend n
    obtain ⟨i, len, hd, h⟩ := h
    have hx := X.1
    have hb := X.2.1
    have hR2 : 1 ≤ R.frames ∧ 220 ≤ R.locals := ⟨by omega, by omega⟩
    have hR3 : 1 ≤ R.frames ∧ 20 ≤ R.locals := ⟨by omega, by omega⟩
    split at h
    · rename_i S' hS
      have hm1 := q_mono_stp hS
      have hm2 := Rn_mono hCm n S' h
      obtain ⟨pc', L', st', M'⟩ := S'
      have hc1 : q_nc M' ≤ q_nc M1 := hm2.1
      have hs1 : q_ns M' ≤ q_ns M1 := hm2.2.1
      have hX' : q_NX (q_gs M') H0 s := by rw [show q_gs M' = q_gs M from hm1.2.2]; exact hX
      have nx := fun (H' : Heap) (locs' : List Loc) (cells' slots' : Nat) (ls' : Array Slot) (a1 : q_LR nL ls' L') (a2 : q_HR D H0 s M' H') (a3 : ∀ q ∈ locs', H0.size ≤ q.base) (a4 : cells' + b0 = q_nc M') (a5 : slots' + b1 = q_ns M') => ih pc' L' st' M' h H' locs' cells' slots' ls' a1 a2 hX' a3 a4 a5
      unfold q_stp at hS
      split at hS
      · rename_i q hq
        obtain ⟨q1, q2, q3⟩ := q
        cases hS
        exact q_pl_sound hx hb hd hq hL (fun ls1 h1 => nx H locs cells slots ls1 h1 hH hlo hc hs)
      · split at hS
        · rename_i q hq
          cases hS
          exact q_mm_sound X hd hq hL hH hlo hc hs (Nat.le_trans hc1 hRc) (Nat.le_trans hs1 hRs) hR3 nx
        · split at hS
          · rename_i q hq
            cases hS
            exact q_ac_sound X hd hq hL hH hlo hc hs hR2 nx
          · have hm := q_mono_xs hS
            have h1 : q_nc M ≤ q_nc M' := hm.1
            have h2 : q_ns M ≤ q_ns M' := hm.2.1
            exact q_xs_sound X hd hS hL hH hX hlo hc hs hR2 (by omega) (by omega) nx
    · split at h
      · rename_i v' hv
        obtain ⟨h1, h2⟩ := h
        subst h1
        subst h2
        exact hend H locs cells slots pc ls i len st hd hv hH hlo hc hs
      · split at h
        · rename_i cl hcl
          obtain ⟨v1, M2, h1, h2⟩ := h
          have hm1 := hCm _ _ _ _ _ h1
          have hm2 := Rn_mono hCm n _ h2
          have hc1 := hm2.1
          have hs1 := hm2.2.1
          have hX' : q_NX (q_gs M2) H0 s := by rw [hm1.2.2]; exact hX
          exact q_inv_sound hC X hd hcl h1 hL hH hX hlo hc hs (Nat.le_trans hc1 hRc) (Nat.le_trans hs1 hRs) hR (fun H' locs' cells' slots' ls' a1 a2 a3 a4 a5 => ih (pc + 3) L _ M2 h2 H' locs' cells' slots' ls' a1 a2 hX' a3 a4 a5)
        · exact h.elim
theorem q_charN : ∀ z : Int, 0 ≤ z → z ≤ 65535 → narrow .char (.int (Int32.ofInt z)) = .int (Int32.ofInt z) := by
  intro z h0 h1
  have e : Int32.ofInt z = nI z.toNat := by
    show _ = Int32.ofNat z.toNat
    rw [← Int32.ofInt_eq_ofNat, Int.toNat_of_nonneg h0]
  rw [e]
  exact (pk_charN (by omega)).1
theorem q_rt_ok {t : FieldType} {z : Int} (h : q_rt t z = true) : narrow t (.int (Int32.ofInt z)) = .int (Int32.ofInt z) := by
  cases t <;> simp only [q_rt, Bool.false_eq_true, Bool.or_eq_true, Bool.and_eq_true, decide_eq_true_eq] at h
  · have := (q_byte (z + 128).toNat (by omega)).1
    have e : (((z + 128).toNat : Nat) : Int) - 128 = z := by omega
    rw [e] at this
    exact this
  · exact q_charN z h.1 h.2
  · rfl
  · rcases h with rfl | rfl <;> decide
theorem q_end_ok {v : Option CV} {M1 : QM} {ret : Option FieldType} {mc ms : Nat} (hx : p.tables.exec = Jvm.exec) (hb : c.code = cc) (hr : meth.sig.returnType = ret) (hlocks : meth.locks = false) (hc : q_nc M1 = mc + b0) (hs : q_ns M1 = ms + b1) :
    q_endk (MQ below (q_Qc D H0 v M1) args s mc ms (fun q => H0.size ≤ q)) p l e R s m args below meth c cc D H0 ret b0 b1 v M1 := by
  intro H locs cells slots pc ls i len st hd hf hH hlo hce hse
  have e1 : cells = mc := by omega
  have e2 : slots = ms := by omega
  subst e1; subst e2
  have hq : ∀ (o : Option CV), v = o → ∀ t : State, t.heap = H → s.WarmedH t.vm → q_Qc D H0 v M1 args s (.returned (o.map rv)) t := fun o ho t ht hW => ⟨by rw [ho], by rw [ht]; exact hH.moved hW.alike⟩
  unfold q_fin at hf
  split at hf
  · split at hf
    · split at hf
      · rename_i hrt
        cases hf
        exact W.zret hx hb hr (q_rt_ok hrt) (hq _ rfl) hlo hd hlocks
      · cases hf
    · cases hf
  · split at hf
    · cases hf
      exact W.lret hx hb hr (hq _ rfl) hlo hd hlocks
    · cases hf
  · split at hf
    · rename_i r n
      cases hf
      exact W.aret hx hb hr (Or.inl ⟨_, rfl⟩) (by cases r with | none => exact Or.inl rfl | some a => exact Or.inr ⟨a, rfl⟩) (hq _ rfl) hlo hd hlocks
    · rename_i r n
      cases hf
      exact W.aret hx hb hr (Or.inr ⟨_, rfl⟩) (by cases r with | none => exact Or.inl rfl | some a => exact Or.inr ⟨a, rfl⟩) (hq _ rfl) hlo hd hlocks
    · cases hf
  · split at hf
    · cases hf
      exact W.vret hx hb hr (hq _ rfl) hlo hd hlocks
    · cases hf
  · cases hf
end QCALL
theorem q_ent_sl : ∀ as : List CV, (lg_sl (as.map rv)).length = (q_ent as).length
  | [] => rfl
  | .inl z :: vs => by simpa [lg_sl, q_ent, rv, Value.category] using q_ent_sl vs
  | .inr (.inl z) :: vs => by simpa [lg_sl, q_ent, rv, Value.category] using q_ent_sl vs
  | .inr (.inr none) :: vs => by simpa [lg_sl, q_ent, rv, Value.category] using q_ent_sl vs
  | .inr (.inr (some a)) :: vs => by simpa [lg_sl, q_ent, rv, Value.category] using q_ent_sl vs
theorem q_ent_lv : ∀ (as : List CV) (k : Nat) (L : QL), (∀ x ∈ L, x = none) → q_lv k (q_ent as ++ L) = lv_args k (as.map rv)
  | [], k, L, h => by
    show q_lv k L = []
    induction L generalizing k with
    | nil => rfl
    | cons x L ih =>
      rw [h x List.mem_cons_self]
      exact ih _ (fun y hy => h y (List.mem_cons_of_mem _ hy))
  | .inl z :: vs, k, L, h => by
    show (k, rv (qi z)) :: q_lv (k + 1) (q_ent vs ++ L) = (k, rv (qi z)) :: lv_args (k + 1) (vs.map rv)
    rw [q_ent_lv vs (k + 1) L h]
  | .inr (.inl z) :: vs, k, L, h => by
    show (k, rv (ql z)) :: q_lv (k + 2) (q_ent vs ++ L) = (k, rv (ql z)) :: lv_args (k + 2) (vs.map rv)
    rw [q_ent_lv vs (k + 2) L h]
  | .inr (.inr none) :: vs, k, L, h => by
    show (k, rv qn) :: q_lv (k + 1) (q_ent vs ++ L) = (k, rv qn) :: lv_args (k + 1) (vs.map rv)
    rw [q_ent_lv vs (k + 1) L h]
  | .inr (.inr (some a)) :: vs, k, L, h => by
    show (k, rv (qr a)) :: q_lv (k + 1) (q_ent vs ++ L) = (k, rv (qr a)) :: lv_args (k + 1) (vs.map rv)
    rw [q_ent_lv vs (k + 1) L h]
theorem q_entry {as : List CV} {n : Nat} (h : (q_ent as).length ≤ n) : q_LR n ((lg_sl (as.map rv) ++ List.replicate (n - (lg_sl (as.map rv)).length) Slot.unset).toArray) (q_L0 as n) := by
  have h1 := lv_entry (as.map rv) (n := n) (by rw [q_ent_sl]; exact h)
  refine ⟨by simp [q_L0]; omega, ?_⟩
  unfold q_L0
  rw [q_ent_lv as 0 _ (fun x hx => List.eq_of_mem_replicate hx)]
  exact h1
/-- a body that our machine runs is a method that meets its contract -/
theorem q_body_met {l : Launch} {D : va_G} {H0 : Heap} {C : QC} {d : Nat} (hC : q_SC l D H0 C d) {y : Nat} {as : List CV} {M : QM} {r : Option CV} {M1 : QM} (h : q_body C y as M r M1) :
    ∀ ent : QD, q_mtab[y]? = some ent → Met l ent.1 (q_ws ent) (q_rm (d + 1) (q_nc M1 - q_nc M) (q_ns M1 - q_ns M)) (q_Pc D H0 as M) (q_Qc D H0 r M1) (q_nc M1 - q_nc M) (q_ns M1 - q_ns M) (fun q => H0.size ≤ q) := by
  intro ent hent
  obtain ⟨ent', hent', hlen, n, hn⟩ := h
  cases hent.symm.trans hent'
  have ok := List.all_eq_true.mp q_mtab_ok _ (List.mem_of_getElem? hent)
  simp only [q_mokb, Bool.and_eq_true, decide_eq_true_eq] at ok
  have hmn := Rn_mono (fun y as M r M1 h => (hC y as M r M1 h).1) n _ hn
  refine Met.ofW (cc := ent.2.1) (maxL := ent.2.2.1) (ret := ent.2.2.2.1) ok.2.1 rfl ?_
  intro p e s m args below meth c s₁ B hml hv
  obtain ⟨rfl, hH, hX⟩ := hv
  have hts := atoms_spec (ws := q_ws ent) B.pre
  have hown : s.vm.findClass ent.1.cls = some m.cls := findClass_of_methodNamed B.named
  have hname : meth.name = ent.1.name := (name_of_methodNamed B.named B.method).1
  have CX : q_Cx p s m meth c ent.2.1 (as.map rv).toArray ent.2.2.1 ent.2.2.2.2.2.2 ent.1.cls (decide (ent.1.name = "<init>")) := ⟨B.exec, B.bytes, hml, ok.1, hown, fun w hw => hts w (List.mem_cons_of_mem _ hw), hX.1, fun h => by rw [hname]; exact of_decide_eq_true h, B.notSynchronized⟩
  rw [lg_entry_eq]
  have hc : q_nc M ≤ q_nc M1 := hmn.1
  have hs : q_ns M ≤ q_ns M1 := hmn.2.1
  refine q_Rn_sound (b0 := q_nc M) (b1 := q_ns M) hC CX ⟨Nat.le_refl _, by show 64 * d + 320 ≤ 64 * (d + 1) + 256; omega⟩ (by show q_nc M1 ≤ (q_nc M1 - q_nc M) + q_nc M; omega) (by show q_ns M1 ≤ (q_ns M1 - q_ns M) + q_ns M; omega) (q_end_ok B.exec B.bytes B.returns B.notSynchronized (by omega) (by omega)) n 0 _ [] M hn s.heap [] 0 0 _ (q_entry hlen) hH hX (fun q hq => absurd hq List.not_mem_nil) (by omega) (by omega)
theorem q_C_sound (l : Launch) (D : va_G) (H0 : Heap) : ∀ d : Nat, q_SC l D H0 (q_C d) d
  | 0 => fun _ _ _ _ _ h => h.elim
  | d + 1 => fun y as M r M1 h => ⟨q_C_mono (d + 1) y as M r M1 h, q_body_met (q_C_sound l D H0 d) h⟩
