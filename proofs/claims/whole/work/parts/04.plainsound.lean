/-! each plain step is sound -/
section QPL
variable {p : Program} {l : Launch} {e : Env} {R : Room} {s : State} {m : MethodId} {args : Array Value} {below : List Frame} {meth : Method} {c : Code} {H : Heap} {locs : List Loc} {cells slots : Nat} {Q : State → Prop} {cc : ByteArray} {nL : Nat}
theorem q_goS {b : Bool} {pc : Nat} {off : Int} {nx : Nat} {L : QL} {st : List CV} {ls : Array Slot} {pc' : Nat} {L' : QL} {st' : List CV} (h : q_go b (q_br pc off) nx L st = some (pc', L', st')) (hL : q_LR nL ls L) : q_LR nL ls L' ∧ st' = st ∧ ∃ tgt : Nat, (pc : Int) + off = (tgt : Int) ∧ pc' = if b then tgt else nx := by
  unfold q_go at h
  cases hb : q_br pc off with
  | none => rw [hb] at h; cases h
  | some t =>
    rw [hb] at h
    cases h
    exact ⟨hL, rfl, t, q_br_some hb, rfl⟩
theorem q_cmp0 {z : Int} : (q_R z → (Int32.ofInt z = 0 ↔ z = 0)) ∧ (q_R z → (Int32.ofInt z < 0 ↔ z < 0)) ∧ (q_R z → (Int32.ofInt z ≤ 0 ↔ z ≤ 0)) ∧ (q_R z → (0 < Int32.ofInt z ↔ 0 < z)) ∧ (q_R z → (0 ≤ Int32.ofInt z ↔ 0 ≤ z)) := by
  have h0 : q_R 0 := by decide
  have e0 : Int32.ofInt 0 = 0 := by decide
  refine ⟨fun h => ?_, fun h => ?_, fun h => ?_, fun h => ?_, fun h => ?_⟩
  · rw [← q_eq h h0, e0]
  · rw [← q_lt h h0, e0]
  · rw [← q_le h h0, e0]
  · rw [← q_lt h0 h, e0]
  · rw [← q_le h0 h, e0]

set_option maxHeartbeats 4000000 in
theorem q_pl_sound (hx : p.tables.exec = Jvm.exec) (hb : c.code = cc) {i : Instr} {len pc pc0 : Nat} {L L0 : QL} {st st0 : List CV} {ls : Array Slot} (hd : decode cc pc = .ok (i, len)) (h : q_pl i len pc L st = some (pc0, L0, st0)) (hL : q_LR nL ls L)
    (kk : ∀ ls' : Array Slot, q_LR nL ls' L0 → W p l e R s m args below meth c H locs cells slots Q (F0 m pc0 ls' (st0.map rv))) : W p l e R s m args below meth c H locs cells slots Q (F0 m pc ls (st.map rv)) := by
  cases i
  case aconst_null =>
    simp only [q_pl] at h
    split at h
    · cases h
      exact lv_null hx hb hd (kk ls hL)
    · cases h
  case iconst z =>
    simp only [q_pl] at h
    split at h
    · cases h
      exact lv_iconst hx hb hd rfl (kk ls hL)
    · cases h
  case bipush z =>
    simp only [q_pl] at h
    split at h
    · cases h
      refine lv_bipush hx hb hd rfl ?_
      have k := kk ls hL
      rw [List.map_cons, rv_i32] at k
      exact k
    · cases h
  case sipush z =>
    simp only [q_pl] at h
    split at h
    · cases h
      refine lv_sipush hx hb hd rfl ?_
      have k := kk ls hL
      rw [List.map_cons, rv_i32] at k
      exact k
    · cases h
  case lconst n =>
    simp only [q_pl] at h
    split at h
    · cases h
      refine lv_lconst hx hb hd rfl ?_
      have k := kk ls hL
      rw [List.map_cons, rv_i64] at k
      exact k
    · cases h
  case iload k =>
    simp only [q_pl] at h
    split at h
    · rename_i hk
      cases h
      exact lv_iload hx hb hd (hL.at hk) (kk ls hL)
    · cases h
  case lload k =>
    simp only [q_pl] at h
    split at h
    · rename_i hk
      cases h
      exact lv_lload hx hb hd (hL.at hk) (kk ls hL)
    · cases h
  case iload_n k =>
    simp only [q_pl] at h
    split at h
    · rename_i hk
      cases h
      exact lv_iload_n hx hb hd rfl (hL.at hk) (kk ls hL)
    · cases h
  case lload_n k =>
    simp only [q_pl] at h
    split at h
    · rename_i hk
      cases h
      exact lv_lload_n hx hb hd rfl (hL.at hk) (kk ls hL)
    · cases h
  case aload k =>
    simp only [q_pl] at h
    split at h
    · rename_i z hk
      cases h
      cases z with
      | none => exact lv_aloadN hx hb hd (hL.at hk) (kk ls hL)
      | some a => exact lv_aload hx hb hd (hL.at hk) (kk ls hL)
    · cases h
  case aload_n k =>
    simp only [q_pl] at h
    split at h
    · rename_i z hk
      cases h
      cases z with
      | none => exact lv_aload_nN hx hb hd rfl (hL.at hk) (kk ls hL)
      | some a => exact lv_aload_n hx hb hd rfl (hL.at hk) (kk ls hL)
    · cases h
  case istore k =>
    simp only [q_pl] at h
    split at h
    · split at h
      · rename_i hk
        cases h
        exact lv_istore hx hb hd hL.2 (by rw [← hL.1]; exact hk) rfl (fun ls1 h1 => kk ls1 (hL.s1 h1))
      · cases h
    · cases h
  case istore_n k =>
    simp only [q_pl] at h
    split at h
    · split at h
      · rename_i hk
        cases h
        exact lv_istore_n hx hb hd rfl hL.2 (by rw [← hL.1]; exact hk) rfl (fun ls1 h1 => kk ls1 (hL.s1 h1))
      · cases h
    · cases h
  case lstore k =>
    simp only [q_pl] at h
    split at h
    · split at h
      · rename_i hk
        cases h
        exact lv_lstore hx hb hd hL.2 (by rw [← hL.1]; exact hk) rfl (fun ls1 h1 => kk ls1 (hL.s2 h1))
      · cases h
    · cases h
  case lstore_n k =>
    simp only [q_pl] at h
    split at h
    · split at h
      · rename_i hk
        cases h
        exact lv_lstore_n hx hb hd rfl hL.2 (by rw [← hL.1]; exact hk) rfl (fun ls1 h1 => kk ls1 (hL.s2 h1))
      · cases h
    · cases h
  case astore k =>
    simp only [q_pl] at h
    split at h
    · rename_i z rest
      split at h
      · rename_i hk
        cases h
        cases z with
        | none => exact lv_astoreN hx hb hd hL.2 (by rw [← hL.1]; exact hk) rfl (fun ls1 h1 => kk ls1 (hL.s1 (v := qn) h1))
        | some a => exact lv_astore hx hb hd hL.2 (by rw [← hL.1]; exact hk) rfl (fun ls1 h1 => kk ls1 (hL.s1 (v := qr a) h1))
      · cases h
    · cases h
  case astore_n k =>
    simp only [q_pl] at h
    split at h
    · rename_i z rest
      split at h
      · rename_i hk
        cases h
        cases z with
        | none => exact lv_astore_nN hx hb hd rfl hL.2 (by rw [← hL.1]; exact hk) rfl (fun ls1 h1 => kk ls1 (hL.s1 (v := qn) h1))
        | some a => exact lv_astore_n hx hb hd rfl hL.2 (by rw [← hL.1]; exact hk) rfl (fun ls1 h1 => kk ls1 (hL.s1 (v := qr a) h1))
      · cases h
    · cases h
  case iinc k n =>
    simp only [q_pl] at h
    split at h
    · rename_i z hk
      cases h
      have hg : ls[k]? = some (.val (.int (Int32.ofInt z))) := hL.at hk
      have hlt : k < nL := by rw [← hL.1]; exact (List.getElem?_eq_some_iff.mp hk).1
      have hmem : (k, Value.int (Int32.ofInt z)) ∈ q_lv 0 L := (q_lv_mem L 0 _).mpr ⟨k, qi z, by simp; rfl, hk⟩
      obtain ⟨j, hj⟩ := List.getElem?_of_mem hmem
      refine lv_iinc (v := Int32.ofInt (z + n)) hx hb hd hL.2 hj (by rw [Int32.ofInt_add]) hlt rfl (fun ls1 h1 => kk ls1 (hL.s1 (v := qi (z + n)) h1))
    · cases h
  case iadd =>
    simp only [q_pl] at h
    split at h
    · cases h
      have k := kk ls hL
      simp only [List.map_cons, rv, Int32.ofInt_add] at k
      exact lv_iadd hx hb hd k
    · cases h
  case isub =>
    simp only [q_pl] at h
    split at h
    · cases h
      have k := kk ls hL
      simp only [List.map_cons, rv, Int32.ofInt_sub] at k
      exact lv_isub hx hb hd k
    · cases h
  case imul =>
    simp only [q_pl] at h
    split at h
    · cases h
      have k := kk ls hL
      simp only [List.map_cons, rv, Int32.ofInt_mul] at k
      exact lv_imul hx hb hd k
    · cases h
  case ineg =>
    simp only [q_pl] at h
    split at h
    · cases h
      have k := kk ls hL
      simp only [List.map_cons, rv, Int32.ofInt_neg] at k
      exact lv_ineg hx hb hd k
    · cases h
  case ishl =>
    simp only [q_pl] at h
    split at h
    · cases h
      have k := kk ls hL
      simp only [List.map_cons, rv, q_shl, Int32.ofInt_toInt] at k
      exact lv_ishl hx hb hd k
    · cases h
  case ishr =>
    simp only [q_pl] at h
    split at h
    · cases h
      have k := kk ls hL
      simp only [List.map_cons, rv, q_shr, Int32.ofInt_toInt] at k
      exact lv_ishr hx hb hd k
    · cases h
  case ior =>
    simp only [q_pl] at h
    split at h
    · cases h
      have k := kk ls hL
      simp only [List.map_cons, rv, q_or, Int32.ofInt_toInt] at k
      exact lv_ior hx hb hd k
    · cases h
  case iand =>
    simp only [q_pl] at h
    split at h
    · cases h
      have k := kk ls hL
      simp only [List.map_cons, rv, q_and, Int32.ofInt_toInt] at k
      exact lv_iand hx hb hd k
    · cases h
  case ixor =>
    simp only [q_pl] at h
    split at h
    · cases h
      have k := kk ls hL
      simp only [List.map_cons, rv, q_xor, Int32.ofInt_toInt] at k
      exact lv_ixor hx hb hd k
    · cases h
  case iushr =>
    simp only [q_pl] at h
    split at h
    · cases h
      have k := kk ls hL
      simp only [List.map_cons, rv, q_ushr, Int32.ofInt_toInt] at k
      exact lv_iushr hx hb hd rfl k
    · cases h
  case idiv =>
    simp only [q_pl] at h
    split at h
    · split at h
      · cases h
      · rename_i hne
        cases h
        have k := kk ls hL
        simp only [List.map_cons, rv, q_div, Int32.ofInt_toInt] at k
        exact lv_idiv hx hb hd hne k
    · cases h
  case irem =>
    simp only [q_pl] at h
    split at h
    · split at h
      · cases h
      · rename_i hne
        cases h
        have k := kk ls hL
        simp only [List.map_cons, rv, q_rem, Int32.ofInt_toInt] at k
        exact lv_irem hx hb hd hne k
    · cases h
  case i2l =>
    simp only [q_pl] at h
    split at h
    · cases h
      have k := kk ls hL
      simp only [List.map_cons, rv, q_i2l, Int64.ofInt_toInt] at k
      exact lv_i2l hx hb hd rfl k
    · cases h
  case l2i =>
    simp only [q_pl] at h
    split at h
    · cases h
      have k := kk ls hL
      simp only [List.map_cons, rv, q_l2i, Int32.ofInt_toInt] at k
      exact lv_l2i hx hb hd rfl k
    · cases h
  case i2b =>
    simp only [q_pl] at h
    split at h
    · cases h
      have k := kk ls hL
      simp only [List.map_cons, rv, q_i2b, Int32.ofInt_toInt] at k
      exact lv_i2b hx hb hd rfl k
    · cases h
  case i2c =>
    simp only [q_pl] at h
    split at h
    · cases h
      have k := kk ls hL
      simp only [List.map_cons, rv, q_i2c, Int32.ofInt_toInt] at k
      exact lv_i2c hx hb hd rfl k
    · cases h
  case lshl =>
    simp only [q_pl] at h
    split at h
    · cases h
      have k := kk ls hL
      simp only [List.map_cons, rv, q_lshl, Int64.ofInt_toInt] at k
      exact lv_lshl hx hb hd rfl k
    · cases h
  case lshr =>
    simp only [q_pl] at h
    split at h
    · cases h
      have k := kk ls hL
      simp only [List.map_cons, rv, q_lshr, Int64.ofInt_toInt] at k
      exact lv_lshr hx hb hd rfl k
    · cases h
  case lor =>
    simp only [q_pl] at h
    split at h
    · cases h
      have k := kk ls hL
      simp only [List.map_cons, rv, q_lor, Int64.ofInt_toInt] at k
      exact lv_lor hx hb hd k
    · cases h
  case land =>
    simp only [q_pl] at h
    split at h
    · cases h
      have k := kk ls hL
      simp only [List.map_cons, rv, q_land, Int64.ofInt_toInt] at k
      exact lv_land hx hb hd k
    · cases h
  case lcmp =>
    simp only [q_pl] at h
    split at h
    · cases h
      have k := kk ls hL
      simp only [List.map_cons, rv, q_lcmp, Int32.ofInt_toInt] at k
      exact W.lcmp hx hb hd k
    · cases h
  case dup =>
    simp only [q_pl] at h
    split at h
    · split at h
      · rename_i hk
        cases h
        exact lv_dup hx hb hd (by rw [q_wd_rv]; exact hk) (kk ls hL)
      · cases h
    · cases h
  case dup_x1 =>
    simp only [q_pl] at h
    split at h
    · split at h
      · rename_i hk
        cases h
        exact lv_dup_x1 hx hb hd (by rw [q_wd_rv]; exact hk.1) (by rw [q_wd_rv]; exact hk.2) (kk ls hL)
      · cases h
    · cases h
  case dup2 =>
    simp only [q_pl] at h
    split at h
    · split at h
      · rename_i hk
        cases h
        exact lv_dup2_11 hx hb hd (by rw [q_wd_rv]; exact hk.1) (by rw [q_wd_rv]; exact hk.2) (kk ls hL)
      · cases h
    · cases h
  case pop =>
    simp only [q_pl] at h
    split at h
    · split at h
      · rename_i hk
        cases h
        exact lv_pop hx hb hd (by rw [q_wd_rv]; exact hk) (kk ls hL)
      · cases h
    · cases h
  case goto off =>
    simp only [q_pl] at h
    split at h
    · obtain ⟨hL1, rfl, t, ht, rfl⟩ := q_goS h hL
      exact lv_goto hx hb hd ht (kk ls hL1)
    · cases h
  case ifCond co off =>
    simp only [q_pl] at h
    split at h
    · rename_i a rest
      split at h
      · rename_i hr
        obtain ⟨hL1, rfl, t, ht, rfl⟩ := q_goS h hL
        have k := kk ls hL1
        have hz := q_cmp0 (z := a)
        cases co with
        | eq => exact lv_if_eq hx hb hd ht (fun q => by have q := (hz.1 hr).mp q; simpa only [q_cmp, decide_eq_true q, if_true] using k) (fun q => by have q := mt (hz.1 hr).mpr q; simpa only [q_cmp, decide_eq_false q, Bool.false_eq_true, if_false] using k)
        | ne => exact lv_if_ne hx hb hd ht (fun q => by have q := mt (hz.1 hr).mpr q; simpa only [q_cmp, decide_eq_false q, Bool.not_false, if_true] using k) (fun q => by have q := (hz.1 hr).mp (q); simpa [q_cmp, q] using k)
        | lt => exact lv_if_lt hx hb hd ht (fun q => by have q := (hz.2.1 hr).mp q; simpa only [q_cmp, decide_eq_true q, if_true] using k) (fun q => by have q := mt (hz.2.1 hr).mpr q; simpa only [q_cmp, decide_eq_false q, Bool.false_eq_true, if_false] using k)
        | ge => exact lv_if_ge hx hb hd ht (fun q => by have q := (hz.2.2.2.2 hr).mp q; simpa only [q_cmp, decide_eq_true q, if_true] using k) (fun q => by have q := mt (hz.2.2.2.2 hr).mpr q; simpa only [q_cmp, decide_eq_false q, Bool.false_eq_true, if_false] using k)
        | gt => exact lv_if_gt hx hb hd ht (fun q => by have q := (hz.2.2.2.1 hr).mp q; simpa only [q_cmp, decide_eq_true q, if_true] using k) (fun q => by have q := mt (hz.2.2.2.1 hr).mpr q; simpa only [q_cmp, decide_eq_false q, Bool.false_eq_true, if_false] using k)
        | le => exact lv_if_le hx hb hd ht (fun q => by have q := (hz.2.2.1 hr).mp q; simpa only [q_cmp, decide_eq_true q, if_true] using k) (fun q => by have q := mt (hz.2.2.1 hr).mpr q; simpa only [q_cmp, decide_eq_false q, Bool.false_eq_true, if_false] using k)
      · cases h
    · cases h
  case if_icmp co off =>
    simp only [q_pl] at h
    split at h
    · rename_i b a rest
      split at h
      · rename_i hr
        obtain ⟨hr1, hr2⟩ := hr
        obtain ⟨hL1, rfl, t, ht, rfl⟩ := q_goS h hL
        have k := kk ls hL1
        cases co with
        | eq => exact lv_icmp_eq hx hb hd ht (fun q => by have q := (q_eq hr1 hr2).mp q; simpa only [q_cmp, decide_eq_true q, if_true] using k) (fun q => by have q := mt (q_eq hr1 hr2).mpr q; simpa only [q_cmp, decide_eq_false q, Bool.false_eq_true, if_false] using k)
        | ne => exact lv_icmp_ne hx hb hd ht (fun q => by have q := mt (q_eq hr1 hr2).mpr q; simpa only [q_cmp, decide_eq_false q, Bool.not_false, if_true] using k) (fun q => by have q := (q_eq hr1 hr2).mp (q); simpa [q_cmp, q] using k)
        | lt => exact lv_icmp_lt hx hb hd ht (fun q => by have q := (q_lt hr1 hr2).mp q; simpa only [q_cmp, decide_eq_true q, if_true] using k) (fun q => by have q := mt (q_lt hr1 hr2).mpr q; simpa only [q_cmp, decide_eq_false q, Bool.false_eq_true, if_false] using k)
        | ge => exact lv_icmp_ge hx hb hd ht (fun q => by have q := (q_le hr2 hr1).mp q; simpa only [q_cmp, decide_eq_true q, if_true] using k) (fun q => by have q := mt (q_le hr2 hr1).mpr q; simpa only [q_cmp, decide_eq_false q, Bool.false_eq_true, if_false] using k)
        | gt => exact lv_icmp_gt hx hb hd ht (fun q => by have q := (q_lt hr2 hr1).mp q; simpa only [q_cmp, decide_eq_true q, if_true] using k) (fun q => by have q := mt (q_lt hr2 hr1).mpr q; simpa only [q_cmp, decide_eq_false q, Bool.false_eq_true, if_false] using k)
        | le => exact lv_icmp_le hx hb hd ht (fun q => by have q := (q_le hr1 hr2).mp q; simpa only [q_cmp, decide_eq_true q, if_true] using k) (fun q => by have q := mt (q_le hr1 hr2).mpr q; simpa only [q_cmp, decide_eq_false q, Bool.false_eq_true, if_false] using k)
      · cases h
    · cases h
  case ifnull off =>
    simp only [q_pl] at h
    split at h
    · rename_i a rest
      obtain ⟨hL1, rfl, t, ht, rfl⟩ := q_goS h hL
      have k := kk ls hL1
      cases a with
      | none => exact lv_ifnullN hx hb hd ht k
      | some a => exact lv_ifnull hx hb hd k
    · cases h
  case ifnonnull off =>
    simp only [q_pl] at h
    split at h
    · rename_i a rest
      obtain ⟨hL1, rfl, t, ht, rfl⟩ := q_goS h hL
      have k := kk ls hL1
      cases a with
      | none => exact lv_ifnonnullN hx hb hd k
      | some a => exact lv_ifnonnull hx hb hd ht k
    · cases h
  case tableswitch d lo hi offs =>
    simp only [q_pl] at h
    split at h
    · rename_i a rest
      split at h
      · rename_i hr
        split at h
        · rename_i ho
          obtain ⟨hL1, rfl, t, ht, rfl⟩ := q_goS h hL
          exact lv_tableOut hx hb hd (by rw [q_toInt hr]; exact ho) ht (kk ls hL1)
        · rename_i ho
          split at h
          · rename_i off hof
            obtain ⟨hL1, rfl, t, ht, rfl⟩ := q_goS h hL
            exact lv_tableIn hx hb hd (by rw [q_toInt hr]; exact fun z => ho (Or.inl z)) (by rw [q_toInt hr]; exact fun z => ho (Or.inr z)) (by rw [q_toInt hr]; exact hof) ht (kk ls hL1)
          · cases h
      · cases h
    · cases h
  case lookupswitch d ps =>
    simp only [q_pl] at h
    split at h
    · rename_i a rest
      split at h
      · rename_i hr
        obtain ⟨hL1, rfl, t, ht, rfl⟩ := q_goS h hL
        exact lv_lookup hx hb hd hr.2 (by rw [q_toInt hr.1]) ht (kk ls hL1)
      · cases h
    · cases h
  all_goals (simp [q_pl] at h; done)
end QPL
