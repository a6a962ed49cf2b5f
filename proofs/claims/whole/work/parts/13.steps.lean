/-! one rule for each kind of instruction -/
section QG
variable {C : QC} {ow : Nat} {cc : ByteArray} {ini : Bool} {ret : Option FieldType} {x : QP} {pc : Nat} {L : QL} {st : List CV} {M : QM}
theorem Rr_stp {mi : QI} {S S' : QS} {i : Instr} {len : Nat} (hd : decode mi.2.1 S.1 = .ok (i, len)) (h : q_stp mi i len S = some S') : Rr C mi S x = Rr C mi S' x := by
  apply propext
  constructor
  · rintro ⟨n, hn⟩
    cases n with
    | zero => exact hn.elim
    | succ n =>
      obtain ⟨i', len', hd', hn⟩ := hn
      cases hd.symm.trans hd'
      rw [h] at hn
      exact ⟨n, hn⟩
  · rintro ⟨n, hn⟩
    exact ⟨n + 1, i, len, hd, by rw [h]; exact hn⟩
theorem g_pl {i : Instr} {len pc' : Nat} {L' : QL} {st' : List CV} (hd : decode cc pc = .ok (i, len)) (h : q_pl i len pc L st = some (pc', L', st')) : Rr C (ow, cc, ini, ret) (pc, L, st, M) x = Rr C (ow, cc, ini, ret) (pc', L', st', M) x :=
  Rr_stp (i := i) (len := len) hd (by show (match q_pl i len pc L st with | some q => _ | none => _) = _; rw [h])
theorem g_mm {i : Instr} {len : Nat} {S' : QS} (hd : decode cc pc = .ok (i, len)) (h0 : q_pl i len pc L st = none) (h : q_mm ow ini i len pc L st M = some S') : Rr C (ow, cc, ini, ret) (pc, L, st, M) x = Rr C (ow, cc, ini, ret) S' x :=
  Rr_stp (i := i) (len := len) hd (by show (match q_pl i len pc L st with | some q => _ | none => _) = _; rw [h0]; show (match q_mm ow ini i len pc L st M with | some q => _ | none => _) = _; rw [h])
theorem g_xs {i : Instr} {len : Nat} {S' : QS} (hd : decode cc pc = .ok (i, len)) (h0 : q_pl i len pc L st = none) (h1 : q_mm ow ini i len pc L st M = none) (h2 : q_ac ow i len pc L st M = none) (h : q_xs ow i len pc L st M = some S') : Rr C (ow, cc, ini, ret) (pc, L, st, M) x = Rr C (ow, cc, ini, ret) S' x :=
  Rr_stp (i := i) (len := len) hd (by show (match q_pl i len pc L st with | some q => _ | none => _) = _; rw [h0]; show (match q_mm ow ini i len pc L st M with | some q => _ | none => _) = _; rw [h1]; show (match q_ac ow i len pc L st M with | some q => _ | none => _) = _; rw [h2]; exact h)
theorem g_ac {i : Instr} {len : Nat} {S' : QS} (hd : decode cc pc = .ok (i, len)) (h0 : q_pl i len pc L st = none) (h1 : q_mm ow ini i len pc L st M = none) (h : q_ac ow i len pc L st M = some S') : Rr C (ow, cc, ini, ret) (pc, L, st, M) x = Rr C (ow, cc, ini, ret) S' x :=
  Rr_stp (i := i) (len := len) hd (by show (match q_pl i len pc L st with | some q => _ | none => _) = _; rw [h0]; show (match q_mm ow ini i len pc L st M with | some q => _ | none => _) = _; rw [h1]; show (match q_ac ow i len pc L st M with | some q => _ | none => _) = _; rw [h])
theorem g_fin {i : Instr} {len : Nat} {v : Option CV} (hd : decode cc pc = .ok (i, len)) (h0 : q_pl i len pc L st = none) (h1 : q_mm ow ini i len pc L st M = none) (h2 : q_ac ow i len pc L st M = none) (h3 : q_xs ow i len pc L st M = none) (h : q_fin ret i len st = some v) : Rr C (ow, cc, ini, ret) (pc, L, st, M) x = x v M := by
  have hs : q_stp (ow, cc, ini, ret) i len (pc, L, st, M) = none := by
    show (match q_pl i len pc L st with | some q => _ | none => _) = _; rw [h0]; show (match q_mm ow ini i len pc L st M with | some q => _ | none => _) = _; rw [h1]; show (match q_ac ow i len pc L st M with | some q => _ | none => _) = _; rw [h2]; exact h3
  apply propext
  constructor
  · rintro ⟨n, hn⟩
    cases n with
    | zero => exact hn.elim
    | succ n =>
      obtain ⟨i', len', hd', hn⟩ := hn
      cases hd.symm.trans hd'
      rw [hs] at hn
      dsimp only at hn
      rw [h] at hn
      exact hn
  · intro hx
    exact ⟨1, i, len, hd, by rw [hs]; dsimp only; rw [h]; exact hx⟩
theorem g_inv {i : Instr} {len : Nat} {y : Nat} {as rest : List CV} {v : Option CV} {M1 : QM} (hd : decode cc pc = .ok (i, len)) (h0 : q_pl i len pc L st = none) (h1 : q_mm ow ini i len pc L st M = none) (h2 : q_ac ow i len pc L st M = none) (h3 : q_xs ow i len pc L st M = none) (h4 : q_fin ret i len st = none) (h : q_inv ow i len st M = some (y, as, rest)) (hC : C y as M v M1)
    (k : Rr C (ow, cc, ini, ret) (pc + 3, L, v.toList ++ rest, M1) x) : Rr C (ow, cc, ini, ret) (pc, L, st, M) x := by
  have hs : q_stp (ow, cc, ini, ret) i len (pc, L, st, M) = none := by
    show (match q_pl i len pc L st with | some q => _ | none => _) = _; rw [h0]; show (match q_mm ow ini i len pc L st M with | some q => _ | none => _) = _; rw [h1]; show (match q_ac ow i len pc L st M with | some q => _ | none => _) = _; rw [h2]; exact h3
  obtain ⟨n, hn⟩ := k
  exact ⟨n + 1, i, len, hd, by rw [hs]; dsimp only; rw [h4]; dsimp only; rw [h]; exact ⟨v, M1, hC, hn⟩⟩
-- branches
theorem g_icmp {co : Jvm.ClassFile.Cond} {off : Int} {tgt : Nat} {a b : Int} (hd : decode cc pc = .ok (.if_icmp co off, 3)) (ht : q_br pc off = some tgt) (ha1 : -2147483648 ≤ a) (ha2 : a < 2147483648) (hb1 : -2147483648 ≤ b) (hb2 : b < 2147483648) : Rr C (ow, cc, ini, ret) (pc, L, qi b :: qi a :: st, M) x = (if q_cmp co a b = true then Rr C (ow, cc, ini, ret) (tgt, L, st, M) x else Rr C (ow, cc, ini, ret) (pc + 3, L, st, M) x) := by
  rw [g_pl hd (show q_pl (.if_icmp co off) 3 pc L (qi b :: qi a :: st) = some (if q_cmp co a b = true then tgt else pc + 3, L, st) by
    simp only [q_pl, ht, q_go]
    rw [if_pos ⟨⟨ha1, ha2⟩, hb1, hb2⟩])]
  split <;> rfl
theorem g_if {co : Jvm.ClassFile.Cond} {off : Int} {tgt : Nat} {a : Int} (hd : decode cc pc = .ok (.ifCond co off, 3)) (ht : q_br pc off = some tgt) (ha1 : -2147483648 ≤ a) (ha2 : a < 2147483648) : Rr C (ow, cc, ini, ret) (pc, L, qi a :: st, M) x = (if q_cmp co a 0 = true then Rr C (ow, cc, ini, ret) (tgt, L, st, M) x else Rr C (ow, cc, ini, ret) (pc + 3, L, st, M) x) := by
  rw [g_pl hd (show q_pl (.ifCond co off) 3 pc L (qi a :: st) = some (if q_cmp co a 0 = true then tgt else pc + 3, L, st) by
    simp only [q_pl, ht, q_go]
    rw [if_pos ⟨ha1, ha2⟩])]
  split <;> rfl
theorem g_ite {p q : Prop} {A B : Prop} [Decidable p] [Decidable q] (h : p ↔ q) : (if p then A else B) = (if q then A else B) := by
  by_cases hp : p
  · rw [if_pos hp, if_pos (h.mp hp)]
  · rw [if_neg hp, if_neg (mt h.mpr hp)]
theorem g_itn {p q : Prop} {A B : Prop} [Decidable p] [Decidable q] (h : p ↔ ¬ q) : (if p then A else B) = (if q then B else A) := by
  by_cases hp : q
  · rw [if_neg (fun z => h.mp z hp), if_pos hp]
  · rw [if_pos (h.mpr hp), if_neg hp]
theorem c_eq {a b : Int} : q_cmp .eq a b = true ↔ a = b := by simp [q_cmp]
theorem c_ne {a b : Int} : q_cmp .ne a b = true ↔ ¬ a = b := by simp [q_cmp]
theorem c_lt {a b : Int} : q_cmp .lt a b = true ↔ a < b := by simp [q_cmp]
theorem c_ge {a b : Int} : q_cmp .ge a b = true ↔ ¬ a < b := by simp [q_cmp]
theorem c_gt {a b : Int} : q_cmp .gt a b = true ↔ b < a := by simp [q_cmp]
theorem c_le {a b : Int} : q_cmp .le a b = true ↔ ¬ b < a := by simp [q_cmp]
theorem g_tsI {d lo hi : Int} {offs : Array Int} {len tgt : Nat} {a off : Int} (hd : decode cc pc = .ok (.tableswitch d lo hi offs, len)) (hr : q_R a) (h1 : ¬ (a < lo ∨ hi < a)) (ho : offs[(a - lo).toNat]? = some off) (ht : q_br pc off = some tgt) : Rr C (ow, cc, ini, ret) (pc, L, qi a :: st, M) x = Rr C (ow, cc, ini, ret) (tgt, L, st, M) x :=
  g_pl hd (by simp only [q_pl]; rw [if_pos hr, if_neg h1, ho]; simp only [ht, q_go]; rfl)
theorem g_tsO {d lo hi : Int} {offs : Array Int} {len tgt : Nat} {a : Int} (hd : decode cc pc = .ok (.tableswitch d lo hi offs, len)) (hr : q_R a) (h1 : a < lo ∨ hi < a) (ht : q_br pc d = some tgt) : Rr C (ow, cc, ini, ret) (pc, L, qi a :: st, M) x = Rr C (ow, cc, ini, ret) (tgt, L, st, M) x :=
  g_pl hd (by simp only [q_pl]; rw [if_pos hr, if_pos h1]; simp only [ht, q_go]; rfl)
theorem g_lsw {d : Int} {ps : Array (Int × Int)} {len tgt : Nat} {a off : Int} (hd : decode cc pc = .ok (.lookupswitch d ps, len)) (hr : q_R a) (hp : (ps.toList.zip (ps.toList.drop 1)).all (fun (a, next) => a.1 < next.1) = true) (ho : Op.lookupswitch.offset ps.toList d a = off) (ht : q_br pc off = some tgt) : Rr C (ow, cc, ini, ret) (pc, L, qi a :: st, M) x = Rr C (ow, cc, ini, ret) (tgt, L, st, M) x :=
  g_pl hd (by simp only [q_pl]; rw [if_pos ⟨hr, hp⟩, ho]; simp only [ht, q_go]; rfl)
-- memory
theorem g_getf {idx a : Nat} {e : Nat × Nat × String × Nat × Nat} (hd : decode cc pc = .ok (.getfield idx, 3)) (hl : q_lk q_ftab ow idx = some e) (hk : q_kd M a = (1, e.1)) : Rr C (ow, cc, ini, ret) (pc, L, qr a :: st, M) x = Rr C (ow, cc, ini, ret) (pc + 3, L, q_fv M a e.2.1 :: st, M) x :=
  g_mm hd rfl (by simp only [q_mm, hl, hk, if_true])
theorem g_putf {idx a : Nat} {v : CV} {e : Nat × Nat × String × Nat × Nat} {r : vw_C} {t : Nat → FieldType} (hd : decode cc pc = .ok (.putfield idx, 3)) (hl : q_lk q_ftab ow idx = some e) (hr : qcl[e.1]? = some r) (ht : qty[e.1]? = some t) (hf : q_fitb (t e.2.1) v = true) (hfin : (r.2.1 e.2.1).2.2.2 = true → ini = true ∧ q_own[ow]? = some (r.2.1 e.2.1).1) (hk : q_kd M a = (1, e.1)) : Rr C (ow, cc, ini, ret) (pc, L, v :: qr a :: st, M) x = Rr C (ow, cc, ini, ret) (pc + 3, L, st, q_wr M a e.2.1 v) x :=
  g_mm hd rfl (by simp only [q_mm, hl, hr, ht]; exact if_pos ⟨hk, hf, hfin⟩)
theorem g_alen {a : Nat} (hd : decode cc pc = .ok (.arraylength, 1)) (h1 : 2 ≤ (q_kd M a).1) (h2 : (q_kd M a).1 ≤ 9) : Rr C (ow, cc, ini, ret) (pc, L, qr a :: st, M) x = Rr C (ow, cc, ini, ret) (pc + 1, L, qi (q_kd M a).2 :: st, M) x :=
  g_mm hd rfl (by simp only [q_mm]; rw [q_len, if_pos ⟨h1, h2⟩])
theorem q_ald_eq {ts : List Nat} {a : Nat} {j : Int} (hk : (q_kd M a).1 ∈ ts) (h0 : 0 ≤ j) (h1 : j < ((q_kd M a).2 : Int)) : q_ald ts M a j = some (q_fv M a j.toNat) := if_pos ⟨hk, h0, h1⟩
theorem q_ast_eq {t : Nat} {a : Nat} {j : Int} {v : CV} (hk : (q_kd M a).1 = t) (h0 : 0 ≤ j) (h1 : j < ((q_kd M a).2 : Int)) : q_ast t M a j v = some (q_wr M a j.toNat v) := if_pos ⟨hk, h0, h1⟩
theorem g_iald {a : Nat} {j : Int} (hd : decode cc pc = .ok (.iaload, 1)) (hk : (q_kd M a).1 = 2) (h0 : 0 ≤ j) (h1 : j < ((q_kd M a).2 : Int)) : Rr C (ow, cc, ini, ret) (pc, L, qi j :: qr a :: st, M) x = Rr C (ow, cc, ini, ret) (pc + 1, L, q_fv M a j.toNat :: st, M) x :=
  g_mm hd rfl (by simp only [q_mm]; rw [q_ald_eq (by rw [hk]; decide) h0 h1])
theorem g_iald7 {a : Nat} {j : Int} (hd : decode cc pc = .ok (.iaload, 1)) (hk : (q_kd M a).1 = 7) (h0 : 0 ≤ j) (h1 : j < ((q_kd M a).2 : Int)) : Rr C (ow, cc, ini, ret) (pc, L, qi j :: qr a :: st, M) x = Rr C (ow, cc, ini, ret) (pc + 1, L, q_fv M a j.toNat :: st, M) x :=
  g_mm hd rfl (by simp only [q_mm]; rw [q_ald_eq (by rw [hk]; decide) h0 h1])
theorem g_lald {a : Nat} {j : Int} (hd : decode cc pc = .ok (.laload, 1)) (hk : (q_kd M a).1 = 3) (h0 : 0 ≤ j) (h1 : j < ((q_kd M a).2 : Int)) : Rr C (ow, cc, ini, ret) (pc, L, qi j :: qr a :: st, M) x = Rr C (ow, cc, ini, ret) (pc + 1, L, q_fv M a j.toNat :: st, M) x :=
  g_mm hd rfl (by simp only [q_mm]; rw [q_ald_eq (by rw [hk]; decide) h0 h1])
theorem g_bald {a : Nat} {j : Int} (hd : decode cc pc = .ok (.baload, 1)) (hk : (q_kd M a).1 = 4 ∨ (q_kd M a).1 = 8) (h0 : 0 ≤ j) (h1 : j < ((q_kd M a).2 : Int)) : Rr C (ow, cc, ini, ret) (pc, L, qi j :: qr a :: st, M) x = Rr C (ow, cc, ini, ret) (pc + 1, L, q_fv M a j.toNat :: st, M) x :=
  g_mm hd rfl (by simp only [q_mm]; rw [q_ald_eq (by rcases hk with hk | hk <;> rw [hk] <;> decide) h0 h1])
theorem g_aald {a : Nat} {j : Int} (hd : decode cc pc = .ok (.aaload, 1)) (hk : (q_kd M a).1 = 5 ∨ (q_kd M a).1 = 6) (h0 : 0 ≤ j) (h1 : j < ((q_kd M a).2 : Int)) : Rr C (ow, cc, ini, ret) (pc, L, qi j :: qr a :: st, M) x = Rr C (ow, cc, ini, ret) (pc + 1, L, q_fv M a j.toNat :: st, M) x :=
  g_mm hd rfl (by simp only [q_mm]; rw [q_ald_eq (by rcases hk with hk | hk <;> rw [hk] <;> decide) h0 h1])
theorem g_iast {a : Nat} {j v : Int} (hd : decode cc pc = .ok (.iastore, 1)) (hk : (q_kd M a).1 = 2) (h0 : 0 ≤ j) (h1 : j < ((q_kd M a).2 : Int)) : Rr C (ow, cc, ini, ret) (pc, L, qi v :: qi j :: qr a :: st, M) x = Rr C (ow, cc, ini, ret) (pc + 1, L, st, q_wr M a j.toNat (qi v)) x :=
  g_mm hd rfl (by simp only [q_mm]; rw [q_ast_eq hk h0 h1]; rfl)
theorem g_last {a : Nat} {j v : Int} (hd : decode cc pc = .ok (.lastore, 1)) (hk : (q_kd M a).1 = 3) (h0 : 0 ≤ j) (h1 : j < ((q_kd M a).2 : Int)) : Rr C (ow, cc, ini, ret) (pc, L, ql v :: qi j :: qr a :: st, M) x = Rr C (ow, cc, ini, ret) (pc + 1, L, st, q_wr M a j.toNat (ql v)) x :=
  g_mm hd rfl (by simp only [q_mm]; rw [q_ast_eq hk h0 h1]; rfl)
theorem g_bast {a : Nat} {j v : Int} (hd : decode cc pc = .ok (.bastore, 1)) (hk : (q_kd M a).1 = 4) (h0 : 0 ≤ j) (h1 : j < ((q_kd M a).2 : Int)) : Rr C (ow, cc, ini, ret) (pc, L, qi v :: qi j :: qr a :: st, M) x = Rr C (ow, cc, ini, ret) (pc + 1, L, st, q_wr M a j.toNat (qi (q_i2b v))) x :=
  g_mm hd rfl (by simp only [q_mm]; rw [q_ast_eq hk h0 h1]; rfl)
theorem g_aast5 {a b : Nat} {j : Int} (hd : decode cc pc = .ok (.aastore, 1)) (hb : q_kd M b = (1, 3)) (hk : (q_kd M a).1 = 5) (h0 : 0 ≤ j) (h1 : j < ((q_kd M a).2 : Int)) : Rr C (ow, cc, ini, ret) (pc, L, qr b :: qi j :: qr a :: st, M) x = Rr C (ow, cc, ini, ret) (pc + 1, L, st, q_wr M a j.toNat (qr b)) x :=
  g_mm hd rfl (by simp only [q_mm]; rw [if_pos hb, q_ast_eq hk h0 h1]; rfl)
theorem g_aast6 {a b : Nat} {j : Int} (hd : decode cc pc = .ok (.aastore, 1)) (hb : q_kd M b = (1, 4)) (hk : (q_kd M a).1 = 6) (h0 : 0 ≤ j) (h1 : j < ((q_kd M a).2 : Int)) : Rr C (ow, cc, ini, ret) (pc, L, qr b :: qi j :: qr a :: st, M) x = Rr C (ow, cc, ini, ret) (pc + 1, L, st, q_wr M a j.toNat (qr b)) x :=
  g_mm hd rfl (by simp only [q_mm]; rw [if_neg (by rw [hb]; decide), if_pos hb, q_ast_eq hk h0 h1]; rfl)
theorem g_aastN {a : Nat} {j : Int} (hd : decode cc pc = .ok (.aastore, 1)) (hk : (q_kd M a).1 = 5) (h0 : 0 ≤ j) (h1 : j < ((q_kd M a).2 : Int)) : Rr C (ow, cc, ini, ret) (pc, L, qn :: qi j :: qr a :: st, M) x = Rr C (ow, cc, ini, ret) (pc + 1, L, st, q_wr M a j.toNat qn) x :=
  g_mm hd rfl (by simp only [q_mm]; rw [if_pos hk, q_ast_eq hk h0 h1]; rfl)
theorem g_new {idx : Nat} {e : Nat × Nat × Nat × Nat} {r : vw_C} {t : Nat → FieldType} (hd : decode cc pc = .ok (.new idx, 3)) (hl : q_lk q_ctab ow idx = some e) (hr : qcl[e.1]? = some r) (ht : qty[e.1]? = some t) : Rr C (ow, cc, ini, ret) (pc, L, st, M) x = Rr C (ow, cc, ini, ret) (pc + 3, L, qr (q_top M) :: st, q_al M (1, e.1) r.2.2 (fun k => q_dv (t k))) x :=
  g_mm hd rfl (by simp only [q_mm, hl, hr, ht])
theorem g_newI {n : Int} (hd : decode cc pc = .ok (.newarray .int, 2)) (h0 : 0 ≤ n) (h1 : n ≤ 60000000) : Rr C (ow, cc, ini, ret) (pc, L, qi n :: st, M) x = Rr C (ow, cc, ini, ret) (pc + 2, L, qr (q_top M) :: st, q_al M (2, n.toNat) n.toNat (fun _ => qi 0)) x :=
  g_mm hd rfl (by simp only [q_mm]; rw [if_pos ⟨h0, h1⟩])
theorem g_newL {n : Int} (hd : decode cc pc = .ok (.newarray .long, 2)) (h0 : 0 ≤ n) (h1 : n ≤ 60000000) : Rr C (ow, cc, ini, ret) (pc, L, qi n :: st, M) x = Rr C (ow, cc, ini, ret) (pc + 2, L, qr (q_top M) :: st, q_al M (3, n.toNat) n.toNat (fun _ => ql 0)) x :=
  g_mm hd rfl (by simp only [q_mm]; rw [if_pos ⟨h0, h1⟩])
theorem g_newB {n : Int} (hd : decode cc pc = .ok (.newarray .byte, 2)) (h0 : 0 ≤ n) (h1 : n ≤ 60000000) : Rr C (ow, cc, ini, ret) (pc, L, qi n :: st, M) x = Rr C (ow, cc, ini, ret) (pc + 2, L, qr (q_top M) :: st, q_al M (4, n.toNat) n.toNat (fun _ => qi 0)) x :=
  g_mm hd rfl (by simp only [q_mm]; rw [if_pos ⟨h0, h1⟩])
theorem g_anew {idx : Nat} {n : Int} {e : Nat × Nat} (hd : decode cc pc = .ok (.anewarray idx, 3)) (hl : q_lk q_atab ow idx = some e) (he : e.1 = 5 ∨ e.1 = 6) (h0 : 0 ≤ n) (h1 : n ≤ 60000000) : Rr C (ow, cc, ini, ret) (pc, L, qi n :: st, M) x = Rr C (ow, cc, ini, ret) (pc + 3, L, qr (q_top M) :: st, q_al M (e.1, n.toNat) n.toNat (fun _ => qn)) x :=
  g_mm hd rfl (by simp only [q_mm, hl]; rw [if_pos ⟨h0, h1, he⟩])
theorem g_cast {idx a : Nat} {e : Nat × Nat × Nat × Nat} (hd : decode cc pc = .ok (.checkcast idx, 3)) (hl : q_lk q_ctab ow idx = some e) (hk : q_kd M a = (1, e.1)) : Rr C (ow, cc, ini, ret) (pc, L, qr a :: st, M) x = Rr C (ow, cc, ini, ret) (pc + 3, L, qr a :: st, M) x :=
  g_mm hd rfl (by simp only [q_mm, hl, hk, if_true])
theorem g_castN {idx : Nat} (hd : decode cc pc = .ok (.checkcast idx, 3)) : Rr C (ow, cc, ini, ret) (pc, L, qn :: st, M) x = Rr C (ow, cc, ini, ret) (pc + 3, L, qn :: st, M) x := g_mm hd rfl rfl
theorem g_ldc {idx : Nat} {e : Int × Nat} (hd : decode cc pc = .ok (.ldc idx, 2)) (hl : q_lk q_ltab ow idx = some e) : Rr C (ow, cc, ini, ret) (pc, L, st, M) x = Rr C (ow, cc, ini, ret) (pc + 2, L, qi e.1 :: st, M) x :=
  g_mm hd rfl (by simp only [q_mm, hl])
theorem g_ldcw {idx : Nat} {e : Int × Nat} (hd : decode cc pc = .ok (.ldc_w idx, 3)) (hl : q_lk q_ltab ow idx = some e) : Rr C (ow, cc, ini, ret) (pc, L, st, M) x = Rr C (ow, cc, ini, ret) (pc + 3, L, qi e.1 :: st, M) x :=
  g_mm hd rfl (by simp only [q_mm, hl])
theorem g_ldc2 {idx : Nat} {e : Int × Nat} (hd : decode cc pc = .ok (.ldc2_w idx, 3)) (hl : q_lk q_l2tab ow idx = some e) : Rr C (ow, cc, ini, ret) (pc, L, st, M) x = Rr C (ow, cc, ini, ret) (pc + 3, L, ql e.1 :: st, M) x :=
  g_mm hd rfl (by simp only [q_mm, hl])
theorem g_gets {idx : Nat} {e : Nat × String × String × String × Nat} (hd : decode cc pc = .ok (.getstatic idx, 3)) (hl : q_lk q_stab ow idx = some e) : Rr C (ow, cc, ini, ret) (pc, L, st, M) x = Rr C (ow, cc, ini, ret) (pc + 3, L, q_sv (q_gs M) e.1 :: st, M) x :=
  g_mm hd rfl (by simp only [q_mm, hl])
theorem g_obj {idx a : Nat} {e : Nat} (hd : decode cc pc = .ok (.invokespecial idx, 3)) (hl : q_lk q_otab ow idx = some e) (hw : (st.map q_wd).sum ≤ 8) : Rr C (ow, cc, ini, ret) (pc, L, qr a :: st, M) x = Rr C (ow, cc, ini, ret) (pc + 3, L, st, M) x :=
  g_mm hd rfl (by simp only [q_mm, hl]; rw [if_pos hw])
theorem g_sldc {idx : Nat} {e : Nat} (hd : decode cc pc = .ok (.ldc idx, 2)) (h0 : q_lk q_ltab ow idx = none) (hl : q_lk q_strtab ow idx = some e) : Rr C (ow, cc, ini, ret) (pc, L, st, M) x = Rr C (ow, cc, ini, ret) (pc + 2, L, qr (q_gs M 1) :: st, M) x :=
  g_xs hd rfl (by simp only [q_mm, h0]) rfl (by simp only [q_xs, hl])
theorem g_cldc {idx : Nat} {e : Nat} (hd : decode cc pc = .ok (.ldc idx, 2)) (h0 : q_lk q_ltab ow idx = none) (h1 : q_lk q_strtab ow idx = none) (hl : q_lk q_cltab ow idx = some e) : Rr C (ow, cc, ini, ret) (pc, L, st, M) x = Rr C (ow, cc, ini, ret) (pc + 2, L, qr (q_gs M 6) :: st, M) x :=
  g_xs hd rfl (by simp only [q_mm, h0]) rfl (by simp only [q_xs, h1, hl])
theorem g_gcls {idx a : Nat} {e : Nat} (hd : decode cc pc = .ok (.invokevirtual idx, 3)) (hl : q_lk q_gctab ow idx = some e) (hk : (q_kd M a).1 = 5) (hw : (st.map q_wd).sum ≤ 8) : Rr C (ow, cc, ini, ret) (pc, L, qr a :: st, M) x = Rr C (ow, cc, ini, ret) (pc + 3, L, qr (q_gs M 6) :: st, M) x :=
  g_xs hd rfl rfl rfl (by simp only [q_xs, hl]; rw [if_pos ⟨hk, hw⟩])
theorem g_strf {idx a : Nat} {e : Nat × Nat} (hd : decode cc pc = .ok (.getfield idx, 3)) (h0 : q_lk q_ftab ow idx = none) (hl : q_lk q_sftab ow idx = some e) (hk : a = q_gs M 1) : Rr C (ow, cc, ini, ret) (pc, L, qr a :: st, M) x = Rr C (ow, cc, ini, ret) (pc + 3, L, (if e.1 = 0 then qr (q_gs M 5) else qi 0) :: st, M) x :=
  g_xs hd rfl (by simp only [q_mm, h0]) rfl (by simp only [q_xs, hl]; rw [if_pos hk])
theorem g_mx {idx : Nat} {a b : Int} {e : Nat × Nat} (hd : decode cc pc = .ok (.invokestatic idx, 3)) (h0 : q_lk q_actab ow idx = none) (hl : q_lk q_mxtab ow idx = some e) (ha1 : -2147483648 ≤ a) (ha2 : a < 2147483648) (hb1 : -2147483648 ≤ b) (hb2 : b < 2147483648) (hw : (st.map q_wd).sum ≤ 8) : Rr C (ow, cc, ini, ret) (pc, L, qi b :: qi a :: st, M) x = Rr C (ow, cc, ini, ret) (pc + 3, L, qi (if e.1 = 0 then max a b else min a b) :: st, M) x :=
  g_xs hd rfl rfl (by simp only [q_ac, h0]) (by simp only [q_xs, hl]; rw [if_pos ⟨⟨ha1, ha2⟩, ⟨hb1, hb2⟩, hw⟩])
theorem g_acmpN {off : Int} {tgt : Nat} {a b : Option Nat} (hd : decode cc pc = .ok (.if_acmp .ne off, 3)) (ht : q_br pc off = some tgt) : Rr C (ow, cc, ini, ret) (pc, L, .inr (.inr b) :: .inr (.inr a) :: st, M) x = (if a = b then Rr C (ow, cc, ini, ret) (pc + 3, L, st, M) x else Rr C (ow, cc, ini, ret) (tgt, L, st, M) x) := by
  rw [g_xs hd rfl rfl rfl (show q_xs ow (.if_acmp .ne off) 3 pc L (.inr (.inr b) :: .inr (.inr a) :: st) M = some (if a = b then pc + 3 else tgt, L, st, M) by simp only [q_xs, ht])]
  split <;> rfl
theorem g_acmpE {off : Int} {tgt : Nat} {a b : Option Nat} (hd : decode cc pc = .ok (.if_acmp .eq off, 3)) (ht : q_br pc off = some tgt) : Rr C (ow, cc, ini, ret) (pc, L, .inr (.inr b) :: .inr (.inr a) :: st, M) x = (if a = b then Rr C (ow, cc, ini, ret) (tgt, L, st, M) x else Rr C (ow, cc, ini, ret) (pc + 3, L, st, M) x) := by
  rw [g_xs hd rfl rfl rfl (show q_xs ow (.if_acmp .eq off) 3 pc L (.inr (.inr b) :: .inr (.inr a) :: st) M = some (if a = b then tgt else pc + 3, L, st, M) by simp only [q_xs, ht])]
  split <;> rfl
theorem g_copy {idx a0 a : Nat} {sp dp n : Int} {e : Nat} (hd : decode cc pc = .ok (.invokestatic idx, 3)) (hl : q_lk q_actab ow idx = some e) (hk : q_acc M a0 a sp dp n = true) (hw : (st.map q_wd).sum ≤ 8) : Rr C (ow, cc, ini, ret) (pc, L, qi n :: qi dp :: qr a :: qi sp :: qr a0 :: st, M) x = Rr C (ow, cc, ini, ret) (pc + 3, L, st, q_cp M a0 sp.toNat a dp.toNat n.toNat) x :=
  g_ac hd rfl rfl (by simp only [q_ac, hl]; rw [if_pos ⟨hk, hw⟩])
-- ends
theorem g_iret {z : Int} {t : FieldType} (hd : decode cc pc = .ok (.ireturn, 1)) (hz : q_rt t z = true) : Rr C (ow, cc, ini, some t) (pc, L, [qi z], M) x = x (some (qi z)) M :=
  g_fin hd rfl rfl rfl rfl (by simp only [q_fin]; rw [if_pos hz])
theorem g_lret {z : Int} (hd : decode cc pc = .ok (.lreturn, 1)) : Rr C (ow, cc, ini, some .long) (pc, L, [ql z], M) x = x (some (ql z)) M := g_fin hd rfl rfl rfl rfl rfl
theorem g_areto {r : Option Nat} {n : String} (hd : decode cc pc = .ok (.areturn, 1)) : Rr C (ow, cc, ini, some (.object n)) (pc, L, [.inr (.inr r)], M) x = x (some (.inr (.inr r))) M := g_fin hd rfl rfl rfl rfl rfl
theorem g_areta {r : Option Nat} {n : FieldType} (hd : decode cc pc = .ok (.areturn, 1)) : Rr C (ow, cc, ini, some (.array n)) (pc, L, [.inr (.inr r)], M) x = x (some (.inr (.inr r))) M := g_fin hd rfl rfl rfl rfl rfl
theorem g_vret (hd : decode cc pc = .ok (.return_, 1)) : Rr C (ow, cc, ini, none) (pc, L, [], M) x = x none M := g_fin hd rfl rfl rfl rfl rfl
-- calls
theorem g_cs {idx : Nat} {e : Nat × Nat × Nat × List Nat} {d : QD} {as rest : List CV} {v : Option CV} {M1 : QM} (hd : decode cc pc = .ok (.invokestatic idx, 3)) (hl : q_lk q_itab ow idx = some e) (h0 : q_lk q_actab ow idx = none) (h1 : q_lk q_mxtab ow idx = none) (hm : q_mtab[e.2.1]? = some d) (hk : e.1 = 1 ∨ e.1 = 2) (hn : as.length = d.2.2.2.2.1) (hC : C e.2.1 as M v M1) (hw : (rest.map q_wd).sum ≤ 8)
    (k : Rr C (ow, cc, ini, ret) (pc + 3, L, v.toList ++ rest, M1) x) : Rr C (ow, cc, ini, ret) (pc, L, as.reverse ++ rest, M) x := by
  refine g_inv (y := e.2.1) (as := as) (rest := rest) hd rfl rfl ?_ ?_ rfl ?_ hC k
  · simp only [q_ac, h0]
    split <;> first | rfl | contradiction
  · simp only [q_xs, h1]
    split <;> first | rfl | contradiction
  · simp only [q_inv, hl, hm, ← hn]
    rw [if_pos ⟨hk, by simp, by rw [← List.length_reverse, List.drop_left]; exact hw⟩]
    rw [← List.length_reverse, List.take_left, List.drop_left, List.reverse_reverse]
theorem g_cv {idx b : Nat} {e : Nat × Nat × Nat × List Nat} {d : QD} {as rest : List CV} {v : Option CV} {M1 : QM} (hd : decode cc pc = .ok (.invokevirtual idx, 3)) (hl : q_lk q_itab ow idx = some e) (h0 : q_lk q_gctab ow idx = none) (hm : q_mtab[e.2.1]? = some d) (hk : e.1 = 0 ∨ e.1 = 5) (hn : as.length = d.2.2.2.2.1) (hb : q_kd M b = (1, e.2.2.1)) (hC : C e.2.1 (qr b :: as) M v M1) (hw : (rest.map q_wd).sum ≤ 8)
    (k : Rr C (ow, cc, ini, ret) (pc + 3, L, v.toList ++ rest, M1) x) : Rr C (ow, cc, ini, ret) (pc, L, as.reverse ++ (qr b :: rest), M) x := by
  refine g_inv (y := e.2.1) (as := qr b :: as) (rest := rest) hd rfl rfl rfl ?_ rfl ?_ hC k
  · simp only [q_xs, h0]
    split <;> first | rfl | contradiction
  · simp only [q_inv, hl, hm, ← hn]
    rw [← List.length_reverse, List.drop_left]
    dsimp only
    rw [if_pos ⟨Or.inl ⟨hk, hb⟩, hw, by simp⟩, List.take_left, List.reverse_reverse]
theorem g_cstr {idx b : Nat} {e : Nat × Nat × Nat × List Nat} {d : QD} {as rest : List CV} {v : Option CV} {M1 : QM} (hd : decode cc pc = .ok (.invokevirtual idx, 3)) (hl : q_lk q_itab ow idx = some e) (h0 : q_lk q_gctab ow idx = none) (hm : q_mtab[e.2.1]? = some d) (hk : e.1 = 8) (hn : as.length = d.2.2.2.2.1) (hb : b = q_gs M 1) (hC : C e.2.1 (qr b :: as) M v M1) (hw : (rest.map q_wd).sum ≤ 8)
    (k : Rr C (ow, cc, ini, ret) (pc + 3, L, v.toList ++ rest, M1) x) : Rr C (ow, cc, ini, ret) (pc, L, as.reverse ++ (qr b :: rest), M) x := by
  refine g_inv (y := e.2.1) (as := qr b :: as) (rest := rest) hd rfl rfl rfl ?_ rfl ?_ hC k
  · simp only [q_xs, h0]
    split <;> first | rfl | contradiction
  · simp only [q_inv, hl, hm, ← hn]
    rw [← List.length_reverse, List.drop_left]
    dsimp only
    rw [if_pos ⟨Or.inr ⟨hk, hb⟩, hw, by simp⟩, List.take_left, List.reverse_reverse]
theorem g_ci {idx b : Nat} {e : Nat × Nat × Nat × List Nat} {d : QD} {as rest : List CV} {v : Option CV} {M1 : QM} (hd : decode cc pc = .ok (.invokespecial idx, 3)) (hl : q_lk q_itab ow idx = some e) (h0 : q_lk q_otab ow idx = none) (hm : q_mtab[e.2.1]? = some d) (hk : (e.1 = 3 ∨ e.1 = 4) ∨ (e.1 = 7 ∧ (q_kd M b).1 = 1)) (hn : as.length = d.2.2.2.2.1) (hC : C e.2.1 (qr b :: as) M v M1) (hw : (rest.map q_wd).sum ≤ 8)
    (k : Rr C (ow, cc, ini, ret) (pc + 3, L, v.toList ++ rest, M1) x) : Rr C (ow, cc, ini, ret) (pc, L, as.reverse ++ (qr b :: rest), M) x := by
  refine g_inv (y := e.2.1) (as := qr b :: as) (rest := rest) hd rfl ?_ rfl rfl rfl ?_ hC k
  · simp only [q_mm, h0]
    split <;> first | rfl | contradiction
  · simp only [q_inv, hl, hm, ← hn]
    rw [← List.length_reverse, List.drop_left]
    dsimp only
    rw [if_pos ⟨hk, hw, by simp⟩, List.take_left, List.reverse_reverse]
theorem g_entry {d y : Nat} {as : List CV} {e : QD} {r : Option CV} {M1 : QM} {mi : QI} (hm : q_mtab[y]? = some e) (hl : (q_ent as).length ≤ e.2.2.1) (hL : q_L0 as e.2.2.1 = L) (hi : mi = (e.2.2.2.2.2.2, e.2.1, decide (e.1.name = "<init>"), e.2.2.2.1)) : q_C (d + 1) y as M r M1 = Rr (q_C d) mi (0, L, [], M) (q_ex r M1) := by
  subst hL; subst hi
  apply propext
  constructor
  · rintro ⟨e', h1, -, h2⟩
    cases hm.symm.trans h1
    exact h2
  · intro h
    exact ⟨e, hm, hl, h⟩
theorem g_entryT {d y : Nat} {as : List CV} {e : QD} {mi : QI} (hm : q_mtab[y]? = some e) (hl : (q_ent as).length ≤ e.2.2.1) (hL : q_L0 as e.2.2.1 = L) (hi : mi = (e.2.2.2.2.2.2, e.2.1, decide (e.1.name = "<init>"), e.2.2.2.1)) : q_T (d + 1) y as M x = Rr (q_C d) mi (0, L, [], M) x := by
  apply propext
  constructor
  · rintro ⟨r, M1, h1, h2⟩
    rw [g_entry hm hl hL hi] at h1
    exact h1.im (fun r' M' h => by rw [h.1, h.2]; exact h2)
  · rintro ⟨n, h⟩
    obtain ⟨r, M1, h1, h2⟩ := Rn_ex n _ h
    exact ⟨r, M1, by rw [g_entry hm hl hL hi]; exact ⟨n, h1⟩, h2⟩
end QG
