/-! memory: what a write, a new cell, a copy leave -/
theorem q_kd_wr {M : QM} {a k b : Nat} {v : CV} : q_kd (q_wr M a k v) b = q_kd M b := rfl
theorem q_fv_wrE {M : QM} {a k b j : Nat} {v : CV} : q_fv (q_wr M a k v) b j = if b = a ∧ j = k then v else q_fv M b j := rfl
theorem q_top_wr {M : QM} {a k : Nat} {v : CV} : q_top (q_wr M a k v) = q_top M := rfl
theorem q_nc_wr {M : QM} {a k : Nat} {v : CV} : q_nc (q_wr M a k v) = q_nc M := rfl
theorem q_ns_wr {M : QM} {a k : Nat} {v : CV} : q_ns (q_wr M a k v) = q_ns M := rfl
theorem q_gs_wr {M : QM} {a k : Nat} {v : CV} : q_gs (q_wr M a k v) = q_gs M := rfl
theorem q_kd_al {M : QM} {kd : Nat × Nat} {n b : Nat} {f : Nat → CV} : q_kd (q_al M kd n f) b = if b = q_top M then kd else q_kd M b := rfl
theorem q_fv_al {M : QM} {kd : Nat × Nat} {n b j : Nat} {f : Nat → CV} : q_fv (q_al M kd n f) b j = if b = q_top M then f j else q_fv M b j := rfl
theorem q_top_al {M : QM} {kd : Nat × Nat} {n : Nat} {f : Nat → CV} : q_top (q_al M kd n f) = q_top M + 1 := rfl
theorem q_nc_al {M : QM} {kd : Nat × Nat} {n : Nat} {f : Nat → CV} : q_nc (q_al M kd n f) = q_nc M + 1 := rfl
theorem q_ns_al {M : QM} {kd : Nat × Nat} {n : Nat} {f : Nat → CV} : q_ns (q_al M kd n f) = q_ns M + n := rfl
theorem q_gs_al {M : QM} {kd : Nat × Nat} {n : Nat} {f : Nat → CV} : q_gs (q_al M kd n f) = q_gs M := rfl
theorem q_kd_cp {M : QM} {a0 sp a dp n b : Nat} : q_kd (q_cp M a0 sp a dp n) b = q_kd M b := rfl
theorem q_fv_cpE {M : QM} {a0 sp a dp n b j : Nat} : q_fv (q_cp M a0 sp a dp n) b j = if b = a ∧ dp ≤ j ∧ j < dp + n then q_fv M a0 (sp + (j - dp)) else q_fv M b j := rfl
theorem q_top_cp {M : QM} {a0 sp a dp n : Nat} : q_top (q_cp M a0 sp a dp n) = q_top M := rfl
theorem q_nc_cp {M : QM} {a0 sp a dp n : Nat} : q_nc (q_cp M a0 sp a dp n) = q_nc M := rfl
theorem q_ns_cp {M : QM} {a0 sp a dp n : Nat} : q_ns (q_cp M a0 sp a dp n) = q_ns M := rfl
theorem q_gs_cp {M : QM} {a0 sp a dp n : Nat} : q_gs (q_cp M a0 sp a dp n) = q_gs M := rfl
theorem q_cut_i {z : Int} : q_cut (some (qi z)) = some (qi z) := rfl
theorem q_cut_r {z : Option Nat} : q_cut (some (.inr (.inr z))) = some (.inr (.inr z)) := rfl
theorem q_cut_l {z : Int} : q_cut (some (ql z)) = none := rfl
theorem q_cut_n : q_cut none = none := rfl
theorem q_toN {n : Nat} : ((n : Int)).toNat = n := rfl
theorem q_Tx {d y : Nat} {as : List CV} {M M1 : QM} {v : Option CV} (h : q_T d y as M (q_ex v M1)) : q_C d y as M v M1 := by
  obtain ⟨r, M2, h1, rfl, rfl⟩ := h
  exact h1
