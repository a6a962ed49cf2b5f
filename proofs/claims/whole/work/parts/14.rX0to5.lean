/-! rules, one for each instruction: written by a program out of the code -/
def mX0_init : QI := (0, cX0_init, true, none)
set_option maxRecDepth 20000 in
theorem kX0_init_0 {C : QC} {x : QP} {M : QM} {st : List CV} {L : QL} {r : Option Nat} : Rr C mX0_init (0, [some (.inr (.inr r))], st, M) x = Rr C mX0_init (1, [some (.inr (.inr r))], .inr (.inr r) :: st, M) x := g_pl (show decode cX0_init 0 = .ok (.aload_n 0, 1) by decide +kernel) rfl
set_option maxRecDepth 20000 in
theorem kX0_init_1 {C : QC} {x : QP} {M : QM} {st : List CV} {L : QL} {a : Nat} (hw : (st.map q_wd).sum ≤ 8) : Rr C mX0_init (1, L, qr a :: st, M) x = Rr C mX0_init (4, L, st, M) x := g_obj (ow := 0) (e := 185) (show decode cX0_init 1 = .ok (.invokespecial 3, 3) by decide +kernel) rfl hw
set_option maxRecDepth 20000 in
theorem kX0_init_4 {C : QC} {x : QP} {M : QM} {st : List CV} {L : QL} {r : Option Nat} : Rr C mX0_init (4, [some (.inr (.inr r))], st, M) x = Rr C mX0_init (5, [some (.inr (.inr r))], .inr (.inr r) :: st, M) x := g_pl (show decode cX0_init 4 = .ok (.aload_n 0, 1) by decide +kernel) rfl
set_option maxRecDepth 20000 in
theorem kX0_init_5 {C : QC} {x : QP} {M : QM} {st : List CV} {L : QL} : Rr C mX0_init (5, L, st, M) x = Rr C mX0_init (7, L, qi 8 :: st, M) x := g_pl (show decode cX0_init 5 = .ok (.bipush 8, 2) by decide +kernel) rfl
set_option maxRecDepth 20000 in
theorem kX0_init_7 {C : QC} {x : QP} {M : QM} {st : List CV} {L : QL} {n : Int} (h0 : 0 ≤ n) (h1 : n ≤ 60000000) : Rr C mX0_init (7, L, qi n :: st, M) x = Rr C mX0_init (9, L, qr (q_top M) :: st, q_al M (2, n.toNat) n.toNat (fun _ => qi 0)) x := g_newI (show decode cX0_init 7 = .ok (.newarray .int, 2) by decide +kernel) h0 h1
set_option maxRecDepth 20000 in
theorem kX0_init_9 {C : QC} {x : QP} {M : QM} {st : List CV} {L : QL} {z : Option Nat} {a : Nat} (hk : q_kd M a = (1, 0)) : Rr C mX0_init (9, L, .inr (.inr z) :: qr a :: st, M) x = Rr C mX0_init (12, L, st, q_wr M a 0 (.inr (.inr z))) x := g_putf (ow := 0) (ini := true) (e := (0, 0, RX0, 186, 0)) (r := (RX0, TX0, 7)) (t := tyX0) (show decode cX0_init 9 = .ok (.putfield 9, 3) by decide +kernel) rfl rfl rfl rfl (by decide +kernel) hk
set_option maxRecDepth 20000 in
theorem kX0_init_12 {C : QC} {x : QP} {M : QM} {st : List CV} {L : QL} {r : Option Nat} : Rr C mX0_init (12, [some (.inr (.inr r))], st, M) x = Rr C mX0_init (13, [some (.inr (.inr r))], .inr (.inr r) :: st, M) x := g_pl (show decode cX0_init 12 = .ok (.aload_n 0, 1) by decide +kernel) rfl
set_option maxRecDepth 20000 in
theorem kX0_init_13 {C : QC} {x : QP} {M : QM} {st : List CV} {L : QL} : Rr C mX0_init (13, L, st, M) x = Rr C mX0_init (15, L, qi 8 :: st, M) x := g_pl (show decode cX0_init 13 = .ok (.bipush 8, 2) by decide +kernel) rfl
set_option maxRecDepth 20000 in
theorem kX0_init_15 {C : QC} {x : QP} {M : QM} {st : List CV} {L : QL} {n : Int} (h0 : 0 ≤ n) (h1 : n ≤ 60000000) : Rr C mX0_init (15, L, qi n :: st, M) x = Rr C mX0_init (17, L, qr (q_top M) :: st, q_al M (2, n.toNat) n.toNat (fun _ => qi 0)) x := g_newI (show decode cX0_init 15 = .ok (.newarray .int, 2) by decide +kernel) h0 h1
set_option maxRecDepth 20000 in
theorem kX0_init_17 {C : QC} {x : QP} {M : QM} {st : List CV} {L : QL} {z : Option Nat} {a : Nat} (hk : q_kd M a = (1, 0)) : Rr C mX0_init (17, L, .inr (.inr z) :: qr a :: st, M) x = Rr C mX0_init (20, L, st, q_wr M a 1 (.inr (.inr z))) x := g_putf (ow := 0) (ini := true) (e := (0, 1, RX0, 187, 0)) (r := (RX0, TX0, 7)) (t := tyX0) (show decode cX0_init 17 = .ok (.putfield 15, 3) by decide +kernel) rfl rfl rfl rfl (by decide +kernel) hk
set_option maxRecDepth 20000 in
theorem kX0_init_20 {C : QC} {x : QP} {M : QM} {st : List CV} {L : QL} {r : Option Nat} : Rr C mX0_init (20, [some (.inr (.inr r))], st, M) x = Rr C mX0_init (21, [some (.inr (.inr r))], .inr (.inr r) :: st, M) x := g_pl (show decode cX0_init 20 = .ok (.aload_n 0, 1) by decide +kernel) rfl
set_option maxRecDepth 20000 in
theorem kX0_init_21 {C : QC} {x : QP} {M : QM} {st : List CV} {L : QL} : Rr C mX0_init (21, L, st, M) x = Rr C mX0_init (23, L, qi 8 :: st, M) x := g_pl (show decode cX0_init 21 = .ok (.bipush 8, 2) by decide +kernel) rfl
set_option maxRecDepth 20000 in
theorem kX0_init_23 {C : QC} {x : QP} {M : QM} {st : List CV} {L : QL} {n : Int} (h0 : 0 ≤ n) (h1 : n ≤ 60000000) : Rr C mX0_init (23, L, qi n :: st, M) x = Rr C mX0_init (25, L, qr (q_top M) :: st, q_al M (2, n.toNat) n.toNat (fun _ => qi 0)) x := g_newI (show decode cX0_init 23 = .ok (.newarray .int, 2) by decide +kernel) h0 h1
set_option maxRecDepth 20000 in
theorem kX0_init_25 {C : QC} {x : QP} {M : QM} {st : List CV} {L : QL} {z : Option Nat} {a : Nat} (hk : q_kd M a = (1, 0)) : Rr C mX0_init (25, L, .inr (.inr z) :: qr a :: st, M) x = Rr C mX0_init (28, L, st, q_wr M a 2 (.inr (.inr z))) x := g_putf (ow := 0) (ini := true) (e := (0, 2, RX0, 188, 0)) (r := (RX0, TX0, 7)) (t := tyX0) (show decode cX0_init 25 = .ok (.putfield 18, 3) by decide +kernel) rfl rfl rfl rfl (by decide +kernel) hk
set_option maxRecDepth 20000 in
theorem kX0_init_28 {C : QC} {x : QP} {M : QM} {st : List CV} {L : QL} {r : Option Nat} : Rr C mX0_init (28, [some (.inr (.inr r))], st, M) x = Rr C mX0_init (29, [some (.inr (.inr r))], .inr (.inr r) :: st, M) x := g_pl (show decode cX0_init 28 = .ok (.aload_n 0, 1) by decide +kernel) rfl
set_option maxRecDepth 20000 in
theorem kX0_init_29 {C : QC} {x : QP} {M : QM} {st : List CV} {L : QL} : Rr C mX0_init (29, L, st, M) x = Rr C mX0_init (31, L, qi 8 :: st, M) x := g_pl (show decode cX0_init 29 = .ok (.bipush 8, 2) by decide +kernel) rfl
set_option maxRecDepth 20000 in
theorem kX0_init_31 {C : QC} {x : QP} {M : QM} {st : List CV} {L : QL} {n : Int} (h0 : 0 ≤ n) (h1 : n ≤ 60000000) : Rr C mX0_init (31, L, qi n :: st, M) x = Rr C mX0_init (33, L, qr (q_top M) :: st, q_al M (2, n.toNat) n.toNat (fun _ => qi 0)) x := g_newI (show decode cX0_init 31 = .ok (.newarray .int, 2) by decide +kernel) h0 h1
set_option maxRecDepth 20000 in
theorem kX0_init_33 {C : QC} {x : QP} {M : QM} {st : List CV} {L : QL} {z : Option Nat} {a : Nat} (hk : q_kd M a = (1, 0)) : Rr C mX0_init (33, L, .inr (.inr z) :: qr a :: st, M) x = Rr C mX0_init (36, L, st, q_wr M a 3 (.inr (.inr z))) x := g_putf (ow := 0) (ini := true) (e := (0, 3, RX0, 189, 0)) (r := (RX0, TX0, 7)) (t := tyX0) (show decode cX0_init 33 = .ok (.putfield 21, 3) by decide +kernel) rfl rfl rfl rfl (by decide +kernel) hk
set_option maxRecDepth 20000 in
theorem kX0_init_36 {C : QC} {x : QP} {M : QM} {st : List CV} {L : QL} {r : Option Nat} : Rr C mX0_init (36, [some (.inr (.inr r))], st, M) x = Rr C mX0_init (37, [some (.inr (.inr r))], .inr (.inr r) :: st, M) x := g_pl (show decode cX0_init 36 = .ok (.aload_n 0, 1) by decide +kernel) rfl
set_option maxRecDepth 20000 in
theorem kX0_init_37 {C : QC} {x : QP} {M : QM} {st : List CV} {L : QL} : Rr C mX0_init (37, L, st, M) x = Rr C mX0_init (38, L, qi 0 :: st, M) x := g_pl (show decode cX0_init 37 = .ok (.iconst 0, 1) by decide +kernel) rfl
set_option maxRecDepth 20000 in
theorem kX0_init_38 {C : QC} {x : QP} {M : QM} {st : List CV} {L : QL} {z : Int} {a : Nat} (hk : q_kd M a = (1, 0)) : Rr C mX0_init (38, L, qi z :: qr a :: st, M) x = Rr C mX0_init (41, L, st, q_wr M a 4 (qi z)) x := g_putf (ow := 0) (ini := true) (e := (0, 4, RX0, 190, 0)) (r := (RX0, TX0, 7)) (t := tyX0) (show decode cX0_init 38 = .ok (.putfield 24, 3) by decide +kernel) rfl rfl rfl rfl (by decide +kernel) hk
set_option maxRecDepth 20000 in
theorem kX0_init_41 {C : QC} {x : QP} {M : QM} {st : List CV} {L : QL} {r : Option Nat} : Rr C mX0_init (41, [some (.inr (.inr r))], st, M) x = Rr C mX0_init (42, [some (.inr (.inr r))], .inr (.inr r) :: st, M) x := g_pl (show decode cX0_init 41 = .ok (.aload_n 0, 1) by decide +kernel) rfl
set_option maxRecDepth 20000 in
theorem kX0_init_42 {C : QC} {x : QP} {M : QM} {st : List CV} {L : QL} : Rr C mX0_init (42, L, st, M) x = Rr C mX0_init (44, L, qi 8 :: st, M) x := g_pl (show decode cX0_init 42 = .ok (.bipush 8, 2) by decide +kernel) rfl
set_option maxRecDepth 20000 in
theorem kX0_init_44 {C : QC} {x : QP} {M : QM} {st : List CV} {L : QL} {n : Int} (h0 : 0 ≤ n) (h1 : n ≤ 60000000) : Rr C mX0_init (44, L, qi n :: st, M) x = Rr C mX0_init (46, L, qr (q_top M) :: st, q_al M (2, n.toNat) n.toNat (fun _ => qi 0)) x := g_newI (show decode cX0_init 44 = .ok (.newarray .int, 2) by decide +kernel) h0 h1
set_option maxRecDepth 20000 in
theorem kX0_init_46 {C : QC} {x : QP} {M : QM} {st : List CV} {L : QL} {z : Option Nat} {a : Nat} (hk : q_kd M a = (1, 0)) : Rr C mX0_init (46, L, .inr (.inr z) :: qr a :: st, M) x = Rr C mX0_init (49, L, st, q_wr M a 5 (.inr (.inr z))) x := g_putf (ow := 0) (ini := true) (e := (0, 5, RX0, 191, 0)) (r := (RX0, TX0, 7)) (t := tyX0) (show decode cX0_init 46 = .ok (.putfield 28, 3) by decide +kernel) rfl rfl rfl rfl (by decide +kernel) hk
set_option maxRecDepth 20000 in
theorem kX0_init_49 {C : QC} {x : QP} {M : QM} {st : List CV} {L : QL} {r : Option Nat} : Rr C mX0_init (49, [some (.inr (.inr r))], st, M) x = Rr C mX0_init (50, [some (.inr (.inr r))], .inr (.inr r) :: st, M) x := g_pl (show decode cX0_init 49 = .ok (.aload_n 0, 1) by decide +kernel) rfl
set_option maxRecDepth 20000 in
theorem kX0_init_50 {C : QC} {x : QP} {M : QM} {st : List CV} {L : QL} : Rr C mX0_init (50, L, st, M) x = Rr C mX0_init (51, L, qi 0 :: st, M) x := g_pl (show decode cX0_init 50 = .ok (.iconst 0, 1) by decide +kernel) rfl
set_option maxRecDepth 20000 in
theorem kX0_init_51 {C : QC} {x : QP} {M : QM} {st : List CV} {L : QL} {z : Int} {a : Nat} (hk : q_kd M a = (1, 0)) : Rr C mX0_init (51, L, qi z :: qr a :: st, M) x = Rr C mX0_init (54, L, st, q_wr M a 6 (qi z)) x := g_putf (ow := 0) (ini := true) (e := (0, 6, RX0, 192, 0)) (r := (RX0, TX0, 7)) (t := tyX0) (show decode cX0_init 51 = .ok (.putfield 31, 3) by decide +kernel) rfl rfl rfl rfl (by decide +kernel) hk
set_option maxRecDepth 20000 in
theorem kX0_init_54 {C : QC} {x : QP} {M : QM} {st : List CV} {L : QL} : Rr C mX0_init (54, L, [], M) x = x none M := g_vret (show decode cX0_init 54 = .ok (.return_, 1) by decide +kernel)
set_option maxRecDepth 20000 in
theorem eX0_init {d : Nat} {M : QM} {x : QP} {a : Nat} : q_T (d + 1) iX0_init [qr a] M x = Rr (q_C d) mX0_init (0, [some (qr a)], [], M) x := g_entryT (e := _) rfl (Nat.le_of_ble_eq_true rfl) rfl rfl
def mX0_size : QI := (0, cX0_size, false, some .int)
set_option maxRecDepth 20000 in
theorem kX0_size_0 {C : QC} {x : QP} {M : QM} {st : List CV} {L : QL} {r : Option Nat} : Rr C mX0_size (0, [some (.inr (.inr r))], st, M) x = Rr C mX0_size (1, [some (.inr (.inr r))], .inr (.inr r) :: st, M) x := g_pl (show decode cX0_size 0 = .ok (.aload_n 0, 1) by decide +kernel) rfl
set_option maxRecDepth 20000 in
theorem kX0_size_1 {C : QC} {x : QP} {M : QM} {st : List CV} {L : QL} {a : Nat} (hk : q_kd M a = (1, 0)) : Rr C mX0_size (1, L, qr a :: st, M) x = Rr C mX0_size (4, L, q_fv M a 6 :: st, M) x := g_getf (ow := 0) (e := (0, 6, RX0, 192, 0)) (show decode cX0_size 1 = .ok (.getfield 31, 3) by decide +kernel) rfl hk
set_option maxRecDepth 20000 in
theorem kX0_size_4 {C : QC} {x : QP} {M : QM} {st : List CV} {L : QL} {z : Int} : Rr C mX0_size (4, L, [qi z], M) x = x (some (qi z)) M := g_iret (show decode cX0_size 4 = .ok (.ireturn, 1) by decide +kernel) rfl
set_option maxRecDepth 20000 in
theorem eX0_size {d : Nat} {M : QM} {x : QP} {a : Nat} : q_T (d + 1) iX0_size [qr a] M x = Rr (q_C d) mX0_size (0, [some (qr a)], [], M) x := g_entryT (e := _) rfl (Nat.le_of_ble_eq_true rfl) rfl rfl
def mX0_has : QI := (0, cX0_has, false, some .boolean)
set_option maxRecDepth 20000 in
theorem kX0_has_0 {C : QC} {x : QP} {M : QM} {st : List CV} {L : QL} {l0 l1 : Option CV} {z : Int} : Rr C mX0_has (0, [l0, some (qi z)], st, M) x = Rr C mX0_has (1, [l0, some (qi z)], qi z :: st, M) x := g_pl (show decode cX0_has 0 = .ok (.iload_n 1, 1) by decide +kernel) rfl
set_option maxRecDepth 20000 in
theorem kX0_has_1 {C : QC} {x : QP} {M : QM} {st : List CV} {L : QL} {a : Int} (ha1 : -2147483648 ≤ a) (ha2 : a < 2147483648) : Rr C mX0_has (1, L, qi a :: st, M) x = (if a < 0 then Rr C mX0_has (16, L, st, M) x else Rr C mX0_has (4, L, st, M) x) := (g_if (show decode cX0_has 1 = .ok (.ifCond .lt 15, 3) by decide +kernel) rfl ha1 ha2).trans (g_ite c_lt)
set_option maxRecDepth 20000 in
theorem kX0_has_4 {C : QC} {x : QP} {M : QM} {st : List CV} {L : QL} {l0 l1 : Option CV} {z : Int} : Rr C mX0_has (4, [l0, some (qi z)], st, M) x = Rr C mX0_has (5, [l0, some (qi z)], qi z :: st, M) x := g_pl (show decode cX0_has 4 = .ok (.iload_n 1, 1) by decide +kernel) rfl
set_option maxRecDepth 20000 in
theorem kX0_has_5 {C : QC} {x : QP} {M : QM} {st : List CV} {L : QL} {l0 l1 : Option CV} {r : Option Nat} : Rr C mX0_has (5, [some (.inr (.inr r)), l1], st, M) x = Rr C mX0_has (6, [some (.inr (.inr r)), l1], .inr (.inr r) :: st, M) x := g_pl (show decode cX0_has 5 = .ok (.aload_n 0, 1) by decide +kernel) rfl
set_option maxRecDepth 20000 in
theorem kX0_has_6 {C : QC} {x : QP} {M : QM} {st : List CV} {L : QL} {a : Nat} (hk : q_kd M a = (1, 0)) : Rr C mX0_has (6, L, qr a :: st, M) x = Rr C mX0_has (9, L, q_fv M a 6 :: st, M) x := g_getf (ow := 0) (e := (0, 6, RX0, 192, 0)) (show decode cX0_has 6 = .ok (.getfield 31, 3) by decide +kernel) rfl hk
set_option maxRecDepth 20000 in
theorem kX0_has_9 {C : QC} {x : QP} {M : QM} {st : List CV} {L : QL} {a b : Int} (ha1 : -2147483648 ≤ a) (ha2 : a < 2147483648) (hb1 : -2147483648 ≤ b) (hb2 : b < 2147483648) : Rr C mX0_has (9, L, qi b :: qi a :: st, M) x = (if a < b then Rr C mX0_has (12, L, st, M) x else Rr C mX0_has (16, L, st, M) x) := (g_icmp (show decode cX0_has 9 = .ok (.if_icmp .ge 7, 3) by decide +kernel) rfl ha1 ha2 hb1 hb2).trans (g_itn c_ge)
set_option maxRecDepth 20000 in
theorem kX0_has_12 {C : QC} {x : QP} {M : QM} {st : List CV} {L : QL} : Rr C mX0_has (12, L, st, M) x = Rr C mX0_has (13, L, qi 1 :: st, M) x := g_pl (show decode cX0_has 12 = .ok (.iconst 1, 1) by decide +kernel) rfl
set_option maxRecDepth 20000 in
theorem kX0_has_13 {C : QC} {x : QP} {M : QM} {st : List CV} {L : QL} : Rr C mX0_has (13, L, st, M) x = Rr C mX0_has (17, L, st, M) x := g_pl (show decode cX0_has 13 = .ok (.goto 4, 3) by decide +kernel) rfl
set_option maxRecDepth 20000 in
theorem kX0_has_16 {C : QC} {x : QP} {M : QM} {st : List CV} {L : QL} : Rr C mX0_has (16, L, st, M) x = Rr C mX0_has (17, L, qi 0 :: st, M) x := g_pl (show decode cX0_has 16 = .ok (.iconst 0, 1) by decide +kernel) rfl
set_option maxRecDepth 20000 in
theorem kX0_has_17 {C : QC} {x : QP} {M : QM} {st : List CV} {L : QL} {z : Int} (hz : z = 0 ∨ z = 1) : Rr C mX0_has (17, L, [qi z], M) x = x (some (qi z)) M := g_iret (show decode cX0_has 17 = .ok (.ireturn, 1) by decide +kernel) (by rcases hz with rfl | rfl <;> rfl)
set_option maxRecDepth 20000 in
theorem eX0_has {d : Nat} {M : QM} {x : QP} {a : Nat} {v0 : Int} : q_T (d + 1) iX0_has [qr a, qi v0] M x = Rr (q_C d) mX0_has (0, [some (qr a), some (qi v0)], [], M) x := g_entryT (e := _) rfl (Nat.le_of_ble_eq_true rfl) rfl rfl
def mX0_clear : QI := (0, cX0_clear, false, none)
set_option maxRecDepth 20000 in
theorem kX0_clear_0 {C : QC} {x : QP} {M : QM} {st : List CV} {L : QL} {r : Option Nat} : Rr C mX0_clear (0, [some (.inr (.inr r))], st, M) x = Rr C mX0_clear (1, [some (.inr (.inr r))], .inr (.inr r) :: st, M) x := g_pl (show decode cX0_clear 0 = .ok (.aload_n 0, 1) by decide +kernel) rfl
set_option maxRecDepth 20000 in
theorem kX0_clear_1 {C : QC} {x : QP} {M : QM} {st : List CV} {L : QL} : Rr C mX0_clear (1, L, st, M) x = Rr C mX0_clear (2, L, qi 0 :: st, M) x := g_pl (show decode cX0_clear 1 = .ok (.iconst 0, 1) by decide +kernel) rfl
set_option maxRecDepth 20000 in
theorem kX0_clear_2 {C : QC} {x : QP} {M : QM} {st : List CV} {L : QL} {z : Int} {a : Nat} (hk : q_kd M a = (1, 0)) : Rr C mX0_clear (2, L, qi z :: qr a :: st, M) x = Rr C mX0_clear (5, L, st, q_wr M a 4 (qi z)) x := g_putf (ow := 0) (ini := false) (e := (0, 4, RX0, 190, 0)) (r := (RX0, TX0, 7)) (t := tyX0) (show decode cX0_clear 2 = .ok (.putfield 24, 3) by decide +kernel) rfl rfl rfl rfl (by decide +kernel) hk
set_option maxRecDepth 20000 in
theorem kX0_clear_5 {C : QC} {x : QP} {M : QM} {st : List CV} {L : QL} {r : Option Nat} : Rr C mX0_clear (5, [some (.inr (.inr r))], st, M) x = Rr C mX0_clear (6, [some (.inr (.inr r))], .inr (.inr r) :: st, M) x := g_pl (show decode cX0_clear 5 = .ok (.aload_n 0, 1) by decide +kernel) rfl
set_option maxRecDepth 20000 in
theorem kX0_clear_6 {C : QC} {x : QP} {M : QM} {st : List CV} {L : QL} : Rr C mX0_clear (6, L, st, M) x = Rr C mX0_clear (7, L, qi 0 :: st, M) x := g_pl (show decode cX0_clear 6 = .ok (.iconst 0, 1) by decide +kernel) rfl
set_option maxRecDepth 20000 in
theorem kX0_clear_7 {C : QC} {x : QP} {M : QM} {st : List CV} {L : QL} {z : Int} {a : Nat} (hk : q_kd M a = (1, 0)) : Rr C mX0_clear (7, L, qi z :: qr a :: st, M) x = Rr C mX0_clear (10, L, st, q_wr M a 6 (qi z)) x := g_putf (ow := 0) (ini := false) (e := (0, 6, RX0, 192, 0)) (r := (RX0, TX0, 7)) (t := tyX0) (show decode cX0_clear 7 = .ok (.putfield 31, 3) by decide +kernel) rfl rfl rfl rfl (by decide +kernel) hk
set_option maxRecDepth 20000 in
theorem kX0_clear_10 {C : QC} {x : QP} {M : QM} {st : List CV} {L : QL} : Rr C mX0_clear (10, L, [], M) x = x none M := g_vret (show decode cX0_clear 10 = .ok (.return_, 1) by decide +kernel)
set_option maxRecDepth 20000 in
theorem eX0_clear {d : Nat} {M : QM} {x : QP} {a : Nat} : q_T (d + 1) iX0_clear [qr a] M x = Rr (q_C d) mX0_clear (0, [some (qr a)], [], M) x := g_entryT (e := _) rfl (Nat.le_of_ble_eq_true rfl) rfl rfl
def mX0_addLeaf : QI := (0, cX0_addLeaf, false, some .int)
set_option maxRecDepth 20000 in
theorem kX0_addLeaf_0 {C : QC} {x : QP} {M : QM} {st : List CV} {L : QL} {l0 l1 l2 : Option CV} {r : Option Nat} : Rr C mX0_addLeaf (0, [some (.inr (.inr r)), l1, l2], st, M) x = Rr C mX0_addLeaf (1, [some (.inr (.inr r)), l1, l2], .inr (.inr r) :: st, M) x := g_pl (show decode cX0_addLeaf 0 = .ok (.aload_n 0, 1) by decide +kernel) rfl
set_option maxRecDepth 20000 in
theorem kX0_addLeaf_1 {C : QC} {x : QP} {M : QM} {st : List CV} {L : QL} {l0 l1 l2 : Option CV} {z : Int} : Rr C mX0_addLeaf (1, [l0, some (qi z), l2], st, M) x = Rr C mX0_addLeaf (2, [l0, some (qi z), l2], qi z :: st, M) x := g_pl (show decode cX0_addLeaf 1 = .ok (.iload_n 1, 1) by decide +kernel) rfl
set_option maxRecDepth 20000 in
theorem kX0_addLeaf_2 {C : QC} {x : QP} {M : QM} {st : List CV} {L : QL} {l0 l1 l2 : Option CV} {z : Int} : Rr C mX0_addLeaf (2, [l0, l1, some (qi z)], st, M) x = Rr C mX0_addLeaf (3, [l0, l1, some (qi z)], qi z :: st, M) x := g_pl (show decode cX0_addLeaf 2 = .ok (.iload_n 2, 1) by decide +kernel) rfl
set_option maxRecDepth 20000 in
theorem kX0_addLeaf_3 {C : QC} {x : QP} {M : QM} {st : List CV} {L : QL} : Rr C mX0_addLeaf (3, L, st, M) x = Rr C mX0_addLeaf (4, L, qi 0 :: st, M) x := g_pl (show decode cX0_addLeaf 3 = .ok (.iconst 0, 1) by decide +kernel) rfl
set_option maxRecDepth 20000 in
theorem kX0_addLeaf_4 {C : QC} {x : QP} {M : QM} {L : QL} {rest : List CV} {a0 a1 a2 : CV} {v : CV} {M1 : QM} {b : Nat} (hb : q_kd M b = (1, 0)) (hC : C iX0_append [qr b, a0, a1, a2] M (some v) M1) (hw : (rest.map q_wd).sum ≤ 8) (k : Rr C mX0_addLeaf (7, L, v :: rest, M1) x) : Rr C mX0_addLeaf (4, L, a2 :: a1 :: a0 :: qr b :: rest, M) x := g_cv (ow := 0) (e := (0, 60, 0, [653, 655, 7, 84])) (as := [a0, a1, a2]) (show decode cX0_addLeaf 4 = .ok (.invokevirtual 34, 3) by decide +kernel) rfl rfl rfl (Or.inl rfl) rfl hb hC hw k
set_option maxRecDepth 20000 in
theorem kX0_addLeaf_7 {C : QC} {x : QP} {M : QM} {st : List CV} {L : QL} {z : Int} : Rr C mX0_addLeaf (7, L, [qi z], M) x = x (some (qi z)) M := g_iret (show decode cX0_addLeaf 7 = .ok (.ireturn, 1) by decide +kernel) rfl
set_option maxRecDepth 20000 in
theorem eX0_addLeaf {d : Nat} {M : QM} {x : QP} {a : Nat} {v0 : Int} {v1 : Int} : q_T (d + 1) iX0_addLeaf [qr a, qi v0, qi v1] M x = Rr (q_C d) mX0_addLeaf (0, [some (qr a), some (qi v0), some (qi v1)], [], M) x := g_entryT (e := _) rfl (Nat.le_of_ble_eq_true rfl) rfl rfl
def mX0_addJoined : QI := (0, cX0_addJoined, false, some .int)
set_option maxRecDepth 20000 in
theorem kX0_addJoined_0 {C : QC} {x : QP} {M : QM} {st : List CV} {L : QL} {l0 l1 l2 l3 : Option CV} {r : Option Nat} : Rr C mX0_addJoined (0, [some (.inr (.inr r)), l1, l2, l3], st, M) x = Rr C mX0_addJoined (1, [some (.inr (.inr r)), l1, l2, l3], .inr (.inr r) :: st, M) x := g_pl (show decode cX0_addJoined 0 = .ok (.aload_n 0, 1) by decide +kernel) rfl
set_option maxRecDepth 20000 in
theorem kX0_addJoined_1 {C : QC} {x : QP} {M : QM} {st : List CV} {L : QL} {l0 l1 l2 l3 : Option CV} {z : Int} : Rr C mX0_addJoined (1, [l0, l1, some (qi z), l3], st, M) x = Rr C mX0_addJoined (2, [l0, l1, some (qi z), l3], qi z :: st, M) x := g_pl (show decode cX0_addJoined 1 = .ok (.iload_n 2, 1) by decide +kernel) rfl
set_option maxRecDepth 20000 in
theorem kX0_addJoined_2 {C : QC} {x : QP} {M : QM} {L : QL} {rest : List CV} {a0 : CV} {v : CV} {M1 : QM} {b : Nat} (hb : q_kd M b = (1, 0)) (hC : C iX0_has [qr b, a0] M (some v) M1) (hw : (rest.map q_wd).sum ≤ 8) (k : Rr C mX0_addJoined (5, L, v :: rest, M1) x) : Rr C mX0_addJoined (2, L, a0 :: qr b :: rest, M) x := g_cv (ow := 0) (e := (0, 63, 0, [671, 672, 673, 84])) (as := [a0]) (show decode cX0_addJoined 2 = .ok (.invokevirtual 38, 3) by decide +kernel) rfl rfl rfl (Or.inl rfl) rfl hb hC hw k
set_option maxRecDepth 20000 in
theorem kX0_addJoined_5 {C : QC} {x : QP} {M : QM} {st : List CV} {L : QL} {a : Int} (ha1 : -2147483648 ≤ a) (ha2 : a < 2147483648) : Rr C mX0_addJoined (5, L, qi a :: st, M) x = (if a = 0 then Rr C mX0_addJoined (8, L, st, M) x else Rr C mX0_addJoined (10, L, st, M) x) := (g_if (show decode cX0_addJoined 5 = .ok (.ifCond .ne 5, 3) by decide +kernel) rfl ha1 ha2).trans (g_itn c_ne)
set_option maxRecDepth 20000 in
theorem kX0_addJoined_8 {C : QC} {x : QP} {M : QM} {st : List CV} {L : QL} : Rr C mX0_addJoined (8, L, st, M) x = Rr C mX0_addJoined (9, L, qi (-1) :: st, M) x := g_pl (show decode cX0_addJoined 8 = .ok (.iconst (-1), 1) by decide +kernel) rfl
set_option maxRecDepth 20000 in
theorem kX0_addJoined_9 {C : QC} {x : QP} {M : QM} {st : List CV} {L : QL} {z : Int} : Rr C mX0_addJoined (9, L, [qi z], M) x = x (some (qi z)) M := g_iret (show decode cX0_addJoined 9 = .ok (.ireturn, 1) by decide +kernel) rfl
set_option maxRecDepth 20000 in
theorem kX0_addJoined_10 {C : QC} {x : QP} {M : QM} {st : List CV} {L : QL} {l0 l1 l2 l3 : Option CV} {r : Option Nat} : Rr C mX0_addJoined (10, [some (.inr (.inr r)), l1, l2, l3], st, M) x = Rr C mX0_addJoined (11, [some (.inr (.inr r)), l1, l2, l3], .inr (.inr r) :: st, M) x := g_pl (show decode cX0_addJoined 10 = .ok (.aload_n 0, 1) by decide +kernel) rfl
set_option maxRecDepth 20000 in
theorem kX0_addJoined_11 {C : QC} {x : QP} {M : QM} {st : List CV} {L : QL} : Rr C mX0_addJoined (11, L, st, M) x = Rr C mX0_addJoined (12, L, qi 5 :: st, M) x := g_pl (show decode cX0_addJoined 11 = .ok (.iconst 5, 1) by decide +kernel) rfl
set_option maxRecDepth 20000 in
theorem kX0_addJoined_12 {C : QC} {x : QP} {M : QM} {st : List CV} {L : QL} {l0 l1 l2 l3 : Option CV} {z : Int} : Rr C mX0_addJoined (12, [l0, some (qi z), l2, l3], st, M) x = Rr C mX0_addJoined (13, [l0, some (qi z), l2, l3], qi z :: st, M) x := g_pl (show decode cX0_addJoined 12 = .ok (.iload_n 1, 1) by decide +kernel) rfl
set_option maxRecDepth 20000 in
theorem kX0_addJoined_13 {C : QC} {x : QP} {M : QM} {st : List CV} {L : QL} {a b : Int} : Rr C mX0_addJoined (13, L, qi b :: qi a :: st, M) x = Rr C mX0_addJoined (14, L, qi (a + b) :: st, M) x := g_pl (show decode cX0_addJoined 13 = .ok (.iadd, 1) by decide +kernel) rfl
set_option maxRecDepth 20000 in
theorem kX0_addJoined_14 {C : QC} {x : QP} {M : QM} {st : List CV} {L : QL} {l0 l1 l2 l3 : Option CV} {r : Option Nat} : Rr C mX0_addJoined (14, [some (.inr (.inr r)), l1, l2, l3], st, M) x = Rr C mX0_addJoined (15, [some (.inr (.inr r)), l1, l2, l3], .inr (.inr r) :: st, M) x := g_pl (show decode cX0_addJoined 14 = .ok (.aload_n 0, 1) by decide +kernel) rfl
set_option maxRecDepth 20000 in
theorem kX0_addJoined_15 {C : QC} {x : QP} {M : QM} {st : List CV} {L : QL} {a : Nat} (hk : q_kd M a = (1, 0)) : Rr C mX0_addJoined (15, L, qr a :: st, M) x = Rr C mX0_addJoined (18, L, q_fv M a 5 :: st, M) x := g_getf (ow := 0) (e := (0, 5, RX0, 191, 0)) (show decode cX0_addJoined 15 = .ok (.getfield 28, 3) by decide +kernel) rfl hk
set_option maxRecDepth 20000 in
theorem kX0_addJoined_18 {C : QC} {x : QP} {M : QM} {st : List CV} {L : QL} {l0 l1 l2 l3 : Option CV} {z : Int} : Rr C mX0_addJoined (18, [l0, l1, some (qi z), l3], st, M) x = Rr C mX0_addJoined (19, [l0, l1, some (qi z), l3], qi z :: st, M) x := g_pl (show decode cX0_addJoined 18 = .ok (.iload_n 2, 1) by decide +kernel) rfl
set_option maxRecDepth 20000 in
theorem kX0_addJoined_19 {C : QC} {x : QP} {M : QM} {st : List CV} {L : QL} {a : Nat} {j : Int} (hk : (q_kd M a).1 = 2) (h0 : 0 ≤ j) (h1 : j < ((q_kd M a).2 : Int)) : Rr C mX0_addJoined (19, L, qi j :: qr a :: st, M) x = Rr C mX0_addJoined (20, L, q_fv M a j.toNat :: st, M) x := g_iald (show decode cX0_addJoined 19 = .ok (.iaload, 1) by decide +kernel) hk h0 h1
set_option maxRecDepth 20000 in
theorem kX0_addJoined_20 {C : QC} {x : QP} {M : QM} {st : List CV} {L : QL} {l0 l1 l2 l3 : Option CV} {r : Option Nat} : Rr C mX0_addJoined (20, [some (.inr (.inr r)), l1, l2, l3], st, M) x = Rr C mX0_addJoined (21, [some (.inr (.inr r)), l1, l2, l3], .inr (.inr r) :: st, M) x := g_pl (show decode cX0_addJoined 20 = .ok (.aload_n 0, 1) by decide +kernel) rfl
set_option maxRecDepth 20000 in
theorem kX0_addJoined_21 {C : QC} {x : QP} {M : QM} {st : List CV} {L : QL} {l0 l1 l2 l3 : Option CV} {z : Int} : Rr C mX0_addJoined (21, [l0, l1, l2, some (qi z)], st, M) x = Rr C mX0_addJoined (22, [l0, l1, l2, some (qi z)], qi z :: st, M) x := g_pl (show decode cX0_addJoined 21 = .ok (.iload_n 3, 1) by decide +kernel) rfl
set_option maxRecDepth 20000 in
theorem kX0_addJoined_22 {C : QC} {x : QP} {M : QM} {L : QL} {rest : List CV} {a0 : CV} {v : CV} {M1 : QM} {b : Nat} (hb : q_kd M b = (1, 0)) (hC : C iX0_has [qr b, a0] M (some v) M1) (hw : (rest.map q_wd).sum ≤ 8) (k : Rr C mX0_addJoined (25, L, v :: rest, M1) x) : Rr C mX0_addJoined (22, L, a0 :: qr b :: rest, M) x := g_cv (ow := 0) (e := (0, 63, 0, [671, 672, 673, 84])) (as := [a0]) (show decode cX0_addJoined 22 = .ok (.invokevirtual 38, 3) by decide +kernel) rfl rfl rfl (Or.inl rfl) rfl hb hC hw k
set_option maxRecDepth 20000 in
theorem kX0_addJoined_25 {C : QC} {x : QP} {M : QM} {st : List CV} {L : QL} {a : Int} (ha1 : -2147483648 ≤ a) (ha2 : a < 2147483648) : Rr C mX0_addJoined (25, L, qi a :: st, M) x = (if a = 0 then Rr C mX0_addJoined (37, L, st, M) x else Rr C mX0_addJoined (28, L, st, M) x) := (g_if (show decode cX0_addJoined 25 = .ok (.ifCond .eq 12, 3) by decide +kernel) rfl ha1 ha2).trans (g_ite c_eq)
set_option maxRecDepth 20000 in
theorem kX0_addJoined_28 {C : QC} {x : QP} {M : QM} {st : List CV} {L : QL} {l0 l1 l2 l3 : Option CV} {r : Option Nat} : Rr C mX0_addJoined (28, [some (.inr (.inr r)), l1, l2, l3], st, M) x = Rr C mX0_addJoined (29, [some (.inr (.inr r)), l1, l2, l3], .inr (.inr r) :: st, M) x := g_pl (show decode cX0_addJoined 28 = .ok (.aload_n 0, 1) by decide +kernel) rfl
set_option maxRecDepth 20000 in
theorem kX0_addJoined_29 {C : QC} {x : QP} {M : QM} {st : List CV} {L : QL} {a : Nat} (hk : q_kd M a = (1, 0)) : Rr C mX0_addJoined (29, L, qr a :: st, M) x = Rr C mX0_addJoined (32, L, q_fv M a 5 :: st, M) x := g_getf (ow := 0) (e := (0, 5, RX0, 191, 0)) (show decode cX0_addJoined 29 = .ok (.getfield 28, 3) by decide +kernel) rfl hk
set_option maxRecDepth 20000 in
theorem kX0_addJoined_32 {C : QC} {x : QP} {M : QM} {st : List CV} {L : QL} {l0 l1 l2 l3 : Option CV} {z : Int} : Rr C mX0_addJoined (32, [l0, l1, l2, some (qi z)], st, M) x = Rr C mX0_addJoined (33, [l0, l1, l2, some (qi z)], qi z :: st, M) x := g_pl (show decode cX0_addJoined 32 = .ok (.iload_n 3, 1) by decide +kernel) rfl
set_option maxRecDepth 20000 in
theorem kX0_addJoined_33 {C : QC} {x : QP} {M : QM} {st : List CV} {L : QL} {a : Nat} {j : Int} (hk : (q_kd M a).1 = 2) (h0 : 0 ≤ j) (h1 : j < ((q_kd M a).2 : Int)) : Rr C mX0_addJoined (33, L, qi j :: qr a :: st, M) x = Rr C mX0_addJoined (34, L, q_fv M a j.toNat :: st, M) x := g_iald (show decode cX0_addJoined 33 = .ok (.iaload, 1) by decide +kernel) hk h0 h1
set_option maxRecDepth 20000 in
theorem kX0_addJoined_34 {C : QC} {x : QP} {M : QM} {st : List CV} {L : QL} : Rr C mX0_addJoined (34, L, st, M) x = Rr C mX0_addJoined (38, L, st, M) x := g_pl (show decode cX0_addJoined 34 = .ok (.goto 4, 3) by decide +kernel) rfl
set_option maxRecDepth 20000 in
theorem kX0_addJoined_37 {C : QC} {x : QP} {M : QM} {st : List CV} {L : QL} : Rr C mX0_addJoined (37, L, st, M) x = Rr C mX0_addJoined (38, L, qi 0 :: st, M) x := g_pl (show decode cX0_addJoined 37 = .ok (.iconst 0, 1) by decide +kernel) rfl
set_option maxRecDepth 20000 in
theorem kX0_addJoined_38 {C : QC} {x : QP} {M : QM} {L : QL} {rest : List CV} {a0 a1 a2 : CV} {v : CV} {M1 : QM} {b : Nat} (hb : q_kd M b = (1, 0)) (hC : C iX0_append [qr b, a0, a1, a2] M (some v) M1) (hw : (rest.map q_wd).sum ≤ 8) (k : Rr C mX0_addJoined (41, L, v :: rest, M1) x) : Rr C mX0_addJoined (38, L, a2 :: a1 :: a0 :: qr b :: rest, M) x := g_cv (ow := 0) (e := (0, 60, 0, [653, 655, 7, 84])) (as := [a0, a1, a2]) (show decode cX0_addJoined 38 = .ok (.invokevirtual 34, 3) by decide +kernel) rfl rfl rfl (Or.inl rfl) rfl hb hC hw k
set_option maxRecDepth 20000 in
theorem kX0_addJoined_41 {C : QC} {x : QP} {M : QM} {st : List CV} {L : QL} {z : Int} : Rr C mX0_addJoined (41, L, [qi z], M) x = x (some (qi z)) M := g_iret (show decode cX0_addJoined 41 = .ok (.ireturn, 1) by decide +kernel) rfl
set_option maxRecDepth 20000 in
theorem eX0_addJoined {d : Nat} {M : QM} {x : QP} {a : Nat} {v0 : Int} {v1 : Int} {v2 : Int} : q_T (d + 1) iX0_addJoined [qr a, qi v0, qi v1, qi v2] M x = Rr (q_C d) mX0_addJoined (0, [some (qr a), some (qi v0), some (qi v1), some (qi v2)], [], M) x := g_entryT (e := _) rfl (Nat.le_of_ble_eq_true rfl) rfl rfl
def mX0_append : QI := (0, cX0_append, false, some .int)
set_option maxRecDepth 20000 in
theorem kX0_append_0 {C : QC} {x : QP} {M : QM} {st : List CV} {L : QL} {l0 l1 l2 l3 : Option CV} {r : Option Nat} : Rr C mX0_append (0, [some (.inr (.inr r)), l1, l2, l3], st, M) x = Rr C mX0_append (1, [some (.inr (.inr r)), l1, l2, l3], .inr (.inr r) :: st, M) x := g_pl (show decode cX0_append 0 = .ok (.aload_n 0, 1) by decide +kernel) rfl
set_option maxRecDepth 20000 in
theorem kX0_append_1 {C : QC} {x : QP} {M : QM} {st : List CV} {L : QL} {a : Nat} (hk : q_kd M a = (1, 0)) : Rr C mX0_append (1, L, qr a :: st, M) x = Rr C mX0_append (4, L, q_fv M a 6 :: st, M) x := g_getf (ow := 0) (e := (0, 6, RX0, 192, 0)) (show decode cX0_append 1 = .ok (.getfield 31, 3) by decide +kernel) rfl hk
set_option maxRecDepth 20000 in
theorem kX0_append_4 {C : QC} {x : QP} {M : QM} {st : List CV} {L : QL} {l0 l1 l2 l3 : Option CV} {r : Option Nat} : Rr C mX0_append (4, [some (.inr (.inr r)), l1, l2, l3], st, M) x = Rr C mX0_append (5, [some (.inr (.inr r)), l1, l2, l3], .inr (.inr r) :: st, M) x := g_pl (show decode cX0_append 4 = .ok (.aload_n 0, 1) by decide +kernel) rfl
set_option maxRecDepth 20000 in
theorem kX0_append_5 {C : QC} {x : QP} {M : QM} {st : List CV} {L : QL} {a : Nat} (hk : q_kd M a = (1, 0)) : Rr C mX0_append (5, L, qr a :: st, M) x = Rr C mX0_append (8, L, q_fv M a 5 :: st, M) x := g_getf (ow := 0) (e := (0, 5, RX0, 191, 0)) (show decode cX0_append 5 = .ok (.getfield 28, 3) by decide +kernel) rfl hk
set_option maxRecDepth 20000 in
theorem kX0_append_8 {C : QC} {x : QP} {M : QM} {st : List CV} {L : QL} {a : Nat} (h1 : 2 ≤ (q_kd M a).1) (h2 : (q_kd M a).1 ≤ 9) : Rr C mX0_append (8, L, qr a :: st, M) x = Rr C mX0_append (9, L, qi (q_kd M a).2 :: st, M) x := g_alen (show decode cX0_append 8 = .ok (.arraylength, 1) by decide +kernel) h1 h2
set_option maxRecDepth 20000 in
theorem kX0_append_9 {C : QC} {x : QP} {M : QM} {st : List CV} {L : QL} {a b : Int} (ha1 : -2147483648 ≤ a) (ha2 : a < 2147483648) (hb1 : -2147483648 ≤ b) (hb2 : b < 2147483648) : Rr C mX0_append (9, L, qi b :: qi a :: st, M) x = (if a < b then Rr C mX0_append (15, L, st, M) x else Rr C mX0_append (12, L, st, M) x) := (g_icmp (show decode cX0_append 9 = .ok (.if_icmp .lt 6, 3) by decide +kernel) rfl ha1 ha2 hb1 hb2).trans (g_ite c_lt)
set_option maxRecDepth 20000 in
theorem kX0_append_12 {C : QC} {x : QP} {M : QM} {st : List CV} {L : QL} : Rr C mX0_append (12, L, st, M) x = Rr C mX0_append (14, L, qi (-4) :: st, M) x := g_pl (show decode cX0_append 12 = .ok (.bipush (-4), 2) by decide +kernel) rfl
set_option maxRecDepth 20000 in
theorem kX0_append_14 {C : QC} {x : QP} {M : QM} {st : List CV} {L : QL} {z : Int} : Rr C mX0_append (14, L, [qi z], M) x = x (some (qi z)) M := g_iret (show decode cX0_append 14 = .ok (.ireturn, 1) by decide +kernel) rfl
set_option maxRecDepth 20000 in
theorem kX0_append_15 {C : QC} {x : QP} {M : QM} {st : List CV} {L : QL} {l0 l1 l2 l3 : Option CV} {r : Option Nat} : Rr C mX0_append (15, [some (.inr (.inr r)), l1, l2, l3], st, M) x = Rr C mX0_append (16, [some (.inr (.inr r)), l1, l2, l3], .inr (.inr r) :: st, M) x := g_pl (show decode cX0_append 15 = .ok (.aload_n 0, 1) by decide +kernel) rfl
set_option maxRecDepth 20000 in
theorem kX0_append_16 {C : QC} {x : QP} {M : QM} {st : List CV} {L : QL} {a : Nat} (hk : q_kd M a = (1, 0)) : Rr C mX0_append (16, L, qr a :: st, M) x = Rr C mX0_append (19, L, q_fv M a 4 :: st, M) x := g_getf (ow := 0) (e := (0, 4, RX0, 190, 0)) (show decode cX0_append 16 = .ok (.getfield 24, 3) by decide +kernel) rfl hk
set_option maxRecDepth 20000 in
theorem kX0_append_19 {C : QC} {x : QP} {M : QM} {st : List CV} {L : QL} {l0 l1 l2 l3 : Option CV} {r : Option Nat} : Rr C mX0_append (19, [some (.inr (.inr r)), l1, l2, l3], st, M) x = Rr C mX0_append (20, [some (.inr (.inr r)), l1, l2, l3], .inr (.inr r) :: st, M) x := g_pl (show decode cX0_append 19 = .ok (.aload_n 0, 1) by decide +kernel) rfl
set_option maxRecDepth 20000 in
theorem kX0_append_20 {C : QC} {x : QP} {M : QM} {st : List CV} {L : QL} {a : Nat} (hk : q_kd M a = (1, 0)) : Rr C mX0_append (20, L, qr a :: st, M) x = Rr C mX0_append (23, L, q_fv M a 0 :: st, M) x := g_getf (ow := 0) (e := (0, 0, RX0, 186, 0)) (show decode cX0_append 20 = .ok (.getfield 9, 3) by decide +kernel) rfl hk
set_option maxRecDepth 20000 in
theorem kX0_append_23 {C : QC} {x : QP} {M : QM} {st : List CV} {L : QL} {a : Nat} (h1 : 2 ≤ (q_kd M a).1) (h2 : (q_kd M a).1 ≤ 9) : Rr C mX0_append (23, L, qr a :: st, M) x = Rr C mX0_append (24, L, qi (q_kd M a).2 :: st, M) x := g_alen (show decode cX0_append 23 = .ok (.arraylength, 1) by decide +kernel) h1 h2
set_option maxRecDepth 20000 in
theorem kX0_append_24 {C : QC} {x : QP} {M : QM} {st : List CV} {L : QL} {a b : Int} (ha1 : -2147483648 ≤ a) (ha2 : a < 2147483648) (hb1 : -2147483648 ≤ b) (hb2 : b < 2147483648) : Rr C mX0_append (24, L, qi b :: qi a :: st, M) x = (if a < b then Rr C mX0_append (103, L, st, M) x else Rr C mX0_append (27, L, st, M) x) := (g_icmp (show decode cX0_append 24 = .ok (.if_icmp .lt 79, 3) by decide +kernel) rfl ha1 ha2 hb1 hb2).trans (g_ite c_lt)
set_option maxRecDepth 20000 in
theorem kX0_append_27 {C : QC} {x : QP} {M : QM} {st : List CV} {L : QL} {l0 l1 l2 l3 : Option CV} {r : Option Nat} : Rr C mX0_append (27, [some (.inr (.inr r)), l1, l2, l3], st, M) x = Rr C mX0_append (28, [some (.inr (.inr r)), l1, l2, l3], .inr (.inr r) :: st, M) x := g_pl (show decode cX0_append 27 = .ok (.aload_n 0, 1) by decide +kernel) rfl
set_option maxRecDepth 20000 in
theorem kX0_append_28 {C : QC} {x : QP} {M : QM} {st : List CV} {L : QL} {l0 l1 l2 l3 : Option CV} {r : Option Nat} : Rr C mX0_append (28, [some (.inr (.inr r)), l1, l2, l3], st, M) x = Rr C mX0_append (29, [some (.inr (.inr r)), l1, l2, l3], .inr (.inr r) :: st, M) x := g_pl (show decode cX0_append 28 = .ok (.aload_n 0, 1) by decide +kernel) rfl
set_option maxRecDepth 20000 in
theorem kX0_append_29 {C : QC} {x : QP} {M : QM} {st : List CV} {L : QL} {a : Nat} (hk : q_kd M a = (1, 0)) : Rr C mX0_append (29, L, qr a :: st, M) x = Rr C mX0_append (32, L, q_fv M a 0 :: st, M) x := g_getf (ow := 0) (e := (0, 0, RX0, 186, 0)) (show decode cX0_append 29 = .ok (.getfield 9, 3) by decide +kernel) rfl hk
set_option maxRecDepth 20000 in
theorem kX0_append_32 {C : QC} {x : QP} {M : QM} {st : List CV} {L : QL} : Rr C mX0_append (32, L, st, M) x = Rr C mX0_append (33, L, qi 2 :: st, M) x := g_pl (show decode cX0_append 32 = .ok (.iconst 2, 1) by decide +kernel) rfl
set_option maxRecDepth 20000 in
theorem kX0_append_33 {C : QC} {x : QP} {M : QM} {st : List CV} {L : QL} {l0 l1 l2 l3 : Option CV} {r : Option Nat} : Rr C mX0_append (33, [some (.inr (.inr r)), l1, l2, l3], st, M) x = Rr C mX0_append (34, [some (.inr (.inr r)), l1, l2, l3], .inr (.inr r) :: st, M) x := g_pl (show decode cX0_append 33 = .ok (.aload_n 0, 1) by decide +kernel) rfl
set_option maxRecDepth 20000 in
theorem kX0_append_34 {C : QC} {x : QP} {M : QM} {st : List CV} {L : QL} {a : Nat} (hk : q_kd M a = (1, 0)) : Rr C mX0_append (34, L, qr a :: st, M) x = Rr C mX0_append (37, L, q_fv M a 4 :: st, M) x := g_getf (ow := 0) (e := (0, 4, RX0, 190, 0)) (show decode cX0_append 34 = .ok (.getfield 24, 3) by decide +kernel) rfl hk
set_option maxRecDepth 20000 in
theorem kX0_append_37 {C : QC} {x : QP} {M : QM} {st : List CV} {L : QL} {a b : Int} : Rr C mX0_append (37, L, qi b :: qi a :: st, M) x = Rr C mX0_append (38, L, qi (a * b) :: st, M) x := g_pl (show decode cX0_append 37 = .ok (.imul, 1) by decide +kernel) rfl
set_option maxRecDepth 20000 in
theorem kX0_append_38 {C : QC} {x : QP} {M : QM} {st : List CV} {L : QL} : Rr C mX0_append (38, L, st, M) x = Rr C mX0_append (39, L, qi 1 :: st, M) x := g_pl (show decode cX0_append 38 = .ok (.iconst 1, 1) by decide +kernel) rfl
set_option maxRecDepth 20000 in
theorem kX0_append_39 {C : QC} {x : QP} {M : QM} {st : List CV} {L : QL} {a b : Int} : Rr C mX0_append (39, L, qi b :: qi a :: st, M) x = Rr C mX0_append (40, L, qi (a + b) :: st, M) x := g_pl (show decode cX0_append 39 = .ok (.iadd, 1) by decide +kernel) rfl
set_option maxRecDepth 20000 in
theorem kX0_append_40 {C : QC} {x : QP} {M : QM} {L : QL} {rest : List CV} {a0 a1 : CV} {v : CV} {M1 : QM} (hC : C iJ7_copyOf_59c91 [a0, a1] M (some v) M1) (hw : (rest.map q_wd).sum ≤ 8) (k : Rr C mX0_append (43, L, v :: rest, M1) x) : Rr C mX0_append (40, L, a1 :: a0 :: rest, M) x := g_cs (ow := 0) (e := (1, 61, 0, [657, 658, 101])) (as := [a0, a1]) (show decode cX0_append 40 = .ok (.invokestatic 42, 3) by decide +kernel) rfl rfl rfl rfl (Or.inl rfl) rfl hC hw k
set_option maxRecDepth 20000 in
theorem kX0_append_43 {C : QC} {x : QP} {M : QM} {st : List CV} {L : QL} {z : Option Nat} {a : Nat} (hk : q_kd M a = (1, 0)) : Rr C mX0_append (43, L, .inr (.inr z) :: qr a :: st, M) x = Rr C mX0_append (46, L, st, q_wr M a 0 (.inr (.inr z))) x := g_putf (ow := 0) (ini := false) (e := (0, 0, RX0, 186, 0)) (r := (RX0, TX0, 7)) (t := tyX0) (show decode cX0_append 43 = .ok (.putfield 9, 3) by decide +kernel) rfl rfl rfl rfl (by decide +kernel) hk
set_option maxRecDepth 20000 in
theorem kX0_append_46 {C : QC} {x : QP} {M : QM} {st : List CV} {L : QL} {l0 l1 l2 l3 : Option CV} {r : Option Nat} : Rr C mX0_append (46, [some (.inr (.inr r)), l1, l2, l3], st, M) x = Rr C mX0_append (47, [some (.inr (.inr r)), l1, l2, l3], .inr (.inr r) :: st, M) x := g_pl (show decode cX0_append 46 = .ok (.aload_n 0, 1) by decide +kernel) rfl
set_option maxRecDepth 20000 in
theorem kX0_append_47 {C : QC} {x : QP} {M : QM} {st : List CV} {L : QL} {l0 l1 l2 l3 : Option CV} {r : Option Nat} : Rr C mX0_append (47, [some (.inr (.inr r)), l1, l2, l3], st, M) x = Rr C mX0_append (48, [some (.inr (.inr r)), l1, l2, l3], .inr (.inr r) :: st, M) x := g_pl (show decode cX0_append 47 = .ok (.aload_n 0, 1) by decide +kernel) rfl
set_option maxRecDepth 20000 in
theorem kX0_append_48 {C : QC} {x : QP} {M : QM} {st : List CV} {L : QL} {a : Nat} (hk : q_kd M a = (1, 0)) : Rr C mX0_append (48, L, qr a :: st, M) x = Rr C mX0_append (51, L, q_fv M a 1 :: st, M) x := g_getf (ow := 0) (e := (0, 1, RX0, 187, 0)) (show decode cX0_append 48 = .ok (.getfield 15, 3) by decide +kernel) rfl hk
set_option maxRecDepth 20000 in
theorem kX0_append_51 {C : QC} {x : QP} {M : QM} {st : List CV} {L : QL} : Rr C mX0_append (51, L, st, M) x = Rr C mX0_append (52, L, qi 2 :: st, M) x := g_pl (show decode cX0_append 51 = .ok (.iconst 2, 1) by decide +kernel) rfl
set_option maxRecDepth 20000 in
theorem kX0_append_52 {C : QC} {x : QP} {M : QM} {st : List CV} {L : QL} {l0 l1 l2 l3 : Option CV} {r : Option Nat} : Rr C mX0_append (52, [some (.inr (.inr r)), l1, l2, l3], st, M) x = Rr C mX0_append (53, [some (.inr (.inr r)), l1, l2, l3], .inr (.inr r) :: st, M) x := g_pl (show decode cX0_append 52 = .ok (.aload_n 0, 1) by decide +kernel) rfl
set_option maxRecDepth 20000 in
theorem kX0_append_53 {C : QC} {x : QP} {M : QM} {st : List CV} {L : QL} {a : Nat} (hk : q_kd M a = (1, 0)) : Rr C mX0_append (53, L, qr a :: st, M) x = Rr C mX0_append (56, L, q_fv M a 4 :: st, M) x := g_getf (ow := 0) (e := (0, 4, RX0, 190, 0)) (show decode cX0_append 53 = .ok (.getfield 24, 3) by decide +kernel) rfl hk
set_option maxRecDepth 20000 in
theorem kX0_append_56 {C : QC} {x : QP} {M : QM} {st : List CV} {L : QL} {a b : Int} : Rr C mX0_append (56, L, qi b :: qi a :: st, M) x = Rr C mX0_append (57, L, qi (a * b) :: st, M) x := g_pl (show decode cX0_append 56 = .ok (.imul, 1) by decide +kernel) rfl
set_option maxRecDepth 20000 in
theorem kX0_append_57 {C : QC} {x : QP} {M : QM} {st : List CV} {L : QL} : Rr C mX0_append (57, L, st, M) x = Rr C mX0_append (58, L, qi 1 :: st, M) x := g_pl (show decode cX0_append 57 = .ok (.iconst 1, 1) by decide +kernel) rfl
set_option maxRecDepth 20000 in
theorem kX0_append_58 {C : QC} {x : QP} {M : QM} {st : List CV} {L : QL} {a b : Int} : Rr C mX0_append (58, L, qi b :: qi a :: st, M) x = Rr C mX0_append (59, L, qi (a + b) :: st, M) x := g_pl (show decode cX0_append 58 = .ok (.iadd, 1) by decide +kernel) rfl
set_option maxRecDepth 20000 in
theorem kX0_append_59 {C : QC} {x : QP} {M : QM} {L : QL} {rest : List CV} {a0 a1 : CV} {v : CV} {M1 : QM} (hC : C iJ7_copyOf_59c91 [a0, a1] M (some v) M1) (hw : (rest.map q_wd).sum ≤ 8) (k : Rr C mX0_append (62, L, v :: rest, M1) x) : Rr C mX0_append (59, L, a1 :: a0 :: rest, M) x := g_cs (ow := 0) (e := (1, 61, 0, [657, 658, 101])) (as := [a0, a1]) (show decode cX0_append 59 = .ok (.invokestatic 42, 3) by decide +kernel) rfl rfl rfl rfl (Or.inl rfl) rfl hC hw k
set_option maxRecDepth 20000 in
theorem kX0_append_62 {C : QC} {x : QP} {M : QM} {st : List CV} {L : QL} {z : Option Nat} {a : Nat} (hk : q_kd M a = (1, 0)) : Rr C mX0_append (62, L, .inr (.inr z) :: qr a :: st, M) x = Rr C mX0_append (65, L, st, q_wr M a 1 (.inr (.inr z))) x := g_putf (ow := 0) (ini := false) (e := (0, 1, RX0, 187, 0)) (r := (RX0, TX0, 7)) (t := tyX0) (show decode cX0_append 62 = .ok (.putfield 15, 3) by decide +kernel) rfl rfl rfl rfl (by decide +kernel) hk
set_option maxRecDepth 20000 in
theorem kX0_append_65 {C : QC} {x : QP} {M : QM} {st : List CV} {L : QL} {l0 l1 l2 l3 : Option CV} {r : Option Nat} : Rr C mX0_append (65, [some (.inr (.inr r)), l1, l2, l3], st, M) x = Rr C mX0_append (66, [some (.inr (.inr r)), l1, l2, l3], .inr (.inr r) :: st, M) x := g_pl (show decode cX0_append 65 = .ok (.aload_n 0, 1) by decide +kernel) rfl
set_option maxRecDepth 20000 in
theorem kX0_append_66 {C : QC} {x : QP} {M : QM} {st : List CV} {L : QL} {l0 l1 l2 l3 : Option CV} {r : Option Nat} : Rr C mX0_append (66, [some (.inr (.inr r)), l1, l2, l3], st, M) x = Rr C mX0_append (67, [some (.inr (.inr r)), l1, l2, l3], .inr (.inr r) :: st, M) x := g_pl (show decode cX0_append 66 = .ok (.aload_n 0, 1) by decide +kernel) rfl
set_option maxRecDepth 20000 in
theorem kX0_append_67 {C : QC} {x : QP} {M : QM} {st : List CV} {L : QL} {a : Nat} (hk : q_kd M a = (1, 0)) : Rr C mX0_append (67, L, qr a :: st, M) x = Rr C mX0_append (70, L, q_fv M a 2 :: st, M) x := g_getf (ow := 0) (e := (0, 2, RX0, 188, 0)) (show decode cX0_append 67 = .ok (.getfield 18, 3) by decide +kernel) rfl hk
set_option maxRecDepth 20000 in
theorem kX0_append_70 {C : QC} {x : QP} {M : QM} {st : List CV} {L : QL} : Rr C mX0_append (70, L, st, M) x = Rr C mX0_append (71, L, qi 2 :: st, M) x := g_pl (show decode cX0_append 70 = .ok (.iconst 2, 1) by decide +kernel) rfl
set_option maxRecDepth 20000 in
theorem kX0_append_71 {C : QC} {x : QP} {M : QM} {st : List CV} {L : QL} {l0 l1 l2 l3 : Option CV} {r : Option Nat} : Rr C mX0_append (71, [some (.inr (.inr r)), l1, l2, l3], st, M) x = Rr C mX0_append (72, [some (.inr (.inr r)), l1, l2, l3], .inr (.inr r) :: st, M) x := g_pl (show decode cX0_append 71 = .ok (.aload_n 0, 1) by decide +kernel) rfl
set_option maxRecDepth 20000 in
theorem kX0_append_72 {C : QC} {x : QP} {M : QM} {st : List CV} {L : QL} {a : Nat} (hk : q_kd M a = (1, 0)) : Rr C mX0_append (72, L, qr a :: st, M) x = Rr C mX0_append (75, L, q_fv M a 4 :: st, M) x := g_getf (ow := 0) (e := (0, 4, RX0, 190, 0)) (show decode cX0_append 72 = .ok (.getfield 24, 3) by decide +kernel) rfl hk
set_option maxRecDepth 20000 in
theorem kX0_append_75 {C : QC} {x : QP} {M : QM} {st : List CV} {L : QL} {a b : Int} : Rr C mX0_append (75, L, qi b :: qi a :: st, M) x = Rr C mX0_append (76, L, qi (a * b) :: st, M) x := g_pl (show decode cX0_append 75 = .ok (.imul, 1) by decide +kernel) rfl
set_option maxRecDepth 20000 in
theorem kX0_append_76 {C : QC} {x : QP} {M : QM} {st : List CV} {L : QL} : Rr C mX0_append (76, L, st, M) x = Rr C mX0_append (77, L, qi 1 :: st, M) x := g_pl (show decode cX0_append 76 = .ok (.iconst 1, 1) by decide +kernel) rfl
set_option maxRecDepth 20000 in
theorem kX0_append_77 {C : QC} {x : QP} {M : QM} {st : List CV} {L : QL} {a b : Int} : Rr C mX0_append (77, L, qi b :: qi a :: st, M) x = Rr C mX0_append (78, L, qi (a + b) :: st, M) x := g_pl (show decode cX0_append 77 = .ok (.iadd, 1) by decide +kernel) rfl
set_option maxRecDepth 20000 in
theorem kX0_append_78 {C : QC} {x : QP} {M : QM} {L : QL} {rest : List CV} {a0 a1 : CV} {v : CV} {M1 : QM} (hC : C iJ7_copyOf_59c91 [a0, a1] M (some v) M1) (hw : (rest.map q_wd).sum ≤ 8) (k : Rr C mX0_append (81, L, v :: rest, M1) x) : Rr C mX0_append (78, L, a1 :: a0 :: rest, M) x := g_cs (ow := 0) (e := (1, 61, 0, [657, 658, 101])) (as := [a0, a1]) (show decode cX0_append 78 = .ok (.invokestatic 42, 3) by decide +kernel) rfl rfl rfl rfl (Or.inl rfl) rfl hC hw k
set_option maxRecDepth 20000 in
theorem kX0_append_81 {C : QC} {x : QP} {M : QM} {st : List CV} {L : QL} {z : Option Nat} {a : Nat} (hk : q_kd M a = (1, 0)) : Rr C mX0_append (81, L, .inr (.inr z) :: qr a :: st, M) x = Rr C mX0_append (84, L, st, q_wr M a 2 (.inr (.inr z))) x := g_putf (ow := 0) (ini := false) (e := (0, 2, RX0, 188, 0)) (r := (RX0, TX0, 7)) (t := tyX0) (show decode cX0_append 81 = .ok (.putfield 18, 3) by decide +kernel) rfl rfl rfl rfl (by decide +kernel) hk
set_option maxRecDepth 20000 in
theorem kX0_append_84 {C : QC} {x : QP} {M : QM} {st : List CV} {L : QL} {l0 l1 l2 l3 : Option CV} {r : Option Nat} : Rr C mX0_append (84, [some (.inr (.inr r)), l1, l2, l3], st, M) x = Rr C mX0_append (85, [some (.inr (.inr r)), l1, l2, l3], .inr (.inr r) :: st, M) x := g_pl (show decode cX0_append 84 = .ok (.aload_n 0, 1) by decide +kernel) rfl
set_option maxRecDepth 20000 in
theorem kX0_append_85 {C : QC} {x : QP} {M : QM} {st : List CV} {L : QL} {l0 l1 l2 l3 : Option CV} {r : Option Nat} : Rr C mX0_append (85, [some (.inr (.inr r)), l1, l2, l3], st, M) x = Rr C mX0_append (86, [some (.inr (.inr r)), l1, l2, l3], .inr (.inr r) :: st, M) x := g_pl (show decode cX0_append 85 = .ok (.aload_n 0, 1) by decide +kernel) rfl
set_option maxRecDepth 20000 in
theorem kX0_append_86 {C : QC} {x : QP} {M : QM} {st : List CV} {L : QL} {a : Nat} (hk : q_kd M a = (1, 0)) : Rr C mX0_append (86, L, qr a :: st, M) x = Rr C mX0_append (89, L, q_fv M a 3 :: st, M) x := g_getf (ow := 0) (e := (0, 3, RX0, 189, 0)) (show decode cX0_append 86 = .ok (.getfield 21, 3) by decide +kernel) rfl hk
set_option maxRecDepth 20000 in
theorem kX0_append_89 {C : QC} {x : QP} {M : QM} {st : List CV} {L : QL} : Rr C mX0_append (89, L, st, M) x = Rr C mX0_append (90, L, qi 2 :: st, M) x := g_pl (show decode cX0_append 89 = .ok (.iconst 2, 1) by decide +kernel) rfl
set_option maxRecDepth 20000 in
theorem kX0_append_90 {C : QC} {x : QP} {M : QM} {st : List CV} {L : QL} {l0 l1 l2 l3 : Option CV} {r : Option Nat} : Rr C mX0_append (90, [some (.inr (.inr r)), l1, l2, l3], st, M) x = Rr C mX0_append (91, [some (.inr (.inr r)), l1, l2, l3], .inr (.inr r) :: st, M) x := g_pl (show decode cX0_append 90 = .ok (.aload_n 0, 1) by decide +kernel) rfl
set_option maxRecDepth 20000 in
theorem kX0_append_91 {C : QC} {x : QP} {M : QM} {st : List CV} {L : QL} {a : Nat} (hk : q_kd M a = (1, 0)) : Rr C mX0_append (91, L, qr a :: st, M) x = Rr C mX0_append (94, L, q_fv M a 4 :: st, M) x := g_getf (ow := 0) (e := (0, 4, RX0, 190, 0)) (show decode cX0_append 91 = .ok (.getfield 24, 3) by decide +kernel) rfl hk
set_option maxRecDepth 20000 in
theorem kX0_append_94 {C : QC} {x : QP} {M : QM} {st : List CV} {L : QL} {a b : Int} : Rr C mX0_append (94, L, qi b :: qi a :: st, M) x = Rr C mX0_append (95, L, qi (a * b) :: st, M) x := g_pl (show decode cX0_append 94 = .ok (.imul, 1) by decide +kernel) rfl
set_option maxRecDepth 20000 in
theorem kX0_append_95 {C : QC} {x : QP} {M : QM} {st : List CV} {L : QL} : Rr C mX0_append (95, L, st, M) x = Rr C mX0_append (96, L, qi 1 :: st, M) x := g_pl (show decode cX0_append 95 = .ok (.iconst 1, 1) by decide +kernel) rfl
set_option maxRecDepth 20000 in
theorem kX0_append_96 {C : QC} {x : QP} {M : QM} {st : List CV} {L : QL} {a b : Int} : Rr C mX0_append (96, L, qi b :: qi a :: st, M) x = Rr C mX0_append (97, L, qi (a + b) :: st, M) x := g_pl (show decode cX0_append 96 = .ok (.iadd, 1) by decide +kernel) rfl
set_option maxRecDepth 20000 in
theorem kX0_append_97 {C : QC} {x : QP} {M : QM} {L : QL} {rest : List CV} {a0 a1 : CV} {v : CV} {M1 : QM} (hC : C iJ7_copyOf_59c91 [a0, a1] M (some v) M1) (hw : (rest.map q_wd).sum ≤ 8) (k : Rr C mX0_append (100, L, v :: rest, M1) x) : Rr C mX0_append (97, L, a1 :: a0 :: rest, M) x := g_cs (ow := 0) (e := (1, 61, 0, [657, 658, 101])) (as := [a0, a1]) (show decode cX0_append 97 = .ok (.invokestatic 42, 3) by decide +kernel) rfl rfl rfl rfl (Or.inl rfl) rfl hC hw k
set_option maxRecDepth 20000 in
theorem kX0_append_100 {C : QC} {x : QP} {M : QM} {st : List CV} {L : QL} {z : Option Nat} {a : Nat} (hk : q_kd M a = (1, 0)) : Rr C mX0_append (100, L, .inr (.inr z) :: qr a :: st, M) x = Rr C mX0_append (103, L, st, q_wr M a 3 (.inr (.inr z))) x := g_putf (ow := 0) (ini := false) (e := (0, 3, RX0, 189, 0)) (r := (RX0, TX0, 7)) (t := tyX0) (show decode cX0_append 100 = .ok (.putfield 21, 3) by decide +kernel) rfl rfl rfl rfl (by decide +kernel) hk
set_option maxRecDepth 20000 in
theorem kX0_append_103 {C : QC} {x : QP} {M : QM} {st : List CV} {L : QL} {l0 l1 l2 l3 : Option CV} {r : Option Nat} : Rr C mX0_append (103, [some (.inr (.inr r)), l1, l2, l3], st, M) x = Rr C mX0_append (104, [some (.inr (.inr r)), l1, l2, l3], .inr (.inr r) :: st, M) x := g_pl (show decode cX0_append 103 = .ok (.aload_n 0, 1) by decide +kernel) rfl
set_option maxRecDepth 20000 in
theorem kX0_append_104 {C : QC} {x : QP} {M : QM} {st : List CV} {L : QL} {a : Nat} (hk : q_kd M a = (1, 0)) : Rr C mX0_append (104, L, qr a :: st, M) x = Rr C mX0_append (107, L, q_fv M a 0 :: st, M) x := g_getf (ow := 0) (e := (0, 0, RX0, 186, 0)) (show decode cX0_append 104 = .ok (.getfield 9, 3) by decide +kernel) rfl hk
set_option maxRecDepth 20000 in
theorem kX0_append_107 {C : QC} {x : QP} {M : QM} {st : List CV} {L : QL} {l0 l1 l2 l3 : Option CV} {r : Option Nat} : Rr C mX0_append (107, [some (.inr (.inr r)), l1, l2, l3], st, M) x = Rr C mX0_append (108, [some (.inr (.inr r)), l1, l2, l3], .inr (.inr r) :: st, M) x := g_pl (show decode cX0_append 107 = .ok (.aload_n 0, 1) by decide +kernel) rfl
set_option maxRecDepth 20000 in
theorem kX0_append_108 {C : QC} {x : QP} {M : QM} {st : List CV} {L : QL} {a : Nat} (hk : q_kd M a = (1, 0)) : Rr C mX0_append (108, L, qr a :: st, M) x = Rr C mX0_append (111, L, q_fv M a 4 :: st, M) x := g_getf (ow := 0) (e := (0, 4, RX0, 190, 0)) (show decode cX0_append 108 = .ok (.getfield 24, 3) by decide +kernel) rfl hk
set_option maxRecDepth 20000 in
theorem kX0_append_111 {C : QC} {x : QP} {M : QM} {st : List CV} {L : QL} {l0 l1 l2 l3 : Option CV} {z : Int} : Rr C mX0_append (111, [l0, some (qi z), l2, l3], st, M) x = Rr C mX0_append (112, [l0, some (qi z), l2, l3], qi z :: st, M) x := g_pl (show decode cX0_append 111 = .ok (.iload_n 1, 1) by decide +kernel) rfl
set_option maxRecDepth 20000 in
theorem kX0_append_112 {C : QC} {x : QP} {M : QM} {st : List CV} {L : QL} {a : Nat} {j v : Int} (hk : (q_kd M a).1 = 2) (h0 : 0 ≤ j) (h1 : j < ((q_kd M a).2 : Int)) : Rr C mX0_append (112, L, qi v :: qi j :: qr a :: st, M) x = Rr C mX0_append (113, L, st, q_wr M a j.toNat (qi v)) x := g_iast (show decode cX0_append 112 = .ok (.iastore, 1) by decide +kernel) hk h0 h1
set_option maxRecDepth 20000 in
theorem kX0_append_113 {C : QC} {x : QP} {M : QM} {st : List CV} {L : QL} {l0 l1 l2 l3 : Option CV} {r : Option Nat} : Rr C mX0_append (113, [some (.inr (.inr r)), l1, l2, l3], st, M) x = Rr C mX0_append (114, [some (.inr (.inr r)), l1, l2, l3], .inr (.inr r) :: st, M) x := g_pl (show decode cX0_append 113 = .ok (.aload_n 0, 1) by decide +kernel) rfl
set_option maxRecDepth 20000 in
theorem kX0_append_114 {C : QC} {x : QP} {M : QM} {st : List CV} {L : QL} {a : Nat} (hk : q_kd M a = (1, 0)) : Rr C mX0_append (114, L, qr a :: st, M) x = Rr C mX0_append (117, L, q_fv M a 1 :: st, M) x := g_getf (ow := 0) (e := (0, 1, RX0, 187, 0)) (show decode cX0_append 114 = .ok (.getfield 15, 3) by decide +kernel) rfl hk
set_option maxRecDepth 20000 in
theorem kX0_append_117 {C : QC} {x : QP} {M : QM} {st : List CV} {L : QL} {l0 l1 l2 l3 : Option CV} {r : Option Nat} : Rr C mX0_append (117, [some (.inr (.inr r)), l1, l2, l3], st, M) x = Rr C mX0_append (118, [some (.inr (.inr r)), l1, l2, l3], .inr (.inr r) :: st, M) x := g_pl (show decode cX0_append 117 = .ok (.aload_n 0, 1) by decide +kernel) rfl
set_option maxRecDepth 20000 in
theorem kX0_append_118 {C : QC} {x : QP} {M : QM} {st : List CV} {L : QL} {a : Nat} (hk : q_kd M a = (1, 0)) : Rr C mX0_append (118, L, qr a :: st, M) x = Rr C mX0_append (121, L, q_fv M a 4 :: st, M) x := g_getf (ow := 0) (e := (0, 4, RX0, 190, 0)) (show decode cX0_append 118 = .ok (.getfield 24, 3) by decide +kernel) rfl hk
set_option maxRecDepth 20000 in
theorem kX0_append_121 {C : QC} {x : QP} {M : QM} {st : List CV} {L : QL} {l0 l1 l2 l3 : Option CV} {z : Int} : Rr C mX0_append (121, [l0, l1, some (qi z), l3], st, M) x = Rr C mX0_append (122, [l0, l1, some (qi z), l3], qi z :: st, M) x := g_pl (show decode cX0_append 121 = .ok (.iload_n 2, 1) by decide +kernel) rfl
set_option maxRecDepth 20000 in
theorem kX0_append_122 {C : QC} {x : QP} {M : QM} {st : List CV} {L : QL} {a : Nat} {j v : Int} (hk : (q_kd M a).1 = 2) (h0 : 0 ≤ j) (h1 : j < ((q_kd M a).2 : Int)) : Rr C mX0_append (122, L, qi v :: qi j :: qr a :: st, M) x = Rr C mX0_append (123, L, st, q_wr M a j.toNat (qi v)) x := g_iast (show decode cX0_append 122 = .ok (.iastore, 1) by decide +kernel) hk h0 h1
set_option maxRecDepth 20000 in
theorem kX0_append_123 {C : QC} {x : QP} {M : QM} {st : List CV} {L : QL} {l0 l1 l2 l3 : Option CV} {r : Option Nat} : Rr C mX0_append (123, [some (.inr (.inr r)), l1, l2, l3], st, M) x = Rr C mX0_append (124, [some (.inr (.inr r)), l1, l2, l3], .inr (.inr r) :: st, M) x := g_pl (show decode cX0_append 123 = .ok (.aload_n 0, 1) by decide +kernel) rfl
set_option maxRecDepth 20000 in
theorem kX0_append_124 {C : QC} {x : QP} {M : QM} {st : List CV} {L : QL} {a : Nat} (hk : q_kd M a = (1, 0)) : Rr C mX0_append (124, L, qr a :: st, M) x = Rr C mX0_append (127, L, q_fv M a 2 :: st, M) x := g_getf (ow := 0) (e := (0, 2, RX0, 188, 0)) (show decode cX0_append 124 = .ok (.getfield 18, 3) by decide +kernel) rfl hk
set_option maxRecDepth 20000 in
theorem kX0_append_127 {C : QC} {x : QP} {M : QM} {st : List CV} {L : QL} {l0 l1 l2 l3 : Option CV} {r : Option Nat} : Rr C mX0_append (127, [some (.inr (.inr r)), l1, l2, l3], st, M) x = Rr C mX0_append (128, [some (.inr (.inr r)), l1, l2, l3], .inr (.inr r) :: st, M) x := g_pl (show decode cX0_append 127 = .ok (.aload_n 0, 1) by decide +kernel) rfl
set_option maxRecDepth 20000 in
theorem kX0_append_128 {C : QC} {x : QP} {M : QM} {st : List CV} {L : QL} {a : Nat} (hk : q_kd M a = (1, 0)) : Rr C mX0_append (128, L, qr a :: st, M) x = Rr C mX0_append (131, L, q_fv M a 4 :: st, M) x := g_getf (ow := 0) (e := (0, 4, RX0, 190, 0)) (show decode cX0_append 128 = .ok (.getfield 24, 3) by decide +kernel) rfl hk
set_option maxRecDepth 20000 in
theorem kX0_append_131 {C : QC} {x : QP} {M : QM} {st : List CV} {L : QL} {l0 l1 l2 l3 : Option CV} {z : Int} : Rr C mX0_append (131, [l0, l1, l2, some (qi z)], st, M) x = Rr C mX0_append (132, [l0, l1, l2, some (qi z)], qi z :: st, M) x := g_pl (show decode cX0_append 131 = .ok (.iload_n 3, 1) by decide +kernel) rfl
set_option maxRecDepth 20000 in
theorem kX0_append_132 {C : QC} {x : QP} {M : QM} {st : List CV} {L : QL} {a : Nat} {j v : Int} (hk : (q_kd M a).1 = 2) (h0 : 0 ≤ j) (h1 : j < ((q_kd M a).2 : Int)) : Rr C mX0_append (132, L, qi v :: qi j :: qr a :: st, M) x = Rr C mX0_append (133, L, st, q_wr M a j.toNat (qi v)) x := g_iast (show decode cX0_append 132 = .ok (.iastore, 1) by decide +kernel) hk h0 h1
set_option maxRecDepth 20000 in
theorem kX0_append_133 {C : QC} {x : QP} {M : QM} {st : List CV} {L : QL} {l0 l1 l2 l3 : Option CV} {r : Option Nat} : Rr C mX0_append (133, [some (.inr (.inr r)), l1, l2, l3], st, M) x = Rr C mX0_append (134, [some (.inr (.inr r)), l1, l2, l3], .inr (.inr r) :: st, M) x := g_pl (show decode cX0_append 133 = .ok (.aload_n 0, 1) by decide +kernel) rfl
set_option maxRecDepth 20000 in
theorem kX0_append_134 {C : QC} {x : QP} {M : QM} {st : List CV} {L : QL} {a : Nat} (hk : q_kd M a = (1, 0)) : Rr C mX0_append (134, L, qr a :: st, M) x = Rr C mX0_append (137, L, q_fv M a 5 :: st, M) x := g_getf (ow := 0) (e := (0, 5, RX0, 191, 0)) (show decode cX0_append 134 = .ok (.getfield 28, 3) by decide +kernel) rfl hk
set_option maxRecDepth 20000 in
theorem kX0_append_137 {C : QC} {x : QP} {M : QM} {st : List CV} {L : QL} {l0 l1 l2 l3 : Option CV} {r : Option Nat} : Rr C mX0_append (137, [some (.inr (.inr r)), l1, l2, l3], st, M) x = Rr C mX0_append (138, [some (.inr (.inr r)), l1, l2, l3], .inr (.inr r) :: st, M) x := g_pl (show decode cX0_append 137 = .ok (.aload_n 0, 1) by decide +kernel) rfl
set_option maxRecDepth 20000 in
theorem kX0_append_138 {C : QC} {x : QP} {M : QM} {st : List CV} {L : QL} {a : Nat} (hk : q_kd M a = (1, 0)) : Rr C mX0_append (138, L, qr a :: st, M) x = Rr C mX0_append (141, L, q_fv M a 6 :: st, M) x := g_getf (ow := 0) (e := (0, 6, RX0, 192, 0)) (show decode cX0_append 138 = .ok (.getfield 31, 3) by decide +kernel) rfl hk
set_option maxRecDepth 20000 in
theorem kX0_append_141 {C : QC} {x : QP} {M : QM} {st : List CV} {L : QL} {l0 l1 l2 l3 : Option CV} {r : Option Nat} : Rr C mX0_append (141, [some (.inr (.inr r)), l1, l2, l3], st, M) x = Rr C mX0_append (142, [some (.inr (.inr r)), l1, l2, l3], .inr (.inr r) :: st, M) x := g_pl (show decode cX0_append 141 = .ok (.aload_n 0, 1) by decide +kernel) rfl
set_option maxRecDepth 20000 in
theorem kX0_append_142 {C : QC} {x : QP} {M : QM} {st : List CV} {L : QL} {a : Nat} (hk : q_kd M a = (1, 0)) : Rr C mX0_append (142, L, qr a :: st, M) x = Rr C mX0_append (145, L, q_fv M a 4 :: st, M) x := g_getf (ow := 0) (e := (0, 4, RX0, 190, 0)) (show decode cX0_append 142 = .ok (.getfield 24, 3) by decide +kernel) rfl hk
set_option maxRecDepth 20000 in
theorem kX0_append_145 {C : QC} {x : QP} {M : QM} {st : List CV} {L : QL} {a : Nat} {j v : Int} (hk : (q_kd M a).1 = 2) (h0 : 0 ≤ j) (h1 : j < ((q_kd M a).2 : Int)) : Rr C mX0_append (145, L, qi v :: qi j :: qr a :: st, M) x = Rr C mX0_append (146, L, st, q_wr M a j.toNat (qi v)) x := g_iast (show decode cX0_append 145 = .ok (.iastore, 1) by decide +kernel) hk h0 h1
set_option maxRecDepth 20000 in
theorem kX0_append_146 {C : QC} {x : QP} {M : QM} {st : List CV} {L : QL} {l0 l1 l2 l3 : Option CV} {r : Option Nat} : Rr C mX0_append (146, [some (.inr (.inr r)), l1, l2, l3], st, M) x = Rr C mX0_append (147, [some (.inr (.inr r)), l1, l2, l3], .inr (.inr r) :: st, M) x := g_pl (show decode cX0_append 146 = .ok (.aload_n 0, 1) by decide +kernel) rfl
set_option maxRecDepth 20000 in
theorem kX0_append_147i {C : QC} {x : QP} {M : QM} {st : List CV} {L : QL} {a : Int} : Rr C mX0_append (147, L, qi a :: st, M) x = Rr C mX0_append (148, L, qi a :: qi a :: st, M) x := g_pl (show decode cX0_append 147 = .ok (.dup, 1) by decide +kernel) rfl
set_option maxRecDepth 20000 in
theorem kX0_append_147r {C : QC} {x : QP} {M : QM} {st : List CV} {L : QL} {a : Option Nat} : Rr C mX0_append (147, L, .inr (.inr a) :: st, M) x = Rr C mX0_append (148, L, .inr (.inr a) :: .inr (.inr a) :: st, M) x := g_pl (show decode cX0_append 147 = .ok (.dup, 1) by decide +kernel) rfl
set_option maxRecDepth 20000 in
theorem kX0_append_148 {C : QC} {x : QP} {M : QM} {st : List CV} {L : QL} {a : Nat} (hk : q_kd M a = (1, 0)) : Rr C mX0_append (148, L, qr a :: st, M) x = Rr C mX0_append (151, L, q_fv M a 4 :: st, M) x := g_getf (ow := 0) (e := (0, 4, RX0, 190, 0)) (show decode cX0_append 148 = .ok (.getfield 24, 3) by decide +kernel) rfl hk
set_option maxRecDepth 20000 in
theorem kX0_append_151 {C : QC} {x : QP} {M : QM} {st : List CV} {L : QL} : Rr C mX0_append (151, L, st, M) x = Rr C mX0_append (152, L, qi 1 :: st, M) x := g_pl (show decode cX0_append 151 = .ok (.iconst 1, 1) by decide +kernel) rfl
set_option maxRecDepth 20000 in
theorem kX0_append_152 {C : QC} {x : QP} {M : QM} {st : List CV} {L : QL} {a b : Int} : Rr C mX0_append (152, L, qi b :: qi a :: st, M) x = Rr C mX0_append (153, L, qi (a + b) :: st, M) x := g_pl (show decode cX0_append 152 = .ok (.iadd, 1) by decide +kernel) rfl
set_option maxRecDepth 20000 in
theorem kX0_append_153 {C : QC} {x : QP} {M : QM} {st : List CV} {L : QL} {z : Int} {a : Nat} (hk : q_kd M a = (1, 0)) : Rr C mX0_append (153, L, qi z :: qr a :: st, M) x = Rr C mX0_append (156, L, st, q_wr M a 4 (qi z)) x := g_putf (ow := 0) (ini := false) (e := (0, 4, RX0, 190, 0)) (r := (RX0, TX0, 7)) (t := tyX0) (show decode cX0_append 153 = .ok (.putfield 24, 3) by decide +kernel) rfl rfl rfl rfl (by decide +kernel) hk
set_option maxRecDepth 20000 in
theorem kX0_append_156 {C : QC} {x : QP} {M : QM} {st : List CV} {L : QL} {l0 l1 l2 l3 : Option CV} {r : Option Nat} : Rr C mX0_append (156, [some (.inr (.inr r)), l1, l2, l3], st, M) x = Rr C mX0_append (157, [some (.inr (.inr r)), l1, l2, l3], .inr (.inr r) :: st, M) x := g_pl (show decode cX0_append 156 = .ok (.aload_n 0, 1) by decide +kernel) rfl
set_option maxRecDepth 20000 in
theorem kX0_append_157i {C : QC} {x : QP} {M : QM} {st : List CV} {L : QL} {a : Int} : Rr C mX0_append (157, L, qi a :: st, M) x = Rr C mX0_append (158, L, qi a :: qi a :: st, M) x := g_pl (show decode cX0_append 157 = .ok (.dup, 1) by decide +kernel) rfl
set_option maxRecDepth 20000 in
theorem kX0_append_157r {C : QC} {x : QP} {M : QM} {st : List CV} {L : QL} {a : Option Nat} : Rr C mX0_append (157, L, .inr (.inr a) :: st, M) x = Rr C mX0_append (158, L, .inr (.inr a) :: .inr (.inr a) :: st, M) x := g_pl (show decode cX0_append 157 = .ok (.dup, 1) by decide +kernel) rfl
set_option maxRecDepth 20000 in
theorem kX0_append_158 {C : QC} {x : QP} {M : QM} {st : List CV} {L : QL} {a : Nat} (hk : q_kd M a = (1, 0)) : Rr C mX0_append (158, L, qr a :: st, M) x = Rr C mX0_append (161, L, q_fv M a 6 :: st, M) x := g_getf (ow := 0) (e := (0, 6, RX0, 192, 0)) (show decode cX0_append 158 = .ok (.getfield 31, 3) by decide +kernel) rfl hk
set_option maxRecDepth 20000 in
theorem kX0_append_161 {C : QC} {x : QP} {M : QM} {st : List CV} {L : QL} : Rr C mX0_append (161, L, st, M) x = Rr C mX0_append (162, L, qi 1 :: st, M) x := g_pl (show decode cX0_append 161 = .ok (.iconst 1, 1) by decide +kernel) rfl
set_option maxRecDepth 20000 in
theorem kX0_append_162 {C : QC} {x : QP} {M : QM} {st : List CV} {L : QL} {a b : Int} : Rr C mX0_append (162, L, qi b :: qi a :: st, M) x = Rr C mX0_append (163, L, qi (a + b) :: st, M) x := g_pl (show decode cX0_append 162 = .ok (.iadd, 1) by decide +kernel) rfl
set_option maxRecDepth 20000 in
theorem kX0_append_163 {C : QC} {x : QP} {M : QM} {st : List CV} {L : QL} {z : Int} {a : Nat} (hk : q_kd M a = (1, 0)) : Rr C mX0_append (163, L, qi z :: qr a :: st, M) x = Rr C mX0_append (166, L, st, q_wr M a 6 (qi z)) x := g_putf (ow := 0) (ini := false) (e := (0, 6, RX0, 192, 0)) (r := (RX0, TX0, 7)) (t := tyX0) (show decode cX0_append 163 = .ok (.putfield 31, 3) by decide +kernel) rfl rfl rfl rfl (by decide +kernel) hk
set_option maxRecDepth 20000 in
theorem kX0_append_166 {C : QC} {x : QP} {M : QM} {st : List CV} {L : QL} {l0 l1 l2 l3 : Option CV} {r : Option Nat} : Rr C mX0_append (166, [some (.inr (.inr r)), l1, l2, l3], st, M) x = Rr C mX0_append (167, [some (.inr (.inr r)), l1, l2, l3], .inr (.inr r) :: st, M) x := g_pl (show decode cX0_append 166 = .ok (.aload_n 0, 1) by decide +kernel) rfl
set_option maxRecDepth 20000 in
theorem kX0_append_167 {C : QC} {x : QP} {M : QM} {st : List CV} {L : QL} {a : Nat} (hk : q_kd M a = (1, 0)) : Rr C mX0_append (167, L, qr a :: st, M) x = Rr C mX0_append (170, L, q_fv M a 6 :: st, M) x := g_getf (ow := 0) (e := (0, 6, RX0, 192, 0)) (show decode cX0_append 167 = .ok (.getfield 31, 3) by decide +kernel) rfl hk
set_option maxRecDepth 20000 in
theorem kX0_append_170 {C : QC} {x : QP} {M : QM} {st : List CV} {L : QL} : Rr C mX0_append (170, L, st, M) x = Rr C mX0_append (171, L, qi 1 :: st, M) x := g_pl (show decode cX0_append 170 = .ok (.iconst 1, 1) by decide +kernel) rfl
set_option maxRecDepth 20000 in
theorem kX0_append_171 {C : QC} {x : QP} {M : QM} {st : List CV} {L : QL} {a b : Int} : Rr C mX0_append (171, L, qi b :: qi a :: st, M) x = Rr C mX0_append (172, L, qi (a - b) :: st, M) x := g_pl (show decode cX0_append 171 = .ok (.isub, 1) by decide +kernel) rfl
set_option maxRecDepth 20000 in
theorem kX0_append_172 {C : QC} {x : QP} {M : QM} {st : List CV} {L : QL} {z : Int} : Rr C mX0_append (172, L, [qi z], M) x = x (some (qi z)) M := g_iret (show decode cX0_append 172 = .ok (.ireturn, 1) by decide +kernel) rfl
set_option maxRecDepth 20000 in
theorem eX0_append {d : Nat} {M : QM} {x : QP} {a : Nat} {v0 : Int} {v1 : Int} {v2 : Int} : q_T (d + 1) iX0_append [qr a, qi v0, qi v1, qi v2] M x = Rr (q_C d) mX0_append (0, [some (qr a), some (qi v0), some (qi v1), some (qi v2)], [], M) x := g_entryT (e := _) rfl (Nat.le_of_ble_eq_true rfl) rfl rfl
def mX0_remove : QI := (0, cX0_remove, false, some .int)
set_option maxRecDepth 20000 in
theorem kX0_remove_0 {C : QC} {x : QP} {M : QM} {st : List CV} {L : QL} {l0 l1 l2 : Option CV} {r : Option Nat} : Rr C mX0_remove (0, [some (.inr (.inr r)), l1, l2], st, M) x = Rr C mX0_remove (1, [some (.inr (.inr r)), l1, l2], .inr (.inr r) :: st, M) x := g_pl (show decode cX0_remove 0 = .ok (.aload_n 0, 1) by decide +kernel) rfl
set_option maxRecDepth 20000 in
theorem kX0_remove_1 {C : QC} {x : QP} {M : QM} {st : List CV} {L : QL} {l0 l1 l2 : Option CV} {z : Int} : Rr C mX0_remove (1, [l0, some (qi z), l2], st, M) x = Rr C mX0_remove (2, [l0, some (qi z), l2], qi z :: st, M) x := g_pl (show decode cX0_remove 1 = .ok (.iload_n 1, 1) by decide +kernel) rfl
set_option maxRecDepth 20000 in
theorem kX0_remove_2 {C : QC} {x : QP} {M : QM} {L : QL} {rest : List CV} {a0 : CV} {v : CV} {M1 : QM} {b : Nat} (hb : q_kd M b = (1, 0)) (hC : C iX0_has [qr b, a0] M (some v) M1) (hw : (rest.map q_wd).sum ≤ 8) (k : Rr C mX0_remove (5, L, v :: rest, M1) x) : Rr C mX0_remove (2, L, a0 :: qr b :: rest, M) x := g_cv (ow := 0) (e := (0, 63, 0, [671, 672, 673, 84])) (as := [a0]) (show decode cX0_remove 2 = .ok (.invokevirtual 38, 3) by decide +kernel) rfl rfl rfl (Or.inl rfl) rfl hb hC hw k
set_option maxRecDepth 20000 in
theorem kX0_remove_5 {C : QC} {x : QP} {M : QM} {st : List CV} {L : QL} {a : Int} (ha1 : -2147483648 ≤ a) (ha2 : a < 2147483648) : Rr C mX0_remove (5, L, qi a :: st, M) x = (if a = 0 then Rr C mX0_remove (8, L, st, M) x else Rr C mX0_remove (10, L, st, M) x) := (g_if (show decode cX0_remove 5 = .ok (.ifCond .ne 5, 3) by decide +kernel) rfl ha1 ha2).trans (g_itn c_ne)
set_option maxRecDepth 20000 in
theorem kX0_remove_8 {C : QC} {x : QP} {M : QM} {st : List CV} {L : QL} : Rr C mX0_remove (8, L, st, M) x = Rr C mX0_remove (9, L, qi (-1) :: st, M) x := g_pl (show decode cX0_remove 8 = .ok (.iconst (-1), 1) by decide +kernel) rfl
set_option maxRecDepth 20000 in
theorem kX0_remove_9 {C : QC} {x : QP} {M : QM} {st : List CV} {L : QL} {z : Int} : Rr C mX0_remove (9, L, [qi z], M) x = x (some (qi z)) M := g_iret (show decode cX0_remove 9 = .ok (.ireturn, 1) by decide +kernel) rfl
set_option maxRecDepth 20000 in
theorem kX0_remove_10 {C : QC} {x : QP} {M : QM} {st : List CV} {L : QL} {l0 l1 l2 : Option CV} {r : Option Nat} : Rr C mX0_remove (10, [some (.inr (.inr r)), l1, l2], st, M) x = Rr C mX0_remove (11, [some (.inr (.inr r)), l1, l2], .inr (.inr r) :: st, M) x := g_pl (show decode cX0_remove 10 = .ok (.aload_n 0, 1) by decide +kernel) rfl
set_option maxRecDepth 20000 in
theorem kX0_remove_11i {C : QC} {x : QP} {M : QM} {st : List CV} {L : QL} {a : Int} : Rr C mX0_remove (11, L, qi a :: st, M) x = Rr C mX0_remove (12, L, qi a :: qi a :: st, M) x := g_pl (show decode cX0_remove 11 = .ok (.dup, 1) by decide +kernel) rfl
set_option maxRecDepth 20000 in
theorem kX0_remove_11r {C : QC} {x : QP} {M : QM} {st : List CV} {L : QL} {a : Option Nat} : Rr C mX0_remove (11, L, .inr (.inr a) :: st, M) x = Rr C mX0_remove (12, L, .inr (.inr a) :: .inr (.inr a) :: st, M) x := g_pl (show decode cX0_remove 11 = .ok (.dup, 1) by decide +kernel) rfl
set_option maxRecDepth 20000 in
theorem kX0_remove_12 {C : QC} {x : QP} {M : QM} {st : List CV} {L : QL} {a : Nat} (hk : q_kd M a = (1, 0)) : Rr C mX0_remove (12, L, qr a :: st, M) x = Rr C mX0_remove (15, L, q_fv M a 6 :: st, M) x := g_getf (ow := 0) (e := (0, 6, RX0, 192, 0)) (show decode cX0_remove 12 = .ok (.getfield 31, 3) by decide +kernel) rfl hk
set_option maxRecDepth 20000 in
theorem kX0_remove_15 {C : QC} {x : QP} {M : QM} {st : List CV} {L : QL} : Rr C mX0_remove (15, L, st, M) x = Rr C mX0_remove (16, L, qi 1 :: st, M) x := g_pl (show decode cX0_remove 15 = .ok (.iconst 1, 1) by decide +kernel) rfl
set_option maxRecDepth 20000 in
theorem kX0_remove_16 {C : QC} {x : QP} {M : QM} {st : List CV} {L : QL} {a b : Int} : Rr C mX0_remove (16, L, qi b :: qi a :: st, M) x = Rr C mX0_remove (17, L, qi (a - b) :: st, M) x := g_pl (show decode cX0_remove 16 = .ok (.isub, 1) by decide +kernel) rfl
set_option maxRecDepth 20000 in
theorem kX0_remove_17 {C : QC} {x : QP} {M : QM} {st : List CV} {L : QL} {z : Int} {a : Nat} (hk : q_kd M a = (1, 0)) : Rr C mX0_remove (17, L, qi z :: qr a :: st, M) x = Rr C mX0_remove (20, L, st, q_wr M a 6 (qi z)) x := g_putf (ow := 0) (ini := false) (e := (0, 6, RX0, 192, 0)) (r := (RX0, TX0, 7)) (t := tyX0) (show decode cX0_remove 17 = .ok (.putfield 31, 3) by decide +kernel) rfl rfl rfl rfl (by decide +kernel) hk
set_option maxRecDepth 20000 in
theorem kX0_remove_20 {C : QC} {x : QP} {M : QM} {st : List CV} {L : QL} {l0 l1 l2 : Option CV} {z : Int} : Rr C mX0_remove (20, [l0, some (qi z), l2], st, M) x = Rr C mX0_remove (21, [l0, some (qi z), l2], qi z :: st, M) x := g_pl (show decode cX0_remove 20 = .ok (.iload_n 1, 1) by decide +kernel) rfl
set_option maxRecDepth 20000 in
theorem kX0_remove_21 {C : QC} {x : QP} {M : QM} {st : List CV} {L : QL} {l0 l1 l2 : Option CV} {z : Int} : Rr C mX0_remove (21, [l0, l1, l2], qi z :: st, M) x = Rr C mX0_remove (22, [l0, q_cut l1, some (qi z)], st, M) x := g_pl (show decode cX0_remove 21 = .ok (.istore_n 2, 1) by decide +kernel) rfl
set_option maxRecDepth 20000 in
theorem kX0_remove_22 {C : QC} {x : QP} {M : QM} {st : List CV} {L : QL} {l0 l1 l2 : Option CV} {z : Int} : Rr C mX0_remove (22, [l0, l1, some (qi z)], st, M) x = Rr C mX0_remove (23, [l0, l1, some (qi z)], qi z :: st, M) x := g_pl (show decode cX0_remove 22 = .ok (.iload_n 2, 1) by decide +kernel) rfl
set_option maxRecDepth 20000 in
theorem kX0_remove_23 {C : QC} {x : QP} {M : QM} {st : List CV} {L : QL} {l0 l1 l2 : Option CV} {r : Option Nat} : Rr C mX0_remove (23, [some (.inr (.inr r)), l1, l2], st, M) x = Rr C mX0_remove (24, [some (.inr (.inr r)), l1, l2], .inr (.inr r) :: st, M) x := g_pl (show decode cX0_remove 23 = .ok (.aload_n 0, 1) by decide +kernel) rfl
set_option maxRecDepth 20000 in
theorem kX0_remove_24 {C : QC} {x : QP} {M : QM} {st : List CV} {L : QL} {a : Nat} (hk : q_kd M a = (1, 0)) : Rr C mX0_remove (24, L, qr a :: st, M) x = Rr C mX0_remove (27, L, q_fv M a 6 :: st, M) x := g_getf (ow := 0) (e := (0, 6, RX0, 192, 0)) (show decode cX0_remove 24 = .ok (.getfield 31, 3) by decide +kernel) rfl hk
set_option maxRecDepth 20000 in
theorem kX0_remove_27 {C : QC} {x : QP} {M : QM} {st : List CV} {L : QL} {a b : Int} (ha1 : -2147483648 ≤ a) (ha2 : a < 2147483648) (hb1 : -2147483648 ≤ b) (hb2 : b < 2147483648) : Rr C mX0_remove (27, L, qi b :: qi a :: st, M) x = (if a < b then Rr C mX0_remove (30, L, st, M) x else Rr C mX0_remove (50, L, st, M) x) := (g_icmp (show decode cX0_remove 27 = .ok (.if_icmp .ge 23, 3) by decide +kernel) rfl ha1 ha2 hb1 hb2).trans (g_itn c_ge)
set_option maxRecDepth 20000 in
theorem kX0_remove_30 {C : QC} {x : QP} {M : QM} {st : List CV} {L : QL} {l0 l1 l2 : Option CV} {r : Option Nat} : Rr C mX0_remove (30, [some (.inr (.inr r)), l1, l2], st, M) x = Rr C mX0_remove (31, [some (.inr (.inr r)), l1, l2], .inr (.inr r) :: st, M) x := g_pl (show decode cX0_remove 30 = .ok (.aload_n 0, 1) by decide +kernel) rfl
set_option maxRecDepth 20000 in
theorem kX0_remove_31 {C : QC} {x : QP} {M : QM} {st : List CV} {L : QL} {a : Nat} (hk : q_kd M a = (1, 0)) : Rr C mX0_remove (31, L, qr a :: st, M) x = Rr C mX0_remove (34, L, q_fv M a 5 :: st, M) x := g_getf (ow := 0) (e := (0, 5, RX0, 191, 0)) (show decode cX0_remove 31 = .ok (.getfield 28, 3) by decide +kernel) rfl hk
set_option maxRecDepth 20000 in
theorem kX0_remove_34 {C : QC} {x : QP} {M : QM} {st : List CV} {L : QL} {l0 l1 l2 : Option CV} {z : Int} : Rr C mX0_remove (34, [l0, l1, some (qi z)], st, M) x = Rr C mX0_remove (35, [l0, l1, some (qi z)], qi z :: st, M) x := g_pl (show decode cX0_remove 34 = .ok (.iload_n 2, 1) by decide +kernel) rfl
set_option maxRecDepth 20000 in
theorem kX0_remove_35 {C : QC} {x : QP} {M : QM} {st : List CV} {L : QL} {l0 l1 l2 : Option CV} {r : Option Nat} : Rr C mX0_remove (35, [some (.inr (.inr r)), l1, l2], st, M) x = Rr C mX0_remove (36, [some (.inr (.inr r)), l1, l2], .inr (.inr r) :: st, M) x := g_pl (show decode cX0_remove 35 = .ok (.aload_n 0, 1) by decide +kernel) rfl
set_option maxRecDepth 20000 in
theorem kX0_remove_36 {C : QC} {x : QP} {M : QM} {st : List CV} {L : QL} {a : Nat} (hk : q_kd M a = (1, 0)) : Rr C mX0_remove (36, L, qr a :: st, M) x = Rr C mX0_remove (39, L, q_fv M a 5 :: st, M) x := g_getf (ow := 0) (e := (0, 5, RX0, 191, 0)) (show decode cX0_remove 36 = .ok (.getfield 28, 3) by decide +kernel) rfl hk
set_option maxRecDepth 20000 in
theorem kX0_remove_39 {C : QC} {x : QP} {M : QM} {st : List CV} {L : QL} {l0 l1 l2 : Option CV} {z : Int} : Rr C mX0_remove (39, [l0, l1, some (qi z)], st, M) x = Rr C mX0_remove (40, [l0, l1, some (qi z)], qi z :: st, M) x := g_pl (show decode cX0_remove 39 = .ok (.iload_n 2, 1) by decide +kernel) rfl
set_option maxRecDepth 20000 in
theorem kX0_remove_40 {C : QC} {x : QP} {M : QM} {st : List CV} {L : QL} : Rr C mX0_remove (40, L, st, M) x = Rr C mX0_remove (41, L, qi 1 :: st, M) x := g_pl (show decode cX0_remove 40 = .ok (.iconst 1, 1) by decide +kernel) rfl
set_option maxRecDepth 20000 in
theorem kX0_remove_41 {C : QC} {x : QP} {M : QM} {st : List CV} {L : QL} {a b : Int} : Rr C mX0_remove (41, L, qi b :: qi a :: st, M) x = Rr C mX0_remove (42, L, qi (a + b) :: st, M) x := g_pl (show decode cX0_remove 41 = .ok (.iadd, 1) by decide +kernel) rfl
set_option maxRecDepth 20000 in
theorem kX0_remove_42 {C : QC} {x : QP} {M : QM} {st : List CV} {L : QL} {a : Nat} {j : Int} (hk : (q_kd M a).1 = 2) (h0 : 0 ≤ j) (h1 : j < ((q_kd M a).2 : Int)) : Rr C mX0_remove (42, L, qi j :: qr a :: st, M) x = Rr C mX0_remove (43, L, q_fv M a j.toNat :: st, M) x := g_iald (show decode cX0_remove 42 = .ok (.iaload, 1) by decide +kernel) hk h0 h1
set_option maxRecDepth 20000 in
theorem kX0_remove_43 {C : QC} {x : QP} {M : QM} {st : List CV} {L : QL} {a : Nat} {j v : Int} (hk : (q_kd M a).1 = 2) (h0 : 0 ≤ j) (h1 : j < ((q_kd M a).2 : Int)) : Rr C mX0_remove (43, L, qi v :: qi j :: qr a :: st, M) x = Rr C mX0_remove (44, L, st, q_wr M a j.toNat (qi v)) x := g_iast (show decode cX0_remove 43 = .ok (.iastore, 1) by decide +kernel) hk h0 h1
set_option maxRecDepth 20000 in
theorem kX0_remove_44 {C : QC} {x : QP} {M : QM} {st : List CV} {L : QL} {l0 l1 l2 : Option CV} {z : Int} : Rr C mX0_remove (44, [l0, l1, some (qi z)], st, M) x = Rr C mX0_remove (47, [l0, q_cut l1, some (qi (z + 1))], st, M) x := g_pl (show decode cX0_remove 44 = .ok (.iinc 2 1, 3) by decide +kernel) rfl
set_option maxRecDepth 20000 in
theorem kX0_remove_47 {C : QC} {x : QP} {M : QM} {st : List CV} {L : QL} : Rr C mX0_remove (47, L, st, M) x = Rr C mX0_remove (22, L, st, M) x := g_pl (show decode cX0_remove 47 = .ok (.goto (-25), 3) by decide +kernel) rfl
set_option maxRecDepth 20000 in
theorem kX0_remove_50 {C : QC} {x : QP} {M : QM} {st : List CV} {L : QL} {l0 l1 l2 : Option CV} {r : Option Nat} : Rr C mX0_remove (50, [some (.inr (.inr r)), l1, l2], st, M) x = Rr C mX0_remove (51, [some (.inr (.inr r)), l1, l2], .inr (.inr r) :: st, M) x := g_pl (show decode cX0_remove 50 = .ok (.aload_n 0, 1) by decide +kernel) rfl
set_option maxRecDepth 20000 in
theorem kX0_remove_51 {C : QC} {x : QP} {M : QM} {st : List CV} {L : QL} {a : Nat} (hk : q_kd M a = (1, 0)) : Rr C mX0_remove (51, L, qr a :: st, M) x = Rr C mX0_remove (54, L, q_fv M a 6 :: st, M) x := g_getf (ow := 0) (e := (0, 6, RX0, 192, 0)) (show decode cX0_remove 51 = .ok (.getfield 31, 3) by decide +kernel) rfl hk
set_option maxRecDepth 20000 in
theorem kX0_remove_54 {C : QC} {x : QP} {M : QM} {st : List CV} {L : QL} {z : Int} : Rr C mX0_remove (54, L, [qi z], M) x = x (some (qi z)) M := g_iret (show decode cX0_remove 54 = .ok (.ireturn, 1) by decide +kernel) rfl
set_option maxRecDepth 20000 in
theorem eX0_remove {d : Nat} {M : QM} {x : QP} {a : Nat} {v0 : Int} : q_T (d + 1) iX0_remove [qr a, qi v0] M x = Rr (q_C d) mX0_remove (0, [some (qr a), some (qi v0), none], [], M) x := g_entryT (e := _) rfl (Nat.le_of_ble_eq_true rfl) rfl rfl
def mX0_setOn : QI := (0, cX0_setOn, false, some .int)
set_option maxRecDepth 20000 in
theorem kX0_setOn_0 {C : QC} {x : QP} {M : QM} {st : List CV} {L : QL} {l0 l1 l2 l3 l4 l5 : Option CV} {r : Option Nat} : Rr C mX0_setOn (0, [some (.inr (.inr r)), l1, l2, l3, l4, l5], st, M) x = Rr C mX0_setOn (1, [some (.inr (.inr r)), l1, l2, l3, l4, l5], .inr (.inr r) :: st, M) x := g_pl (show decode cX0_setOn 0 = .ok (.aload_n 0, 1) by decide +kernel) rfl
set_option maxRecDepth 20000 in
theorem kX0_setOn_1 {C : QC} {x : QP} {M : QM} {st : List CV} {L : QL} {l0 l1 l2 l3 l4 l5 : Option CV} {z : Int} : Rr C mX0_setOn (1, [l0, some (qi z), l2, l3, l4, l5], st, M) x = Rr C mX0_setOn (2, [l0, some (qi z), l2, l3, l4, l5], qi z :: st, M) x := g_pl (show decode cX0_setOn 1 = .ok (.iload_n 1, 1) by decide +kernel) rfl
set_option maxRecDepth 20000 in
theorem kX0_setOn_2 {C : QC} {x : QP} {M : QM} {L : QL} {rest : List CV} {a0 : CV} {v : CV} {M1 : QM} {b : Nat} (hb : q_kd M b = (1, 0)) (hC : C iX0_has [qr b, a0] M (some v) M1) (hw : (rest.map q_wd).sum ≤ 8) (k : Rr C mX0_setOn (5, L, v :: rest, M1) x) : Rr C mX0_setOn (2, L, a0 :: qr b :: rest, M) x := g_cv (ow := 0) (e := (0, 63, 0, [671, 672, 673, 84])) (as := [a0]) (show decode cX0_setOn 2 = .ok (.invokevirtual 38, 3) by decide +kernel) rfl rfl rfl (Or.inl rfl) rfl hb hC hw k
set_option maxRecDepth 20000 in
theorem kX0_setOn_5 {C : QC} {x : QP} {M : QM} {st : List CV} {L : QL} {a : Int} (ha1 : -2147483648 ≤ a) (ha2 : a < 2147483648) : Rr C mX0_setOn (5, L, qi a :: st, M) x = (if a = 0 then Rr C mX0_setOn (8, L, st, M) x else Rr C mX0_setOn (10, L, st, M) x) := (g_if (show decode cX0_setOn 5 = .ok (.ifCond .ne 5, 3) by decide +kernel) rfl ha1 ha2).trans (g_itn c_ne)
set_option maxRecDepth 20000 in
theorem kX0_setOn_8 {C : QC} {x : QP} {M : QM} {st : List CV} {L : QL} : Rr C mX0_setOn (8, L, st, M) x = Rr C mX0_setOn (9, L, qi 0 :: st, M) x := g_pl (show decode cX0_setOn 8 = .ok (.iconst 0, 1) by decide +kernel) rfl
set_option maxRecDepth 20000 in
theorem kX0_setOn_9 {C : QC} {x : QP} {M : QM} {st : List CV} {L : QL} {z : Int} : Rr C mX0_setOn (9, L, [qi z], M) x = x (some (qi z)) M := g_iret (show decode cX0_setOn 9 = .ok (.ireturn, 1) by decide +kernel) rfl
set_option maxRecDepth 20000 in
theorem kX0_setOn_10 {C : QC} {x : QP} {M : QM} {st : List CV} {L : QL} {l0 l1 l2 l3 l4 l5 : Option CV} {r : Option Nat} : Rr C mX0_setOn (10, [some (.inr (.inr r)), l1, l2, l3, l4, l5], st, M) x = Rr C mX0_setOn (11, [some (.inr (.inr r)), l1, l2, l3, l4, l5], .inr (.inr r) :: st, M) x := g_pl (show decode cX0_setOn 10 = .ok (.aload_n 0, 1) by decide +kernel) rfl
set_option maxRecDepth 20000 in
theorem kX0_setOn_11 {C : QC} {x : QP} {M : QM} {st : List CV} {L : QL} {a : Nat} (hk : q_kd M a = (1, 0)) : Rr C mX0_setOn (11, L, qr a :: st, M) x = Rr C mX0_setOn (14, L, q_fv M a 5 :: st, M) x := g_getf (ow := 0) (e := (0, 5, RX0, 191, 0)) (show decode cX0_setOn 11 = .ok (.getfield 28, 3) by decide +kernel) rfl hk
set_option maxRecDepth 20000 in
theorem kX0_setOn_14 {C : QC} {x : QP} {M : QM} {st : List CV} {L : QL} {l0 l1 l2 l3 l4 l5 : Option CV} {z : Int} : Rr C mX0_setOn (14, [l0, some (qi z), l2, l3, l4, l5], st, M) x = Rr C mX0_setOn (15, [l0, some (qi z), l2, l3, l4, l5], qi z :: st, M) x := g_pl (show decode cX0_setOn 14 = .ok (.iload_n 1, 1) by decide +kernel) rfl
set_option maxRecDepth 20000 in
theorem kX0_setOn_15 {C : QC} {x : QP} {M : QM} {st : List CV} {L : QL} {a : Nat} {j : Int} (hk : (q_kd M a).1 = 2) (h0 : 0 ≤ j) (h1 : j < ((q_kd M a).2 : Int)) : Rr C mX0_setOn (15, L, qi j :: qr a :: st, M) x = Rr C mX0_setOn (16, L, q_fv M a j.toNat :: st, M) x := g_iald (show decode cX0_setOn 15 = .ok (.iaload, 1) by decide +kernel) hk h0 h1
set_option maxRecDepth 20000 in
theorem kX0_setOn_16 {C : QC} {x : QP} {M : QM} {st : List CV} {L : QL} {l0 l1 l2 l3 l4 l5 : Option CV} {z : Int} : Rr C mX0_setOn (16, [l0, l1, l2, l3, l4, l5], qi z :: st, M) x = Rr C mX0_setOn (18, [l0, l1, l2, q_cut l3, some (qi z), l5], st, M) x := g_pl (show decode cX0_setOn 16 = .ok (.istore 4, 2) by decide +kernel) rfl
set_option maxRecDepth 20000 in
theorem kX0_setOn_18 {C : QC} {x : QP} {M : QM} {st : List CV} {L : QL} : Rr C mX0_setOn (18, L, st, M) x = Rr C mX0_setOn (19, L, qi 0 :: st, M) x := g_pl (show decode cX0_setOn 18 = .ok (.iconst 0, 1) by decide +kernel) rfl
set_option maxRecDepth 20000 in
theorem kX0_setOn_19 {C : QC} {x : QP} {M : QM} {st : List CV} {L : QL} {l0 l1 l2 l3 l4 l5 : Option CV} {z : Int} : Rr C mX0_setOn (19, [l0, l1, l2, l3, l4, l5], qi z :: st, M) x = Rr C mX0_setOn (21, [l0, l1, l2, l3, q_cut l4, some (qi z)], st, M) x := g_pl (show decode cX0_setOn 19 = .ok (.istore 5, 2) by decide +kernel) rfl
set_option maxRecDepth 20000 in
theorem kX0_setOn_21 {C : QC} {x : QP} {M : QM} {st : List CV} {L : QL} {l0 l1 l2 l3 l4 l5 : Option CV} {z : Int} : Rr C mX0_setOn (21, [l0, l1, l2, l3, l4, some (qi z)], st, M) x = Rr C mX0_setOn (23, [l0, l1, l2, l3, l4, some (qi z)], qi z :: st, M) x := g_pl (show decode cX0_setOn 21 = .ok (.iload 5, 2) by decide +kernel) rfl
set_option maxRecDepth 20000 in
theorem kX0_setOn_23 {C : QC} {x : QP} {M : QM} {st : List CV} {L : QL} {l0 l1 l2 l3 l4 l5 : Option CV} {r : Option Nat} : Rr C mX0_setOn (23, [some (.inr (.inr r)), l1, l2, l3, l4, l5], st, M) x = Rr C mX0_setOn (24, [some (.inr (.inr r)), l1, l2, l3, l4, l5], .inr (.inr r) :: st, M) x := g_pl (show decode cX0_setOn 23 = .ok (.aload_n 0, 1) by decide +kernel) rfl
set_option maxRecDepth 20000 in
theorem kX0_setOn_24 {C : QC} {x : QP} {M : QM} {st : List CV} {L : QL} {a : Nat} (hk : q_kd M a = (1, 0)) : Rr C mX0_setOn (24, L, qr a :: st, M) x = Rr C mX0_setOn (27, L, q_fv M a 4 :: st, M) x := g_getf (ow := 0) (e := (0, 4, RX0, 190, 0)) (show decode cX0_setOn 24 = .ok (.getfield 24, 3) by decide +kernel) rfl hk
set_option maxRecDepth 20000 in
theorem kX0_setOn_27 {C : QC} {x : QP} {M : QM} {st : List CV} {L : QL} {a b : Int} (ha1 : -2147483648 ≤ a) (ha2 : a < 2147483648) (hb1 : -2147483648 ≤ b) (hb2 : b < 2147483648) : Rr C mX0_setOn (27, L, qi b :: qi a :: st, M) x = (if a < b then Rr C mX0_setOn (30, L, st, M) x else Rr C mX0_setOn (58, L, st, M) x) := (g_icmp (show decode cX0_setOn 27 = .ok (.if_icmp .ge 31, 3) by decide +kernel) rfl ha1 ha2 hb1 hb2).trans (g_itn c_ge)
set_option maxRecDepth 20000 in
theorem kX0_setOn_30 {C : QC} {x : QP} {M : QM} {st : List CV} {L : QL} {l0 l1 l2 l3 l4 l5 : Option CV} {z : Int} : Rr C mX0_setOn (30, [l0, l1, l2, l3, l4, some (qi z)], st, M) x = Rr C mX0_setOn (32, [l0, l1, l2, l3, l4, some (qi z)], qi z :: st, M) x := g_pl (show decode cX0_setOn 30 = .ok (.iload 5, 2) by decide +kernel) rfl
set_option maxRecDepth 20000 in
theorem kX0_setOn_32 {C : QC} {x : QP} {M : QM} {st : List CV} {L : QL} {l0 l1 l2 l3 l4 l5 : Option CV} {z : Int} : Rr C mX0_setOn (32, [l0, l1, l2, l3, some (qi z), l5], st, M) x = Rr C mX0_setOn (34, [l0, l1, l2, l3, some (qi z), l5], qi z :: st, M) x := g_pl (show decode cX0_setOn 32 = .ok (.iload 4, 2) by decide +kernel) rfl
set_option maxRecDepth 20000 in
theorem kX0_setOn_34 {C : QC} {x : QP} {M : QM} {st : List CV} {L : QL} {a b : Int} (ha1 : -2147483648 ≤ a) (ha2 : a < 2147483648) (hb1 : -2147483648 ≤ b) (hb2 : b < 2147483648) : Rr C mX0_setOn (34, L, qi b :: qi a :: st, M) x = (if b < a then Rr C mX0_setOn (58, L, st, M) x else Rr C mX0_setOn (37, L, st, M) x) := (g_icmp (show decode cX0_setOn 34 = .ok (.if_icmp .gt 24, 3) by decide +kernel) rfl ha1 ha2 hb1 hb2).trans (g_ite c_gt)
set_option maxRecDepth 20000 in
theorem kX0_setOn_37 {C : QC} {x : QP} {M : QM} {st : List CV} {L : QL} {l0 l1 l2 l3 l4 l5 : Option CV} {r : Option Nat} : Rr C mX0_setOn (37, [some (.inr (.inr r)), l1, l2, l3, l4, l5], st, M) x = Rr C mX0_setOn (38, [some (.inr (.inr r)), l1, l2, l3, l4, l5], .inr (.inr r) :: st, M) x := g_pl (show decode cX0_setOn 37 = .ok (.aload_n 0, 1) by decide +kernel) rfl
set_option maxRecDepth 20000 in
theorem kX0_setOn_38 {C : QC} {x : QP} {M : QM} {st : List CV} {L : QL} {a : Nat} (hk : q_kd M a = (1, 0)) : Rr C mX0_setOn (38, L, qr a :: st, M) x = Rr C mX0_setOn (41, L, q_fv M a 3 :: st, M) x := g_getf (ow := 0) (e := (0, 3, RX0, 189, 0)) (show decode cX0_setOn 38 = .ok (.getfield 21, 3) by decide +kernel) rfl hk
set_option maxRecDepth 20000 in
theorem kX0_setOn_41 {C : QC} {x : QP} {M : QM} {st : List CV} {L : QL} {l0 l1 l2 l3 l4 l5 : Option CV} {z : Int} : Rr C mX0_setOn (41, [l0, l1, l2, l3, l4, some (qi z)], st, M) x = Rr C mX0_setOn (43, [l0, l1, l2, l3, l4, some (qi z)], qi z :: st, M) x := g_pl (show decode cX0_setOn 41 = .ok (.iload 5, 2) by decide +kernel) rfl
set_option maxRecDepth 20000 in
theorem kX0_setOn_43 {C : QC} {x : QP} {M : QM} {st : List CV} {L : QL} {l0 l1 l2 l3 l4 l5 : Option CV} {r : Option Nat} : Rr C mX0_setOn (43, [some (.inr (.inr r)), l1, l2, l3, l4, l5], st, M) x = Rr C mX0_setOn (44, [some (.inr (.inr r)), l1, l2, l3, l4, l5], .inr (.inr r) :: st, M) x := g_pl (show decode cX0_setOn 43 = .ok (.aload_n 0, 1) by decide +kernel) rfl
set_option maxRecDepth 20000 in
theorem kX0_setOn_44 {C : QC} {x : QP} {M : QM} {st : List CV} {L : QL} {l0 l1 l2 l3 l4 l5 : Option CV} {z : Int} : Rr C mX0_setOn (44, [l0, l1, l2, l3, l4, some (qi z)], st, M) x = Rr C mX0_setOn (46, [l0, l1, l2, l3, l4, some (qi z)], qi z :: st, M) x := g_pl (show decode cX0_setOn 44 = .ok (.iload 5, 2) by decide +kernel) rfl
set_option maxRecDepth 20000 in
theorem kX0_setOn_46 {C : QC} {x : QP} {M : QM} {st : List CV} {L : QL} {l0 l1 l2 l3 l4 l5 : Option CV} {z : Int} : Rr C mX0_setOn (46, [l0, l1, some (qi z), l3, l4, l5], st, M) x = Rr C mX0_setOn (47, [l0, l1, some (qi z), l3, l4, l5], qi z :: st, M) x := g_pl (show decode cX0_setOn 46 = .ok (.iload_n 2, 1) by decide +kernel) rfl
set_option maxRecDepth 20000 in
theorem kX0_setOn_47 {C : QC} {x : QP} {M : QM} {st : List CV} {L : QL} {l0 l1 l2 l3 l4 l5 : Option CV} {r : Option Nat} : Rr C mX0_setOn (47, [l0, l1, l2, some (.inr (.inr r)), l4, l5], st, M) x = Rr C mX0_setOn (48, [l0, l1, l2, some (.inr (.inr r)), l4, l5], .inr (.inr r) :: st, M) x := g_pl (show decode cX0_setOn 47 = .ok (.aload_n 3, 1) by decide +kernel) rfl
set_option maxRecDepth 20000 in
theorem kX0_setOn_48 {C : QC} {x : QP} {M : QM} {L : QL} {rest : List CV} {a0 a1 a2 : CV} {v : CV} {M1 : QM} {b : Nat} (hb : q_kd M b = (1, 0)) (hC : C iX0_setOfNode [qr b, a0, a1, a2] M (some v) M1) (hw : (rest.map q_wd).sum ≤ 8) (k : Rr C mX0_setOn (51, L, v :: rest, M1) x) : Rr C mX0_setOn (48, L, a2 :: a1 :: a0 :: qr b :: rest, M) x := g_cv (ow := 0) (e := (0, 140, 0, [1011, 1013, 23, 84])) (as := [a0, a1, a2]) (show decode cX0_setOn 48 = .ok (.invokevirtual 48, 3) by decide +kernel) rfl rfl rfl (Or.inl rfl) rfl hb hC hw k
set_option maxRecDepth 20000 in
theorem kX0_setOn_51 {C : QC} {x : QP} {M : QM} {st : List CV} {L : QL} {a : Nat} {j v : Int} (hk : (q_kd M a).1 = 2) (h0 : 0 ≤ j) (h1 : j < ((q_kd M a).2 : Int)) : Rr C mX0_setOn (51, L, qi v :: qi j :: qr a :: st, M) x = Rr C mX0_setOn (52, L, st, q_wr M a j.toNat (qi v)) x := g_iast (show decode cX0_setOn 51 = .ok (.iastore, 1) by decide +kernel) hk h0 h1
set_option maxRecDepth 20000 in
theorem kX0_setOn_52 {C : QC} {x : QP} {M : QM} {st : List CV} {L : QL} {l0 l1 l2 l3 l4 l5 : Option CV} {z : Int} : Rr C mX0_setOn (52, [l0, l1, l2, l3, l4, some (qi z)], st, M) x = Rr C mX0_setOn (55, [l0, l1, l2, l3, q_cut l4, some (qi (z + 1))], st, M) x := g_pl (show decode cX0_setOn 52 = .ok (.iinc 5 1, 3) by decide +kernel) rfl
set_option maxRecDepth 20000 in
theorem kX0_setOn_55 {C : QC} {x : QP} {M : QM} {st : List CV} {L : QL} : Rr C mX0_setOn (55, L, st, M) x = Rr C mX0_setOn (21, L, st, M) x := g_pl (show decode cX0_setOn 55 = .ok (.goto (-34), 3) by decide +kernel) rfl
set_option maxRecDepth 20000 in
theorem kX0_setOn_58 {C : QC} {x : QP} {M : QM} {st : List CV} {L : QL} {l0 l1 l2 l3 l4 l5 : Option CV} {r : Option Nat} : Rr C mX0_setOn (58, [some (.inr (.inr r)), l1, l2, l3, l4, l5], st, M) x = Rr C mX0_setOn (59, [some (.inr (.inr r)), l1, l2, l3, l4, l5], .inr (.inr r) :: st, M) x := g_pl (show decode cX0_setOn 58 = .ok (.aload_n 0, 1) by decide +kernel) rfl
set_option maxRecDepth 20000 in
theorem kX0_setOn_59 {C : QC} {x : QP} {M : QM} {st : List CV} {L : QL} {l0 l1 l2 l3 l4 l5 : Option CV} {z : Int} : Rr C mX0_setOn (59, [l0, l1, l2, l3, some (qi z), l5], st, M) x = Rr C mX0_setOn (61, [l0, l1, l2, l3, some (qi z), l5], qi z :: st, M) x := g_pl (show decode cX0_setOn 59 = .ok (.iload 4, 2) by decide +kernel) rfl
set_option maxRecDepth 20000 in
theorem kX0_setOn_61 {C : QC} {x : QP} {M : QM} {L : QL} {rest : List CV} {a0 : CV} {v : CV} {M1 : QM} {b : Nat} (hb : q_kd M b = (1, 0)) (hC : C iX0_setAt [qr b, a0] M (some v) M1) (hw : (rest.map q_wd).sum ≤ 8) (k : Rr C mX0_setOn (64, L, v :: rest, M1) x) : Rr C mX0_setOn (61, L, a0 :: qr b :: rest, M) x := g_cv (ow := 0) (e := (0, 141, 0, [1015, 1017, 24, 84])) (as := [a0]) (show decode cX0_setOn 61 = .ok (.invokevirtual 52, 3) by decide +kernel) rfl rfl rfl (Or.inl rfl) rfl hb hC hw k
set_option maxRecDepth 20000 in
theorem kX0_setOn_64 {C : QC} {x : QP} {M : QM} {st : List CV} {L : QL} {z : Int} : Rr C mX0_setOn (64, L, [qi z], M) x = x (some (qi z)) M := g_iret (show decode cX0_setOn 64 = .ok (.ireturn, 1) by decide +kernel) rfl
set_option maxRecDepth 20000 in
theorem eX0_setOn {d : Nat} {M : QM} {x : QP} {a : Nat} {v0 : Int} {v1 : Int} {v2 : Option Nat} : q_T (d + 1) iX0_setOn [qr a, qi v0, qi v1, .inr (.inr v2)] M x = Rr (q_C d) mX0_setOn (0, [some (qr a), some (qi v0), some (qi v1), some (.inr (.inr v2)), none, none], [], M) x := g_entryT (e := _) rfl (Nat.le_of_ble_eq_true rfl) rfl rfl
def mX0_setOfNode : QI := (0, cX0_setOfNode, false, some .int)
set_option maxRecDepth 20000 in
theorem kX0_setOfNode_0 {C : QC} {x : QP} {M : QM} {st : List CV} {L : QL} {l0 l1 l2 l3 : Option CV} {r : Option Nat} : Rr C mX0_setOfNode (0, [some (.inr (.inr r)), l1, l2, l3], st, M) x = Rr C mX0_setOfNode (1, [some (.inr (.inr r)), l1, l2, l3], .inr (.inr r) :: st, M) x := g_pl (show decode cX0_setOfNode 0 = .ok (.aload_n 0, 1) by decide +kernel) rfl
set_option maxRecDepth 20000 in
theorem kX0_setOfNode_1 {C : QC} {x : QP} {M : QM} {st : List CV} {L : QL} {a : Nat} (hk : q_kd M a = (1, 0)) : Rr C mX0_setOfNode (1, L, qr a :: st, M) x = Rr C mX0_setOfNode (4, L, q_fv M a 0 :: st, M) x := g_getf (ow := 0) (e := (0, 0, RX0, 186, 0)) (show decode cX0_setOfNode 1 = .ok (.getfield 9, 3) by decide +kernel) rfl hk
set_option maxRecDepth 20000 in
theorem kX0_setOfNode_4 {C : QC} {x : QP} {M : QM} {st : List CV} {L : QL} {l0 l1 l2 l3 : Option CV} {z : Int} : Rr C mX0_setOfNode (4, [l0, some (qi z), l2, l3], st, M) x = Rr C mX0_setOfNode (5, [l0, some (qi z), l2, l3], qi z :: st, M) x := g_pl (show decode cX0_setOfNode 4 = .ok (.iload_n 1, 1) by decide +kernel) rfl
set_option maxRecDepth 20000 in
theorem kX0_setOfNode_5 {C : QC} {x : QP} {M : QM} {st : List CV} {L : QL} {a : Nat} {j : Int} (hk : (q_kd M a).1 = 2) (h0 : 0 ≤ j) (h1 : j < ((q_kd M a).2 : Int)) : Rr C mX0_setOfNode (5, L, qi j :: qr a :: st, M) x = Rr C mX0_setOfNode (6, L, q_fv M a j.toNat :: st, M) x := g_iald (show decode cX0_setOfNode 5 = .ok (.iaload, 1) by decide +kernel) hk h0 h1
set_option maxRecDepth 20000 in
theorem kX0_setOfNode_6 {C : QC} {x : QP} {M : QM} {st : List CV} {L : QL} {a : Int} (ha1 : -2147483648 ≤ a) (ha2 : a < 2147483648) : Rr C mX0_setOfNode (6, L, qi a :: st, M) x = (if a = 5 then Rr C mX0_setOfNode (32, L, st, M) x else if a = 6 then Rr C mX0_setOfNode (54, L, st, M) x else if a = 7 then Rr C mX0_setOfNode (76, L, st, M) x else Rr C mX0_setOfNode (95, L, st, M) x) := by
  by_cases h0 : a = 5
  · subst h0; rw [if_pos rfl]; exact g_tsI (show decode cX0_setOfNode 6 = .ok (.tableswitch 89 5 7 #[26, 48, 70], 26) by decide +kernel) (by decide) (by decide) rfl rfl
  rw [if_neg h0]
  by_cases h1 : a = 6
  · subst h1; rw [if_pos rfl]; exact g_tsI (show decode cX0_setOfNode 6 = .ok (.tableswitch 89 5 7 #[26, 48, 70], 26) by decide +kernel) (by decide) (by decide) rfl rfl
  rw [if_neg h1]
  by_cases h2 : a = 7
  · subst h2; rw [if_pos rfl]; exact g_tsI (show decode cX0_setOfNode 6 = .ok (.tableswitch 89 5 7 #[26, 48, 70], 26) by decide +kernel) (by decide) (by decide) rfl rfl
  rw [if_neg h2]
  exact g_tsO (show decode cX0_setOfNode 6 = .ok (.tableswitch 89 5 7 #[26, 48, 70], 26) by decide +kernel) ⟨ha1, ha2⟩ (by omega) rfl
set_option maxRecDepth 20000 in
theorem kX0_setOfNode_32 {C : QC} {x : QP} {M : QM} {st : List CV} {L : QL} {l0 l1 l2 l3 : Option CV} {r : Option Nat} : Rr C mX0_setOfNode (32, [some (.inr (.inr r)), l1, l2, l3], st, M) x = Rr C mX0_setOfNode (33, [some (.inr (.inr r)), l1, l2, l3], .inr (.inr r) :: st, M) x := g_pl (show decode cX0_setOfNode 32 = .ok (.aload_n 0, 1) by decide +kernel) rfl
set_option maxRecDepth 20000 in
theorem kX0_setOfNode_33 {C : QC} {x : QP} {M : QM} {st : List CV} {L : QL} {l0 l1 l2 l3 : Option CV} {r : Option Nat} : Rr C mX0_setOfNode (33, [some (.inr (.inr r)), l1, l2, l3], st, M) x = Rr C mX0_setOfNode (34, [some (.inr (.inr r)), l1, l2, l3], .inr (.inr r) :: st, M) x := g_pl (show decode cX0_setOfNode 33 = .ok (.aload_n 0, 1) by decide +kernel) rfl
set_option maxRecDepth 20000 in
theorem kX0_setOfNode_34 {C : QC} {x : QP} {M : QM} {st : List CV} {L : QL} {a : Nat} (hk : q_kd M a = (1, 0)) : Rr C mX0_setOfNode (34, L, qr a :: st, M) x = Rr C mX0_setOfNode (37, L, q_fv M a 1 :: st, M) x := g_getf (ow := 0) (e := (0, 1, RX0, 187, 0)) (show decode cX0_setOfNode 34 = .ok (.getfield 15, 3) by decide +kernel) rfl hk
set_option maxRecDepth 20000 in
theorem kX0_setOfNode_37 {C : QC} {x : QP} {M : QM} {st : List CV} {L : QL} {l0 l1 l2 l3 : Option CV} {z : Int} : Rr C mX0_setOfNode (37, [l0, some (qi z), l2, l3], st, M) x = Rr C mX0_setOfNode (38, [l0, some (qi z), l2, l3], qi z :: st, M) x := g_pl (show decode cX0_setOfNode 37 = .ok (.iload_n 1, 1) by decide +kernel) rfl
set_option maxRecDepth 20000 in
theorem kX0_setOfNode_38 {C : QC} {x : QP} {M : QM} {st : List CV} {L : QL} {a : Nat} {j : Int} (hk : (q_kd M a).1 = 2) (h0 : 0 ≤ j) (h1 : j < ((q_kd M a).2 : Int)) : Rr C mX0_setOfNode (38, L, qi j :: qr a :: st, M) x = Rr C mX0_setOfNode (39, L, q_fv M a j.toNat :: st, M) x := g_iald (show decode cX0_setOfNode 38 = .ok (.iaload, 1) by decide +kernel) hk h0 h1
set_option maxRecDepth 20000 in
theorem kX0_setOfNode_39 {C : QC} {x : QP} {M : QM} {L : QL} {rest : List CV} {a0 : CV} {v : CV} {M1 : QM} {b : Nat} (hb : q_kd M b = (1, 0)) (hC : C iX0_setAt [qr b, a0] M (some v) M1) (hw : (rest.map q_wd).sum ≤ 8) (k : Rr C mX0_setOfNode (42, L, v :: rest, M1) x) : Rr C mX0_setOfNode (39, L, a0 :: qr b :: rest, M) x := g_cv (ow := 0) (e := (0, 141, 0, [1015, 1017, 24, 84])) (as := [a0]) (show decode cX0_setOfNode 39 = .ok (.invokevirtual 52, 3) by decide +kernel) rfl rfl rfl (Or.inl rfl) rfl hb hC hw k
set_option maxRecDepth 20000 in
theorem kX0_setOfNode_42 {C : QC} {x : QP} {M : QM} {st : List CV} {L : QL} {l0 l1 l2 l3 : Option CV} {r : Option Nat} : Rr C mX0_setOfNode (42, [some (.inr (.inr r)), l1, l2, l3], st, M) x = Rr C mX0_setOfNode (43, [some (.inr (.inr r)), l1, l2, l3], .inr (.inr r) :: st, M) x := g_pl (show decode cX0_setOfNode 42 = .ok (.aload_n 0, 1) by decide +kernel) rfl
set_option maxRecDepth 20000 in
theorem kX0_setOfNode_43 {C : QC} {x : QP} {M : QM} {st : List CV} {L : QL} {l0 l1 l2 l3 : Option CV} {r : Option Nat} : Rr C mX0_setOfNode (43, [some (.inr (.inr r)), l1, l2, l3], st, M) x = Rr C mX0_setOfNode (44, [some (.inr (.inr r)), l1, l2, l3], .inr (.inr r) :: st, M) x := g_pl (show decode cX0_setOfNode 43 = .ok (.aload_n 0, 1) by decide +kernel) rfl
set_option maxRecDepth 20000 in
theorem kX0_setOfNode_44 {C : QC} {x : QP} {M : QM} {st : List CV} {L : QL} {a : Nat} (hk : q_kd M a = (1, 0)) : Rr C mX0_setOfNode (44, L, qr a :: st, M) x = Rr C mX0_setOfNode (47, L, q_fv M a 2 :: st, M) x := g_getf (ow := 0) (e := (0, 2, RX0, 188, 0)) (show decode cX0_setOfNode 44 = .ok (.getfield 18, 3) by decide +kernel) rfl hk
set_option maxRecDepth 20000 in
theorem kX0_setOfNode_47 {C : QC} {x : QP} {M : QM} {st : List CV} {L : QL} {l0 l1 l2 l3 : Option CV} {z : Int} : Rr C mX0_setOfNode (47, [l0, some (qi z), l2, l3], st, M) x = Rr C mX0_setOfNode (48, [l0, some (qi z), l2, l3], qi z :: st, M) x := g_pl (show decode cX0_setOfNode 47 = .ok (.iload_n 1, 1) by decide +kernel) rfl
set_option maxRecDepth 20000 in
theorem kX0_setOfNode_48 {C : QC} {x : QP} {M : QM} {st : List CV} {L : QL} {a : Nat} {j : Int} (hk : (q_kd M a).1 = 2) (h0 : 0 ≤ j) (h1 : j < ((q_kd M a).2 : Int)) : Rr C mX0_setOfNode (48, L, qi j :: qr a :: st, M) x = Rr C mX0_setOfNode (49, L, q_fv M a j.toNat :: st, M) x := g_iald (show decode cX0_setOfNode 48 = .ok (.iaload, 1) by decide +kernel) hk h0 h1
set_option maxRecDepth 20000 in
theorem kX0_setOfNode_49 {C : QC} {x : QP} {M : QM} {L : QL} {rest : List CV} {a0 : CV} {v : CV} {M1 : QM} {b : Nat} (hb : q_kd M b = (1, 0)) (hC : C iX0_setAt [qr b, a0] M (some v) M1) (hw : (rest.map q_wd).sum ≤ 8) (k : Rr C mX0_setOfNode (52, L, v :: rest, M1) x) : Rr C mX0_setOfNode (49, L, a0 :: qr b :: rest, M) x := g_cv (ow := 0) (e := (0, 141, 0, [1015, 1017, 24, 84])) (as := [a0]) (show decode cX0_setOfNode 49 = .ok (.invokevirtual 52, 3) by decide +kernel) rfl rfl rfl (Or.inl rfl) rfl hb hC hw k
set_option maxRecDepth 20000 in
theorem kX0_setOfNode_52 {C : QC} {x : QP} {M : QM} {st : List CV} {L : QL} {a b : Int} : Rr C mX0_setOfNode (52, L, qi b :: qi a :: st, M) x = Rr C mX0_setOfNode (53, L, qi (q_and a b) :: st, M) x := g_pl (show decode cX0_setOfNode 52 = .ok (.iand, 1) by decide +kernel) rfl
set_option maxRecDepth 20000 in
theorem kX0_setOfNode_53 {C : QC} {x : QP} {M : QM} {st : List CV} {L : QL} {z : Int} : Rr C mX0_setOfNode (53, L, [qi z], M) x = x (some (qi z)) M := g_iret (show decode cX0_setOfNode 53 = .ok (.ireturn, 1) by decide +kernel) rfl
set_option maxRecDepth 20000 in
theorem kX0_setOfNode_54 {C : QC} {x : QP} {M : QM} {st : List CV} {L : QL} {l0 l1 l2 l3 : Option CV} {r : Option Nat} : Rr C mX0_setOfNode (54, [some (.inr (.inr r)), l1, l2, l3], st, M) x = Rr C mX0_setOfNode (55, [some (.inr (.inr r)), l1, l2, l3], .inr (.inr r) :: st, M) x := g_pl (show decode cX0_setOfNode 54 = .ok (.aload_n 0, 1) by decide +kernel) rfl
set_option maxRecDepth 20000 in
theorem kX0_setOfNode_55 {C : QC} {x : QP} {M : QM} {st : List CV} {L : QL} {l0 l1 l2 l3 : Option CV} {r : Option Nat} : Rr C mX0_setOfNode (55, [some (.inr (.inr r)), l1, l2, l3], st, M) x = Rr C mX0_setOfNode (56, [some (.inr (.inr r)), l1, l2, l3], .inr (.inr r) :: st, M) x := g_pl (show decode cX0_setOfNode 55 = .ok (.aload_n 0, 1) by decide +kernel) rfl
set_option maxRecDepth 20000 in
theorem kX0_setOfNode_56 {C : QC} {x : QP} {M : QM} {st : List CV} {L : QL} {a : Nat} (hk : q_kd M a = (1, 0)) : Rr C mX0_setOfNode (56, L, qr a :: st, M) x = Rr C mX0_setOfNode (59, L, q_fv M a 1 :: st, M) x := g_getf (ow := 0) (e := (0, 1, RX0, 187, 0)) (show decode cX0_setOfNode 56 = .ok (.getfield 15, 3) by decide +kernel) rfl hk
set_option maxRecDepth 20000 in
theorem kX0_setOfNode_59 {C : QC} {x : QP} {M : QM} {st : List CV} {L : QL} {l0 l1 l2 l3 : Option CV} {z : Int} : Rr C mX0_setOfNode (59, [l0, some (qi z), l2, l3], st, M) x = Rr C mX0_setOfNode (60, [l0, some (qi z), l2, l3], qi z :: st, M) x := g_pl (show decode cX0_setOfNode 59 = .ok (.iload_n 1, 1) by decide +kernel) rfl
set_option maxRecDepth 20000 in
theorem kX0_setOfNode_60 {C : QC} {x : QP} {M : QM} {st : List CV} {L : QL} {a : Nat} {j : Int} (hk : (q_kd M a).1 = 2) (h0 : 0 ≤ j) (h1 : j < ((q_kd M a).2 : Int)) : Rr C mX0_setOfNode (60, L, qi j :: qr a :: st, M) x = Rr C mX0_setOfNode (61, L, q_fv M a j.toNat :: st, M) x := g_iald (show decode cX0_setOfNode 60 = .ok (.iaload, 1) by decide +kernel) hk h0 h1
set_option maxRecDepth 20000 in
theorem kX0_setOfNode_61 {C : QC} {x : QP} {M : QM} {L : QL} {rest : List CV} {a0 : CV} {v : CV} {M1 : QM} {b : Nat} (hb : q_kd M b = (1, 0)) (hC : C iX0_setAt [qr b, a0] M (some v) M1) (hw : (rest.map q_wd).sum ≤ 8) (k : Rr C mX0_setOfNode (64, L, v :: rest, M1) x) : Rr C mX0_setOfNode (61, L, a0 :: qr b :: rest, M) x := g_cv (ow := 0) (e := (0, 141, 0, [1015, 1017, 24, 84])) (as := [a0]) (show decode cX0_setOfNode 61 = .ok (.invokevirtual 52, 3) by decide +kernel) rfl rfl rfl (Or.inl rfl) rfl hb hC hw k
set_option maxRecDepth 20000 in
theorem kX0_setOfNode_64 {C : QC} {x : QP} {M : QM} {st : List CV} {L : QL} {l0 l1 l2 l3 : Option CV} {r : Option Nat} : Rr C mX0_setOfNode (64, [some (.inr (.inr r)), l1, l2, l3], st, M) x = Rr C mX0_setOfNode (65, [some (.inr (.inr r)), l1, l2, l3], .inr (.inr r) :: st, M) x := g_pl (show decode cX0_setOfNode 64 = .ok (.aload_n 0, 1) by decide +kernel) rfl
set_option maxRecDepth 20000 in
theorem kX0_setOfNode_65 {C : QC} {x : QP} {M : QM} {st : List CV} {L : QL} {l0 l1 l2 l3 : Option CV} {r : Option Nat} : Rr C mX0_setOfNode (65, [some (.inr (.inr r)), l1, l2, l3], st, M) x = Rr C mX0_setOfNode (66, [some (.inr (.inr r)), l1, l2, l3], .inr (.inr r) :: st, M) x := g_pl (show decode cX0_setOfNode 65 = .ok (.aload_n 0, 1) by decide +kernel) rfl
set_option maxRecDepth 20000 in
theorem kX0_setOfNode_66 {C : QC} {x : QP} {M : QM} {st : List CV} {L : QL} {a : Nat} (hk : q_kd M a = (1, 0)) : Rr C mX0_setOfNode (66, L, qr a :: st, M) x = Rr C mX0_setOfNode (69, L, q_fv M a 2 :: st, M) x := g_getf (ow := 0) (e := (0, 2, RX0, 188, 0)) (show decode cX0_setOfNode 66 = .ok (.getfield 18, 3) by decide +kernel) rfl hk
set_option maxRecDepth 20000 in
theorem kX0_setOfNode_69 {C : QC} {x : QP} {M : QM} {st : List CV} {L : QL} {l0 l1 l2 l3 : Option CV} {z : Int} : Rr C mX0_setOfNode (69, [l0, some (qi z), l2, l3], st, M) x = Rr C mX0_setOfNode (70, [l0, some (qi z), l2, l3], qi z :: st, M) x := g_pl (show decode cX0_setOfNode 69 = .ok (.iload_n 1, 1) by decide +kernel) rfl
set_option maxRecDepth 20000 in
theorem kX0_setOfNode_70 {C : QC} {x : QP} {M : QM} {st : List CV} {L : QL} {a : Nat} {j : Int} (hk : (q_kd M a).1 = 2) (h0 : 0 ≤ j) (h1 : j < ((q_kd M a).2 : Int)) : Rr C mX0_setOfNode (70, L, qi j :: qr a :: st, M) x = Rr C mX0_setOfNode (71, L, q_fv M a j.toNat :: st, M) x := g_iald (show decode cX0_setOfNode 70 = .ok (.iaload, 1) by decide +kernel) hk h0 h1
set_option maxRecDepth 20000 in
theorem kX0_setOfNode_71 {C : QC} {x : QP} {M : QM} {L : QL} {rest : List CV} {a0 : CV} {v : CV} {M1 : QM} {b : Nat} (hb : q_kd M b = (1, 0)) (hC : C iX0_setAt [qr b, a0] M (some v) M1) (hw : (rest.map q_wd).sum ≤ 8) (k : Rr C mX0_setOfNode (74, L, v :: rest, M1) x) : Rr C mX0_setOfNode (71, L, a0 :: qr b :: rest, M) x := g_cv (ow := 0) (e := (0, 141, 0, [1015, 1017, 24, 84])) (as := [a0]) (show decode cX0_setOfNode 71 = .ok (.invokevirtual 52, 3) by decide +kernel) rfl rfl rfl (Or.inl rfl) rfl hb hC hw k
set_option maxRecDepth 20000 in
theorem kX0_setOfNode_74 {C : QC} {x : QP} {M : QM} {st : List CV} {L : QL} {a b : Int} : Rr C mX0_setOfNode (74, L, qi b :: qi a :: st, M) x = Rr C mX0_setOfNode (75, L, qi (q_or a b) :: st, M) x := g_pl (show decode cX0_setOfNode 74 = .ok (.ior, 1) by decide +kernel) rfl
set_option maxRecDepth 20000 in
theorem kX0_setOfNode_75 {C : QC} {x : QP} {M : QM} {st : List CV} {L : QL} {z : Int} : Rr C mX0_setOfNode (75, L, [qi z], M) x = x (some (qi z)) M := g_iret (show decode cX0_setOfNode 75 = .ok (.ireturn, 1) by decide +kernel) rfl
set_option maxRecDepth 20000 in
theorem kX0_setOfNode_76 {C : QC} {x : QP} {M : QM} {st : List CV} {L : QL} {l0 l1 l2 l3 : Option CV} {r : Option Nat} : Rr C mX0_setOfNode (76, [l0, l1, l2, some (.inr (.inr r))], st, M) x = Rr C mX0_setOfNode (77, [l0, l1, l2, some (.inr (.inr r))], .inr (.inr r) :: st, M) x := g_pl (show decode cX0_setOfNode 76 = .ok (.aload_n 3, 1) by decide +kernel) rfl
set_option maxRecDepth 20000 in
theorem kX0_setOfNode_77 {C : QC} {x : QP} {M : QM} {st : List CV} {L : QL} {l0 l1 l2 l3 : Option CV} {z : Int} : Rr C mX0_setOfNode (77, [l0, l1, some (qi z), l3], st, M) x = Rr C mX0_setOfNode (78, [l0, l1, some (qi z), l3], qi z :: st, M) x := g_pl (show decode cX0_setOfNode 77 = .ok (.iload_n 2, 1) by decide +kernel) rfl
set_option maxRecDepth 20000 in
theorem kX0_setOfNode_78 {C : QC} {x : QP} {M : QM} {L : QL} {rest : List CV} {a0 : CV} {v : CV} {M1 : QM} {b : Nat} (hb : q_kd M b = (1, 11)) (hC : C iX11_existingOn [qr b, a0] M (some v) M1) (hw : (rest.map q_wd).sum ≤ 8) (k : Rr C mX0_setOfNode (81, L, v :: rest, M1) x) : Rr C mX0_setOfNode (78, L, a0 :: qr b :: rest, M) x := g_cv (ow := 0) (e := (0, 142, 11, [1019, 1020, 1021, 83])) (as := [a0]) (show decode cX0_setOfNode 78 = .ok (.invokevirtual 56, 3) by decide +kernel) rfl rfl rfl (Or.inl rfl) rfl hb hC hw k
set_option maxRecDepth 20000 in
theorem kX0_setOfNode_81 {C : QC} {x : QP} {M : QM} {st : List CV} {L : QL} {l0 l1 l2 l3 : Option CV} {r : Option Nat} : Rr C mX0_setOfNode (81, [some (.inr (.inr r)), l1, l2, l3], st, M) x = Rr C mX0_setOfNode (82, [some (.inr (.inr r)), l1, l2, l3], .inr (.inr r) :: st, M) x := g_pl (show decode cX0_setOfNode 81 = .ok (.aload_n 0, 1) by decide +kernel) rfl
set_option maxRecDepth 20000 in
theorem kX0_setOfNode_82 {C : QC} {x : QP} {M : QM} {st : List CV} {L : QL} {l0 l1 l2 l3 : Option CV} {r : Option Nat} : Rr C mX0_setOfNode (82, [some (.inr (.inr r)), l1, l2, l3], st, M) x = Rr C mX0_setOfNode (83, [some (.inr (.inr r)), l1, l2, l3], .inr (.inr r) :: st, M) x := g_pl (show decode cX0_setOfNode 82 = .ok (.aload_n 0, 1) by decide +kernel) rfl
set_option maxRecDepth 20000 in
theorem kX0_setOfNode_83 {C : QC} {x : QP} {M : QM} {st : List CV} {L : QL} {a : Nat} (hk : q_kd M a = (1, 0)) : Rr C mX0_setOfNode (83, L, qr a :: st, M) x = Rr C mX0_setOfNode (86, L, q_fv M a 1 :: st, M) x := g_getf (ow := 0) (e := (0, 1, RX0, 187, 0)) (show decode cX0_setOfNode 83 = .ok (.getfield 15, 3) by decide +kernel) rfl hk
set_option maxRecDepth 20000 in
theorem kX0_setOfNode_86 {C : QC} {x : QP} {M : QM} {st : List CV} {L : QL} {l0 l1 l2 l3 : Option CV} {z : Int} : Rr C mX0_setOfNode (86, [l0, some (qi z), l2, l3], st, M) x = Rr C mX0_setOfNode (87, [l0, some (qi z), l2, l3], qi z :: st, M) x := g_pl (show decode cX0_setOfNode 86 = .ok (.iload_n 1, 1) by decide +kernel) rfl
set_option maxRecDepth 20000 in
theorem kX0_setOfNode_87 {C : QC} {x : QP} {M : QM} {st : List CV} {L : QL} {a : Nat} {j : Int} (hk : (q_kd M a).1 = 2) (h0 : 0 ≤ j) (h1 : j < ((q_kd M a).2 : Int)) : Rr C mX0_setOfNode (87, L, qi j :: qr a :: st, M) x = Rr C mX0_setOfNode (88, L, q_fv M a j.toNat :: st, M) x := g_iald (show decode cX0_setOfNode 87 = .ok (.iaload, 1) by decide +kernel) hk h0 h1
set_option maxRecDepth 20000 in
theorem kX0_setOfNode_88 {C : QC} {x : QP} {M : QM} {L : QL} {rest : List CV} {a0 : CV} {v : CV} {M1 : QM} {b : Nat} (hb : q_kd M b = (1, 0)) (hC : C iX0_setAt [qr b, a0] M (some v) M1) (hw : (rest.map q_wd).sum ≤ 8) (k : Rr C mX0_setOfNode (91, L, v :: rest, M1) x) : Rr C mX0_setOfNode (88, L, a0 :: qr b :: rest, M) x := g_cv (ow := 0) (e := (0, 141, 0, [1015, 1017, 24, 84])) (as := [a0]) (show decode cX0_setOfNode 88 = .ok (.invokevirtual 52, 3) by decide +kernel) rfl rfl rfl (Or.inl rfl) rfl hb hC hw k
set_option maxRecDepth 20000 in
theorem kX0_setOfNode_91 {C : QC} {x : QP} {M : QM} {st : List CV} {L : QL} : Rr C mX0_setOfNode (91, L, st, M) x = Rr C mX0_setOfNode (92, L, qi (-1) :: st, M) x := g_pl (show decode cX0_setOfNode 91 = .ok (.iconst (-1), 1) by decide +kernel) rfl
set_option maxRecDepth 20000 in
theorem kX0_setOfNode_92 {C : QC} {x : QP} {M : QM} {st : List CV} {L : QL} {a b : Int} : Rr C mX0_setOfNode (92, L, qi b :: qi a :: st, M) x = Rr C mX0_setOfNode (93, L, qi (q_xor a b) :: st, M) x := g_pl (show decode cX0_setOfNode 92 = .ok (.ixor, 1) by decide +kernel) rfl
set_option maxRecDepth 20000 in
theorem kX0_setOfNode_93 {C : QC} {x : QP} {M : QM} {st : List CV} {L : QL} {a b : Int} : Rr C mX0_setOfNode (93, L, qi b :: qi a :: st, M) x = Rr C mX0_setOfNode (94, L, qi (q_and a b) :: st, M) x := g_pl (show decode cX0_setOfNode 93 = .ok (.iand, 1) by decide +kernel) rfl
set_option maxRecDepth 20000 in
theorem kX0_setOfNode_94 {C : QC} {x : QP} {M : QM} {st : List CV} {L : QL} {z : Int} : Rr C mX0_setOfNode (94, L, [qi z], M) x = x (some (qi z)) M := g_iret (show decode cX0_setOfNode 94 = .ok (.ireturn, 1) by decide +kernel) rfl
set_option maxRecDepth 20000 in
theorem kX0_setOfNode_95 {C : QC} {x : QP} {M : QM} {st : List CV} {L : QL} {l0 l1 l2 l3 : Option CV} {r : Option Nat} : Rr C mX0_setOfNode (95, [l0, l1, l2, some (.inr (.inr r))], st, M) x = Rr C mX0_setOfNode (96, [l0, l1, l2, some (.inr (.inr r))], .inr (.inr r) :: st, M) x := g_pl (show decode cX0_setOfNode 95 = .ok (.aload_n 3, 1) by decide +kernel) rfl
set_option maxRecDepth 20000 in
theorem kX0_setOfNode_96 {C : QC} {x : QP} {M : QM} {st : List CV} {L : QL} {l0 l1 l2 l3 : Option CV} {r : Option Nat} : Rr C mX0_setOfNode (96, [some (.inr (.inr r)), l1, l2, l3], st, M) x = Rr C mX0_setOfNode (97, [some (.inr (.inr r)), l1, l2, l3], .inr (.inr r) :: st, M) x := g_pl (show decode cX0_setOfNode 96 = .ok (.aload_n 0, 1) by decide +kernel) rfl
set_option maxRecDepth 20000 in
theorem kX0_setOfNode_97 {C : QC} {x : QP} {M : QM} {st : List CV} {L : QL} {a : Nat} (hk : q_kd M a = (1, 0)) : Rr C mX0_setOfNode (97, L, qr a :: st, M) x = Rr C mX0_setOfNode (100, L, q_fv M a 0 :: st, M) x := g_getf (ow := 0) (e := (0, 0, RX0, 186, 0)) (show decode cX0_setOfNode 97 = .ok (.getfield 9, 3) by decide +kernel) rfl hk
set_option maxRecDepth 20000 in
theorem kX0_setOfNode_100 {C : QC} {x : QP} {M : QM} {st : List CV} {L : QL} {l0 l1 l2 l3 : Option CV} {z : Int} : Rr C mX0_setOfNode (100, [l0, some (qi z), l2, l3], st, M) x = Rr C mX0_setOfNode (101, [l0, some (qi z), l2, l3], qi z :: st, M) x := g_pl (show decode cX0_setOfNode 100 = .ok (.iload_n 1, 1) by decide +kernel) rfl
set_option maxRecDepth 20000 in
theorem kX0_setOfNode_101 {C : QC} {x : QP} {M : QM} {st : List CV} {L : QL} {a : Nat} {j : Int} (hk : (q_kd M a).1 = 2) (h0 : 0 ≤ j) (h1 : j < ((q_kd M a).2 : Int)) : Rr C mX0_setOfNode (101, L, qi j :: qr a :: st, M) x = Rr C mX0_setOfNode (102, L, q_fv M a j.toNat :: st, M) x := g_iald (show decode cX0_setOfNode 101 = .ok (.iaload, 1) by decide +kernel) hk h0 h1
set_option maxRecDepth 20000 in
theorem kX0_setOfNode_102 {C : QC} {x : QP} {M : QM} {st : List CV} {L : QL} {l0 l1 l2 l3 : Option CV} {r : Option Nat} : Rr C mX0_setOfNode (102, [some (.inr (.inr r)), l1, l2, l3], st, M) x = Rr C mX0_setOfNode (103, [some (.inr (.inr r)), l1, l2, l3], .inr (.inr r) :: st, M) x := g_pl (show decode cX0_setOfNode 102 = .ok (.aload_n 0, 1) by decide +kernel) rfl
set_option maxRecDepth 20000 in
theorem kX0_setOfNode_103 {C : QC} {x : QP} {M : QM} {st : List CV} {L : QL} {a : Nat} (hk : q_kd M a = (1, 0)) : Rr C mX0_setOfNode (103, L, qr a :: st, M) x = Rr C mX0_setOfNode (106, L, q_fv M a 1 :: st, M) x := g_getf (ow := 0) (e := (0, 1, RX0, 187, 0)) (show decode cX0_setOfNode 103 = .ok (.getfield 15, 3) by decide +kernel) rfl hk
set_option maxRecDepth 20000 in
theorem kX0_setOfNode_106 {C : QC} {x : QP} {M : QM} {st : List CV} {L : QL} {l0 l1 l2 l3 : Option CV} {z : Int} : Rr C mX0_setOfNode (106, [l0, some (qi z), l2, l3], st, M) x = Rr C mX0_setOfNode (107, [l0, some (qi z), l2, l3], qi z :: st, M) x := g_pl (show decode cX0_setOfNode 106 = .ok (.iload_n 1, 1) by decide +kernel) rfl
set_option maxRecDepth 20000 in
theorem kX0_setOfNode_107 {C : QC} {x : QP} {M : QM} {st : List CV} {L : QL} {a : Nat} {j : Int} (hk : (q_kd M a).1 = 2) (h0 : 0 ≤ j) (h1 : j < ((q_kd M a).2 : Int)) : Rr C mX0_setOfNode (107, L, qi j :: qr a :: st, M) x = Rr C mX0_setOfNode (108, L, q_fv M a j.toNat :: st, M) x := g_iald (show decode cX0_setOfNode 107 = .ok (.iaload, 1) by decide +kernel) hk h0 h1
set_option maxRecDepth 20000 in
theorem kX0_setOfNode_108 {C : QC} {x : QP} {M : QM} {st : List CV} {L : QL} {l0 l1 l2 l3 : Option CV} {z : Int} : Rr C mX0_setOfNode (108, [l0, l1, some (qi z), l3], st, M) x = Rr C mX0_setOfNode (109, [l0, l1, some (qi z), l3], qi z :: st, M) x := g_pl (show decode cX0_setOfNode 108 = .ok (.iload_n 2, 1) by decide +kernel) rfl
set_option maxRecDepth 20000 in
theorem kX0_setOfNode_109 {C : QC} {x : QP} {M : QM} {L : QL} {rest : List CV} {a0 a1 a2 : CV} {v : CV} {M1 : QM} {b : Nat} (hb : q_kd M b = (1, 11)) (hC : C iX11_leafSet [qr b, a0, a1, a2] M (some v) M1) (hw : (rest.map q_wd).sum ≤ 8) (k : Rr C mX0_setOfNode (112, L, v :: rest, M1) x) : Rr C mX0_setOfNode (109, L, a2 :: a1 :: a0 :: qr b :: rest, M) x := g_cv (ow := 0) (e := (0, 114, 11, [1023, 894, 895, 83])) (as := [a0, a1, a2]) (show decode cX0_setOfNode 109 = .ok (.invokevirtual 61, 3) by decide +kernel) rfl rfl rfl (Or.inl rfl) rfl hb hC hw k
set_option maxRecDepth 20000 in
theorem kX0_setOfNode_112 {C : QC} {x : QP} {M : QM} {st : List CV} {L : QL} {z : Int} : Rr C mX0_setOfNode (112, L, [qi z], M) x = x (some (qi z)) M := g_iret (show decode cX0_setOfNode 112 = .ok (.ireturn, 1) by decide +kernel) rfl
set_option maxRecDepth 20000 in
theorem eX0_setOfNode {d : Nat} {M : QM} {x : QP} {a : Nat} {v0 : Int} {v1 : Int} {v2 : Option Nat} : q_T (d + 1) iX0_setOfNode [qr a, qi v0, qi v1, .inr (.inr v2)] M x = Rr (q_C d) mX0_setOfNode (0, [some (qr a), some (qi v0), some (qi v1), some (.inr (.inr v2))], [], M) x := g_entryT (e := _) rfl (Nat.le_of_ble_eq_true rfl) rfl rfl
def mX0_setAt : QI := (0, cX0_setAt, false, some .int)
set_option maxRecDepth 20000 in
theorem kX0_setAt_0 {C : QC} {x : QP} {M : QM} {st : List CV} {L : QL} {l0 l1 : Option CV} {z : Int} : Rr C mX0_setAt (0, [l0, some (qi z)], st, M) x = Rr C mX0_setAt (1, [l0, some (qi z)], qi z :: st, M) x := g_pl (show decode cX0_setAt 0 = .ok (.iload_n 1, 1) by decide +kernel) rfl
set_option maxRecDepth 20000 in
theorem kX0_setAt_1 {C : QC} {x : QP} {M : QM} {st : List CV} {L : QL} {a : Int} (ha1 : -2147483648 ≤ a) (ha2 : a < 2147483648) : Rr C mX0_setAt (1, L, qi a :: st, M) x = (if a < 0 then Rr C mX0_setAt (21, L, st, M) x else Rr C mX0_setAt (4, L, st, M) x) := (g_if (show decode cX0_setAt 1 = .ok (.ifCond .lt 20, 3) by decide +kernel) rfl ha1 ha2).trans (g_ite c_lt)
set_option maxRecDepth 20000 in
theorem kX0_setAt_4 {C : QC} {x : QP} {M : QM} {st : List CV} {L : QL} {l0 l1 : Option CV} {z : Int} : Rr C mX0_setAt (4, [l0, some (qi z)], st, M) x = Rr C mX0_setAt (5, [l0, some (qi z)], qi z :: st, M) x := g_pl (show decode cX0_setAt 4 = .ok (.iload_n 1, 1) by decide +kernel) rfl
set_option maxRecDepth 20000 in
theorem kX0_setAt_5 {C : QC} {x : QP} {M : QM} {st : List CV} {L : QL} {l0 l1 : Option CV} {r : Option Nat} : Rr C mX0_setAt (5, [some (.inr (.inr r)), l1], st, M) x = Rr C mX0_setAt (6, [some (.inr (.inr r)), l1], .inr (.inr r) :: st, M) x := g_pl (show decode cX0_setAt 5 = .ok (.aload_n 0, 1) by decide +kernel) rfl
set_option maxRecDepth 20000 in
theorem kX0_setAt_6 {C : QC} {x : QP} {M : QM} {st : List CV} {L : QL} {a : Nat} (hk : q_kd M a = (1, 0)) : Rr C mX0_setAt (6, L, qr a :: st, M) x = Rr C mX0_setAt (9, L, q_fv M a 4 :: st, M) x := g_getf (ow := 0) (e := (0, 4, RX0, 190, 0)) (show decode cX0_setAt 6 = .ok (.getfield 24, 3) by decide +kernel) rfl hk
set_option maxRecDepth 20000 in
theorem kX0_setAt_9 {C : QC} {x : QP} {M : QM} {st : List CV} {L : QL} {a b : Int} (ha1 : -2147483648 ≤ a) (ha2 : a < 2147483648) (hb1 : -2147483648 ≤ b) (hb2 : b < 2147483648) : Rr C mX0_setAt (9, L, qi b :: qi a :: st, M) x = (if a < b then Rr C mX0_setAt (12, L, st, M) x else Rr C mX0_setAt (21, L, st, M) x) := (g_icmp (show decode cX0_setAt 9 = .ok (.if_icmp .ge 12, 3) by decide +kernel) rfl ha1 ha2 hb1 hb2).trans (g_itn c_ge)
set_option maxRecDepth 20000 in
theorem kX0_setAt_12 {C : QC} {x : QP} {M : QM} {st : List CV} {L : QL} {l0 l1 : Option CV} {r : Option Nat} : Rr C mX0_setAt (12, [some (.inr (.inr r)), l1], st, M) x = Rr C mX0_setAt (13, [some (.inr (.inr r)), l1], .inr (.inr r) :: st, M) x := g_pl (show decode cX0_setAt 12 = .ok (.aload_n 0, 1) by decide +kernel) rfl
set_option maxRecDepth 20000 in
theorem kX0_setAt_13 {C : QC} {x : QP} {M : QM} {st : List CV} {L : QL} {a : Nat} (hk : q_kd M a = (1, 0)) : Rr C mX0_setAt (13, L, qr a :: st, M) x = Rr C mX0_setAt (16, L, q_fv M a 3 :: st, M) x := g_getf (ow := 0) (e := (0, 3, RX0, 189, 0)) (show decode cX0_setAt 13 = .ok (.getfield 21, 3) by decide +kernel) rfl hk
set_option maxRecDepth 20000 in
theorem kX0_setAt_16 {C : QC} {x : QP} {M : QM} {st : List CV} {L : QL} {l0 l1 : Option CV} {z : Int} : Rr C mX0_setAt (16, [l0, some (qi z)], st, M) x = Rr C mX0_setAt (17, [l0, some (qi z)], qi z :: st, M) x := g_pl (show decode cX0_setAt 16 = .ok (.iload_n 1, 1) by decide +kernel) rfl
set_option maxRecDepth 20000 in
theorem kX0_setAt_17 {C : QC} {x : QP} {M : QM} {st : List CV} {L : QL} {a : Nat} {j : Int} (hk : (q_kd M a).1 = 2) (h0 : 0 ≤ j) (h1 : j < ((q_kd M a).2 : Int)) : Rr C mX0_setAt (17, L, qi j :: qr a :: st, M) x = Rr C mX0_setAt (18, L, q_fv M a j.toNat :: st, M) x := g_iald (show decode cX0_setAt 17 = .ok (.iaload, 1) by decide +kernel) hk h0 h1
set_option maxRecDepth 20000 in
theorem kX0_setAt_18 {C : QC} {x : QP} {M : QM} {st : List CV} {L : QL} : Rr C mX0_setAt (18, L, st, M) x = Rr C mX0_setAt (22, L, st, M) x := g_pl (show decode cX0_setAt 18 = .ok (.goto 4, 3) by decide +kernel) rfl
set_option maxRecDepth 20000 in
theorem kX0_setAt_21 {C : QC} {x : QP} {M : QM} {st : List CV} {L : QL} : Rr C mX0_setAt (21, L, st, M) x = Rr C mX0_setAt (22, L, qi 0 :: st, M) x := g_pl (show decode cX0_setAt 21 = .ok (.iconst 0, 1) by decide +kernel) rfl
set_option maxRecDepth 20000 in
theorem kX0_setAt_22 {C : QC} {x : QP} {M : QM} {st : List CV} {L : QL} {z : Int} : Rr C mX0_setAt (22, L, [qi z], M) x = x (some (qi z)) M := g_iret (show decode cX0_setAt 22 = .ok (.ireturn, 1) by decide +kernel) rfl
set_option maxRecDepth 20000 in
theorem eX0_setAt {d : Nat} {M : QM} {x : QP} {a : Nat} {v0 : Int} : q_T (d + 1) iX0_setAt [qr a, qi v0] M x = Rr (q_C d) mX0_setAt (0, [some (qr a), some (qi v0)], [], M) x := g_entryT (e := _) rfl (Nat.le_of_ble_eq_true rfl) rfl rfl
def mX1_init : QI := (1, cX1_init, true, none)
set_option maxRecDepth 20000 in
theorem kX1_init_0 {C : QC} {x : QP} {M : QM} {st : List CV} {L : QL} {r : Option Nat} : Rr C mX1_init (0, [some (.inr (.inr r))], st, M) x = Rr C mX1_init (1, [some (.inr (.inr r))], .inr (.inr r) :: st, M) x := g_pl (show decode cX1_init 0 = .ok (.aload_n 0, 1) by decide +kernel) rfl
set_option maxRecDepth 20000 in
theorem kX1_init_1 {C : QC} {x : QP} {M : QM} {st : List CV} {L : QL} {a : Nat} (hw : (st.map q_wd).sum ≤ 8) : Rr C mX1_init (1, L, qr a :: st, M) x = Rr C mX1_init (4, L, st, M) x := g_obj (ow := 1) (e := 253) (show decode cX1_init 1 = .ok (.invokespecial 3, 3) by decide +kernel) rfl hw
set_option maxRecDepth 20000 in
theorem kX1_init_4 {C : QC} {x : QP} {M : QM} {st : List CV} {L : QL} {r : Option Nat} : Rr C mX1_init (4, [some (.inr (.inr r))], st, M) x = Rr C mX1_init (5, [some (.inr (.inr r))], .inr (.inr r) :: st, M) x := g_pl (show decode cX1_init 4 = .ok (.aload_n 0, 1) by decide +kernel) rfl
set_option maxRecDepth 20000 in
theorem kX1_init_5 {C : QC} {x : QP} {M : QM} {st : List CV} {L : QL} : Rr C mX1_init (5, L, st, M) x = Rr C mX1_init (7, L, qi 24 :: st, M) x := g_pl (show decode cX1_init 5 = .ok (.bipush 24, 2) by decide +kernel) rfl
set_option maxRecDepth 20000 in
theorem kX1_init_7 {C : QC} {x : QP} {M : QM} {st : List CV} {L : QL} {n : Int} (h0 : 0 ≤ n) (h1 : n ≤ 60000000) : Rr C mX1_init (7, L, qi n :: st, M) x = Rr C mX1_init (9, L, qr (q_top M) :: st, q_al M (2, n.toNat) n.toNat (fun _ => qi 0)) x := g_newI (show decode cX1_init 7 = .ok (.newarray .int, 2) by decide +kernel) h0 h1
set_option maxRecDepth 20000 in
theorem kX1_init_9 {C : QC} {x : QP} {M : QM} {st : List CV} {L : QL} {z : Option Nat} {a : Nat} (hk : q_kd M a = (1, 1)) : Rr C mX1_init (9, L, .inr (.inr z) :: qr a :: st, M) x = Rr C mX1_init (12, L, st, q_wr M a 0 (.inr (.inr z))) x := g_putf (ow := 1) (ini := true) (e := (1, 0, RX1, 254, 0)) (r := (RX1, TX1, 4)) (t := tyX1) (show decode cX1_init 9 = .ok (.putfield 9, 3) by decide +kernel) rfl rfl rfl rfl (by decide +kernel) hk
set_option maxRecDepth 20000 in
theorem kX1_init_12 {C : QC} {x : QP} {M : QM} {st : List CV} {L : QL} {r : Option Nat} : Rr C mX1_init (12, [some (.inr (.inr r))], st, M) x = Rr C mX1_init (13, [some (.inr (.inr r))], .inr (.inr r) :: st, M) x := g_pl (show decode cX1_init 12 = .ok (.aload_n 0, 1) by decide +kernel) rfl
set_option maxRecDepth 20000 in
theorem kX1_init_13 {C : QC} {x : QP} {M : QM} {st : List CV} {L : QL} : Rr C mX1_init (13, L, st, M) x = Rr C mX1_init (15, L, qi 24 :: st, M) x := g_pl (show decode cX1_init 13 = .ok (.bipush 24, 2) by decide +kernel) rfl
set_option maxRecDepth 20000 in
theorem kX1_init_15 {C : QC} {x : QP} {M : QM} {st : List CV} {L : QL} {n : Int} (h0 : 0 ≤ n) (h1 : n ≤ 60000000) : Rr C mX1_init (15, L, qi n :: st, M) x = Rr C mX1_init (17, L, qr (q_top M) :: st, q_al M (2, n.toNat) n.toNat (fun _ => qi 0)) x := g_newI (show decode cX1_init 15 = .ok (.newarray .int, 2) by decide +kernel) h0 h1
set_option maxRecDepth 20000 in
theorem kX1_init_17 {C : QC} {x : QP} {M : QM} {st : List CV} {L : QL} {z : Option Nat} {a : Nat} (hk : q_kd M a = (1, 1)) : Rr C mX1_init (17, L, .inr (.inr z) :: qr a :: st, M) x = Rr C mX1_init (20, L, st, q_wr M a 1 (.inr (.inr z))) x := g_putf (ow := 1) (ini := true) (e := (1, 1, RX1, 255, 0)) (r := (RX1, TX1, 4)) (t := tyX1) (show decode cX1_init 17 = .ok (.putfield 15, 3) by decide +kernel) rfl rfl rfl rfl (by decide +kernel) hk
set_option maxRecDepth 20000 in
theorem kX1_init_20 {C : QC} {x : QP} {M : QM} {st : List CV} {L : QL} {r : Option Nat} : Rr C mX1_init (20, [some (.inr (.inr r))], st, M) x = Rr C mX1_init (21, [some (.inr (.inr r))], .inr (.inr r) :: st, M) x := g_pl (show decode cX1_init 20 = .ok (.aload_n 0, 1) by decide +kernel) rfl
set_option maxRecDepth 20000 in
theorem kX1_init_21 {C : QC} {x : QP} {M : QM} {st : List CV} {L : QL} : Rr C mX1_init (21, L, st, M) x = Rr C mX1_init (23, L, qi 24 :: st, M) x := g_pl (show decode cX1_init 21 = .ok (.bipush 24, 2) by decide +kernel) rfl
set_option maxRecDepth 20000 in
theorem kX1_init_23 {C : QC} {x : QP} {M : QM} {st : List CV} {L : QL} {n : Int} (h0 : 0 ≤ n) (h1 : n ≤ 60000000) : Rr C mX1_init (23, L, qi n :: st, M) x = Rr C mX1_init (25, L, qr (q_top M) :: st, q_al M (2, n.toNat) n.toNat (fun _ => qi 0)) x := g_newI (show decode cX1_init 23 = .ok (.newarray .int, 2) by decide +kernel) h0 h1
set_option maxRecDepth 20000 in
theorem kX1_init_25 {C : QC} {x : QP} {M : QM} {st : List CV} {L : QL} {z : Option Nat} {a : Nat} (hk : q_kd M a = (1, 1)) : Rr C mX1_init (25, L, .inr (.inr z) :: qr a :: st, M) x = Rr C mX1_init (28, L, st, q_wr M a 2 (.inr (.inr z))) x := g_putf (ow := 1) (ini := true) (e := (1, 2, RX1, 256, 0)) (r := (RX1, TX1, 4)) (t := tyX1) (show decode cX1_init 25 = .ok (.putfield 18, 3) by decide +kernel) rfl rfl rfl rfl (by decide +kernel) hk
set_option maxRecDepth 20000 in
theorem kX1_init_28 {C : QC} {x : QP} {M : QM} {st : List CV} {L : QL} {r : Option Nat} : Rr C mX1_init (28, [some (.inr (.inr r))], st, M) x = Rr C mX1_init (29, [some (.inr (.inr r))], .inr (.inr r) :: st, M) x := g_pl (show decode cX1_init 28 = .ok (.aload_n 0, 1) by decide +kernel) rfl
set_option maxRecDepth 20000 in
theorem kX1_init_29 {C : QC} {x : QP} {M : QM} {st : List CV} {L : QL} : Rr C mX1_init (29, L, st, M) x = Rr C mX1_init (30, L, qi 0 :: st, M) x := g_pl (show decode cX1_init 29 = .ok (.iconst 0, 1) by decide +kernel) rfl
set_option maxRecDepth 20000 in
theorem kX1_init_30 {C : QC} {x : QP} {M : QM} {st : List CV} {L : QL} {z : Int} {a : Nat} (hk : q_kd M a = (1, 1)) : Rr C mX1_init (30, L, qi z :: qr a :: st, M) x = Rr C mX1_init (33, L, st, q_wr M a 3 (qi z)) x := g_putf (ow := 1) (ini := true) (e := (1, 3, RX1, 257, 0)) (r := (RX1, TX1, 4)) (t := tyX1) (show decode cX1_init 30 = .ok (.putfield 21, 3) by decide +kernel) rfl rfl rfl rfl (by decide +kernel) hk
set_option maxRecDepth 20000 in
theorem kX1_init_33 {C : QC} {x : QP} {M : QM} {st : List CV} {L : QL} : Rr C mX1_init (33, L, [], M) x = x none M := g_vret (show decode cX1_init 33 = .ok (.return_, 1) by decide +kernel)
set_option maxRecDepth 20000 in
theorem eX1_init {d : Nat} {M : QM} {x : QP} {a : Nat} : q_T (d + 1) iX1_init [qr a] M x = Rr (q_C d) mX1_init (0, [some (qr a)], [], M) x := g_entryT (e := _) rfl (Nat.le_of_ble_eq_true rfl) rfl rfl
def mX1_told : QI := (1, cX1_told, false, some .int)
set_option maxRecDepth 20000 in
theorem kX1_told_0 {C : QC} {x : QP} {M : QM} {st : List CV} {L : QL} {r : Option Nat} : Rr C mX1_told (0, [some (.inr (.inr r))], st, M) x = Rr C mX1_told (1, [some (.inr (.inr r))], .inr (.inr r) :: st, M) x := g_pl (show decode cX1_told 0 = .ok (.aload_n 0, 1) by decide +kernel) rfl
set_option maxRecDepth 20000 in
theorem kX1_told_1 {C : QC} {x : QP} {M : QM} {st : List CV} {L : QL} {a : Nat} (hk : q_kd M a = (1, 1)) : Rr C mX1_told (1, L, qr a :: st, M) x = Rr C mX1_told (4, L, q_fv M a 3 :: st, M) x := g_getf (ow := 1) (e := (1, 3, RX1, 257, 0)) (show decode cX1_told 1 = .ok (.getfield 21, 3) by decide +kernel) rfl hk
set_option maxRecDepth 20000 in
theorem kX1_told_4 {C : QC} {x : QP} {M : QM} {st : List CV} {L : QL} {z : Int} : Rr C mX1_told (4, L, [qi z], M) x = x (some (qi z)) M := g_iret (show decode cX1_told 4 = .ok (.ireturn, 1) by decide +kernel) rfl
set_option maxRecDepth 20000 in
theorem eX1_told {d : Nat} {M : QM} {x : QP} {a : Nat} : q_T (d + 1) iX1_told [qr a] M x = Rr (q_C d) mX1_told (0, [some (qr a)], [], M) x := g_entryT (e := _) rfl (Nat.le_of_ble_eq_true rfl) rfl rfl
def mX1_kept : QI := (1, cX1_kept, false, some .int)
set_option maxRecDepth 20000 in
theorem kX1_kept_0 {C : QC} {x : QP} {M : QM} {st : List CV} {L : QL} {r : Option Nat} : Rr C mX1_kept (0, [some (.inr (.inr r))], st, M) x = Rr C mX1_kept (1, [some (.inr (.inr r))], .inr (.inr r) :: st, M) x := g_pl (show decode cX1_kept 0 = .ok (.aload_n 0, 1) by decide +kernel) rfl
set_option maxRecDepth 20000 in
theorem kX1_kept_1 {C : QC} {x : QP} {M : QM} {st : List CV} {L : QL} {a : Nat} (hk : q_kd M a = (1, 1)) : Rr C mX1_kept (1, L, qr a :: st, M) x = Rr C mX1_kept (4, L, q_fv M a 3 :: st, M) x := g_getf (ow := 1) (e := (1, 3, RX1, 257, 0)) (show decode cX1_kept 1 = .ok (.getfield 21, 3) by decide +kernel) rfl hk
set_option maxRecDepth 20000 in
theorem kX1_kept_4 {C : QC} {x : QP} {M : QM} {st : List CV} {L : QL} : Rr C mX1_kept (4, L, st, M) x = Rr C mX1_kept (6, L, qi 24 :: st, M) x := g_pl (show decode cX1_kept 4 = .ok (.bipush 24, 2) by decide +kernel) rfl
set_option maxRecDepth 20000 in
theorem kX1_kept_6 {C : QC} {x : QP} {M : QM} {st : List CV} {L : QL} {a b : Int} (ha1 : -2147483648 ≤ a) (ha2 : a < 2147483648) (hb1 : -2147483648 ≤ b) (hb2 : b < 2147483648) (hw : (st.map q_wd).sum ≤ 8) : Rr C mX1_kept (6, L, qi b :: qi a :: st, M) x = Rr C mX1_kept (9, L, qi (min a b) :: st, M) x := g_mx (ow := 1) (e := (1, 933)) (show decode cX1_kept 6 = .ok (.invokestatic 25, 3) by decide +kernel) rfl rfl ha1 ha2 hb1 hb2 hw
set_option maxRecDepth 20000 in
theorem kX1_kept_9 {C : QC} {x : QP} {M : QM} {st : List CV} {L : QL} {z : Int} : Rr C mX1_kept (9, L, [qi z], M) x = x (some (qi z)) M := g_iret (show decode cX1_kept 9 = .ok (.ireturn, 1) by decide +kernel) rfl
set_option maxRecDepth 20000 in
theorem eX1_kept {d : Nat} {M : QM} {x : QP} {a : Nat} : q_T (d + 1) iX1_kept [qr a] M x = Rr (q_C d) mX1_kept (0, [some (qr a)], [], M) x := g_entryT (e := _) rfl (Nat.le_of_ble_eq_true rfl) rfl rfl
def mX1_begin : QI := (1, cX1_begin, false, none)
set_option maxRecDepth 20000 in
theorem kX1_begin_0 {C : QC} {x : QP} {M : QM} {st : List CV} {L : QL} {l0 l1 l2 : Option CV} {r : Option Nat} : Rr C mX1_begin (0, [some (.inr (.inr r)), l1, l2], st, M) x = Rr C mX1_begin (1, [some (.inr (.inr r)), l1, l2], .inr (.inr r) :: st, M) x := g_pl (show decode cX1_begin 0 = .ok (.aload_n 0, 1) by decide +kernel) rfl
set_option maxRecDepth 20000 in
theorem kX1_begin_1 {C : QC} {x : QP} {M : QM} {st : List CV} {L : QL} {a : Nat} (hk : q_kd M a = (1, 1)) : Rr C mX1_begin (1, L, qr a :: st, M) x = Rr C mX1_begin (4, L, q_fv M a 0 :: st, M) x := g_getf (ow := 1) (e := (1, 0, RX1, 254, 0)) (show decode cX1_begin 1 = .ok (.getfield 9, 3) by decide +kernel) rfl hk
set_option maxRecDepth 20000 in
theorem kX1_begin_4 {C : QC} {x : QP} {M : QM} {st : List CV} {L : QL} : Rr C mX1_begin (4, L, st, M) x = Rr C mX1_begin (5, L, qi 0 :: st, M) x := g_pl (show decode cX1_begin 4 = .ok (.iconst 0, 1) by decide +kernel) rfl
set_option maxRecDepth 20000 in
theorem kX1_begin_5 {C : QC} {x : QP} {M : QM} {st : List CV} {L : QL} {l0 l1 l2 : Option CV} {z : Int} : Rr C mX1_begin (5, [l0, some (qi z), l2], st, M) x = Rr C mX1_begin (6, [l0, some (qi z), l2], qi z :: st, M) x := g_pl (show decode cX1_begin 5 = .ok (.iload_n 1, 1) by decide +kernel) rfl
set_option maxRecDepth 20000 in
theorem kX1_begin_6 {C : QC} {x : QP} {M : QM} {st : List CV} {L : QL} {a : Nat} {j v : Int} (hk : (q_kd M a).1 = 2) (h0 : 0 ≤ j) (h1 : j < ((q_kd M a).2 : Int)) : Rr C mX1_begin (6, L, qi v :: qi j :: qr a :: st, M) x = Rr C mX1_begin (7, L, st, q_wr M a j.toNat (qi v)) x := g_iast (show decode cX1_begin 6 = .ok (.iastore, 1) by decide +kernel) hk h0 h1
set_option maxRecDepth 20000 in
theorem kX1_begin_7 {C : QC} {x : QP} {M : QM} {st : List CV} {L : QL} {l0 l1 l2 : Option CV} {r : Option Nat} : Rr C mX1_begin (7, [some (.inr (.inr r)), l1, l2], st, M) x = Rr C mX1_begin (8, [some (.inr (.inr r)), l1, l2], .inr (.inr r) :: st, M) x := g_pl (show decode cX1_begin 7 = .ok (.aload_n 0, 1) by decide +kernel) rfl
set_option maxRecDepth 20000 in
theorem kX1_begin_8 {C : QC} {x : QP} {M : QM} {st : List CV} {L : QL} {a : Nat} (hk : q_kd M a = (1, 1)) : Rr C mX1_begin (8, L, qr a :: st, M) x = Rr C mX1_begin (11, L, q_fv M a 1 :: st, M) x := g_getf (ow := 1) (e := (1, 1, RX1, 255, 0)) (show decode cX1_begin 8 = .ok (.getfield 15, 3) by decide +kernel) rfl hk
set_option maxRecDepth 20000 in
theorem kX1_begin_11 {C : QC} {x : QP} {M : QM} {st : List CV} {L : QL} : Rr C mX1_begin (11, L, st, M) x = Rr C mX1_begin (12, L, qi 0 :: st, M) x := g_pl (show decode cX1_begin 11 = .ok (.iconst 0, 1) by decide +kernel) rfl
set_option maxRecDepth 20000 in
theorem kX1_begin_12 {C : QC} {x : QP} {M : QM} {st : List CV} {L : QL} : Rr C mX1_begin (12, L, st, M) x = Rr C mX1_begin (13, L, qi 0 :: st, M) x := g_pl (show decode cX1_begin 12 = .ok (.iconst 0, 1) by decide +kernel) rfl
set_option maxRecDepth 20000 in
theorem kX1_begin_13 {C : QC} {x : QP} {M : QM} {st : List CV} {L : QL} {a : Nat} {j v : Int} (hk : (q_kd M a).1 = 2) (h0 : 0 ≤ j) (h1 : j < ((q_kd M a).2 : Int)) : Rr C mX1_begin (13, L, qi v :: qi j :: qr a :: st, M) x = Rr C mX1_begin (14, L, st, q_wr M a j.toNat (qi v)) x := g_iast (show decode cX1_begin 13 = .ok (.iastore, 1) by decide +kernel) hk h0 h1
set_option maxRecDepth 20000 in
theorem kX1_begin_14 {C : QC} {x : QP} {M : QM} {st : List CV} {L : QL} {l0 l1 l2 : Option CV} {r : Option Nat} : Rr C mX1_begin (14, [some (.inr (.inr r)), l1, l2], st, M) x = Rr C mX1_begin (15, [some (.inr (.inr r)), l1, l2], .inr (.inr r) :: st, M) x := g_pl (show decode cX1_begin 14 = .ok (.aload_n 0, 1) by decide +kernel) rfl
set_option maxRecDepth 20000 in
theorem kX1_begin_15 {C : QC} {x : QP} {M : QM} {st : List CV} {L : QL} {a : Nat} (hk : q_kd M a = (1, 1)) : Rr C mX1_begin (15, L, qr a :: st, M) x = Rr C mX1_begin (18, L, q_fv M a 2 :: st, M) x := g_getf (ow := 1) (e := (1, 2, RX1, 256, 0)) (show decode cX1_begin 15 = .ok (.getfield 18, 3) by decide +kernel) rfl hk
set_option maxRecDepth 20000 in
theorem kX1_begin_18 {C : QC} {x : QP} {M : QM} {st : List CV} {L : QL} : Rr C mX1_begin (18, L, st, M) x = Rr C mX1_begin (19, L, qi 0 :: st, M) x := g_pl (show decode cX1_begin 18 = .ok (.iconst 0, 1) by decide +kernel) rfl
set_option maxRecDepth 20000 in
theorem kX1_begin_19 {C : QC} {x : QP} {M : QM} {st : List CV} {L : QL} {l0 l1 l2 : Option CV} {z : Int} : Rr C mX1_begin (19, [l0, l1, some (qi z)], st, M) x = Rr C mX1_begin (20, [l0, l1, some (qi z)], qi z :: st, M) x := g_pl (show decode cX1_begin 19 = .ok (.iload_n 2, 1) by decide +kernel) rfl
set_option maxRecDepth 20000 in
theorem kX1_begin_20 {C : QC} {x : QP} {M : QM} {st : List CV} {L : QL} {a : Nat} {j v : Int} (hk : (q_kd M a).1 = 2) (h0 : 0 ≤ j) (h1 : j < ((q_kd M a).2 : Int)) : Rr C mX1_begin (20, L, qi v :: qi j :: qr a :: st, M) x = Rr C mX1_begin (21, L, st, q_wr M a j.toNat (qi v)) x := g_iast (show decode cX1_begin 20 = .ok (.iastore, 1) by decide +kernel) hk h0 h1
set_option maxRecDepth 20000 in
theorem kX1_begin_21 {C : QC} {x : QP} {M : QM} {st : List CV} {L : QL} {l0 l1 l2 : Option CV} {r : Option Nat} : Rr C mX1_begin (21, [some (.inr (.inr r)), l1, l2], st, M) x = Rr C mX1_begin (22, [some (.inr (.inr r)), l1, l2], .inr (.inr r) :: st, M) x := g_pl (show decode cX1_begin 21 = .ok (.aload_n 0, 1) by decide +kernel) rfl
set_option maxRecDepth 20000 in
theorem kX1_begin_22 {C : QC} {x : QP} {M : QM} {st : List CV} {L : QL} : Rr C mX1_begin (22, L, st, M) x = Rr C mX1_begin (23, L, qi 1 :: st, M) x := g_pl (show decode cX1_begin 22 = .ok (.iconst 1, 1) by decide +kernel) rfl
set_option maxRecDepth 20000 in
theorem kX1_begin_23 {C : QC} {x : QP} {M : QM} {st : List CV} {L : QL} {z : Int} {a : Nat} (hk : q_kd M a = (1, 1)) : Rr C mX1_begin (23, L, qi z :: qr a :: st, M) x = Rr C mX1_begin (26, L, st, q_wr M a 3 (qi z)) x := g_putf (ow := 1) (ini := false) (e := (1, 3, RX1, 257, 0)) (r := (RX1, TX1, 4)) (t := tyX1) (show decode cX1_begin 23 = .ok (.putfield 21, 3) by decide +kernel) rfl rfl rfl rfl (by decide +kernel) hk
set_option maxRecDepth 20000 in
theorem kX1_begin_26 {C : QC} {x : QP} {M : QM} {st : List CV} {L : QL} : Rr C mX1_begin (26, L, [], M) x = x none M := g_vret (show decode cX1_begin 26 = .ok (.return_, 1) by decide +kernel)
set_option maxRecDepth 20000 in
theorem eX1_begin {d : Nat} {M : QM} {x : QP} {a : Nat} {v0 : Int} {v1 : Int} : q_T (d + 1) iX1_begin [qr a, qi v0, qi v1] M x = Rr (q_C d) mX1_begin (0, [some (qr a), some (qi v0), some (qi v1)], [], M) x := g_entryT (e := _) rfl (Nat.le_of_ble_eq_true rfl) rfl rfl
def mX1_append : QI := (1, cX1_append, false, none)
set_option maxRecDepth 20000 in
theorem kX1_append_0 {C : QC} {x : QP} {M : QM} {st : List CV} {L : QL} {l0 l1 l2 l3 : Option CV} {r : Option Nat} : Rr C mX1_append (0, [some (.inr (.inr r)), l1, l2, l3], st, M) x = Rr C mX1_append (1, [some (.inr (.inr r)), l1, l2, l3], .inr (.inr r) :: st, M) x := g_pl (show decode cX1_append 0 = .ok (.aload_n 0, 1) by decide +kernel) rfl
set_option maxRecDepth 20000 in
theorem kX1_append_1 {C : QC} {x : QP} {M : QM} {st : List CV} {L : QL} {a : Nat} (hk : q_kd M a = (1, 1)) : Rr C mX1_append (1, L, qr a :: st, M) x = Rr C mX1_append (4, L, q_fv M a 3 :: st, M) x := g_getf (ow := 1) (e := (1, 3, RX1, 257, 0)) (show decode cX1_append 1 = .ok (.getfield 21, 3) by decide +kernel) rfl hk
set_option maxRecDepth 20000 in
theorem kX1_append_4 {C : QC} {x : QP} {M : QM} {st : List CV} {L : QL} : Rr C mX1_append (4, L, st, M) x = Rr C mX1_append (6, L, qi 24 :: st, M) x := g_pl (show decode cX1_append 4 = .ok (.bipush 24, 2) by decide +kernel) rfl
set_option maxRecDepth 20000 in
theorem kX1_append_6 {C : QC} {x : QP} {M : QM} {st : List CV} {L : QL} {a b : Int} (ha1 : -2147483648 ≤ a) (ha2 : a < 2147483648) (hb1 : -2147483648 ≤ b) (hb2 : b < 2147483648) : Rr C mX1_append (6, L, qi b :: qi a :: st, M) x = (if a < b then Rr C mX1_append (9, L, st, M) x else Rr C mX1_append (39, L, st, M) x) := (g_icmp (show decode cX1_append 6 = .ok (.if_icmp .ge 33, 3) by decide +kernel) rfl ha1 ha2 hb1 hb2).trans (g_itn c_ge)
set_option maxRecDepth 20000 in
theorem kX1_append_9 {C : QC} {x : QP} {M : QM} {st : List CV} {L : QL} {l0 l1 l2 l3 : Option CV} {r : Option Nat} : Rr C mX1_append (9, [some (.inr (.inr r)), l1, l2, l3], st, M) x = Rr C mX1_append (10, [some (.inr (.inr r)), l1, l2, l3], .inr (.inr r) :: st, M) x := g_pl (show decode cX1_append 9 = .ok (.aload_n 0, 1) by decide +kernel) rfl
set_option maxRecDepth 20000 in
theorem kX1_append_10 {C : QC} {x : QP} {M : QM} {st : List CV} {L : QL} {a : Nat} (hk : q_kd M a = (1, 1)) : Rr C mX1_append (10, L, qr a :: st, M) x = Rr C mX1_append (13, L, q_fv M a 0 :: st, M) x := g_getf (ow := 1) (e := (1, 0, RX1, 254, 0)) (show decode cX1_append 10 = .ok (.getfield 9, 3) by decide +kernel) rfl hk
set_option maxRecDepth 20000 in
theorem kX1_append_13 {C : QC} {x : QP} {M : QM} {st : List CV} {L : QL} {l0 l1 l2 l3 : Option CV} {r : Option Nat} : Rr C mX1_append (13, [some (.inr (.inr r)), l1, l2, l3], st, M) x = Rr C mX1_append (14, [some (.inr (.inr r)), l1, l2, l3], .inr (.inr r) :: st, M) x := g_pl (show decode cX1_append 13 = .ok (.aload_n 0, 1) by decide +kernel) rfl
set_option maxRecDepth 20000 in
theorem kX1_append_14 {C : QC} {x : QP} {M : QM} {st : List CV} {L : QL} {a : Nat} (hk : q_kd M a = (1, 1)) : Rr C mX1_append (14, L, qr a :: st, M) x = Rr C mX1_append (17, L, q_fv M a 3 :: st, M) x := g_getf (ow := 1) (e := (1, 3, RX1, 257, 0)) (show decode cX1_append 14 = .ok (.getfield 21, 3) by decide +kernel) rfl hk
set_option maxRecDepth 20000 in
theorem kX1_append_17 {C : QC} {x : QP} {M : QM} {st : List CV} {L : QL} {l0 l1 l2 l3 : Option CV} {z : Int} : Rr C mX1_append (17, [l0, some (qi z), l2, l3], st, M) x = Rr C mX1_append (18, [l0, some (qi z), l2, l3], qi z :: st, M) x := g_pl (show decode cX1_append 17 = .ok (.iload_n 1, 1) by decide +kernel) rfl
set_option maxRecDepth 20000 in
theorem kX1_append_18 {C : QC} {x : QP} {M : QM} {st : List CV} {L : QL} {a : Nat} {j v : Int} (hk : (q_kd M a).1 = 2) (h0 : 0 ≤ j) (h1 : j < ((q_kd M a).2 : Int)) : Rr C mX1_append (18, L, qi v :: qi j :: qr a :: st, M) x = Rr C mX1_append (19, L, st, q_wr M a j.toNat (qi v)) x := g_iast (show decode cX1_append 18 = .ok (.iastore, 1) by decide +kernel) hk h0 h1
set_option maxRecDepth 20000 in
theorem kX1_append_19 {C : QC} {x : QP} {M : QM} {st : List CV} {L : QL} {l0 l1 l2 l3 : Option CV} {r : Option Nat} : Rr C mX1_append (19, [some (.inr (.inr r)), l1, l2, l3], st, M) x = Rr C mX1_append (20, [some (.inr (.inr r)), l1, l2, l3], .inr (.inr r) :: st, M) x := g_pl (show decode cX1_append 19 = .ok (.aload_n 0, 1) by decide +kernel) rfl
set_option maxRecDepth 20000 in
theorem kX1_append_20 {C : QC} {x : QP} {M : QM} {st : List CV} {L : QL} {a : Nat} (hk : q_kd M a = (1, 1)) : Rr C mX1_append (20, L, qr a :: st, M) x = Rr C mX1_append (23, L, q_fv M a 1 :: st, M) x := g_getf (ow := 1) (e := (1, 1, RX1, 255, 0)) (show decode cX1_append 20 = .ok (.getfield 15, 3) by decide +kernel) rfl hk
set_option maxRecDepth 20000 in
theorem kX1_append_23 {C : QC} {x : QP} {M : QM} {st : List CV} {L : QL} {l0 l1 l2 l3 : Option CV} {r : Option Nat} : Rr C mX1_append (23, [some (.inr (.inr r)), l1, l2, l3], st, M) x = Rr C mX1_append (24, [some (.inr (.inr r)), l1, l2, l3], .inr (.inr r) :: st, M) x := g_pl (show decode cX1_append 23 = .ok (.aload_n 0, 1) by decide +kernel) rfl
set_option maxRecDepth 20000 in
theorem kX1_append_24 {C : QC} {x : QP} {M : QM} {st : List CV} {L : QL} {a : Nat} (hk : q_kd M a = (1, 1)) : Rr C mX1_append (24, L, qr a :: st, M) x = Rr C mX1_append (27, L, q_fv M a 3 :: st, M) x := g_getf (ow := 1) (e := (1, 3, RX1, 257, 0)) (show decode cX1_append 24 = .ok (.getfield 21, 3) by decide +kernel) rfl hk
set_option maxRecDepth 20000 in
theorem kX1_append_27 {C : QC} {x : QP} {M : QM} {st : List CV} {L : QL} {l0 l1 l2 l3 : Option CV} {z : Int} : Rr C mX1_append (27, [l0, l1, some (qi z), l3], st, M) x = Rr C mX1_append (28, [l0, l1, some (qi z), l3], qi z :: st, M) x := g_pl (show decode cX1_append 27 = .ok (.iload_n 2, 1) by decide +kernel) rfl
set_option maxRecDepth 20000 in
theorem kX1_append_28 {C : QC} {x : QP} {M : QM} {st : List CV} {L : QL} {a : Nat} {j v : Int} (hk : (q_kd M a).1 = 2) (h0 : 0 ≤ j) (h1 : j < ((q_kd M a).2 : Int)) : Rr C mX1_append (28, L, qi v :: qi j :: qr a :: st, M) x = Rr C mX1_append (29, L, st, q_wr M a j.toNat (qi v)) x := g_iast (show decode cX1_append 28 = .ok (.iastore, 1) by decide +kernel) hk h0 h1
set_option maxRecDepth 20000 in
theorem kX1_append_29 {C : QC} {x : QP} {M : QM} {st : List CV} {L : QL} {l0 l1 l2 l3 : Option CV} {r : Option Nat} : Rr C mX1_append (29, [some (.inr (.inr r)), l1, l2, l3], st, M) x = Rr C mX1_append (30, [some (.inr (.inr r)), l1, l2, l3], .inr (.inr r) :: st, M) x := g_pl (show decode cX1_append 29 = .ok (.aload_n 0, 1) by decide +kernel) rfl
set_option maxRecDepth 20000 in
theorem kX1_append_30 {C : QC} {x : QP} {M : QM} {st : List CV} {L : QL} {a : Nat} (hk : q_kd M a = (1, 1)) : Rr C mX1_append (30, L, qr a :: st, M) x = Rr C mX1_append (33, L, q_fv M a 2 :: st, M) x := g_getf (ow := 1) (e := (1, 2, RX1, 256, 0)) (show decode cX1_append 30 = .ok (.getfield 18, 3) by decide +kernel) rfl hk
set_option maxRecDepth 20000 in
theorem kX1_append_33 {C : QC} {x : QP} {M : QM} {st : List CV} {L : QL} {l0 l1 l2 l3 : Option CV} {r : Option Nat} : Rr C mX1_append (33, [some (.inr (.inr r)), l1, l2, l3], st, M) x = Rr C mX1_append (34, [some (.inr (.inr r)), l1, l2, l3], .inr (.inr r) :: st, M) x := g_pl (show decode cX1_append 33 = .ok (.aload_n 0, 1) by decide +kernel) rfl
set_option maxRecDepth 20000 in
theorem kX1_append_34 {C : QC} {x : QP} {M : QM} {st : List CV} {L : QL} {a : Nat} (hk : q_kd M a = (1, 1)) : Rr C mX1_append (34, L, qr a :: st, M) x = Rr C mX1_append (37, L, q_fv M a 3 :: st, M) x := g_getf (ow := 1) (e := (1, 3, RX1, 257, 0)) (show decode cX1_append 34 = .ok (.getfield 21, 3) by decide +kernel) rfl hk
set_option maxRecDepth 20000 in
theorem kX1_append_37 {C : QC} {x : QP} {M : QM} {st : List CV} {L : QL} {l0 l1 l2 l3 : Option CV} {z : Int} : Rr C mX1_append (37, [l0, l1, l2, some (qi z)], st, M) x = Rr C mX1_append (38, [l0, l1, l2, some (qi z)], qi z :: st, M) x := g_pl (show decode cX1_append 37 = .ok (.iload_n 3, 1) by decide +kernel) rfl
set_option maxRecDepth 20000 in
theorem kX1_append_38 {C : QC} {x : QP} {M : QM} {st : List CV} {L : QL} {a : Nat} {j v : Int} (hk : (q_kd M a).1 = 2) (h0 : 0 ≤ j) (h1 : j < ((q_kd M a).2 : Int)) : Rr C mX1_append (38, L, qi v :: qi j :: qr a :: st, M) x = Rr C mX1_append (39, L, st, q_wr M a j.toNat (qi v)) x := g_iast (show decode cX1_append 38 = .ok (.iastore, 1) by decide +kernel) hk h0 h1
set_option maxRecDepth 20000 in
theorem kX1_append_39 {C : QC} {x : QP} {M : QM} {st : List CV} {L : QL} {l0 l1 l2 l3 : Option CV} {r : Option Nat} : Rr C mX1_append (39, [some (.inr (.inr r)), l1, l2, l3], st, M) x = Rr C mX1_append (40, [some (.inr (.inr r)), l1, l2, l3], .inr (.inr r) :: st, M) x := g_pl (show decode cX1_append 39 = .ok (.aload_n 0, 1) by decide +kernel) rfl
set_option maxRecDepth 20000 in
theorem kX1_append_40i {C : QC} {x : QP} {M : QM} {st : List CV} {L : QL} {a : Int} : Rr C mX1_append (40, L, qi a :: st, M) x = Rr C mX1_append (41, L, qi a :: qi a :: st, M) x := g_pl (show decode cX1_append 40 = .ok (.dup, 1) by decide +kernel) rfl
set_option maxRecDepth 20000 in
theorem kX1_append_40r {C : QC} {x : QP} {M : QM} {st : List CV} {L : QL} {a : Option Nat} : Rr C mX1_append (40, L, .inr (.inr a) :: st, M) x = Rr C mX1_append (41, L, .inr (.inr a) :: .inr (.inr a) :: st, M) x := g_pl (show decode cX1_append 40 = .ok (.dup, 1) by decide +kernel) rfl
set_option maxRecDepth 20000 in
theorem kX1_append_41 {C : QC} {x : QP} {M : QM} {st : List CV} {L : QL} {a : Nat} (hk : q_kd M a = (1, 1)) : Rr C mX1_append (41, L, qr a :: st, M) x = Rr C mX1_append (44, L, q_fv M a 3 :: st, M) x := g_getf (ow := 1) (e := (1, 3, RX1, 257, 0)) (show decode cX1_append 41 = .ok (.getfield 21, 3) by decide +kernel) rfl hk
set_option maxRecDepth 20000 in
theorem kX1_append_44 {C : QC} {x : QP} {M : QM} {st : List CV} {L : QL} : Rr C mX1_append (44, L, st, M) x = Rr C mX1_append (45, L, qi 1 :: st, M) x := g_pl (show decode cX1_append 44 = .ok (.iconst 1, 1) by decide +kernel) rfl
set_option maxRecDepth 20000 in
theorem kX1_append_45 {C : QC} {x : QP} {M : QM} {st : List CV} {L : QL} {a b : Int} : Rr C mX1_append (45, L, qi b :: qi a :: st, M) x = Rr C mX1_append (46, L, qi (a + b) :: st, M) x := g_pl (show decode cX1_append 45 = .ok (.iadd, 1) by decide +kernel) rfl
set_option maxRecDepth 20000 in
theorem kX1_append_46 {C : QC} {x : QP} {M : QM} {st : List CV} {L : QL} {z : Int} {a : Nat} (hk : q_kd M a = (1, 1)) : Rr C mX1_append (46, L, qi z :: qr a :: st, M) x = Rr C mX1_append (49, L, st, q_wr M a 3 (qi z)) x := g_putf (ow := 1) (ini := false) (e := (1, 3, RX1, 257, 0)) (r := (RX1, TX1, 4)) (t := tyX1) (show decode cX1_append 46 = .ok (.putfield 21, 3) by decide +kernel) rfl rfl rfl rfl (by decide +kernel) hk
set_option maxRecDepth 20000 in
theorem kX1_append_49 {C : QC} {x : QP} {M : QM} {st : List CV} {L : QL} : Rr C mX1_append (49, L, [], M) x = x none M := g_vret (show decode cX1_append 49 = .ok (.return_, 1) by decide +kernel)
set_option maxRecDepth 20000 in
theorem eX1_append {d : Nat} {M : QM} {x : QP} {a : Nat} {v0 : Int} {v1 : Int} {v2 : Int} : q_T (d + 1) iX1_append [qr a, qi v0, qi v1, qi v2] M x = Rr (q_C d) mX1_append (0, [some (qr a), some (qi v0), some (qi v1), some (qi v2)], [], M) x := g_entryT (e := _) rfl (Nat.le_of_ble_eq_true rfl) rfl rfl
def mX1_dayOf : QI := (1, cX1_dayOf, false, some .int)
set_option maxRecDepth 20000 in
theorem kX1_dayOf_0 {C : QC} {x : QP} {M : QM} {st : List CV} {L : QL} {l0 l1 : Option CV} {z : Int} : Rr C mX1_dayOf (0, [l0, some (qi z)], st, M) x = Rr C mX1_dayOf (1, [l0, some (qi z)], qi z :: st, M) x := g_pl (show decode cX1_dayOf 0 = .ok (.iload_n 1, 1) by decide +kernel) rfl
set_option maxRecDepth 20000 in
theorem kX1_dayOf_1 {C : QC} {x : QP} {M : QM} {st : List CV} {L : QL} {a : Int} (ha1 : -2147483648 ≤ a) (ha2 : a < 2147483648) : Rr C mX1_dayOf (1, L, qi a :: st, M) x = (if a < 0 then Rr C mX1_dayOf (21, L, st, M) x else Rr C mX1_dayOf (4, L, st, M) x) := (g_if (show decode cX1_dayOf 1 = .ok (.ifCond .lt 20, 3) by decide +kernel) rfl ha1 ha2).trans (g_ite c_lt)
set_option maxRecDepth 20000 in
theorem kX1_dayOf_4 {C : QC} {x : QP} {M : QM} {st : List CV} {L : QL} {l0 l1 : Option CV} {z : Int} : Rr C mX1_dayOf (4, [l0, some (qi z)], st, M) x = Rr C mX1_dayOf (5, [l0, some (qi z)], qi z :: st, M) x := g_pl (show decode cX1_dayOf 4 = .ok (.iload_n 1, 1) by decide +kernel) rfl
set_option maxRecDepth 20000 in
theorem kX1_dayOf_5 {C : QC} {x : QP} {M : QM} {st : List CV} {L : QL} {l0 l1 : Option CV} {r : Option Nat} : Rr C mX1_dayOf (5, [some (.inr (.inr r)), l1], st, M) x = Rr C mX1_dayOf (6, [some (.inr (.inr r)), l1], .inr (.inr r) :: st, M) x := g_pl (show decode cX1_dayOf 5 = .ok (.aload_n 0, 1) by decide +kernel) rfl
set_option maxRecDepth 20000 in
theorem kX1_dayOf_6 {C : QC} {x : QP} {M : QM} {L : QL} {rest : List CV} {v : CV} {M1 : QM} {b : Nat} (hb : q_kd M b = (1, 1)) (hC : C iX1_kept [qr b] M (some v) M1) (hw : (rest.map q_wd).sum ≤ 8) (k : Rr C mX1_dayOf (9, L, v :: rest, M1) x) : Rr C mX1_dayOf (6, L, qr b :: rest, M) x := g_cv (ow := 1) (e := (0, 122, 1, [938, 930, 931, 88])) (as := []) (show decode cX1_dayOf 6 = .ok (.invokevirtual 31, 3) by decide +kernel) rfl rfl rfl (Or.inl rfl) rfl hb hC hw k
set_option maxRecDepth 20000 in
theorem kX1_dayOf_9 {C : QC} {x : QP} {M : QM} {st : List CV} {L : QL} {a b : Int} (ha1 : -2147483648 ≤ a) (ha2 : a < 2147483648) (hb1 : -2147483648 ≤ b) (hb2 : b < 2147483648) : Rr C mX1_dayOf (9, L, qi b :: qi a :: st, M) x = (if a < b then Rr C mX1_dayOf (12, L, st, M) x else Rr C mX1_dayOf (21, L, st, M) x) := (g_icmp (show decode cX1_dayOf 9 = .ok (.if_icmp .ge 12, 3) by decide +kernel) rfl ha1 ha2 hb1 hb2).trans (g_itn c_ge)
set_option maxRecDepth 20000 in
theorem kX1_dayOf_12 {C : QC} {x : QP} {M : QM} {st : List CV} {L : QL} {l0 l1 : Option CV} {r : Option Nat} : Rr C mX1_dayOf (12, [some (.inr (.inr r)), l1], st, M) x = Rr C mX1_dayOf (13, [some (.inr (.inr r)), l1], .inr (.inr r) :: st, M) x := g_pl (show decode cX1_dayOf 12 = .ok (.aload_n 0, 1) by decide +kernel) rfl
set_option maxRecDepth 20000 in
theorem kX1_dayOf_13 {C : QC} {x : QP} {M : QM} {st : List CV} {L : QL} {a : Nat} (hk : q_kd M a = (1, 1)) : Rr C mX1_dayOf (13, L, qr a :: st, M) x = Rr C mX1_dayOf (16, L, q_fv M a 0 :: st, M) x := g_getf (ow := 1) (e := (1, 0, RX1, 254, 0)) (show decode cX1_dayOf 13 = .ok (.getfield 9, 3) by decide +kernel) rfl hk
set_option maxRecDepth 20000 in
theorem kX1_dayOf_16 {C : QC} {x : QP} {M : QM} {st : List CV} {L : QL} {l0 l1 : Option CV} {z : Int} : Rr C mX1_dayOf (16, [l0, some (qi z)], st, M) x = Rr C mX1_dayOf (17, [l0, some (qi z)], qi z :: st, M) x := g_pl (show decode cX1_dayOf 16 = .ok (.iload_n 1, 1) by decide +kernel) rfl
set_option maxRecDepth 20000 in
theorem kX1_dayOf_17 {C : QC} {x : QP} {M : QM} {st : List CV} {L : QL} {a : Nat} {j : Int} (hk : (q_kd M a).1 = 2) (h0 : 0 ≤ j) (h1 : j < ((q_kd M a).2 : Int)) : Rr C mX1_dayOf (17, L, qi j :: qr a :: st, M) x = Rr C mX1_dayOf (18, L, q_fv M a j.toNat :: st, M) x := g_iald (show decode cX1_dayOf 17 = .ok (.iaload, 1) by decide +kernel) hk h0 h1
set_option maxRecDepth 20000 in
theorem kX1_dayOf_18 {C : QC} {x : QP} {M : QM} {st : List CV} {L : QL} : Rr C mX1_dayOf (18, L, st, M) x = Rr C mX1_dayOf (23, L, st, M) x := g_pl (show decode cX1_dayOf 18 = .ok (.goto 5, 3) by decide +kernel) rfl
set_option maxRecDepth 20000 in
theorem kX1_dayOf_21 {C : QC} {x : QP} {M : QM} {st : List CV} {L : QL} : Rr C mX1_dayOf (21, L, st, M) x = Rr C mX1_dayOf (23, L, qi (-5) :: st, M) x := g_pl (show decode cX1_dayOf 21 = .ok (.bipush (-5), 2) by decide +kernel) rfl
set_option maxRecDepth 20000 in
theorem kX1_dayOf_23 {C : QC} {x : QP} {M : QM} {st : List CV} {L : QL} {z : Int} : Rr C mX1_dayOf (23, L, [qi z], M) x = x (some (qi z)) M := g_iret (show decode cX1_dayOf 23 = .ok (.ireturn, 1) by decide +kernel) rfl
set_option maxRecDepth 20000 in
theorem eX1_dayOf {d : Nat} {M : QM} {x : QP} {a : Nat} {v0 : Int} : q_T (d + 1) iX1_dayOf [qr a, qi v0] M x = Rr (q_C d) mX1_dayOf (0, [some (qr a), some (qi v0)], [], M) x := g_entryT (e := _) rfl (Nat.le_of_ble_eq_true rfl) rfl rfl
def mX1_sortOf : QI := (1, cX1_sortOf, false, some .int)
set_option maxRecDepth 20000 in
theorem kX1_sortOf_0 {C : QC} {x : QP} {M : QM} {st : List CV} {L : QL} {l0 l1 : Option CV} {z : Int} : Rr C mX1_sortOf (0, [l0, some (qi z)], st, M) x = Rr C mX1_sortOf (1, [l0, some (qi z)], qi z :: st, M) x := g_pl (show decode cX1_sortOf 0 = .ok (.iload_n 1, 1) by decide +kernel) rfl
set_option maxRecDepth 20000 in
theorem kX1_sortOf_1 {C : QC} {x : QP} {M : QM} {st : List CV} {L : QL} {a : Int} (ha1 : -2147483648 ≤ a) (ha2 : a < 2147483648) : Rr C mX1_sortOf (1, L, qi a :: st, M) x = (if a < 0 then Rr C mX1_sortOf (21, L, st, M) x else Rr C mX1_sortOf (4, L, st, M) x) := (g_if (show decode cX1_sortOf 1 = .ok (.ifCond .lt 20, 3) by decide +kernel) rfl ha1 ha2).trans (g_ite c_lt)
set_option maxRecDepth 20000 in
theorem kX1_sortOf_4 {C : QC} {x : QP} {M : QM} {st : List CV} {L : QL} {l0 l1 : Option CV} {z : Int} : Rr C mX1_sortOf (4, [l0, some (qi z)], st, M) x = Rr C mX1_sortOf (5, [l0, some (qi z)], qi z :: st, M) x := g_pl (show decode cX1_sortOf 4 = .ok (.iload_n 1, 1) by decide +kernel) rfl
set_option maxRecDepth 20000 in
theorem kX1_sortOf_5 {C : QC} {x : QP} {M : QM} {st : List CV} {L : QL} {l0 l1 : Option CV} {r : Option Nat} : Rr C mX1_sortOf (5, [some (.inr (.inr r)), l1], st, M) x = Rr C mX1_sortOf (6, [some (.inr (.inr r)), l1], .inr (.inr r) :: st, M) x := g_pl (show decode cX1_sortOf 5 = .ok (.aload_n 0, 1) by decide +kernel) rfl
set_option maxRecDepth 20000 in
theorem kX1_sortOf_6 {C : QC} {x : QP} {M : QM} {L : QL} {rest : List CV} {v : CV} {M1 : QM} {b : Nat} (hb : q_kd M b = (1, 1)) (hC : C iX1_kept [qr b] M (some v) M1) (hw : (rest.map q_wd).sum ≤ 8) (k : Rr C mX1_sortOf (9, L, v :: rest, M1) x) : Rr C mX1_sortOf (6, L, qr b :: rest, M) x := g_cv (ow := 1) (e := (0, 122, 1, [938, 930, 931, 88])) (as := []) (show decode cX1_sortOf 6 = .ok (.invokevirtual 31, 3) by decide +kernel) rfl rfl rfl (Or.inl rfl) rfl hb hC hw k
set_option maxRecDepth 20000 in
theorem kX1_sortOf_9 {C : QC} {x : QP} {M : QM} {st : List CV} {L : QL} {a b : Int} (ha1 : -2147483648 ≤ a) (ha2 : a < 2147483648) (hb1 : -2147483648 ≤ b) (hb2 : b < 2147483648) : Rr C mX1_sortOf (9, L, qi b :: qi a :: st, M) x = (if a < b then Rr C mX1_sortOf (12, L, st, M) x else Rr C mX1_sortOf (21, L, st, M) x) := (g_icmp (show decode cX1_sortOf 9 = .ok (.if_icmp .ge 12, 3) by decide +kernel) rfl ha1 ha2 hb1 hb2).trans (g_itn c_ge)
set_option maxRecDepth 20000 in
theorem kX1_sortOf_12 {C : QC} {x : QP} {M : QM} {st : List CV} {L : QL} {l0 l1 : Option CV} {r : Option Nat} : Rr C mX1_sortOf (12, [some (.inr (.inr r)), l1], st, M) x = Rr C mX1_sortOf (13, [some (.inr (.inr r)), l1], .inr (.inr r) :: st, M) x := g_pl (show decode cX1_sortOf 12 = .ok (.aload_n 0, 1) by decide +kernel) rfl
set_option maxRecDepth 20000 in
theorem kX1_sortOf_13 {C : QC} {x : QP} {M : QM} {st : List CV} {L : QL} {a : Nat} (hk : q_kd M a = (1, 1)) : Rr C mX1_sortOf (13, L, qr a :: st, M) x = Rr C mX1_sortOf (16, L, q_fv M a 1 :: st, M) x := g_getf (ow := 1) (e := (1, 1, RX1, 255, 0)) (show decode cX1_sortOf 13 = .ok (.getfield 15, 3) by decide +kernel) rfl hk
set_option maxRecDepth 20000 in
theorem kX1_sortOf_16 {C : QC} {x : QP} {M : QM} {st : List CV} {L : QL} {l0 l1 : Option CV} {z : Int} : Rr C mX1_sortOf (16, [l0, some (qi z)], st, M) x = Rr C mX1_sortOf (17, [l0, some (qi z)], qi z :: st, M) x := g_pl (show decode cX1_sortOf 16 = .ok (.iload_n 1, 1) by decide +kernel) rfl
set_option maxRecDepth 20000 in
theorem kX1_sortOf_17 {C : QC} {x : QP} {M : QM} {st : List CV} {L : QL} {a : Nat} {j : Int} (hk : (q_kd M a).1 = 2) (h0 : 0 ≤ j) (h1 : j < ((q_kd M a).2 : Int)) : Rr C mX1_sortOf (17, L, qi j :: qr a :: st, M) x = Rr C mX1_sortOf (18, L, q_fv M a j.toNat :: st, M) x := g_iald (show decode cX1_sortOf 17 = .ok (.iaload, 1) by decide +kernel) hk h0 h1
set_option maxRecDepth 20000 in
theorem kX1_sortOf_18 {C : QC} {x : QP} {M : QM} {st : List CV} {L : QL} : Rr C mX1_sortOf (18, L, st, M) x = Rr C mX1_sortOf (23, L, st, M) x := g_pl (show decode cX1_sortOf 18 = .ok (.goto 5, 3) by decide +kernel) rfl
set_option maxRecDepth 20000 in
theorem kX1_sortOf_21 {C : QC} {x : QP} {M : QM} {st : List CV} {L : QL} : Rr C mX1_sortOf (21, L, st, M) x = Rr C mX1_sortOf (23, L, qi (-5) :: st, M) x := g_pl (show decode cX1_sortOf 21 = .ok (.bipush (-5), 2) by decide +kernel) rfl
set_option maxRecDepth 20000 in
theorem kX1_sortOf_23 {C : QC} {x : QP} {M : QM} {st : List CV} {L : QL} {z : Int} : Rr C mX1_sortOf (23, L, [qi z], M) x = x (some (qi z)) M := g_iret (show decode cX1_sortOf 23 = .ok (.ireturn, 1) by decide +kernel) rfl
set_option maxRecDepth 20000 in
theorem eX1_sortOf {d : Nat} {M : QM} {x : QP} {a : Nat} {v0 : Int} : q_T (d + 1) iX1_sortOf [qr a, qi v0] M x = Rr (q_C d) mX1_sortOf (0, [some (qr a), some (qi v0)], [], M) x := g_entryT (e := _) rfl (Nat.le_of_ble_eq_true rfl) rfl rfl
def mX1_numberOf : QI := (1, cX1_numberOf, false, some .int)
set_option maxRecDepth 20000 in
theorem kX1_numberOf_0 {C : QC} {x : QP} {M : QM} {st : List CV} {L : QL} {l0 l1 : Option CV} {z : Int} : Rr C mX1_numberOf (0, [l0, some (qi z)], st, M) x = Rr C mX1_numberOf (1, [l0, some (qi z)], qi z :: st, M) x := g_pl (show decode cX1_numberOf 0 = .ok (.iload_n 1, 1) by decide +kernel) rfl
set_option maxRecDepth 20000 in
theorem kX1_numberOf_1 {C : QC} {x : QP} {M : QM} {st : List CV} {L : QL} {a : Int} (ha1 : -2147483648 ≤ a) (ha2 : a < 2147483648) : Rr C mX1_numberOf (1, L, qi a :: st, M) x = (if a < 0 then Rr C mX1_numberOf (21, L, st, M) x else Rr C mX1_numberOf (4, L, st, M) x) := (g_if (show decode cX1_numberOf 1 = .ok (.ifCond .lt 20, 3) by decide +kernel) rfl ha1 ha2).trans (g_ite c_lt)
set_option maxRecDepth 20000 in
theorem kX1_numberOf_4 {C : QC} {x : QP} {M : QM} {st : List CV} {L : QL} {l0 l1 : Option CV} {z : Int} : Rr C mX1_numberOf (4, [l0, some (qi z)], st, M) x = Rr C mX1_numberOf (5, [l0, some (qi z)], qi z :: st, M) x := g_pl (show decode cX1_numberOf 4 = .ok (.iload_n 1, 1) by decide +kernel) rfl
set_option maxRecDepth 20000 in
theorem kX1_numberOf_5 {C : QC} {x : QP} {M : QM} {st : List CV} {L : QL} {l0 l1 : Option CV} {r : Option Nat} : Rr C mX1_numberOf (5, [some (.inr (.inr r)), l1], st, M) x = Rr C mX1_numberOf (6, [some (.inr (.inr r)), l1], .inr (.inr r) :: st, M) x := g_pl (show decode cX1_numberOf 5 = .ok (.aload_n 0, 1) by decide +kernel) rfl
set_option maxRecDepth 20000 in
theorem kX1_numberOf_6 {C : QC} {x : QP} {M : QM} {L : QL} {rest : List CV} {v : CV} {M1 : QM} {b : Nat} (hb : q_kd M b = (1, 1)) (hC : C iX1_kept [qr b] M (some v) M1) (hw : (rest.map q_wd).sum ≤ 8) (k : Rr C mX1_numberOf (9, L, v :: rest, M1) x) : Rr C mX1_numberOf (6, L, qr b :: rest, M) x := g_cv (ow := 1) (e := (0, 122, 1, [938, 930, 931, 88])) (as := []) (show decode cX1_numberOf 6 = .ok (.invokevirtual 31, 3) by decide +kernel) rfl rfl rfl (Or.inl rfl) rfl hb hC hw k
set_option maxRecDepth 20000 in
theorem kX1_numberOf_9 {C : QC} {x : QP} {M : QM} {st : List CV} {L : QL} {a b : Int} (ha1 : -2147483648 ≤ a) (ha2 : a < 2147483648) (hb1 : -2147483648 ≤ b) (hb2 : b < 2147483648) : Rr C mX1_numberOf (9, L, qi b :: qi a :: st, M) x = (if a < b then Rr C mX1_numberOf (12, L, st, M) x else Rr C mX1_numberOf (21, L, st, M) x) := (g_icmp (show decode cX1_numberOf 9 = .ok (.if_icmp .ge 12, 3) by decide +kernel) rfl ha1 ha2 hb1 hb2).trans (g_itn c_ge)
set_option maxRecDepth 20000 in
theorem kX1_numberOf_12 {C : QC} {x : QP} {M : QM} {st : List CV} {L : QL} {l0 l1 : Option CV} {r : Option Nat} : Rr C mX1_numberOf (12, [some (.inr (.inr r)), l1], st, M) x = Rr C mX1_numberOf (13, [some (.inr (.inr r)), l1], .inr (.inr r) :: st, M) x := g_pl (show decode cX1_numberOf 12 = .ok (.aload_n 0, 1) by decide +kernel) rfl
set_option maxRecDepth 20000 in
theorem kX1_numberOf_13 {C : QC} {x : QP} {M : QM} {st : List CV} {L : QL} {a : Nat} (hk : q_kd M a = (1, 1)) : Rr C mX1_numberOf (13, L, qr a :: st, M) x = Rr C mX1_numberOf (16, L, q_fv M a 2 :: st, M) x := g_getf (ow := 1) (e := (1, 2, RX1, 256, 0)) (show decode cX1_numberOf 13 = .ok (.getfield 18, 3) by decide +kernel) rfl hk
set_option maxRecDepth 20000 in
theorem kX1_numberOf_16 {C : QC} {x : QP} {M : QM} {st : List CV} {L : QL} {l0 l1 : Option CV} {z : Int} : Rr C mX1_numberOf (16, [l0, some (qi z)], st, M) x = Rr C mX1_numberOf (17, [l0, some (qi z)], qi z :: st, M) x := g_pl (show decode cX1_numberOf 16 = .ok (.iload_n 1, 1) by decide +kernel) rfl
set_option maxRecDepth 20000 in
theorem kX1_numberOf_17 {C : QC} {x : QP} {M : QM} {st : List CV} {L : QL} {a : Nat} {j : Int} (hk : (q_kd M a).1 = 2) (h0 : 0 ≤ j) (h1 : j < ((q_kd M a).2 : Int)) : Rr C mX1_numberOf (17, L, qi j :: qr a :: st, M) x = Rr C mX1_numberOf (18, L, q_fv M a j.toNat :: st, M) x := g_iald (show decode cX1_numberOf 17 = .ok (.iaload, 1) by decide +kernel) hk h0 h1
set_option maxRecDepth 20000 in
theorem kX1_numberOf_18 {C : QC} {x : QP} {M : QM} {st : List CV} {L : QL} : Rr C mX1_numberOf (18, L, st, M) x = Rr C mX1_numberOf (23, L, st, M) x := g_pl (show decode cX1_numberOf 18 = .ok (.goto 5, 3) by decide +kernel) rfl
set_option maxRecDepth 20000 in
theorem kX1_numberOf_21 {C : QC} {x : QP} {M : QM} {st : List CV} {L : QL} : Rr C mX1_numberOf (21, L, st, M) x = Rr C mX1_numberOf (23, L, qi (-5) :: st, M) x := g_pl (show decode cX1_numberOf 21 = .ok (.bipush (-5), 2) by decide +kernel) rfl
set_option maxRecDepth 20000 in
theorem kX1_numberOf_23 {C : QC} {x : QP} {M : QM} {st : List CV} {L : QL} {z : Int} : Rr C mX1_numberOf (23, L, [qi z], M) x = x (some (qi z)) M := g_iret (show decode cX1_numberOf 23 = .ok (.ireturn, 1) by decide +kernel) rfl
set_option maxRecDepth 20000 in
theorem eX1_numberOf {d : Nat} {M : QM} {x : QP} {a : Nat} {v0 : Int} : q_T (d + 1) iX1_numberOf [qr a, qi v0] M x = Rr (q_C d) mX1_numberOf (0, [some (qr a), some (qi v0)], [], M) x := g_entryT (e := _) rfl (Nat.le_of_ble_eq_true rfl) rfl rfl
def mX1_print : QI := (1, cX1_print, false, none)
set_option maxRecDepth 20000 in
theorem kX1_print_0 {C : QC} {x : QP} {M : QM} {st : List CV} {L : QL} : Rr C mX1_print (0, L, st, M) x = Rr C mX1_print (1, L, qi 0 :: st, M) x := g_pl (show decode cX1_print 0 = .ok (.iconst 0, 1) by decide +kernel) rfl
set_option maxRecDepth 20000 in
theorem kX1_print_1 {C : QC} {x : QP} {M : QM} {st : List CV} {L : QL} {l0 l1 l2 l3 : Option CV} {z : Int} : Rr C mX1_print (1, [l0, l1, l2, l3], qi z :: st, M) x = Rr C mX1_print (2, [l0, q_cut l1, some (qi z), l3], st, M) x := g_pl (show decode cX1_print 1 = .ok (.istore_n 2, 1) by decide +kernel) rfl
set_option maxRecDepth 20000 in
theorem kX1_print_2 {C : QC} {x : QP} {M : QM} {st : List CV} {L : QL} {l0 l1 l2 l3 : Option CV} {z : Int} : Rr C mX1_print (2, [l0, l1, some (qi z), l3], st, M) x = Rr C mX1_print (3, [l0, l1, some (qi z), l3], qi z :: st, M) x := g_pl (show decode cX1_print 2 = .ok (.iload_n 2, 1) by decide +kernel) rfl
set_option maxRecDepth 20000 in
theorem kX1_print_3 {C : QC} {x : QP} {M : QM} {st : List CV} {L : QL} {l0 l1 l2 l3 : Option CV} {r : Option Nat} : Rr C mX1_print (3, [some (.inr (.inr r)), l1, l2, l3], st, M) x = Rr C mX1_print (4, [some (.inr (.inr r)), l1, l2, l3], .inr (.inr r) :: st, M) x := g_pl (show decode cX1_print 3 = .ok (.aload_n 0, 1) by decide +kernel) rfl
set_option maxRecDepth 20000 in
theorem kX1_print_4 {C : QC} {x : QP} {M : QM} {L : QL} {rest : List CV} {v : CV} {M1 : QM} {b : Nat} (hb : q_kd M b = (1, 1)) (hC : C iX1_kept [qr b] M (some v) M1) (hw : (rest.map q_wd).sum ≤ 8) (k : Rr C mX1_print (7, L, v :: rest, M1) x) : Rr C mX1_print (4, L, qr b :: rest, M) x := g_cv (ow := 1) (e := (0, 122, 1, [938, 930, 931, 88])) (as := []) (show decode cX1_print 4 = .ok (.invokevirtual 31, 3) by decide +kernel) rfl rfl rfl (Or.inl rfl) rfl hb hC hw k
set_option maxRecDepth 20000 in
theorem kX1_print_7 {C : QC} {x : QP} {M : QM} {st : List CV} {L : QL} {a b : Int} (ha1 : -2147483648 ≤ a) (ha2 : a < 2147483648) (hb1 : -2147483648 ≤ b) (hb2 : b < 2147483648) : Rr C mX1_print (7, L, qi b :: qi a :: st, M) x = (if a < b then Rr C mX1_print (10, L, st, M) x else Rr C mX1_print (103, L, st, M) x) := (g_icmp (show decode cX1_print 7 = .ok (.if_icmp .ge 96, 3) by decide +kernel) rfl ha1 ha2 hb1 hb2).trans (g_itn c_ge)
set_option maxRecDepth 20000 in
theorem kX1_print_10 {C : QC} {x : QP} {M : QM} {st : List CV} {L : QL} {l0 l1 l2 l3 : Option CV} {z : Int} : Rr C mX1_print (10, [l0, l1, some (qi z), l3], st, M) x = Rr C mX1_print (11, [l0, l1, some (qi z), l3], qi z :: st, M) x := g_pl (show decode cX1_print 10 = .ok (.iload_n 2, 1) by decide +kernel) rfl
set_option maxRecDepth 20000 in
theorem kX1_print_11 {C : QC} {x : QP} {M : QM} {st : List CV} {L : QL} {a : Int} (ha1 : -2147483648 ≤ a) (ha2 : a < 2147483648) : Rr C mX1_print (11, L, qi a :: st, M) x = (if 0 < a then Rr C mX1_print (14, L, st, M) x else Rr C mX1_print (21, L, st, M) x) := (g_if (show decode cX1_print 11 = .ok (.ifCond .le 10, 3) by decide +kernel) rfl ha1 ha2).trans (g_itn c_le)
set_option maxRecDepth 20000 in
theorem kX1_print_14 {C : QC} {x : QP} {M : QM} {st : List CV} {L : QL} {l0 l1 l2 l3 : Option CV} {r : Option Nat} : Rr C mX1_print (14, [l0, some (.inr (.inr r)), l2, l3], st, M) x = Rr C mX1_print (15, [l0, some (.inr (.inr r)), l2, l3], .inr (.inr r) :: st, M) x := g_pl (show decode cX1_print 14 = .ok (.aload_n 1, 1) by decide +kernel) rfl
set_option maxRecDepth 20000 in
theorem kX1_print_15 {C : QC} {x : QP} {M : QM} {st : List CV} {L : QL} : Rr C mX1_print (15, L, st, M) x = Rr C mX1_print (17, L, qi 32 :: st, M) x := g_pl (show decode cX1_print 15 = .ok (.bipush 32, 2) by decide +kernel) rfl
set_option maxRecDepth 20000 in
theorem kX1_print_17 {C : QC} {x : QP} {M : QM} {L : QL} {rest : List CV} {a0 : CV} {v : CV} {M1 : QM} {b : Nat} (hb : q_kd M b = (1, 14)) (hC : C iJ4_append_cf468 [qr b, a0] M (some v) M1) (hw : (rest.map q_wd).sum ≤ 8) (k : Rr C mX1_print (20, L, v :: rest, M1) x) : Rr C mX1_print (17, L, a0 :: qr b :: rest, M) x := g_cv (ow := 1) (e := (0, 154, 14, [1075, 1076, 1077, 91])) (as := [a0]) (show decode cX1_print 17 = .ok (.invokevirtual 35, 3) by decide +kernel) rfl rfl rfl (Or.inl rfl) rfl hb hC hw k
set_option maxRecDepth 20000 in
theorem kX1_print_20i {C : QC} {x : QP} {M : QM} {st : List CV} {L : QL} {a : Int} : Rr C mX1_print (20, L, qi a :: st, M) x = Rr C mX1_print (21, L, st, M) x := g_pl (show decode cX1_print 20 = .ok (.pop, 1) by decide +kernel) rfl
set_option maxRecDepth 20000 in
theorem kX1_print_20r {C : QC} {x : QP} {M : QM} {st : List CV} {L : QL} {a : Option Nat} : Rr C mX1_print (20, L, .inr (.inr a) :: st, M) x = Rr C mX1_print (21, L, st, M) x := g_pl (show decode cX1_print 20 = .ok (.pop, 1) by decide +kernel) rfl
set_option maxRecDepth 20000 in
theorem kX1_print_21 {C : QC} {x : QP} {M : QM} {st : List CV} {L : QL} {l0 l1 l2 l3 : Option CV} {r : Option Nat} : Rr C mX1_print (21, [some (.inr (.inr r)), l1, l2, l3], st, M) x = Rr C mX1_print (22, [some (.inr (.inr r)), l1, l2, l3], .inr (.inr r) :: st, M) x := g_pl (show decode cX1_print 21 = .ok (.aload_n 0, 1) by decide +kernel) rfl
set_option maxRecDepth 20000 in
theorem kX1_print_22 {C : QC} {x : QP} {M : QM} {st : List CV} {L : QL} {a : Nat} (hk : q_kd M a = (1, 1)) : Rr C mX1_print (22, L, qr a :: st, M) x = Rr C mX1_print (25, L, q_fv M a 1 :: st, M) x := g_getf (ow := 1) (e := (1, 1, RX1, 255, 0)) (show decode cX1_print 22 = .ok (.getfield 15, 3) by decide +kernel) rfl hk
set_option maxRecDepth 20000 in
theorem kX1_print_25 {C : QC} {x : QP} {M : QM} {st : List CV} {L : QL} {l0 l1 l2 l3 : Option CV} {z : Int} : Rr C mX1_print (25, [l0, l1, some (qi z), l3], st, M) x = Rr C mX1_print (26, [l0, l1, some (qi z), l3], qi z :: st, M) x := g_pl (show decode cX1_print 25 = .ok (.iload_n 2, 1) by decide +kernel) rfl
set_option maxRecDepth 20000 in
theorem kX1_print_26 {C : QC} {x : QP} {M : QM} {st : List CV} {L : QL} {a : Nat} {j : Int} (hk : (q_kd M a).1 = 2) (h0 : 0 ≤ j) (h1 : j < ((q_kd M a).2 : Int)) : Rr C mX1_print (26, L, qi j :: qr a :: st, M) x = Rr C mX1_print (27, L, q_fv M a j.toNat :: st, M) x := g_iald (show decode cX1_print 26 = .ok (.iaload, 1) by decide +kernel) hk h0 h1
set_option maxRecDepth 20000 in
theorem kX1_print_27 {C : QC} {x : QP} {M : QM} {st : List CV} {L : QL} {l0 l1 l2 l3 : Option CV} {z : Int} : Rr C mX1_print (27, [l0, l1, l2, l3], qi z :: st, M) x = Rr C mX1_print (28, [l0, l1, q_cut l2, some (qi z)], st, M) x := g_pl (show decode cX1_print 27 = .ok (.istore_n 3, 1) by decide +kernel) rfl
set_option maxRecDepth 20000 in
theorem kX1_print_28 {C : QC} {x : QP} {M : QM} {st : List CV} {L : QL} {l0 l1 l2 l3 : Option CV} {r : Option Nat} : Rr C mX1_print (28, [l0, some (.inr (.inr r)), l2, l3], st, M) x = Rr C mX1_print (29, [l0, some (.inr (.inr r)), l2, l3], .inr (.inr r) :: st, M) x := g_pl (show decode cX1_print 28 = .ok (.aload_n 1, 1) by decide +kernel) rfl
set_option maxRecDepth 20000 in
theorem kX1_print_29 {C : QC} {x : QP} {M : QM} {st : List CV} {L : QL} {l0 l1 l2 l3 : Option CV} {z : Int} : Rr C mX1_print (29, [l0, l1, l2, some (qi z)], st, M) x = Rr C mX1_print (30, [l0, l1, l2, some (qi z)], qi z :: st, M) x := g_pl (show decode cX1_print 29 = .ok (.iload_n 3, 1) by decide +kernel) rfl
set_option maxRecDepth 20000 in
theorem kX1_print_30 {C : QC} {x : QP} {M : QM} {st : List CV} {L : QL} {a : Int} (ha1 : -2147483648 ≤ a) (ha2 : a < 2147483648) : Rr C mX1_print (30, L, qi a :: st, M) x = (if a < 0 then Rr C mX1_print (51, L, st, M) x else Rr C mX1_print (33, L, st, M) x) := (g_if (show decode cX1_print 30 = .ok (.ifCond .lt 21, 3) by decide +kernel) rfl ha1 ha2).trans (g_ite c_lt)
set_option maxRecDepth 20000 in
theorem kX1_print_33 {C : QC} {x : QP} {M : QM} {st : List CV} {L : QL} {l0 l1 l2 l3 : Option CV} {z : Int} : Rr C mX1_print (33, [l0, l1, l2, some (qi z)], st, M) x = Rr C mX1_print (34, [l0, l1, l2, some (qi z)], qi z :: st, M) x := g_pl (show decode cX1_print 33 = .ok (.iload_n 3, 1) by decide +kernel) rfl
set_option maxRecDepth 20000 in
theorem kX1_print_34 {C : QC} {x : QP} {M : QM} {st : List CV} {L : QL} : Rr C mX1_print (34, L, st, M) x = Rr C mX1_print (36, L, qr (q_gs M 1) :: st, M) x := g_sldc (ow := 1) (e := 0) (show decode cX1_print 34 = .ok (.ldc 41, 2) by decide +kernel) rfl rfl
set_option maxRecDepth 20000 in
theorem kX1_print_36 {C : QC} {x : QP} {M : QM} {L : QL} {rest : List CV} {v : CV} {M1 : QM} {b : Nat} (hb : b = q_gs M 1) (hC : C iJ0_length_8abf5 [qr b] M (some v) M1) (hw : (rest.map q_wd).sum ≤ 8) (k : Rr C mX1_print (39, L, v :: rest, M1) x) : Rr C mX1_print (36, L, qr b :: rest, M) x := g_cstr (ow := 1) (e := (8, 162, 0, [1129, 1130, 1131, 92])) (as := []) (show decode cX1_print 36 = .ok (.invokevirtual 43, 3) by decide +kernel) rfl rfl rfl rfl rfl hb hC hw k
set_option maxRecDepth 20000 in
theorem kX1_print_39 {C : QC} {x : QP} {M : QM} {st : List CV} {L : QL} {a b : Int} (ha1 : -2147483648 ≤ a) (ha2 : a < 2147483648) (hb1 : -2147483648 ≤ b) (hb2 : b < 2147483648) : Rr C mX1_print (39, L, qi b :: qi a :: st, M) x = (if a < b then Rr C mX1_print (42, L, st, M) x else Rr C mX1_print (51, L, st, M) x) := (g_icmp (show decode cX1_print 39 = .ok (.if_icmp .ge 12, 3) by decide +kernel) rfl ha1 ha2 hb1 hb2).trans (g_itn c_ge)
set_option maxRecDepth 20000 in
theorem kX1_print_42 {C : QC} {x : QP} {M : QM} {st : List CV} {L : QL} : Rr C mX1_print (42, L, st, M) x = Rr C mX1_print (44, L, qr (q_gs M 1) :: st, M) x := g_sldc (ow := 1) (e := 0) (show decode cX1_print 42 = .ok (.ldc 41, 2) by decide +kernel) rfl rfl
set_option maxRecDepth 20000 in
theorem kX1_print_44 {C : QC} {x : QP} {M : QM} {st : List CV} {L : QL} {l0 l1 l2 l3 : Option CV} {z : Int} : Rr C mX1_print (44, [l0, l1, l2, some (qi z)], st, M) x = Rr C mX1_print (45, [l0, l1, l2, some (qi z)], qi z :: st, M) x := g_pl (show decode cX1_print 44 = .ok (.iload_n 3, 1) by decide +kernel) rfl
set_option maxRecDepth 20000 in
theorem kX1_print_45 {C : QC} {x : QP} {M : QM} {L : QL} {rest : List CV} {a0 : CV} {v : CV} {M1 : QM} {b : Nat} (hb : b = q_gs M 1) (hC : C iJ0_charAt_5068e [qr b, a0] M (some v) M1) (hw : (rest.map q_wd).sum ≤ 8) (k : Rr C mX1_print (48, L, v :: rest, M1) x) : Rr C mX1_print (45, L, a0 :: qr b :: rest, M) x := g_cstr (ow := 1) (e := (8, 164, 0, [1138, 1139, 1140, 92])) (as := [a0]) (show decode cX1_print 45 = .ok (.invokevirtual 48, 3) by decide +kernel) rfl rfl rfl rfl rfl hb hC hw k
set_option maxRecDepth 20000 in
theorem kX1_print_48 {C : QC} {x : QP} {M : QM} {st : List CV} {L : QL} : Rr C mX1_print (48, L, st, M) x = Rr C mX1_print (53, L, st, M) x := g_pl (show decode cX1_print 48 = .ok (.goto 5, 3) by decide +kernel) rfl
set_option maxRecDepth 20000 in
theorem kX1_print_51 {C : QC} {x : QP} {M : QM} {st : List CV} {L : QL} : Rr C mX1_print (51, L, st, M) x = Rr C mX1_print (53, L, qi 32 :: st, M) x := g_pl (show decode cX1_print 51 = .ok (.bipush 32, 2) by decide +kernel) rfl
set_option maxRecDepth 20000 in
theorem kX1_print_53 {C : QC} {x : QP} {M : QM} {L : QL} {rest : List CV} {a0 : CV} {v : CV} {M1 : QM} {b : Nat} (hb : q_kd M b = (1, 14)) (hC : C iJ4_append_cf468 [qr b, a0] M (some v) M1) (hw : (rest.map q_wd).sum ≤ 8) (k : Rr C mX1_print (56, L, v :: rest, M1) x) : Rr C mX1_print (53, L, a0 :: qr b :: rest, M) x := g_cv (ow := 1) (e := (0, 154, 14, [1075, 1076, 1077, 91])) (as := [a0]) (show decode cX1_print 53 = .ok (.invokevirtual 35, 3) by decide +kernel) rfl rfl rfl (Or.inl rfl) rfl hb hC hw k
set_option maxRecDepth 20000 in
theorem kX1_print_56i {C : QC} {x : QP} {M : QM} {st : List CV} {L : QL} {a : Int} : Rr C mX1_print (56, L, qi a :: st, M) x = Rr C mX1_print (57, L, st, M) x := g_pl (show decode cX1_print 56 = .ok (.pop, 1) by decide +kernel) rfl
set_option maxRecDepth 20000 in
theorem kX1_print_56r {C : QC} {x : QP} {M : QM} {st : List CV} {L : QL} {a : Option Nat} : Rr C mX1_print (56, L, .inr (.inr a) :: st, M) x = Rr C mX1_print (57, L, st, M) x := g_pl (show decode cX1_print 56 = .ok (.pop, 1) by decide +kernel) rfl
set_option maxRecDepth 20000 in
theorem kX1_print_57 {C : QC} {x : QP} {M : QM} {st : List CV} {L : QL} {l0 l1 l2 l3 : Option CV} {r : Option Nat} : Rr C mX1_print (57, [l0, some (.inr (.inr r)), l2, l3], st, M) x = Rr C mX1_print (58, [l0, some (.inr (.inr r)), l2, l3], .inr (.inr r) :: st, M) x := g_pl (show decode cX1_print 57 = .ok (.aload_n 1, 1) by decide +kernel) rfl
set_option maxRecDepth 20000 in
theorem kX1_print_58 {C : QC} {x : QP} {M : QM} {st : List CV} {L : QL} {l0 l1 l2 l3 : Option CV} {r : Option Nat} : Rr C mX1_print (58, [some (.inr (.inr r)), l1, l2, l3], st, M) x = Rr C mX1_print (59, [some (.inr (.inr r)), l1, l2, l3], .inr (.inr r) :: st, M) x := g_pl (show decode cX1_print 58 = .ok (.aload_n 0, 1) by decide +kernel) rfl
set_option maxRecDepth 20000 in
theorem kX1_print_59 {C : QC} {x : QP} {M : QM} {st : List CV} {L : QL} {a : Nat} (hk : q_kd M a = (1, 1)) : Rr C mX1_print (59, L, qr a :: st, M) x = Rr C mX1_print (62, L, q_fv M a 0 :: st, M) x := g_getf (ow := 1) (e := (1, 0, RX1, 254, 0)) (show decode cX1_print 59 = .ok (.getfield 9, 3) by decide +kernel) rfl hk
set_option maxRecDepth 20000 in
theorem kX1_print_62 {C : QC} {x : QP} {M : QM} {st : List CV} {L : QL} {l0 l1 l2 l3 : Option CV} {z : Int} : Rr C mX1_print (62, [l0, l1, some (qi z), l3], st, M) x = Rr C mX1_print (63, [l0, l1, some (qi z), l3], qi z :: st, M) x := g_pl (show decode cX1_print 62 = .ok (.iload_n 2, 1) by decide +kernel) rfl
set_option maxRecDepth 20000 in
theorem kX1_print_63 {C : QC} {x : QP} {M : QM} {st : List CV} {L : QL} {a : Nat} {j : Int} (hk : (q_kd M a).1 = 2) (h0 : 0 ≤ j) (h1 : j < ((q_kd M a).2 : Int)) : Rr C mX1_print (63, L, qi j :: qr a :: st, M) x = Rr C mX1_print (64, L, q_fv M a j.toNat :: st, M) x := g_iald (show decode cX1_print 63 = .ok (.iaload, 1) by decide +kernel) hk h0 h1
set_option maxRecDepth 20000 in
theorem kX1_print_64 {C : QC} {x : QP} {M : QM} {L : QL} {rest : List CV} {a0 : CV} {v : CV} {M1 : QM} {b : Nat} (hb : q_kd M b = (1, 14)) (hC : C iJ4_append_bf812 [qr b, a0] M (some v) M1) (hw : (rest.map q_wd).sum ≤ 8) (k : Rr C mX1_print (67, L, v :: rest, M1) x) : Rr C mX1_print (64, L, a0 :: qr b :: rest, M) x := g_cv (ow := 1) (e := (0, 167, 14, [1156, 1157, 1158, 91])) (as := [a0]) (show decode cX1_print 64 = .ok (.invokevirtual 52, 3) by decide +kernel) rfl rfl rfl (Or.inl rfl) rfl hb hC hw k
set_option maxRecDepth 20000 in
theorem kX1_print_67i {C : QC} {x : QP} {M : QM} {st : List CV} {L : QL} {a : Int} : Rr C mX1_print (67, L, qi a :: st, M) x = Rr C mX1_print (68, L, st, M) x := g_pl (show decode cX1_print 67 = .ok (.pop, 1) by decide +kernel) rfl
set_option maxRecDepth 20000 in
theorem kX1_print_67r {C : QC} {x : QP} {M : QM} {st : List CV} {L : QL} {a : Option Nat} : Rr C mX1_print (67, L, .inr (.inr a) :: st, M) x = Rr C mX1_print (68, L, st, M) x := g_pl (show decode cX1_print 67 = .ok (.pop, 1) by decide +kernel) rfl
set_option maxRecDepth 20000 in
theorem kX1_print_68 {C : QC} {x : QP} {M : QM} {st : List CV} {L : QL} {l0 l1 l2 l3 : Option CV} {r : Option Nat} : Rr C mX1_print (68, [some (.inr (.inr r)), l1, l2, l3], st, M) x = Rr C mX1_print (69, [some (.inr (.inr r)), l1, l2, l3], .inr (.inr r) :: st, M) x := g_pl (show decode cX1_print 68 = .ok (.aload_n 0, 1) by decide +kernel) rfl
set_option maxRecDepth 20000 in
theorem kX1_print_69 {C : QC} {x : QP} {M : QM} {st : List CV} {L : QL} {a : Nat} (hk : q_kd M a = (1, 1)) : Rr C mX1_print (69, L, qr a :: st, M) x = Rr C mX1_print (72, L, q_fv M a 2 :: st, M) x := g_getf (ow := 1) (e := (1, 2, RX1, 256, 0)) (show decode cX1_print 69 = .ok (.getfield 18, 3) by decide +kernel) rfl hk
set_option maxRecDepth 20000 in
theorem kX1_print_72 {C : QC} {x : QP} {M : QM} {st : List CV} {L : QL} {l0 l1 l2 l3 : Option CV} {z : Int} : Rr C mX1_print (72, [l0, l1, some (qi z), l3], st, M) x = Rr C mX1_print (73, [l0, l1, some (qi z), l3], qi z :: st, M) x := g_pl (show decode cX1_print 72 = .ok (.iload_n 2, 1) by decide +kernel) rfl
set_option maxRecDepth 20000 in
theorem kX1_print_73 {C : QC} {x : QP} {M : QM} {st : List CV} {L : QL} {a : Nat} {j : Int} (hk : (q_kd M a).1 = 2) (h0 : 0 ≤ j) (h1 : j < ((q_kd M a).2 : Int)) : Rr C mX1_print (73, L, qi j :: qr a :: st, M) x = Rr C mX1_print (74, L, q_fv M a j.toNat :: st, M) x := g_iald (show decode cX1_print 73 = .ok (.iaload, 1) by decide +kernel) hk h0 h1
set_option maxRecDepth 20000 in
theorem kX1_print_74 {C : QC} {x : QP} {M : QM} {st : List CV} {L : QL} : Rr C mX1_print (74, L, st, M) x = Rr C mX1_print (76, L, qi (-5) :: st, M) x := g_pl (show decode cX1_print 74 = .ok (.bipush (-5), 2) by decide +kernel) rfl
set_option maxRecDepth 20000 in
theorem kX1_print_76 {C : QC} {x : QP} {M : QM} {st : List CV} {L : QL} {a b : Int} (ha1 : -2147483648 ≤ a) (ha2 : a < 2147483648) (hb1 : -2147483648 ≤ b) (hb2 : b < 2147483648) : Rr C mX1_print (76, L, qi b :: qi a :: st, M) x = (if a = b then Rr C mX1_print (97, L, st, M) x else Rr C mX1_print (79, L, st, M) x) := (g_icmp (show decode cX1_print 76 = .ok (.if_icmp .eq 21, 3) by decide +kernel) rfl ha1 ha2 hb1 hb2).trans (g_ite c_eq)
set_option maxRecDepth 20000 in
theorem kX1_print_79 {C : QC} {x : QP} {M : QM} {st : List CV} {L : QL} {l0 l1 l2 l3 : Option CV} {r : Option Nat} : Rr C mX1_print (79, [l0, some (.inr (.inr r)), l2, l3], st, M) x = Rr C mX1_print (80, [l0, some (.inr (.inr r)), l2, l3], .inr (.inr r) :: st, M) x := g_pl (show decode cX1_print 79 = .ok (.aload_n 1, 1) by decide +kernel) rfl
set_option maxRecDepth 20000 in
theorem kX1_print_80 {C : QC} {x : QP} {M : QM} {st : List CV} {L : QL} : Rr C mX1_print (80, L, st, M) x = Rr C mX1_print (82, L, qi 58 :: st, M) x := g_pl (show decode cX1_print 80 = .ok (.bipush 58, 2) by decide +kernel) rfl
set_option maxRecDepth 20000 in
theorem kX1_print_82 {C : QC} {x : QP} {M : QM} {L : QL} {rest : List CV} {a0 : CV} {v : CV} {M1 : QM} {b : Nat} (hb : q_kd M b = (1, 14)) (hC : C iJ4_append_cf468 [qr b, a0] M (some v) M1) (hw : (rest.map q_wd).sum ≤ 8) (k : Rr C mX1_print (85, L, v :: rest, M1) x) : Rr C mX1_print (82, L, a0 :: qr b :: rest, M) x := g_cv (ow := 1) (e := (0, 154, 14, [1075, 1076, 1077, 91])) (as := [a0]) (show decode cX1_print 82 = .ok (.invokevirtual 35, 3) by decide +kernel) rfl rfl rfl (Or.inl rfl) rfl hb hC hw k
set_option maxRecDepth 20000 in
theorem kX1_print_85i {C : QC} {x : QP} {M : QM} {st : List CV} {L : QL} {a : Int} : Rr C mX1_print (85, L, qi a :: st, M) x = Rr C mX1_print (86, L, st, M) x := g_pl (show decode cX1_print 85 = .ok (.pop, 1) by decide +kernel) rfl
set_option maxRecDepth 20000 in
theorem kX1_print_85r {C : QC} {x : QP} {M : QM} {st : List CV} {L : QL} {a : Option Nat} : Rr C mX1_print (85, L, .inr (.inr a) :: st, M) x = Rr C mX1_print (86, L, st, M) x := g_pl (show decode cX1_print 85 = .ok (.pop, 1) by decide +kernel) rfl
set_option maxRecDepth 20000 in
theorem kX1_print_86 {C : QC} {x : QP} {M : QM} {st : List CV} {L : QL} {l0 l1 l2 l3 : Option CV} {r : Option Nat} : Rr C mX1_print (86, [l0, some (.inr (.inr r)), l2, l3], st, M) x = Rr C mX1_print (87, [l0, some (.inr (.inr r)), l2, l3], .inr (.inr r) :: st, M) x := g_pl (show decode cX1_print 86 = .ok (.aload_n 1, 1) by decide +kernel) rfl
set_option maxRecDepth 20000 in
theorem kX1_print_87 {C : QC} {x : QP} {M : QM} {st : List CV} {L : QL} {l0 l1 l2 l3 : Option CV} {r : Option Nat} : Rr C mX1_print (87, [some (.inr (.inr r)), l1, l2, l3], st, M) x = Rr C mX1_print (88, [some (.inr (.inr r)), l1, l2, l3], .inr (.inr r) :: st, M) x := g_pl (show decode cX1_print 87 = .ok (.aload_n 0, 1) by decide +kernel) rfl
set_option maxRecDepth 20000 in
theorem kX1_print_88 {C : QC} {x : QP} {M : QM} {st : List CV} {L : QL} {a : Nat} (hk : q_kd M a = (1, 1)) : Rr C mX1_print (88, L, qr a :: st, M) x = Rr C mX1_print (91, L, q_fv M a 2 :: st, M) x := g_getf (ow := 1) (e := (1, 2, RX1, 256, 0)) (show decode cX1_print 88 = .ok (.getfield 18, 3) by decide +kernel) rfl hk
set_option maxRecDepth 20000 in
theorem kX1_print_91 {C : QC} {x : QP} {M : QM} {st : List CV} {L : QL} {l0 l1 l2 l3 : Option CV} {z : Int} : Rr C mX1_print (91, [l0, l1, some (qi z), l3], st, M) x = Rr C mX1_print (92, [l0, l1, some (qi z), l3], qi z :: st, M) x := g_pl (show decode cX1_print 91 = .ok (.iload_n 2, 1) by decide +kernel) rfl
set_option maxRecDepth 20000 in
theorem kX1_print_92 {C : QC} {x : QP} {M : QM} {st : List CV} {L : QL} {a : Nat} {j : Int} (hk : (q_kd M a).1 = 2) (h0 : 0 ≤ j) (h1 : j < ((q_kd M a).2 : Int)) : Rr C mX1_print (92, L, qi j :: qr a :: st, M) x = Rr C mX1_print (93, L, q_fv M a j.toNat :: st, M) x := g_iald (show decode cX1_print 92 = .ok (.iaload, 1) by decide +kernel) hk h0 h1
set_option maxRecDepth 20000 in
theorem kX1_print_93 {C : QC} {x : QP} {M : QM} {L : QL} {rest : List CV} {a0 : CV} {v : CV} {M1 : QM} {b : Nat} (hb : q_kd M b = (1, 14)) (hC : C iJ4_append_bf812 [qr b, a0] M (some v) M1) (hw : (rest.map q_wd).sum ≤ 8) (k : Rr C mX1_print (96, L, v :: rest, M1) x) : Rr C mX1_print (93, L, a0 :: qr b :: rest, M) x := g_cv (ow := 1) (e := (0, 167, 14, [1156, 1157, 1158, 91])) (as := [a0]) (show decode cX1_print 93 = .ok (.invokevirtual 52, 3) by decide +kernel) rfl rfl rfl (Or.inl rfl) rfl hb hC hw k
set_option maxRecDepth 20000 in
theorem kX1_print_96i {C : QC} {x : QP} {M : QM} {st : List CV} {L : QL} {a : Int} : Rr C mX1_print (96, L, qi a :: st, M) x = Rr C mX1_print (97, L, st, M) x := g_pl (show decode cX1_print 96 = .ok (.pop, 1) by decide +kernel) rfl
set_option maxRecDepth 20000 in
theorem kX1_print_96r {C : QC} {x : QP} {M : QM} {st : List CV} {L : QL} {a : Option Nat} : Rr C mX1_print (96, L, .inr (.inr a) :: st, M) x = Rr C mX1_print (97, L, st, M) x := g_pl (show decode cX1_print 96 = .ok (.pop, 1) by decide +kernel) rfl
set_option maxRecDepth 20000 in
theorem kX1_print_97 {C : QC} {x : QP} {M : QM} {st : List CV} {L : QL} {l0 l1 l2 l3 : Option CV} {z : Int} : Rr C mX1_print (97, [l0, l1, some (qi z), l3], st, M) x = Rr C mX1_print (100, [l0, q_cut l1, some (qi (z + 1)), l3], st, M) x := g_pl (show decode cX1_print 97 = .ok (.iinc 2 1, 3) by decide +kernel) rfl
set_option maxRecDepth 20000 in
theorem kX1_print_100 {C : QC} {x : QP} {M : QM} {st : List CV} {L : QL} : Rr C mX1_print (100, L, st, M) x = Rr C mX1_print (2, L, st, M) x := g_pl (show decode cX1_print 100 = .ok (.goto (-98), 3) by decide +kernel) rfl
set_option maxRecDepth 20000 in
theorem kX1_print_103 {C : QC} {x : QP} {M : QM} {st : List CV} {L : QL} : Rr C mX1_print (103, L, [], M) x = x none M := g_vret (show decode cX1_print 103 = .ok (.return_, 1) by decide +kernel)
set_option maxRecDepth 20000 in
theorem eX1_print {d : Nat} {M : QM} {x : QP} {a : Nat} {v0 : Option Nat} : q_T (d + 1) iX1_print [qr a, .inr (.inr v0)] M x = Rr (q_C d) mX1_print (0, [some (qr a), some (.inr (.inr v0)), none, none], [], M) x := g_entryT (e := _) rfl (Nat.le_of_ble_eq_true rfl) rfl rfl
def mX1_parentOn : QI := (1, cX1_parentOn, false, some .int)
set_option maxRecDepth 20000 in
theorem kX1_parentOn_0 {C : QC} {x : QP} {M : QM} {st : List CV} {L : QL} : Rr C mX1_parentOn (0, L, st, M) x = Rr C mX1_parentOn (1, L, qi 0 :: st, M) x := g_pl (show decode cX1_parentOn 0 = .ok (.iconst 0, 1) by decide +kernel) rfl
set_option maxRecDepth 20000 in
theorem kX1_parentOn_1 {C : QC} {x : QP} {M : QM} {st : List CV} {L : QL} {l0 l1 l2 l3 l4 : Option CV} {z : Int} : Rr C mX1_parentOn (1, [l0, l1, l2, l3, l4], qi z :: st, M) x = Rr C mX1_parentOn (2, [l0, l1, q_cut l2, some (qi z), l4], st, M) x := g_pl (show decode cX1_parentOn 1 = .ok (.istore_n 3, 1) by decide +kernel) rfl
set_option maxRecDepth 20000 in
theorem kX1_parentOn_2 {C : QC} {x : QP} {M : QM} {st : List CV} {L : QL} : Rr C mX1_parentOn (2, L, st, M) x = Rr C mX1_parentOn (3, L, qi 0 :: st, M) x := g_pl (show decode cX1_parentOn 2 = .ok (.iconst 0, 1) by decide +kernel) rfl
set_option maxRecDepth 20000 in
theorem kX1_parentOn_3 {C : QC} {x : QP} {M : QM} {st : List CV} {L : QL} {l0 l1 l2 l3 l4 : Option CV} {z : Int} : Rr C mX1_parentOn (3, [l0, l1, l2, l3, l4], qi z :: st, M) x = Rr C mX1_parentOn (5, [l0, l1, l2, q_cut l3, some (qi z)], st, M) x := g_pl (show decode cX1_parentOn 3 = .ok (.istore 4, 2) by decide +kernel) rfl
set_option maxRecDepth 20000 in
theorem kX1_parentOn_5 {C : QC} {x : QP} {M : QM} {st : List CV} {L : QL} {l0 l1 l2 l3 l4 : Option CV} {z : Int} : Rr C mX1_parentOn (5, [l0, l1, l2, l3, some (qi z)], st, M) x = Rr C mX1_parentOn (7, [l0, l1, l2, l3, some (qi z)], qi z :: st, M) x := g_pl (show decode cX1_parentOn 5 = .ok (.iload 4, 2) by decide +kernel) rfl
set_option maxRecDepth 20000 in
theorem kX1_parentOn_7 {C : QC} {x : QP} {M : QM} {st : List CV} {L : QL} {l0 l1 l2 l3 l4 : Option CV} {r : Option Nat} : Rr C mX1_parentOn (7, [some (.inr (.inr r)), l1, l2, l3, l4], st, M) x = Rr C mX1_parentOn (8, [some (.inr (.inr r)), l1, l2, l3, l4], .inr (.inr r) :: st, M) x := g_pl (show decode cX1_parentOn 7 = .ok (.aload_n 0, 1) by decide +kernel) rfl
set_option maxRecDepth 20000 in
theorem kX1_parentOn_8 {C : QC} {x : QP} {M : QM} {L : QL} {rest : List CV} {v : CV} {M1 : QM} {b : Nat} (hb : q_kd M b = (1, 1)) (hC : C iX1_kept [qr b] M (some v) M1) (hw : (rest.map q_wd).sum ≤ 8) (k : Rr C mX1_parentOn (11, L, v :: rest, M1) x) : Rr C mX1_parentOn (8, L, qr b :: rest, M) x := g_cv (ow := 1) (e := (0, 122, 1, [938, 930, 931, 88])) (as := []) (show decode cX1_parentOn 8 = .ok (.invokevirtual 31, 3) by decide +kernel) rfl rfl rfl (Or.inl rfl) rfl hb hC hw k
set_option maxRecDepth 20000 in
theorem kX1_parentOn_11 {C : QC} {x : QP} {M : QM} {st : List CV} {L : QL} {a b : Int} (ha1 : -2147483648 ≤ a) (ha2 : a < 2147483648) (hb1 : -2147483648 ≤ b) (hb2 : b < 2147483648) : Rr C mX1_parentOn (11, L, qi b :: qi a :: st, M) x = (if a < b then Rr C mX1_parentOn (14, L, st, M) x else Rr C mX1_parentOn (193, L, st, M) x) := (g_icmp (show decode cX1_parentOn 11 = .ok (.if_icmp .ge 182, 3) by decide +kernel) rfl ha1 ha2 hb1 hb2).trans (g_itn c_ge)
set_option maxRecDepth 20000 in
theorem kX1_parentOn_14 {C : QC} {x : QP} {M : QM} {st : List CV} {L : QL} {l0 l1 l2 l3 l4 : Option CV} {r : Option Nat} : Rr C mX1_parentOn (14, [some (.inr (.inr r)), l1, l2, l3, l4], st, M) x = Rr C mX1_parentOn (15, [some (.inr (.inr r)), l1, l2, l3, l4], .inr (.inr r) :: st, M) x := g_pl (show decode cX1_parentOn 14 = .ok (.aload_n 0, 1) by decide +kernel) rfl
set_option maxRecDepth 20000 in
theorem kX1_parentOn_15 {C : QC} {x : QP} {M : QM} {st : List CV} {L : QL} {a : Nat} (hk : q_kd M a = (1, 1)) : Rr C mX1_parentOn (15, L, qr a :: st, M) x = Rr C mX1_parentOn (18, L, q_fv M a 1 :: st, M) x := g_getf (ow := 1) (e := (1, 1, RX1, 255, 0)) (show decode cX1_parentOn 15 = .ok (.getfield 15, 3) by decide +kernel) rfl hk
set_option maxRecDepth 20000 in
theorem kX1_parentOn_18 {C : QC} {x : QP} {M : QM} {st : List CV} {L : QL} {l0 l1 l2 l3 l4 : Option CV} {z : Int} : Rr C mX1_parentOn (18, [l0, l1, l2, l3, some (qi z)], st, M) x = Rr C mX1_parentOn (20, [l0, l1, l2, l3, some (qi z)], qi z :: st, M) x := g_pl (show decode cX1_parentOn 18 = .ok (.iload 4, 2) by decide +kernel) rfl
set_option maxRecDepth 20000 in
theorem kX1_parentOn_20 {C : QC} {x : QP} {M : QM} {st : List CV} {L : QL} {a : Nat} {j : Int} (hk : (q_kd M a).1 = 2) (h0 : 0 ≤ j) (h1 : j < ((q_kd M a).2 : Int)) : Rr C mX1_parentOn (20, L, qi j :: qr a :: st, M) x = Rr C mX1_parentOn (21, L, q_fv M a j.toNat :: st, M) x := g_iald (show decode cX1_parentOn 20 = .ok (.iaload, 1) by decide +kernel) hk h0 h1
set_option maxRecDepth 20000 in
theorem kX1_parentOn_21 {C : QC} {x : QP} {M : QM} {st : List CV} {L : QL} {a : Int} (ha1 : -2147483648 ≤ a) (ha2 : a < 2147483648) : Rr C mX1_parentOn (21, L, qi a :: st, M) x = (if a = 0 then Rr C mX1_parentOn (72, L, st, M) x else if a = 1 then Rr C mX1_parentOn (187, L, st, M) x else if a = 2 then Rr C mX1_parentOn (110, L, st, M) x else if a = 3 then Rr C mX1_parentOn (163, L, st, M) x else if a = 4 then Rr C mX1_parentOn (163, L, st, M) x else if a = 5 then Rr C mX1_parentOn (187, L, st, M) x else if a = 6 then Rr C mX1_parentOn (187, L, st, M) x else if a = 7 then Rr C mX1_parentOn (187, L, st, M) x else if a = 8 then Rr C mX1_parentOn (131, L, st, M) x else Rr C mX1_parentOn (187, L, st, M) x) := by
  by_cases h0 : a = 0
  · subst h0; rw [if_pos rfl]; exact g_tsI (show decode cX1_parentOn 21 = .ok (.tableswitch 166 0 8 #[51, 166, 89, 142, 142, 166, 166, 166, 110], 51) by decide +kernel) (by decide) (by decide) rfl rfl
  rw [if_neg h0]
  by_cases h1 : a = 1
  · subst h1; rw [if_pos rfl]; exact g_tsI (show decode cX1_parentOn 21 = .ok (.tableswitch 166 0 8 #[51, 166, 89, 142, 142, 166, 166, 166, 110], 51) by decide +kernel) (by decide) (by decide) rfl rfl
  rw [if_neg h1]
  by_cases h2 : a = 2
  · subst h2; rw [if_pos rfl]; exact g_tsI (show decode cX1_parentOn 21 = .ok (.tableswitch 166 0 8 #[51, 166, 89, 142, 142, 166, 166, 166, 110], 51) by decide +kernel) (by decide) (by decide) rfl rfl
  rw [if_neg h2]
  by_cases h3 : a = 3
  · subst h3; rw [if_pos rfl]; exact g_tsI (show decode cX1_parentOn 21 = .ok (.tableswitch 166 0 8 #[51, 166, 89, 142, 142, 166, 166, 166, 110], 51) by decide +kernel) (by decide) (by decide) rfl rfl
  rw [if_neg h3]
  by_cases h4 : a = 4
  · subst h4; rw [if_pos rfl]; exact g_tsI (show decode cX1_parentOn 21 = .ok (.tableswitch 166 0 8 #[51, 166, 89, 142, 142, 166, 166, 166, 110], 51) by decide +kernel) (by decide) (by decide) rfl rfl
  rw [if_neg h4]
  by_cases h5 : a = 5
  · subst h5; rw [if_pos rfl]; exact g_tsI (show decode cX1_parentOn 21 = .ok (.tableswitch 166 0 8 #[51, 166, 89, 142, 142, 166, 166, 166, 110], 51) by decide +kernel) (by decide) (by decide) rfl rfl
  rw [if_neg h5]
  by_cases h6 : a = 6
  · subst h6; rw [if_pos rfl]; exact g_tsI (show decode cX1_parentOn 21 = .ok (.tableswitch 166 0 8 #[51, 166, 89, 142, 142, 166, 166, 166, 110], 51) by decide +kernel) (by decide) (by decide) rfl rfl
  rw [if_neg h6]
  by_cases h7 : a = 7
  · subst h7; rw [if_pos rfl]; exact g_tsI (show decode cX1_parentOn 21 = .ok (.tableswitch 166 0 8 #[51, 166, 89, 142, 142, 166, 166, 166, 110], 51) by decide +kernel) (by decide) (by decide) rfl rfl
  rw [if_neg h7]
  by_cases h8 : a = 8
  · subst h8; rw [if_pos rfl]; exact g_tsI (show decode cX1_parentOn 21 = .ok (.tableswitch 166 0 8 #[51, 166, 89, 142, 142, 166, 166, 166, 110], 51) by decide +kernel) (by decide) (by decide) rfl rfl
  rw [if_neg h8]
  exact g_tsO (show decode cX1_parentOn 21 = .ok (.tableswitch 166 0 8 #[51, 166, 89, 142, 142, 166, 166, 166, 110], 51) by decide +kernel) ⟨ha1, ha2⟩ (by omega) rfl
set_option maxRecDepth 20000 in
theorem kX1_parentOn_72 {C : QC} {x : QP} {M : QM} {st : List CV} {L : QL} {l0 l1 l2 l3 l4 : Option CV} {r : Option Nat} : Rr C mX1_parentOn (72, [some (.inr (.inr r)), l1, l2, l3, l4], st, M) x = Rr C mX1_parentOn (73, [some (.inr (.inr r)), l1, l2, l3, l4], .inr (.inr r) :: st, M) x := g_pl (show decode cX1_parentOn 72 = .ok (.aload_n 0, 1) by decide +kernel) rfl
set_option maxRecDepth 20000 in
theorem kX1_parentOn_73 {C : QC} {x : QP} {M : QM} {st : List CV} {L : QL} {a : Nat} (hk : q_kd M a = (1, 1)) : Rr C mX1_parentOn (73, L, qr a :: st, M) x = Rr C mX1_parentOn (76, L, q_fv M a 0 :: st, M) x := g_getf (ow := 1) (e := (1, 0, RX1, 254, 0)) (show decode cX1_parentOn 73 = .ok (.getfield 9, 3) by decide +kernel) rfl hk
set_option maxRecDepth 20000 in
theorem kX1_parentOn_76 {C : QC} {x : QP} {M : QM} {st : List CV} {L : QL} {l0 l1 l2 l3 l4 : Option CV} {z : Int} : Rr C mX1_parentOn (76, [l0, l1, l2, l3, some (qi z)], st, M) x = Rr C mX1_parentOn (78, [l0, l1, l2, l3, some (qi z)], qi z :: st, M) x := g_pl (show decode cX1_parentOn 76 = .ok (.iload 4, 2) by decide +kernel) rfl
set_option maxRecDepth 20000 in
theorem kX1_parentOn_78 {C : QC} {x : QP} {M : QM} {st : List CV} {L : QL} {a : Nat} {j : Int} (hk : (q_kd M a).1 = 2) (h0 : 0 ≤ j) (h1 : j < ((q_kd M a).2 : Int)) : Rr C mX1_parentOn (78, L, qi j :: qr a :: st, M) x = Rr C mX1_parentOn (79, L, q_fv M a j.toNat :: st, M) x := g_iald (show decode cX1_parentOn 78 = .ok (.iaload, 1) by decide +kernel) hk h0 h1
set_option maxRecDepth 20000 in
theorem kX1_parentOn_79 {C : QC} {x : QP} {M : QM} {st : List CV} {L : QL} {l0 l1 l2 l3 l4 : Option CV} {z : Int} : Rr C mX1_parentOn (79, [l0, some (qi z), l2, l3, l4], st, M) x = Rr C mX1_parentOn (80, [l0, some (qi z), l2, l3, l4], qi z :: st, M) x := g_pl (show decode cX1_parentOn 79 = .ok (.iload_n 1, 1) by decide +kernel) rfl
set_option maxRecDepth 20000 in
theorem kX1_parentOn_80 {C : QC} {x : QP} {M : QM} {st : List CV} {L : QL} {a b : Int} (ha1 : -2147483648 ≤ a) (ha2 : a < 2147483648) (hb1 : -2147483648 ≤ b) (hb2 : b < 2147483648) : Rr C mX1_parentOn (80, L, qi b :: qi a :: st, M) x = (if b < a then Rr C mX1_parentOn (87, L, st, M) x else Rr C mX1_parentOn (83, L, st, M) x) := (g_icmp (show decode cX1_parentOn 80 = .ok (.if_icmp .gt 7, 3) by decide +kernel) rfl ha1 ha2 hb1 hb2).trans (g_ite c_gt)
set_option maxRecDepth 20000 in
theorem kX1_parentOn_83 {C : QC} {x : QP} {M : QM} {st : List CV} {L : QL} : Rr C mX1_parentOn (83, L, st, M) x = Rr C mX1_parentOn (84, L, qi 1 :: st, M) x := g_pl (show decode cX1_parentOn 83 = .ok (.iconst 1, 1) by decide +kernel) rfl
set_option maxRecDepth 20000 in
theorem kX1_parentOn_84 {C : QC} {x : QP} {M : QM} {st : List CV} {L : QL} : Rr C mX1_parentOn (84, L, st, M) x = Rr C mX1_parentOn (88, L, st, M) x := g_pl (show decode cX1_parentOn 84 = .ok (.goto 4, 3) by decide +kernel) rfl
set_option maxRecDepth 20000 in
theorem kX1_parentOn_87 {C : QC} {x : QP} {M : QM} {st : List CV} {L : QL} : Rr C mX1_parentOn (87, L, st, M) x = Rr C mX1_parentOn (88, L, qi 0 :: st, M) x := g_pl (show decode cX1_parentOn 87 = .ok (.iconst 0, 1) by decide +kernel) rfl
set_option maxRecDepth 20000 in
theorem kX1_parentOn_88 {C : QC} {x : QP} {M : QM} {st : List CV} {L : QL} {l0 l1 l2 l3 l4 : Option CV} {z : Int} : Rr C mX1_parentOn (88, [l0, l1, l2, l3, l4], qi z :: st, M) x = Rr C mX1_parentOn (89, [l0, l1, q_cut l2, some (qi z), l4], st, M) x := g_pl (show decode cX1_parentOn 88 = .ok (.istore_n 3, 1) by decide +kernel) rfl
set_option maxRecDepth 20000 in
theorem kX1_parentOn_89 {C : QC} {x : QP} {M : QM} {st : List CV} {L : QL} {l0 l1 l2 l3 l4 : Option CV} {r : Option Nat} : Rr C mX1_parentOn (89, [l0, l1, some (.inr (.inr r)), l3, l4], st, M) x = Rr C mX1_parentOn (90, [l0, l1, some (.inr (.inr r)), l3, l4], .inr (.inr r) :: st, M) x := g_pl (show decode cX1_parentOn 89 = .ok (.aload_n 2, 1) by decide +kernel) rfl
set_option maxRecDepth 20000 in
theorem kX1_parentOn_90 {C : QC} {x : QP} {M : QM} {st : List CV} {L : QL} {l0 l1 l2 l3 l4 : Option CV} {r : Option Nat} : Rr C mX1_parentOn (90, [some (.inr (.inr r)), l1, l2, l3, l4], st, M) x = Rr C mX1_parentOn (91, [some (.inr (.inr r)), l1, l2, l3, l4], .inr (.inr r) :: st, M) x := g_pl (show decode cX1_parentOn 90 = .ok (.aload_n 0, 1) by decide +kernel) rfl
set_option maxRecDepth 20000 in
theorem kX1_parentOn_91 {C : QC} {x : QP} {M : QM} {st : List CV} {L : QL} {a : Nat} (hk : q_kd M a = (1, 1)) : Rr C mX1_parentOn (91, L, qr a :: st, M) x = Rr C mX1_parentOn (94, L, q_fv M a 0 :: st, M) x := g_getf (ow := 1) (e := (1, 0, RX1, 254, 0)) (show decode cX1_parentOn 91 = .ok (.getfield 9, 3) by decide +kernel) rfl hk
set_option maxRecDepth 20000 in
theorem kX1_parentOn_94 {C : QC} {x : QP} {M : QM} {st : List CV} {L : QL} {l0 l1 l2 l3 l4 : Option CV} {z : Int} : Rr C mX1_parentOn (94, [l0, l1, l2, l3, some (qi z)], st, M) x = Rr C mX1_parentOn (96, [l0, l1, l2, l3, some (qi z)], qi z :: st, M) x := g_pl (show decode cX1_parentOn 94 = .ok (.iload 4, 2) by decide +kernel) rfl
set_option maxRecDepth 20000 in
theorem kX1_parentOn_96 {C : QC} {x : QP} {M : QM} {st : List CV} {L : QL} {a : Nat} {j : Int} (hk : (q_kd M a).1 = 2) (h0 : 0 ≤ j) (h1 : j < ((q_kd M a).2 : Int)) : Rr C mX1_parentOn (96, L, qi j :: qr a :: st, M) x = Rr C mX1_parentOn (97, L, q_fv M a j.toNat :: st, M) x := g_iald (show decode cX1_parentOn 96 = .ok (.iaload, 1) by decide +kernel) hk h0 h1
set_option maxRecDepth 20000 in
theorem kX1_parentOn_97 {C : QC} {x : QP} {M : QM} {st : List CV} {L : QL} {l0 l1 l2 l3 l4 : Option CV} {r : Option Nat} : Rr C mX1_parentOn (97, [some (.inr (.inr r)), l1, l2, l3, l4], st, M) x = Rr C mX1_parentOn (98, [some (.inr (.inr r)), l1, l2, l3, l4], .inr (.inr r) :: st, M) x := g_pl (show decode cX1_parentOn 97 = .ok (.aload_n 0, 1) by decide +kernel) rfl
set_option maxRecDepth 20000 in
theorem kX1_parentOn_98 {C : QC} {x : QP} {M : QM} {st : List CV} {L : QL} {a : Nat} (hk : q_kd M a = (1, 1)) : Rr C mX1_parentOn (98, L, qr a :: st, M) x = Rr C mX1_parentOn (101, L, q_fv M a 2 :: st, M) x := g_getf (ow := 1) (e := (1, 2, RX1, 256, 0)) (show decode cX1_parentOn 98 = .ok (.getfield 18, 3) by decide +kernel) rfl hk
set_option maxRecDepth 20000 in
theorem kX1_parentOn_101 {C : QC} {x : QP} {M : QM} {st : List CV} {L : QL} {l0 l1 l2 l3 l4 : Option CV} {z : Int} : Rr C mX1_parentOn (101, [l0, l1, l2, l3, some (qi z)], st, M) x = Rr C mX1_parentOn (103, [l0, l1, l2, l3, some (qi z)], qi z :: st, M) x := g_pl (show decode cX1_parentOn 101 = .ok (.iload 4, 2) by decide +kernel) rfl
set_option maxRecDepth 20000 in
theorem kX1_parentOn_103 {C : QC} {x : QP} {M : QM} {st : List CV} {L : QL} {a : Nat} {j : Int} (hk : (q_kd M a).1 = 2) (h0 : 0 ≤ j) (h1 : j < ((q_kd M a).2 : Int)) : Rr C mX1_parentOn (103, L, qi j :: qr a :: st, M) x = Rr C mX1_parentOn (104, L, q_fv M a j.toNat :: st, M) x := g_iald (show decode cX1_parentOn 103 = .ok (.iaload, 1) by decide +kernel) hk h0 h1
set_option maxRecDepth 20000 in
theorem kX1_parentOn_104 {C : QC} {x : QP} {M : QM} {L : QL} {rest : List CV} {a0 a1 : CV} {M1 : QM} {b : Nat} (hb : q_kd M b = (1, 9)) (hC : C iX9_begin [qr b, a0, a1] M none M1) (hw : (rest.map q_wd).sum ≤ 8) (k : Rr C mX1_parentOn (107, L, rest, M1) x) : Rr C mX1_parentOn (104, L, a1 :: a0 :: qr b :: rest, M) x := g_cv (ow := 1) (e := (0, 57, 9, [955, 642, 643, 87])) (as := [a0, a1]) (show decode cX1_parentOn 104 = .ok (.invokevirtual 55, 3) by decide +kernel) rfl rfl rfl (Or.inl rfl) rfl hb hC hw k
set_option maxRecDepth 20000 in
theorem kX1_parentOn_107 {C : QC} {x : QP} {M : QM} {st : List CV} {L : QL} : Rr C mX1_parentOn (107, L, st, M) x = Rr C mX1_parentOn (187, L, st, M) x := g_pl (show decode cX1_parentOn 107 = .ok (.goto 80, 3) by decide +kernel) rfl
set_option maxRecDepth 20000 in
theorem kX1_parentOn_110 {C : QC} {x : QP} {M : QM} {st : List CV} {L : QL} {l0 l1 l2 l3 l4 : Option CV} {r : Option Nat} : Rr C mX1_parentOn (110, [l0, l1, some (.inr (.inr r)), l3, l4], st, M) x = Rr C mX1_parentOn (111, [l0, l1, some (.inr (.inr r)), l3, l4], .inr (.inr r) :: st, M) x := g_pl (show decode cX1_parentOn 110 = .ok (.aload_n 2, 1) by decide +kernel) rfl
set_option maxRecDepth 20000 in
theorem kX1_parentOn_111 {C : QC} {x : QP} {M : QM} {st : List CV} {L : QL} {l0 l1 l2 l3 l4 : Option CV} {r : Option Nat} : Rr C mX1_parentOn (111, [some (.inr (.inr r)), l1, l2, l3, l4], st, M) x = Rr C mX1_parentOn (112, [some (.inr (.inr r)), l1, l2, l3, l4], .inr (.inr r) :: st, M) x := g_pl (show decode cX1_parentOn 111 = .ok (.aload_n 0, 1) by decide +kernel) rfl
set_option maxRecDepth 20000 in
theorem kX1_parentOn_112 {C : QC} {x : QP} {M : QM} {st : List CV} {L : QL} {a : Nat} (hk : q_kd M a = (1, 1)) : Rr C mX1_parentOn (112, L, qr a :: st, M) x = Rr C mX1_parentOn (115, L, q_fv M a 0 :: st, M) x := g_getf (ow := 1) (e := (1, 0, RX1, 254, 0)) (show decode cX1_parentOn 112 = .ok (.getfield 9, 3) by decide +kernel) rfl hk
set_option maxRecDepth 20000 in
theorem kX1_parentOn_115 {C : QC} {x : QP} {M : QM} {st : List CV} {L : QL} {l0 l1 l2 l3 l4 : Option CV} {z : Int} : Rr C mX1_parentOn (115, [l0, l1, l2, l3, some (qi z)], st, M) x = Rr C mX1_parentOn (117, [l0, l1, l2, l3, some (qi z)], qi z :: st, M) x := g_pl (show decode cX1_parentOn 115 = .ok (.iload 4, 2) by decide +kernel) rfl
set_option maxRecDepth 20000 in
theorem kX1_parentOn_117 {C : QC} {x : QP} {M : QM} {st : List CV} {L : QL} {a : Nat} {j : Int} (hk : (q_kd M a).1 = 2) (h0 : 0 ≤ j) (h1 : j < ((q_kd M a).2 : Int)) : Rr C mX1_parentOn (117, L, qi j :: qr a :: st, M) x = Rr C mX1_parentOn (118, L, q_fv M a j.toNat :: st, M) x := g_iald (show decode cX1_parentOn 117 = .ok (.iaload, 1) by decide +kernel) hk h0 h1
set_option maxRecDepth 20000 in
theorem kX1_parentOn_118 {C : QC} {x : QP} {M : QM} {st : List CV} {L : QL} {l0 l1 l2 l3 l4 : Option CV} {r : Option Nat} : Rr C mX1_parentOn (118, [some (.inr (.inr r)), l1, l2, l3, l4], st, M) x = Rr C mX1_parentOn (119, [some (.inr (.inr r)), l1, l2, l3, l4], .inr (.inr r) :: st, M) x := g_pl (show decode cX1_parentOn 118 = .ok (.aload_n 0, 1) by decide +kernel) rfl
set_option maxRecDepth 20000 in
theorem kX1_parentOn_119 {C : QC} {x : QP} {M : QM} {st : List CV} {L : QL} {a : Nat} (hk : q_kd M a = (1, 1)) : Rr C mX1_parentOn (119, L, qr a :: st, M) x = Rr C mX1_parentOn (122, L, q_fv M a 2 :: st, M) x := g_getf (ow := 1) (e := (1, 2, RX1, 256, 0)) (show decode cX1_parentOn 119 = .ok (.getfield 18, 3) by decide +kernel) rfl hk
set_option maxRecDepth 20000 in
theorem kX1_parentOn_122 {C : QC} {x : QP} {M : QM} {st : List CV} {L : QL} {l0 l1 l2 l3 l4 : Option CV} {z : Int} : Rr C mX1_parentOn (122, [l0, l1, l2, l3, some (qi z)], st, M) x = Rr C mX1_parentOn (124, [l0, l1, l2, l3, some (qi z)], qi z :: st, M) x := g_pl (show decode cX1_parentOn 122 = .ok (.iload 4, 2) by decide +kernel) rfl
set_option maxRecDepth 20000 in
theorem kX1_parentOn_124 {C : QC} {x : QP} {M : QM} {st : List CV} {L : QL} {a : Nat} {j : Int} (hk : (q_kd M a).1 = 2) (h0 : 0 ≤ j) (h1 : j < ((q_kd M a).2 : Int)) : Rr C mX1_parentOn (124, L, qi j :: qr a :: st, M) x = Rr C mX1_parentOn (125, L, q_fv M a j.toNat :: st, M) x := g_iald (show decode cX1_parentOn 124 = .ok (.iaload, 1) by decide +kernel) hk h0 h1
set_option maxRecDepth 20000 in
theorem kX1_parentOn_125 {C : QC} {x : QP} {M : QM} {L : QL} {rest : List CV} {a0 a1 : CV} {M1 : QM} {b : Nat} (hb : q_kd M b = (1, 9)) (hC : C iX9_put [qr b, a0, a1] M none M1) (hw : (rest.map q_wd).sum ≤ 8) (k : Rr C mX1_parentOn (128, L, rest, M1) x) : Rr C mX1_parentOn (125, L, a1 :: a0 :: qr b :: rest, M) x := g_cv (ow := 1) (e := (0, 74, 9, [956, 720, 721, 87])) (as := [a0, a1]) (show decode cX1_parentOn 125 = .ok (.invokevirtual 61, 3) by decide +kernel) rfl rfl rfl (Or.inl rfl) rfl hb hC hw k
set_option maxRecDepth 20000 in
theorem kX1_parentOn_128 {C : QC} {x : QP} {M : QM} {st : List CV} {L : QL} : Rr C mX1_parentOn (128, L, st, M) x = Rr C mX1_parentOn (187, L, st, M) x := g_pl (show decode cX1_parentOn 128 = .ok (.goto 59, 3) by decide +kernel) rfl
set_option maxRecDepth 20000 in
theorem kX1_parentOn_131 {C : QC} {x : QP} {M : QM} {st : List CV} {L : QL} {l0 l1 l2 l3 l4 : Option CV} {r : Option Nat} : Rr C mX1_parentOn (131, [l0, l1, some (.inr (.inr r)), l3, l4], st, M) x = Rr C mX1_parentOn (132, [l0, l1, some (.inr (.inr r)), l3, l4], .inr (.inr r) :: st, M) x := g_pl (show decode cX1_parentOn 131 = .ok (.aload_n 2, 1) by decide +kernel) rfl
set_option maxRecDepth 20000 in
theorem kX1_parentOn_132 {C : QC} {x : QP} {M : QM} {st : List CV} {L : QL} {l0 l1 l2 l3 l4 : Option CV} {r : Option Nat} : Rr C mX1_parentOn (132, [some (.inr (.inr r)), l1, l2, l3, l4], st, M) x = Rr C mX1_parentOn (133, [some (.inr (.inr r)), l1, l2, l3, l4], .inr (.inr r) :: st, M) x := g_pl (show decode cX1_parentOn 132 = .ok (.aload_n 0, 1) by decide +kernel) rfl
set_option maxRecDepth 20000 in
theorem kX1_parentOn_133 {C : QC} {x : QP} {M : QM} {st : List CV} {L : QL} {a : Nat} (hk : q_kd M a = (1, 1)) : Rr C mX1_parentOn (133, L, qr a :: st, M) x = Rr C mX1_parentOn (136, L, q_fv M a 0 :: st, M) x := g_getf (ow := 1) (e := (1, 0, RX1, 254, 0)) (show decode cX1_parentOn 133 = .ok (.getfield 9, 3) by decide +kernel) rfl hk
set_option maxRecDepth 20000 in
theorem kX1_parentOn_136 {C : QC} {x : QP} {M : QM} {st : List CV} {L : QL} {l0 l1 l2 l3 l4 : Option CV} {z : Int} : Rr C mX1_parentOn (136, [l0, l1, l2, l3, some (qi z)], st, M) x = Rr C mX1_parentOn (138, [l0, l1, l2, l3, some (qi z)], qi z :: st, M) x := g_pl (show decode cX1_parentOn 136 = .ok (.iload 4, 2) by decide +kernel) rfl
set_option maxRecDepth 20000 in
theorem kX1_parentOn_138 {C : QC} {x : QP} {M : QM} {st : List CV} {L : QL} {a : Nat} {j : Int} (hk : (q_kd M a).1 = 2) (h0 : 0 ≤ j) (h1 : j < ((q_kd M a).2 : Int)) : Rr C mX1_parentOn (138, L, qi j :: qr a :: st, M) x = Rr C mX1_parentOn (139, L, q_fv M a j.toNat :: st, M) x := g_iald (show decode cX1_parentOn 138 = .ok (.iaload, 1) by decide +kernel) hk h0 h1
set_option maxRecDepth 20000 in
theorem kX1_parentOn_139 {C : QC} {x : QP} {M : QM} {st : List CV} {L : QL} {l0 l1 l2 l3 l4 : Option CV} {r : Option Nat} : Rr C mX1_parentOn (139, [l0, l1, some (.inr (.inr r)), l3, l4], st, M) x = Rr C mX1_parentOn (140, [l0, l1, some (.inr (.inr r)), l3, l4], .inr (.inr r) :: st, M) x := g_pl (show decode cX1_parentOn 139 = .ok (.aload_n 2, 1) by decide +kernel) rfl
set_option maxRecDepth 20000 in
theorem kX1_parentOn_140 {C : QC} {x : QP} {M : QM} {st : List CV} {L : QL} {l0 l1 l2 l3 l4 : Option CV} {r : Option Nat} : Rr C mX1_parentOn (140, [some (.inr (.inr r)), l1, l2, l3, l4], st, M) x = Rr C mX1_parentOn (141, [some (.inr (.inr r)), l1, l2, l3, l4], .inr (.inr r) :: st, M) x := g_pl (show decode cX1_parentOn 140 = .ok (.aload_n 0, 1) by decide +kernel) rfl
set_option maxRecDepth 20000 in
theorem kX1_parentOn_141 {C : QC} {x : QP} {M : QM} {st : List CV} {L : QL} {a : Nat} (hk : q_kd M a = (1, 1)) : Rr C mX1_parentOn (141, L, qr a :: st, M) x = Rr C mX1_parentOn (144, L, q_fv M a 0 :: st, M) x := g_getf (ow := 1) (e := (1, 0, RX1, 254, 0)) (show decode cX1_parentOn 141 = .ok (.getfield 9, 3) by decide +kernel) rfl hk
set_option maxRecDepth 20000 in
theorem kX1_parentOn_144 {C : QC} {x : QP} {M : QM} {st : List CV} {L : QL} {l0 l1 l2 l3 l4 : Option CV} {z : Int} : Rr C mX1_parentOn (144, [l0, l1, l2, l3, some (qi z)], st, M) x = Rr C mX1_parentOn (146, [l0, l1, l2, l3, some (qi z)], qi z :: st, M) x := g_pl (show decode cX1_parentOn 144 = .ok (.iload 4, 2) by decide +kernel) rfl
set_option maxRecDepth 20000 in
theorem kX1_parentOn_146 {C : QC} {x : QP} {M : QM} {st : List CV} {L : QL} {a : Nat} {j : Int} (hk : (q_kd M a).1 = 2) (h0 : 0 ≤ j) (h1 : j < ((q_kd M a).2 : Int)) : Rr C mX1_parentOn (146, L, qi j :: qr a :: st, M) x = Rr C mX1_parentOn (147, L, q_fv M a j.toNat :: st, M) x := g_iald (show decode cX1_parentOn 146 = .ok (.iaload, 1) by decide +kernel) hk h0 h1
set_option maxRecDepth 20000 in
theorem kX1_parentOn_147 {C : QC} {x : QP} {M : QM} {L : QL} {rest : List CV} {a0 : CV} {v : CV} {M1 : QM} {b : Nat} (hb : q_kd M b = (1, 9)) (hC : C iX9_at [qr b, a0] M (some v) M1) (hw : (rest.map q_wd).sum ≤ 8) (k : Rr C mX1_parentOn (150, L, v :: rest, M1) x) : Rr C mX1_parentOn (147, L, a0 :: qr b :: rest, M) x := g_cv (ow := 1) (e := (0, 36, 9, [957, 526, 527, 87])) (as := [a0]) (show decode cX1_parentOn 147 = .ok (.invokevirtual 64, 3) by decide +kernel) rfl rfl rfl (Or.inl rfl) rfl hb hC hw k
set_option maxRecDepth 20000 in
theorem kX1_parentOn_150 {C : QC} {x : QP} {M : QM} {st : List CV} {L : QL} {l0 l1 l2 l3 l4 : Option CV} {r : Option Nat} : Rr C mX1_parentOn (150, [some (.inr (.inr r)), l1, l2, l3, l4], st, M) x = Rr C mX1_parentOn (151, [some (.inr (.inr r)), l1, l2, l3, l4], .inr (.inr r) :: st, M) x := g_pl (show decode cX1_parentOn 150 = .ok (.aload_n 0, 1) by decide +kernel) rfl
set_option maxRecDepth 20000 in
theorem kX1_parentOn_151 {C : QC} {x : QP} {M : QM} {st : List CV} {L : QL} {a : Nat} (hk : q_kd M a = (1, 1)) : Rr C mX1_parentOn (151, L, qr a :: st, M) x = Rr C mX1_parentOn (154, L, q_fv M a 2 :: st, M) x := g_getf (ow := 1) (e := (1, 2, RX1, 256, 0)) (show decode cX1_parentOn 151 = .ok (.getfield 18, 3) by decide +kernel) rfl hk
set_option maxRecDepth 20000 in
theorem kX1_parentOn_154 {C : QC} {x : QP} {M : QM} {st : List CV} {L : QL} {l0 l1 l2 l3 l4 : Option CV} {z : Int} : Rr C mX1_parentOn (154, [l0, l1, l2, l3, some (qi z)], st, M) x = Rr C mX1_parentOn (156, [l0, l1, l2, l3, some (qi z)], qi z :: st, M) x := g_pl (show decode cX1_parentOn 154 = .ok (.iload 4, 2) by decide +kernel) rfl
set_option maxRecDepth 20000 in
theorem kX1_parentOn_156 {C : QC} {x : QP} {M : QM} {st : List CV} {L : QL} {a : Nat} {j : Int} (hk : (q_kd M a).1 = 2) (h0 : 0 ≤ j) (h1 : j < ((q_kd M a).2 : Int)) : Rr C mX1_parentOn (156, L, qi j :: qr a :: st, M) x = Rr C mX1_parentOn (157, L, q_fv M a j.toNat :: st, M) x := g_iald (show decode cX1_parentOn 156 = .ok (.iaload, 1) by decide +kernel) hk h0 h1
set_option maxRecDepth 20000 in
theorem kX1_parentOn_157 {C : QC} {x : QP} {M : QM} {L : QL} {rest : List CV} {a0 a1 a2 : CV} {M1 : QM} {b : Nat} (hb : q_kd M b = (1, 9)) (hC : C iX9_replace [qr b, a0, a1, a2] M none M1) (hw : (rest.map q_wd).sum ≤ 8) (k : Rr C mX1_parentOn (160, L, rest, M1) x) : Rr C mX1_parentOn (157, L, a2 :: a1 :: a0 :: qr b :: rest, M) x := g_cv (ow := 1) (e := (0, 78, 9, [958, 738, 739, 87])) (as := [a0, a1, a2]) (show decode cX1_parentOn 157 = .ok (.invokevirtual 68, 3) by decide +kernel) rfl rfl rfl (Or.inl rfl) rfl hb hC hw k
set_option maxRecDepth 20000 in
theorem kX1_parentOn_160 {C : QC} {x : QP} {M : QM} {st : List CV} {L : QL} : Rr C mX1_parentOn (160, L, st, M) x = Rr C mX1_parentOn (187, L, st, M) x := g_pl (show decode cX1_parentOn 160 = .ok (.goto 27, 3) by decide +kernel) rfl
set_option maxRecDepth 20000 in
theorem kX1_parentOn_163 {C : QC} {x : QP} {M : QM} {st : List CV} {L : QL} {l0 l1 l2 l3 l4 : Option CV} {z : Int} : Rr C mX1_parentOn (163, [l0, l1, l2, some (qi z), l4], st, M) x = Rr C mX1_parentOn (164, [l0, l1, l2, some (qi z), l4], qi z :: st, M) x := g_pl (show decode cX1_parentOn 163 = .ok (.iload_n 3, 1) by decide +kernel) rfl
set_option maxRecDepth 20000 in
theorem kX1_parentOn_164 {C : QC} {x : QP} {M : QM} {st : List CV} {L : QL} {a : Int} (ha1 : -2147483648 ≤ a) (ha2 : a < 2147483648) : Rr C mX1_parentOn (164, L, qi a :: st, M) x = (if a = 0 then Rr C mX1_parentOn (182, L, st, M) x else Rr C mX1_parentOn (167, L, st, M) x) := (g_if (show decode cX1_parentOn 164 = .ok (.ifCond .eq 18, 3) by decide +kernel) rfl ha1 ha2).trans (g_ite c_eq)
set_option maxRecDepth 20000 in
theorem kX1_parentOn_167 {C : QC} {x : QP} {M : QM} {st : List CV} {L : QL} {l0 l1 l2 l3 l4 : Option CV} {z : Int} : Rr C mX1_parentOn (167, [l0, some (qi z), l2, l3, l4], st, M) x = Rr C mX1_parentOn (168, [l0, some (qi z), l2, l3, l4], qi z :: st, M) x := g_pl (show decode cX1_parentOn 167 = .ok (.iload_n 1, 1) by decide +kernel) rfl
set_option maxRecDepth 20000 in
theorem kX1_parentOn_168 {C : QC} {x : QP} {M : QM} {st : List CV} {L : QL} {l0 l1 l2 l3 l4 : Option CV} {r : Option Nat} : Rr C mX1_parentOn (168, [some (.inr (.inr r)), l1, l2, l3, l4], st, M) x = Rr C mX1_parentOn (169, [some (.inr (.inr r)), l1, l2, l3, l4], .inr (.inr r) :: st, M) x := g_pl (show decode cX1_parentOn 168 = .ok (.aload_n 0, 1) by decide +kernel) rfl
set_option maxRecDepth 20000 in
theorem kX1_parentOn_169 {C : QC} {x : QP} {M : QM} {st : List CV} {L : QL} {a : Nat} (hk : q_kd M a = (1, 1)) : Rr C mX1_parentOn (169, L, qr a :: st, M) x = Rr C mX1_parentOn (172, L, q_fv M a 0 :: st, M) x := g_getf (ow := 1) (e := (1, 0, RX1, 254, 0)) (show decode cX1_parentOn 169 = .ok (.getfield 9, 3) by decide +kernel) rfl hk
set_option maxRecDepth 20000 in
theorem kX1_parentOn_172 {C : QC} {x : QP} {M : QM} {st : List CV} {L : QL} {l0 l1 l2 l3 l4 : Option CV} {z : Int} : Rr C mX1_parentOn (172, [l0, l1, l2, l3, some (qi z)], st, M) x = Rr C mX1_parentOn (174, [l0, l1, l2, l3, some (qi z)], qi z :: st, M) x := g_pl (show decode cX1_parentOn 172 = .ok (.iload 4, 2) by decide +kernel) rfl
set_option maxRecDepth 20000 in
theorem kX1_parentOn_174 {C : QC} {x : QP} {M : QM} {st : List CV} {L : QL} {a : Nat} {j : Int} (hk : (q_kd M a).1 = 2) (h0 : 0 ≤ j) (h1 : j < ((q_kd M a).2 : Int)) : Rr C mX1_parentOn (174, L, qi j :: qr a :: st, M) x = Rr C mX1_parentOn (175, L, q_fv M a j.toNat :: st, M) x := g_iald (show decode cX1_parentOn 174 = .ok (.iaload, 1) by decide +kernel) hk h0 h1
set_option maxRecDepth 20000 in
theorem kX1_parentOn_175 {C : QC} {x : QP} {M : QM} {st : List CV} {L : QL} {a b : Int} (ha1 : -2147483648 ≤ a) (ha2 : a < 2147483648) (hb1 : -2147483648 ≤ b) (hb2 : b < 2147483648) : Rr C mX1_parentOn (175, L, qi b :: qi a :: st, M) x = (if a < b then Rr C mX1_parentOn (178, L, st, M) x else Rr C mX1_parentOn (182, L, st, M) x) := (g_icmp (show decode cX1_parentOn 175 = .ok (.if_icmp .ge 7, 3) by decide +kernel) rfl ha1 ha2 hb1 hb2).trans (g_itn c_ge)
set_option maxRecDepth 20000 in
theorem kX1_parentOn_178 {C : QC} {x : QP} {M : QM} {st : List CV} {L : QL} : Rr C mX1_parentOn (178, L, st, M) x = Rr C mX1_parentOn (179, L, qi 1 :: st, M) x := g_pl (show decode cX1_parentOn 178 = .ok (.iconst 1, 1) by decide +kernel) rfl
set_option maxRecDepth 20000 in
theorem kX1_parentOn_179 {C : QC} {x : QP} {M : QM} {st : List CV} {L : QL} : Rr C mX1_parentOn (179, L, st, M) x = Rr C mX1_parentOn (183, L, st, M) x := g_pl (show decode cX1_parentOn 179 = .ok (.goto 4, 3) by decide +kernel) rfl
set_option maxRecDepth 20000 in
theorem kX1_parentOn_182 {C : QC} {x : QP} {M : QM} {st : List CV} {L : QL} : Rr C mX1_parentOn (182, L, st, M) x = Rr C mX1_parentOn (183, L, qi 0 :: st, M) x := g_pl (show decode cX1_parentOn 182 = .ok (.iconst 0, 1) by decide +kernel) rfl
set_option maxRecDepth 20000 in
theorem kX1_parentOn_183 {C : QC} {x : QP} {M : QM} {st : List CV} {L : QL} {l0 l1 l2 l3 l4 : Option CV} {z : Int} : Rr C mX1_parentOn (183, [l0, l1, l2, l3, l4], qi z :: st, M) x = Rr C mX1_parentOn (184, [l0, l1, q_cut l2, some (qi z), l4], st, M) x := g_pl (show decode cX1_parentOn 183 = .ok (.istore_n 3, 1) by decide +kernel) rfl
set_option maxRecDepth 20000 in
theorem kX1_parentOn_184 {C : QC} {x : QP} {M : QM} {st : List CV} {L : QL} : Rr C mX1_parentOn (184, L, st, M) x = Rr C mX1_parentOn (187, L, st, M) x := g_pl (show decode cX1_parentOn 184 = .ok (.goto 3, 3) by decide +kernel) rfl
set_option maxRecDepth 20000 in
theorem kX1_parentOn_187 {C : QC} {x : QP} {M : QM} {st : List CV} {L : QL} {l0 l1 l2 l3 l4 : Option CV} {z : Int} : Rr C mX1_parentOn (187, [l0, l1, l2, l3, some (qi z)], st, M) x = Rr C mX1_parentOn (190, [l0, l1, l2, q_cut l3, some (qi (z + 1))], st, M) x := g_pl (show decode cX1_parentOn 187 = .ok (.iinc 4 1, 3) by decide +kernel) rfl
set_option maxRecDepth 20000 in
theorem kX1_parentOn_190 {C : QC} {x : QP} {M : QM} {st : List CV} {L : QL} : Rr C mX1_parentOn (190, L, st, M) x = Rr C mX1_parentOn (5, L, st, M) x := g_pl (show decode cX1_parentOn 190 = .ok (.goto (-185), 3) by decide +kernel) rfl
set_option maxRecDepth 20000 in
theorem kX1_parentOn_193 {C : QC} {x : QP} {M : QM} {st : List CV} {L : QL} {l0 l1 l2 l3 l4 : Option CV} {z : Int} : Rr C mX1_parentOn (193, [l0, l1, l2, some (qi z), l4], st, M) x = Rr C mX1_parentOn (194, [l0, l1, l2, some (qi z), l4], qi z :: st, M) x := g_pl (show decode cX1_parentOn 193 = .ok (.iload_n 3, 1) by decide +kernel) rfl
set_option maxRecDepth 20000 in
theorem kX1_parentOn_194 {C : QC} {x : QP} {M : QM} {st : List CV} {L : QL} {a : Int} (ha1 : -2147483648 ≤ a) (ha2 : a < 2147483648) : Rr C mX1_parentOn (194, L, qi a :: st, M) x = (if a = 0 then Rr C mX1_parentOn (205, L, st, M) x else Rr C mX1_parentOn (197, L, st, M) x) := (g_if (show decode cX1_parentOn 194 = .ok (.ifCond .eq 11, 3) by decide +kernel) rfl ha1 ha2).trans (g_ite c_eq)
set_option maxRecDepth 20000 in
theorem kX1_parentOn_197 {C : QC} {x : QP} {M : QM} {st : List CV} {L : QL} {l0 l1 l2 l3 l4 : Option CV} {r : Option Nat} : Rr C mX1_parentOn (197, [l0, l1, some (.inr (.inr r)), l3, l4], st, M) x = Rr C mX1_parentOn (198, [l0, l1, some (.inr (.inr r)), l3, l4], .inr (.inr r) :: st, M) x := g_pl (show decode cX1_parentOn 197 = .ok (.aload_n 2, 1) by decide +kernel) rfl
set_option maxRecDepth 20000 in
theorem kX1_parentOn_198 {C : QC} {x : QP} {M : QM} {st : List CV} {L : QL} {l0 l1 l2 l3 l4 : Option CV} {z : Int} : Rr C mX1_parentOn (198, [l0, some (qi z), l2, l3, l4], st, M) x = Rr C mX1_parentOn (199, [l0, some (qi z), l2, l3, l4], qi z :: st, M) x := g_pl (show decode cX1_parentOn 198 = .ok (.iload_n 1, 1) by decide +kernel) rfl
set_option maxRecDepth 20000 in
theorem kX1_parentOn_199 {C : QC} {x : QP} {M : QM} {L : QL} {rest : List CV} {a0 : CV} {v : CV} {M1 : QM} {b : Nat} (hb : q_kd M b = (1, 9)) (hC : C iX9_at [qr b, a0] M (some v) M1) (hw : (rest.map q_wd).sum ≤ 8) (k : Rr C mX1_parentOn (202, L, v :: rest, M1) x) : Rr C mX1_parentOn (199, L, a0 :: qr b :: rest, M) x := g_cv (ow := 1) (e := (0, 36, 9, [957, 526, 527, 87])) (as := [a0]) (show decode cX1_parentOn 199 = .ok (.invokevirtual 64, 3) by decide +kernel) rfl rfl rfl (Or.inl rfl) rfl hb hC hw k
set_option maxRecDepth 20000 in
theorem kX1_parentOn_202 {C : QC} {x : QP} {M : QM} {st : List CV} {L : QL} : Rr C mX1_parentOn (202, L, st, M) x = Rr C mX1_parentOn (207, L, st, M) x := g_pl (show decode cX1_parentOn 202 = .ok (.goto 5, 3) by decide +kernel) rfl
set_option maxRecDepth 20000 in
theorem kX1_parentOn_205 {C : QC} {x : QP} {M : QM} {st : List CV} {L : QL} : Rr C mX1_parentOn (205, L, st, M) x = Rr C mX1_parentOn (207, L, qi (-5) :: st, M) x := g_pl (show decode cX1_parentOn 205 = .ok (.bipush (-5), 2) by decide +kernel) rfl
set_option maxRecDepth 20000 in
theorem kX1_parentOn_207 {C : QC} {x : QP} {M : QM} {st : List CV} {L : QL} {z : Int} : Rr C mX1_parentOn (207, L, [qi z], M) x = x (some (qi z)) M := g_iret (show decode cX1_parentOn 207 = .ok (.ireturn, 1) by decide +kernel) rfl
set_option maxRecDepth 20000 in
theorem eX1_parentOn {d : Nat} {M : QM} {x : QP} {a : Nat} {v0 : Int} {v1 : Option Nat} : q_T (d + 1) iX1_parentOn [qr a, qi v0, .inr (.inr v1)] M x = Rr (q_C d) mX1_parentOn (0, [some (qr a), some (qi v0), some (.inr (.inr v1)), none, none], [], M) x := g_entryT (e := _) rfl (Nat.le_of_ble_eq_true rfl) rfl rfl
def mX2_init : QI := (2, cX2_init, true, none)
set_option maxRecDepth 20000 in
theorem kX2_init_0 {C : QC} {x : QP} {M : QM} {st : List CV} {L : QL} {r : Option Nat} : Rr C mX2_init (0, [some (.inr (.inr r))], st, M) x = Rr C mX2_init (1, [some (.inr (.inr r))], .inr (.inr r) :: st, M) x := g_pl (show decode cX2_init 0 = .ok (.aload_n 0, 1) by decide +kernel) rfl
set_option maxRecDepth 20000 in
theorem kX2_init_1 {C : QC} {x : QP} {M : QM} {st : List CV} {L : QL} {a : Nat} (hw : (st.map q_wd).sum ≤ 8) : Rr C mX2_init (1, L, qr a :: st, M) x = Rr C mX2_init (4, L, st, M) x := g_obj (ow := 2) (e := 220) (show decode cX2_init 1 = .ok (.invokespecial 3, 3) by decide +kernel) rfl hw
set_option maxRecDepth 20000 in
theorem kX2_init_4 {C : QC} {x : QP} {M : QM} {st : List CV} {L : QL} {r : Option Nat} : Rr C mX2_init (4, [some (.inr (.inr r))], st, M) x = Rr C mX2_init (5, [some (.inr (.inr r))], .inr (.inr r) :: st, M) x := g_pl (show decode cX2_init 4 = .ok (.aload_n 0, 1) by decide +kernel) rfl
set_option maxRecDepth 20000 in
theorem kX2_init_5 {C : QC} {x : QP} {M : QM} {st : List CV} {L : QL} : Rr C mX2_init (5, L, st, M) x = Rr C mX2_init (6, L, qi 4 :: st, M) x := g_pl (show decode cX2_init 5 = .ok (.iconst 4, 1) by decide +kernel) rfl
set_option maxRecDepth 20000 in
theorem kX2_init_6 {C : QC} {x : QP} {M : QM} {st : List CV} {L : QL} {n : Int} (h0 : 0 ≤ n) (h1 : n ≤ 60000000) : Rr C mX2_init (6, L, qi n :: st, M) x = Rr C mX2_init (8, L, qr (q_top M) :: st, q_al M (2, n.toNat) n.toNat (fun _ => qi 0)) x := g_newI (show decode cX2_init 6 = .ok (.newarray .int, 2) by decide +kernel) h0 h1
set_option maxRecDepth 20000 in
theorem kX2_init_8 {C : QC} {x : QP} {M : QM} {st : List CV} {L : QL} {z : Option Nat} {a : Nat} (hk : q_kd M a = (1, 2)) : Rr C mX2_init (8, L, .inr (.inr z) :: qr a :: st, M) x = Rr C mX2_init (11, L, st, q_wr M a 0 (.inr (.inr z))) x := g_putf (ow := 2) (ini := true) (e := (2, 0, RX2, 221, 0)) (r := (RX2, TX2, 3)) (t := tyX2) (show decode cX2_init 8 = .ok (.putfield 9, 3) by decide +kernel) rfl rfl rfl rfl (by decide +kernel) hk
set_option maxRecDepth 20000 in
theorem kX2_init_11 {C : QC} {x : QP} {M : QM} {st : List CV} {L : QL} {r : Option Nat} : Rr C mX2_init (11, [some (.inr (.inr r))], st, M) x = Rr C mX2_init (12, [some (.inr (.inr r))], .inr (.inr r) :: st, M) x := g_pl (show decode cX2_init 11 = .ok (.aload_n 0, 1) by decide +kernel) rfl
set_option maxRecDepth 20000 in
theorem kX2_init_12 {C : QC} {x : QP} {M : QM} {st : List CV} {L : QL} : Rr C mX2_init (12, L, st, M) x = Rr C mX2_init (13, L, qi 4 :: st, M) x := g_pl (show decode cX2_init 12 = .ok (.iconst 4, 1) by decide +kernel) rfl
set_option maxRecDepth 20000 in
theorem kX2_init_13 {C : QC} {x : QP} {M : QM} {st : List CV} {L : QL} {n : Int} (h0 : 0 ≤ n) (h1 : n ≤ 60000000) : Rr C mX2_init (13, L, qi n :: st, M) x = Rr C mX2_init (15, L, qr (q_top M) :: st, q_al M (3, n.toNat) n.toNat (fun _ => ql 0)) x := g_newL (show decode cX2_init 13 = .ok (.newarray .long, 2) by decide +kernel) h0 h1
set_option maxRecDepth 20000 in
theorem kX2_init_15 {C : QC} {x : QP} {M : QM} {st : List CV} {L : QL} {z : Option Nat} {a : Nat} (hk : q_kd M a = (1, 2)) : Rr C mX2_init (15, L, .inr (.inr z) :: qr a :: st, M) x = Rr C mX2_init (18, L, st, q_wr M a 1 (.inr (.inr z))) x := g_putf (ow := 2) (ini := true) (e := (2, 1, RX2, 222, 0)) (r := (RX2, TX2, 3)) (t := tyX2) (show decode cX2_init 15 = .ok (.putfield 15, 3) by decide +kernel) rfl rfl rfl rfl (by decide +kernel) hk
set_option maxRecDepth 20000 in
theorem kX2_init_18 {C : QC} {x : QP} {M : QM} {st : List CV} {L : QL} {r : Option Nat} : Rr C mX2_init (18, [some (.inr (.inr r))], st, M) x = Rr C mX2_init (19, [some (.inr (.inr r))], .inr (.inr r) :: st, M) x := g_pl (show decode cX2_init 18 = .ok (.aload_n 0, 1) by decide +kernel) rfl
set_option maxRecDepth 20000 in
theorem kX2_init_19 {C : QC} {x : QP} {M : QM} {st : List CV} {L : QL} : Rr C mX2_init (19, L, st, M) x = Rr C mX2_init (20, L, qi 0 :: st, M) x := g_pl (show decode cX2_init 19 = .ok (.iconst 0, 1) by decide +kernel) rfl
set_option maxRecDepth 20000 in
theorem kX2_init_20 {C : QC} {x : QP} {M : QM} {st : List CV} {L : QL} {z : Int} {a : Nat} (hk : q_kd M a = (1, 2)) : Rr C mX2_init (20, L, qi z :: qr a :: st, M) x = Rr C mX2_init (23, L, st, q_wr M a 2 (qi z)) x := g_putf (ow := 2) (ini := true) (e := (2, 2, RX2, 223, 0)) (r := (RX2, TX2, 3)) (t := tyX2) (show decode cX2_init 20 = .ok (.putfield 19, 3) by decide +kernel) rfl rfl rfl rfl (by decide +kernel) hk
set_option maxRecDepth 20000 in
theorem kX2_init_23 {C : QC} {x : QP} {M : QM} {st : List CV} {L : QL} : Rr C mX2_init (23, L, [], M) x = x none M := g_vret (show decode cX2_init 23 = .ok (.return_, 1) by decide +kernel)
set_option maxRecDepth 20000 in
theorem eX2_init {d : Nat} {M : QM} {x : QP} {a : Nat} : q_T (d + 1) iX2_init [qr a] M x = Rr (q_C d) mX2_init (0, [some (qr a)], [], M) x := g_entryT (e := _) rfl (Nat.le_of_ble_eq_true rfl) rfl rfl
def mX2_size : QI := (2, cX2_size, false, some .int)
set_option maxRecDepth 20000 in
theorem kX2_size_0 {C : QC} {x : QP} {M : QM} {st : List CV} {L : QL} {r : Option Nat} : Rr C mX2_size (0, [some (.inr (.inr r))], st, M) x = Rr C mX2_size (1, [some (.inr (.inr r))], .inr (.inr r) :: st, M) x := g_pl (show decode cX2_size 0 = .ok (.aload_n 0, 1) by decide +kernel) rfl
set_option maxRecDepth 20000 in
theorem kX2_size_1 {C : QC} {x : QP} {M : QM} {st : List CV} {L : QL} {a : Nat} (hk : q_kd M a = (1, 2)) : Rr C mX2_size (1, L, qr a :: st, M) x = Rr C mX2_size (4, L, q_fv M a 2 :: st, M) x := g_getf (ow := 2) (e := (2, 2, RX2, 223, 0)) (show decode cX2_size 1 = .ok (.getfield 19, 3) by decide +kernel) rfl hk
set_option maxRecDepth 20000 in
theorem kX2_size_4 {C : QC} {x : QP} {M : QM} {st : List CV} {L : QL} {z : Int} : Rr C mX2_size (4, L, [qi z], M) x = x (some (qi z)) M := g_iret (show decode cX2_size 4 = .ok (.ireturn, 1) by decide +kernel) rfl
set_option maxRecDepth 20000 in
theorem eX2_size {d : Nat} {M : QM} {x : QP} {a : Nat} : q_T (d + 1) iX2_size [qr a] M x = Rr (q_C d) mX2_size (0, [some (qr a)], [], M) x := g_entryT (e := _) rfl (Nat.le_of_ble_eq_true rfl) rfl rfl
def mX2_begin : QI := (2, cX2_begin, false, none)
set_option maxRecDepth 20000 in
theorem kX2_begin_0 {C : QC} {x : QP} {M : QM} {st : List CV} {L : QL} {l0 l1 l2 l3 : Option CV} {r : Option Nat} : Rr C mX2_begin (0, [some (.inr (.inr r)), l1, l2, l3], st, M) x = Rr C mX2_begin (1, [some (.inr (.inr r)), l1, l2, l3], .inr (.inr r) :: st, M) x := g_pl (show decode cX2_begin 0 = .ok (.aload_n 0, 1) by decide +kernel) rfl
set_option maxRecDepth 20000 in
theorem kX2_begin_1 {C : QC} {x : QP} {M : QM} {st : List CV} {L : QL} {a : Nat} (hk : q_kd M a = (1, 2)) : Rr C mX2_begin (1, L, qr a :: st, M) x = Rr C mX2_begin (4, L, q_fv M a 0 :: st, M) x := g_getf (ow := 2) (e := (2, 0, RX2, 221, 0)) (show decode cX2_begin 1 = .ok (.getfield 9, 3) by decide +kernel) rfl hk
set_option maxRecDepth 20000 in
theorem kX2_begin_4 {C : QC} {x : QP} {M : QM} {st : List CV} {L : QL} : Rr C mX2_begin (4, L, st, M) x = Rr C mX2_begin (5, L, qi 0 :: st, M) x := g_pl (show decode cX2_begin 4 = .ok (.iconst 0, 1) by decide +kernel) rfl
set_option maxRecDepth 20000 in
theorem kX2_begin_5 {C : QC} {x : QP} {M : QM} {st : List CV} {L : QL} {l0 l1 l2 l3 : Option CV} {z : Int} : Rr C mX2_begin (5, [l0, some (qi z), l2, l3], st, M) x = Rr C mX2_begin (6, [l0, some (qi z), l2, l3], qi z :: st, M) x := g_pl (show decode cX2_begin 5 = .ok (.iload_n 1, 1) by decide +kernel) rfl
set_option maxRecDepth 20000 in
theorem kX2_begin_6 {C : QC} {x : QP} {M : QM} {st : List CV} {L : QL} {a : Nat} {j v : Int} (hk : (q_kd M a).1 = 2) (h0 : 0 ≤ j) (h1 : j < ((q_kd M a).2 : Int)) : Rr C mX2_begin (6, L, qi v :: qi j :: qr a :: st, M) x = Rr C mX2_begin (7, L, st, q_wr M a j.toNat (qi v)) x := g_iast (show decode cX2_begin 6 = .ok (.iastore, 1) by decide +kernel) hk h0 h1
set_option maxRecDepth 20000 in
theorem kX2_begin_7 {C : QC} {x : QP} {M : QM} {st : List CV} {L : QL} {l0 l1 l2 l3 : Option CV} {r : Option Nat} : Rr C mX2_begin (7, [some (.inr (.inr r)), l1, l2, l3], st, M) x = Rr C mX2_begin (8, [some (.inr (.inr r)), l1, l2, l3], .inr (.inr r) :: st, M) x := g_pl (show decode cX2_begin 7 = .ok (.aload_n 0, 1) by decide +kernel) rfl
set_option maxRecDepth 20000 in
theorem kX2_begin_8 {C : QC} {x : QP} {M : QM} {st : List CV} {L : QL} {a : Nat} (hk : q_kd M a = (1, 2)) : Rr C mX2_begin (8, L, qr a :: st, M) x = Rr C mX2_begin (11, L, q_fv M a 1 :: st, M) x := g_getf (ow := 2) (e := (2, 1, RX2, 222, 0)) (show decode cX2_begin 8 = .ok (.getfield 15, 3) by decide +kernel) rfl hk
set_option maxRecDepth 20000 in
theorem kX2_begin_11 {C : QC} {x : QP} {M : QM} {st : List CV} {L : QL} : Rr C mX2_begin (11, L, st, M) x = Rr C mX2_begin (12, L, qi 0 :: st, M) x := g_pl (show decode cX2_begin 11 = .ok (.iconst 0, 1) by decide +kernel) rfl
set_option maxRecDepth 20000 in
theorem kX2_begin_12 {C : QC} {x : QP} {M : QM} {st : List CV} {L : QL} {l0 l1 l2 l3 : Option CV} {z : Int} : Rr C mX2_begin (12, [l0, l1, some (ql z), l3], st, M) x = Rr C mX2_begin (13, [l0, l1, some (ql z), l3], ql z :: st, M) x := g_pl (show decode cX2_begin 12 = .ok (.lload_n 2, 1) by decide +kernel) rfl
set_option maxRecDepth 20000 in
theorem kX2_begin_13 {C : QC} {x : QP} {M : QM} {st : List CV} {L : QL} {a : Nat} {j v : Int} (hk : (q_kd M a).1 = 3) (h0 : 0 ≤ j) (h1 : j < ((q_kd M a).2 : Int)) : Rr C mX2_begin (13, L, ql v :: qi j :: qr a :: st, M) x = Rr C mX2_begin (14, L, st, q_wr M a j.toNat (ql v)) x := g_last (show decode cX2_begin 13 = .ok (.lastore, 1) by decide +kernel) hk h0 h1
set_option maxRecDepth 20000 in
theorem kX2_begin_14 {C : QC} {x : QP} {M : QM} {st : List CV} {L : QL} {l0 l1 l2 l3 : Option CV} {r : Option Nat} : Rr C mX2_begin (14, [some (.inr (.inr r)), l1, l2, l3], st, M) x = Rr C mX2_begin (15, [some (.inr (.inr r)), l1, l2, l3], .inr (.inr r) :: st, M) x := g_pl (show decode cX2_begin 14 = .ok (.aload_n 0, 1) by decide +kernel) rfl
set_option maxRecDepth 20000 in
theorem kX2_begin_15 {C : QC} {x : QP} {M : QM} {st : List CV} {L : QL} : Rr C mX2_begin (15, L, st, M) x = Rr C mX2_begin (16, L, qi 1 :: st, M) x := g_pl (show decode cX2_begin 15 = .ok (.iconst 1, 1) by decide +kernel) rfl
set_option maxRecDepth 20000 in
theorem kX2_begin_16 {C : QC} {x : QP} {M : QM} {st : List CV} {L : QL} {z : Int} {a : Nat} (hk : q_kd M a = (1, 2)) : Rr C mX2_begin (16, L, qi z :: qr a :: st, M) x = Rr C mX2_begin (19, L, st, q_wr M a 2 (qi z)) x := g_putf (ow := 2) (ini := false) (e := (2, 2, RX2, 223, 0)) (r := (RX2, TX2, 3)) (t := tyX2) (show decode cX2_begin 16 = .ok (.putfield 19, 3) by decide +kernel) rfl rfl rfl rfl (by decide +kernel) hk
set_option maxRecDepth 20000 in
theorem kX2_begin_19 {C : QC} {x : QP} {M : QM} {st : List CV} {L : QL} : Rr C mX2_begin (19, L, [], M) x = x none M := g_vret (show decode cX2_begin 19 = .ok (.return_, 1) by decide +kernel)
set_option maxRecDepth 20000 in
theorem eX2_begin {d : Nat} {M : QM} {x : QP} {a : Nat} {v0 : Int} {v1 : Int} : q_T (d + 1) iX2_begin [qr a, qi v0, ql v1] M x = Rr (q_C d) mX2_begin (0, [some (qr a), some (qi v0), some (ql v1), none], [], M) x := g_entryT (e := _) rfl (Nat.le_of_ble_eq_true rfl) rfl rfl
def mX2_append : QI := (2, cX2_append, false, none)
set_option maxRecDepth 20000 in
theorem kX2_append_0 {C : QC} {x : QP} {M : QM} {st : List CV} {L : QL} {l0 l1 l2 l3 : Option CV} {r : Option Nat} : Rr C mX2_append (0, [some (.inr (.inr r)), l1, l2, l3], st, M) x = Rr C mX2_append (1, [some (.inr (.inr r)), l1, l2, l3], .inr (.inr r) :: st, M) x := g_pl (show decode cX2_append 0 = .ok (.aload_n 0, 1) by decide +kernel) rfl
set_option maxRecDepth 20000 in
theorem kX2_append_1 {C : QC} {x : QP} {M : QM} {st : List CV} {L : QL} {a : Nat} (hk : q_kd M a = (1, 2)) : Rr C mX2_append (1, L, qr a :: st, M) x = Rr C mX2_append (4, L, q_fv M a 2 :: st, M) x := g_getf (ow := 2) (e := (2, 2, RX2, 223, 0)) (show decode cX2_append 1 = .ok (.getfield 19, 3) by decide +kernel) rfl hk
set_option maxRecDepth 20000 in
theorem kX2_append_4 {C : QC} {x : QP} {M : QM} {st : List CV} {L : QL} {l0 l1 l2 l3 : Option CV} {r : Option Nat} : Rr C mX2_append (4, [some (.inr (.inr r)), l1, l2, l3], st, M) x = Rr C mX2_append (5, [some (.inr (.inr r)), l1, l2, l3], .inr (.inr r) :: st, M) x := g_pl (show decode cX2_append 4 = .ok (.aload_n 0, 1) by decide +kernel) rfl
set_option maxRecDepth 20000 in
theorem kX2_append_5 {C : QC} {x : QP} {M : QM} {st : List CV} {L : QL} {a : Nat} (hk : q_kd M a = (1, 2)) : Rr C mX2_append (5, L, qr a :: st, M) x = Rr C mX2_append (8, L, q_fv M a 0 :: st, M) x := g_getf (ow := 2) (e := (2, 0, RX2, 221, 0)) (show decode cX2_append 5 = .ok (.getfield 9, 3) by decide +kernel) rfl hk
set_option maxRecDepth 20000 in
theorem kX2_append_8 {C : QC} {x : QP} {M : QM} {st : List CV} {L : QL} {a : Nat} (h1 : 2 ≤ (q_kd M a).1) (h2 : (q_kd M a).1 ≤ 9) : Rr C mX2_append (8, L, qr a :: st, M) x = Rr C mX2_append (9, L, qi (q_kd M a).2 :: st, M) x := g_alen (show decode cX2_append 8 = .ok (.arraylength, 1) by decide +kernel) h1 h2
set_option maxRecDepth 20000 in
theorem kX2_append_9 {C : QC} {x : QP} {M : QM} {st : List CV} {L : QL} {a b : Int} (ha1 : -2147483648 ≤ a) (ha2 : a < 2147483648) (hb1 : -2147483648 ≤ b) (hb2 : b < 2147483648) : Rr C mX2_append (9, L, qi b :: qi a :: st, M) x = (if a < b then Rr C mX2_append (50, L, st, M) x else Rr C mX2_append (12, L, st, M) x) := (g_icmp (show decode cX2_append 9 = .ok (.if_icmp .lt 41, 3) by decide +kernel) rfl ha1 ha2 hb1 hb2).trans (g_ite c_lt)
set_option maxRecDepth 20000 in
theorem kX2_append_12 {C : QC} {x : QP} {M : QM} {st : List CV} {L : QL} {l0 l1 l2 l3 : Option CV} {r : Option Nat} : Rr C mX2_append (12, [some (.inr (.inr r)), l1, l2, l3], st, M) x = Rr C mX2_append (13, [some (.inr (.inr r)), l1, l2, l3], .inr (.inr r) :: st, M) x := g_pl (show decode cX2_append 12 = .ok (.aload_n 0, 1) by decide +kernel) rfl
set_option maxRecDepth 20000 in
theorem kX2_append_13 {C : QC} {x : QP} {M : QM} {st : List CV} {L : QL} {l0 l1 l2 l3 : Option CV} {r : Option Nat} : Rr C mX2_append (13, [some (.inr (.inr r)), l1, l2, l3], st, M) x = Rr C mX2_append (14, [some (.inr (.inr r)), l1, l2, l3], .inr (.inr r) :: st, M) x := g_pl (show decode cX2_append 13 = .ok (.aload_n 0, 1) by decide +kernel) rfl
set_option maxRecDepth 20000 in
theorem kX2_append_14 {C : QC} {x : QP} {M : QM} {st : List CV} {L : QL} {a : Nat} (hk : q_kd M a = (1, 2)) : Rr C mX2_append (14, L, qr a :: st, M) x = Rr C mX2_append (17, L, q_fv M a 0 :: st, M) x := g_getf (ow := 2) (e := (2, 0, RX2, 221, 0)) (show decode cX2_append 14 = .ok (.getfield 9, 3) by decide +kernel) rfl hk
set_option maxRecDepth 20000 in
theorem kX2_append_17 {C : QC} {x : QP} {M : QM} {st : List CV} {L : QL} : Rr C mX2_append (17, L, st, M) x = Rr C mX2_append (18, L, qi 2 :: st, M) x := g_pl (show decode cX2_append 17 = .ok (.iconst 2, 1) by decide +kernel) rfl
set_option maxRecDepth 20000 in
theorem kX2_append_18 {C : QC} {x : QP} {M : QM} {st : List CV} {L : QL} {l0 l1 l2 l3 : Option CV} {r : Option Nat} : Rr C mX2_append (18, [some (.inr (.inr r)), l1, l2, l3], st, M) x = Rr C mX2_append (19, [some (.inr (.inr r)), l1, l2, l3], .inr (.inr r) :: st, M) x := g_pl (show decode cX2_append 18 = .ok (.aload_n 0, 1) by decide +kernel) rfl
set_option maxRecDepth 20000 in
theorem kX2_append_19 {C : QC} {x : QP} {M : QM} {st : List CV} {L : QL} {a : Nat} (hk : q_kd M a = (1, 2)) : Rr C mX2_append (19, L, qr a :: st, M) x = Rr C mX2_append (22, L, q_fv M a 2 :: st, M) x := g_getf (ow := 2) (e := (2, 2, RX2, 223, 0)) (show decode cX2_append 19 = .ok (.getfield 19, 3) by decide +kernel) rfl hk
set_option maxRecDepth 20000 in
theorem kX2_append_22 {C : QC} {x : QP} {M : QM} {st : List CV} {L : QL} {a b : Int} : Rr C mX2_append (22, L, qi b :: qi a :: st, M) x = Rr C mX2_append (23, L, qi (a * b) :: st, M) x := g_pl (show decode cX2_append 22 = .ok (.imul, 1) by decide +kernel) rfl
set_option maxRecDepth 20000 in
theorem kX2_append_23 {C : QC} {x : QP} {M : QM} {st : List CV} {L : QL} : Rr C mX2_append (23, L, st, M) x = Rr C mX2_append (24, L, qi 1 :: st, M) x := g_pl (show decode cX2_append 23 = .ok (.iconst 1, 1) by decide +kernel) rfl
set_option maxRecDepth 20000 in
theorem kX2_append_24 {C : QC} {x : QP} {M : QM} {st : List CV} {L : QL} {a b : Int} : Rr C mX2_append (24, L, qi b :: qi a :: st, M) x = Rr C mX2_append (25, L, qi (a + b) :: st, M) x := g_pl (show decode cX2_append 24 = .ok (.iadd, 1) by decide +kernel) rfl
set_option maxRecDepth 20000 in
theorem kX2_append_25 {C : QC} {x : QP} {M : QM} {L : QL} {rest : List CV} {a0 a1 : CV} {v : CV} {M1 : QM} (hC : C iJ7_copyOf_59c91 [a0, a1] M (some v) M1) (hw : (rest.map q_wd).sum ≤ 8) (k : Rr C mX2_append (28, L, v :: rest, M1) x) : Rr C mX2_append (25, L, a1 :: a0 :: rest, M) x := g_cs (ow := 2) (e := (1, 61, 0, [698, 658, 101])) (as := [a0, a1]) (show decode cX2_append 25 = .ok (.invokestatic 23, 3) by decide +kernel) rfl rfl rfl rfl (Or.inl rfl) rfl hC hw k
set_option maxRecDepth 20000 in
theorem kX2_append_28 {C : QC} {x : QP} {M : QM} {st : List CV} {L : QL} {z : Option Nat} {a : Nat} (hk : q_kd M a = (1, 2)) : Rr C mX2_append (28, L, .inr (.inr z) :: qr a :: st, M) x = Rr C mX2_append (31, L, st, q_wr M a 0 (.inr (.inr z))) x := g_putf (ow := 2) (ini := false) (e := (2, 0, RX2, 221, 0)) (r := (RX2, TX2, 3)) (t := tyX2) (show decode cX2_append 28 = .ok (.putfield 9, 3) by decide +kernel) rfl rfl rfl rfl (by decide +kernel) hk
set_option maxRecDepth 20000 in
theorem kX2_append_31 {C : QC} {x : QP} {M : QM} {st : List CV} {L : QL} {l0 l1 l2 l3 : Option CV} {r : Option Nat} : Rr C mX2_append (31, [some (.inr (.inr r)), l1, l2, l3], st, M) x = Rr C mX2_append (32, [some (.inr (.inr r)), l1, l2, l3], .inr (.inr r) :: st, M) x := g_pl (show decode cX2_append 31 = .ok (.aload_n 0, 1) by decide +kernel) rfl
set_option maxRecDepth 20000 in
theorem kX2_append_32 {C : QC} {x : QP} {M : QM} {st : List CV} {L : QL} {l0 l1 l2 l3 : Option CV} {r : Option Nat} : Rr C mX2_append (32, [some (.inr (.inr r)), l1, l2, l3], st, M) x = Rr C mX2_append (33, [some (.inr (.inr r)), l1, l2, l3], .inr (.inr r) :: st, M) x := g_pl (show decode cX2_append 32 = .ok (.aload_n 0, 1) by decide +kernel) rfl
set_option maxRecDepth 20000 in
theorem kX2_append_33 {C : QC} {x : QP} {M : QM} {st : List CV} {L : QL} {a : Nat} (hk : q_kd M a = (1, 2)) : Rr C mX2_append (33, L, qr a :: st, M) x = Rr C mX2_append (36, L, q_fv M a 1 :: st, M) x := g_getf (ow := 2) (e := (2, 1, RX2, 222, 0)) (show decode cX2_append 33 = .ok (.getfield 15, 3) by decide +kernel) rfl hk
set_option maxRecDepth 20000 in
theorem kX2_append_36 {C : QC} {x : QP} {M : QM} {st : List CV} {L : QL} : Rr C mX2_append (36, L, st, M) x = Rr C mX2_append (37, L, qi 2 :: st, M) x := g_pl (show decode cX2_append 36 = .ok (.iconst 2, 1) by decide +kernel) rfl
set_option maxRecDepth 20000 in
theorem kX2_append_37 {C : QC} {x : QP} {M : QM} {st : List CV} {L : QL} {l0 l1 l2 l3 : Option CV} {r : Option Nat} : Rr C mX2_append (37, [some (.inr (.inr r)), l1, l2, l3], st, M) x = Rr C mX2_append (38, [some (.inr (.inr r)), l1, l2, l3], .inr (.inr r) :: st, M) x := g_pl (show decode cX2_append 37 = .ok (.aload_n 0, 1) by decide +kernel) rfl
set_option maxRecDepth 20000 in
theorem kX2_append_38 {C : QC} {x : QP} {M : QM} {st : List CV} {L : QL} {a : Nat} (hk : q_kd M a = (1, 2)) : Rr C mX2_append (38, L, qr a :: st, M) x = Rr C mX2_append (41, L, q_fv M a 2 :: st, M) x := g_getf (ow := 2) (e := (2, 2, RX2, 223, 0)) (show decode cX2_append 38 = .ok (.getfield 19, 3) by decide +kernel) rfl hk
set_option maxRecDepth 20000 in
theorem kX2_append_41 {C : QC} {x : QP} {M : QM} {st : List CV} {L : QL} {a b : Int} : Rr C mX2_append (41, L, qi b :: qi a :: st, M) x = Rr C mX2_append (42, L, qi (a * b) :: st, M) x := g_pl (show decode cX2_append 41 = .ok (.imul, 1) by decide +kernel) rfl
set_option maxRecDepth 20000 in
theorem kX2_append_42 {C : QC} {x : QP} {M : QM} {st : List CV} {L : QL} : Rr C mX2_append (42, L, st, M) x = Rr C mX2_append (43, L, qi 1 :: st, M) x := g_pl (show decode cX2_append 42 = .ok (.iconst 1, 1) by decide +kernel) rfl
set_option maxRecDepth 20000 in
theorem kX2_append_43 {C : QC} {x : QP} {M : QM} {st : List CV} {L : QL} {a b : Int} : Rr C mX2_append (43, L, qi b :: qi a :: st, M) x = Rr C mX2_append (44, L, qi (a + b) :: st, M) x := g_pl (show decode cX2_append 43 = .ok (.iadd, 1) by decide +kernel) rfl
set_option maxRecDepth 20000 in
theorem kX2_append_44 {C : QC} {x : QP} {M : QM} {L : QL} {rest : List CV} {a0 a1 : CV} {v : CV} {M1 : QM} (hC : C iJ7_copyOf_c38d5 [a0, a1] M (some v) M1) (hw : (rest.map q_wd).sum ≤ 8) (k : Rr C mX2_append (47, L, v :: rest, M1) x) : Rr C mX2_append (44, L, a1 :: a0 :: rest, M) x := g_cs (ow := 2) (e := (1, 70, 0, [699, 700, 101])) (as := [a0, a1]) (show decode cX2_append 44 = .ok (.invokestatic 29, 3) by decide +kernel) rfl rfl rfl rfl (Or.inl rfl) rfl hC hw k
set_option maxRecDepth 20000 in
theorem kX2_append_47 {C : QC} {x : QP} {M : QM} {st : List CV} {L : QL} {z : Option Nat} {a : Nat} (hk : q_kd M a = (1, 2)) : Rr C mX2_append (47, L, .inr (.inr z) :: qr a :: st, M) x = Rr C mX2_append (50, L, st, q_wr M a 1 (.inr (.inr z))) x := g_putf (ow := 2) (ini := false) (e := (2, 1, RX2, 222, 0)) (r := (RX2, TX2, 3)) (t := tyX2) (show decode cX2_append 47 = .ok (.putfield 15, 3) by decide +kernel) rfl rfl rfl rfl (by decide +kernel) hk
set_option maxRecDepth 20000 in
theorem kX2_append_50 {C : QC} {x : QP} {M : QM} {st : List CV} {L : QL} {l0 l1 l2 l3 : Option CV} {r : Option Nat} : Rr C mX2_append (50, [some (.inr (.inr r)), l1, l2, l3], st, M) x = Rr C mX2_append (51, [some (.inr (.inr r)), l1, l2, l3], .inr (.inr r) :: st, M) x := g_pl (show decode cX2_append 50 = .ok (.aload_n 0, 1) by decide +kernel) rfl
set_option maxRecDepth 20000 in
theorem kX2_append_51 {C : QC} {x : QP} {M : QM} {st : List CV} {L : QL} {a : Nat} (hk : q_kd M a = (1, 2)) : Rr C mX2_append (51, L, qr a :: st, M) x = Rr C mX2_append (54, L, q_fv M a 0 :: st, M) x := g_getf (ow := 2) (e := (2, 0, RX2, 221, 0)) (show decode cX2_append 51 = .ok (.getfield 9, 3) by decide +kernel) rfl hk
set_option maxRecDepth 20000 in
theorem kX2_append_54 {C : QC} {x : QP} {M : QM} {st : List CV} {L : QL} {l0 l1 l2 l3 : Option CV} {r : Option Nat} : Rr C mX2_append (54, [some (.inr (.inr r)), l1, l2, l3], st, M) x = Rr C mX2_append (55, [some (.inr (.inr r)), l1, l2, l3], .inr (.inr r) :: st, M) x := g_pl (show decode cX2_append 54 = .ok (.aload_n 0, 1) by decide +kernel) rfl
set_option maxRecDepth 20000 in
theorem kX2_append_55 {C : QC} {x : QP} {M : QM} {st : List CV} {L : QL} {a : Nat} (hk : q_kd M a = (1, 2)) : Rr C mX2_append (55, L, qr a :: st, M) x = Rr C mX2_append (58, L, q_fv M a 2 :: st, M) x := g_getf (ow := 2) (e := (2, 2, RX2, 223, 0)) (show decode cX2_append 55 = .ok (.getfield 19, 3) by decide +kernel) rfl hk
set_option maxRecDepth 20000 in
theorem kX2_append_58 {C : QC} {x : QP} {M : QM} {st : List CV} {L : QL} {l0 l1 l2 l3 : Option CV} {z : Int} : Rr C mX2_append (58, [l0, some (qi z), l2, l3], st, M) x = Rr C mX2_append (59, [l0, some (qi z), l2, l3], qi z :: st, M) x := g_pl (show decode cX2_append 58 = .ok (.iload_n 1, 1) by decide +kernel) rfl
set_option maxRecDepth 20000 in
theorem kX2_append_59 {C : QC} {x : QP} {M : QM} {st : List CV} {L : QL} {a : Nat} {j v : Int} (hk : (q_kd M a).1 = 2) (h0 : 0 ≤ j) (h1 : j < ((q_kd M a).2 : Int)) : Rr C mX2_append (59, L, qi v :: qi j :: qr a :: st, M) x = Rr C mX2_append (60, L, st, q_wr M a j.toNat (qi v)) x := g_iast (show decode cX2_append 59 = .ok (.iastore, 1) by decide +kernel) hk h0 h1
set_option maxRecDepth 20000 in
theorem kX2_append_60 {C : QC} {x : QP} {M : QM} {st : List CV} {L : QL} {l0 l1 l2 l3 : Option CV} {r : Option Nat} : Rr C mX2_append (60, [some (.inr (.inr r)), l1, l2, l3], st, M) x = Rr C mX2_append (61, [some (.inr (.inr r)), l1, l2, l3], .inr (.inr r) :: st, M) x := g_pl (show decode cX2_append 60 = .ok (.aload_n 0, 1) by decide +kernel) rfl
set_option maxRecDepth 20000 in
theorem kX2_append_61 {C : QC} {x : QP} {M : QM} {st : List CV} {L : QL} {a : Nat} (hk : q_kd M a = (1, 2)) : Rr C mX2_append (61, L, qr a :: st, M) x = Rr C mX2_append (64, L, q_fv M a 1 :: st, M) x := g_getf (ow := 2) (e := (2, 1, RX2, 222, 0)) (show decode cX2_append 61 = .ok (.getfield 15, 3) by decide +kernel) rfl hk
set_option maxRecDepth 20000 in
theorem kX2_append_64 {C : QC} {x : QP} {M : QM} {st : List CV} {L : QL} {l0 l1 l2 l3 : Option CV} {r : Option Nat} : Rr C mX2_append (64, [some (.inr (.inr r)), l1, l2, l3], st, M) x = Rr C mX2_append (65, [some (.inr (.inr r)), l1, l2, l3], .inr (.inr r) :: st, M) x := g_pl (show decode cX2_append 64 = .ok (.aload_n 0, 1) by decide +kernel) rfl
set_option maxRecDepth 20000 in
theorem kX2_append_65 {C : QC} {x : QP} {M : QM} {st : List CV} {L : QL} {a : Nat} (hk : q_kd M a = (1, 2)) : Rr C mX2_append (65, L, qr a :: st, M) x = Rr C mX2_append (68, L, q_fv M a 2 :: st, M) x := g_getf (ow := 2) (e := (2, 2, RX2, 223, 0)) (show decode cX2_append 65 = .ok (.getfield 19, 3) by decide +kernel) rfl hk
set_option maxRecDepth 20000 in
theorem kX2_append_68 {C : QC} {x : QP} {M : QM} {st : List CV} {L : QL} {l0 l1 l2 l3 : Option CV} {z : Int} : Rr C mX2_append (68, [l0, l1, some (ql z), l3], st, M) x = Rr C mX2_append (69, [l0, l1, some (ql z), l3], ql z :: st, M) x := g_pl (show decode cX2_append 68 = .ok (.lload_n 2, 1) by decide +kernel) rfl
set_option maxRecDepth 20000 in
theorem kX2_append_69 {C : QC} {x : QP} {M : QM} {st : List CV} {L : QL} {a : Nat} {j v : Int} (hk : (q_kd M a).1 = 3) (h0 : 0 ≤ j) (h1 : j < ((q_kd M a).2 : Int)) : Rr C mX2_append (69, L, ql v :: qi j :: qr a :: st, M) x = Rr C mX2_append (70, L, st, q_wr M a j.toNat (ql v)) x := g_last (show decode cX2_append 69 = .ok (.lastore, 1) by decide +kernel) hk h0 h1
set_option maxRecDepth 20000 in
theorem kX2_append_70 {C : QC} {x : QP} {M : QM} {st : List CV} {L : QL} {l0 l1 l2 l3 : Option CV} {r : Option Nat} : Rr C mX2_append (70, [some (.inr (.inr r)), l1, l2, l3], st, M) x = Rr C mX2_append (71, [some (.inr (.inr r)), l1, l2, l3], .inr (.inr r) :: st, M) x := g_pl (show decode cX2_append 70 = .ok (.aload_n 0, 1) by decide +kernel) rfl
set_option maxRecDepth 20000 in
theorem kX2_append_71i {C : QC} {x : QP} {M : QM} {st : List CV} {L : QL} {a : Int} : Rr C mX2_append (71, L, qi a :: st, M) x = Rr C mX2_append (72, L, qi a :: qi a :: st, M) x := g_pl (show decode cX2_append 71 = .ok (.dup, 1) by decide +kernel) rfl
set_option maxRecDepth 20000 in
theorem kX2_append_71r {C : QC} {x : QP} {M : QM} {st : List CV} {L : QL} {a : Option Nat} : Rr C mX2_append (71, L, .inr (.inr a) :: st, M) x = Rr C mX2_append (72, L, .inr (.inr a) :: .inr (.inr a) :: st, M) x := g_pl (show decode cX2_append 71 = .ok (.dup, 1) by decide +kernel) rfl
set_option maxRecDepth 20000 in
theorem kX2_append_72 {C : QC} {x : QP} {M : QM} {st : List CV} {L : QL} {a : Nat} (hk : q_kd M a = (1, 2)) : Rr C mX2_append (72, L, qr a :: st, M) x = Rr C mX2_append (75, L, q_fv M a 2 :: st, M) x := g_getf (ow := 2) (e := (2, 2, RX2, 223, 0)) (show decode cX2_append 72 = .ok (.getfield 19, 3) by decide +kernel) rfl hk
set_option maxRecDepth 20000 in
theorem kX2_append_75 {C : QC} {x : QP} {M : QM} {st : List CV} {L : QL} : Rr C mX2_append (75, L, st, M) x = Rr C mX2_append (76, L, qi 1 :: st, M) x := g_pl (show decode cX2_append 75 = .ok (.iconst 1, 1) by decide +kernel) rfl
set_option maxRecDepth 20000 in
theorem kX2_append_76 {C : QC} {x : QP} {M : QM} {st : List CV} {L : QL} {a b : Int} : Rr C mX2_append (76, L, qi b :: qi a :: st, M) x = Rr C mX2_append (77, L, qi (a + b) :: st, M) x := g_pl (show decode cX2_append 76 = .ok (.iadd, 1) by decide +kernel) rfl
set_option maxRecDepth 20000 in
theorem kX2_append_77 {C : QC} {x : QP} {M : QM} {st : List CV} {L : QL} {z : Int} {a : Nat} (hk : q_kd M a = (1, 2)) : Rr C mX2_append (77, L, qi z :: qr a :: st, M) x = Rr C mX2_append (80, L, st, q_wr M a 2 (qi z)) x := g_putf (ow := 2) (ini := false) (e := (2, 2, RX2, 223, 0)) (r := (RX2, TX2, 3)) (t := tyX2) (show decode cX2_append 77 = .ok (.putfield 19, 3) by decide +kernel) rfl rfl rfl rfl (by decide +kernel) hk
set_option maxRecDepth 20000 in
theorem kX2_append_80 {C : QC} {x : QP} {M : QM} {st : List CV} {L : QL} : Rr C mX2_append (80, L, [], M) x = x none M := g_vret (show decode cX2_append 80 = .ok (.return_, 1) by decide +kernel)
set_option maxRecDepth 20000 in
theorem eX2_append {d : Nat} {M : QM} {x : QP} {a : Nat} {v0 : Int} {v1 : Int} : q_T (d + 1) iX2_append [qr a, qi v0, ql v1] M x = Rr (q_C d) mX2_append (0, [some (qr a), some (qi v0), some (ql v1), none], [], M) x := g_entryT (e := _) rfl (Nat.le_of_ble_eq_true rfl) rfl rfl
def mX2_at : QI := (2, cX2_at, false, some .long)
set_option maxRecDepth 20000 in
theorem kX2_at_0 {C : QC} {x : QP} {M : QM} {st : List CV} {L : QL} {l0 l1 l2 : Option CV} {r : Option Nat} : Rr C mX2_at (0, [some (.inr (.inr r)), l1, l2], st, M) x = Rr C mX2_at (1, [some (.inr (.inr r)), l1, l2], .inr (.inr r) :: st, M) x := g_pl (show decode cX2_at 0 = .ok (.aload_n 0, 1) by decide +kernel) rfl
set_option maxRecDepth 20000 in
theorem kX2_at_1 {C : QC} {x : QP} {M : QM} {st : List CV} {L : QL} {a : Nat} (hk : q_kd M a = (1, 2)) : Rr C mX2_at (1, L, qr a :: st, M) x = Rr C mX2_at (4, L, q_fv M a 2 :: st, M) x := g_getf (ow := 2) (e := (2, 2, RX2, 223, 0)) (show decode cX2_at 1 = .ok (.getfield 19, 3) by decide +kernel) rfl hk
set_option maxRecDepth 20000 in
theorem kX2_at_4 {C : QC} {x : QP} {M : QM} {st : List CV} {L : QL} : Rr C mX2_at (4, L, st, M) x = Rr C mX2_at (5, L, qi 1 :: st, M) x := g_pl (show decode cX2_at 4 = .ok (.iconst 1, 1) by decide +kernel) rfl
set_option maxRecDepth 20000 in
theorem kX2_at_5 {C : QC} {x : QP} {M : QM} {st : List CV} {L : QL} {a b : Int} : Rr C mX2_at (5, L, qi b :: qi a :: st, M) x = Rr C mX2_at (6, L, qi (a - b) :: st, M) x := g_pl (show decode cX2_at 5 = .ok (.isub, 1) by decide +kernel) rfl
set_option maxRecDepth 20000 in
theorem kX2_at_6 {C : QC} {x : QP} {M : QM} {st : List CV} {L : QL} {l0 l1 l2 : Option CV} {z : Int} : Rr C mX2_at (6, [l0, l1, l2], qi z :: st, M) x = Rr C mX2_at (7, [l0, q_cut l1, some (qi z)], st, M) x := g_pl (show decode cX2_at 6 = .ok (.istore_n 2, 1) by decide +kernel) rfl
set_option maxRecDepth 20000 in
theorem kX2_at_7 {C : QC} {x : QP} {M : QM} {st : List CV} {L : QL} {l0 l1 l2 : Option CV} {z : Int} : Rr C mX2_at (7, [l0, l1, some (qi z)], st, M) x = Rr C mX2_at (8, [l0, l1, some (qi z)], qi z :: st, M) x := g_pl (show decode cX2_at 7 = .ok (.iload_n 2, 1) by decide +kernel) rfl
set_option maxRecDepth 20000 in
theorem kX2_at_8 {C : QC} {x : QP} {M : QM} {st : List CV} {L : QL} {a : Int} (ha1 : -2147483648 ≤ a) (ha2 : a < 2147483648) : Rr C mX2_at (8, L, qi a :: st, M) x = (if a < 0 then Rr C mX2_at (34, L, st, M) x else Rr C mX2_at (11, L, st, M) x) := (g_if (show decode cX2_at 8 = .ok (.ifCond .lt 26, 3) by decide +kernel) rfl ha1 ha2).trans (g_ite c_lt)
set_option maxRecDepth 20000 in
theorem kX2_at_11 {C : QC} {x : QP} {M : QM} {st : List CV} {L : QL} {l0 l1 l2 : Option CV} {r : Option Nat} : Rr C mX2_at (11, [some (.inr (.inr r)), l1, l2], st, M) x = Rr C mX2_at (12, [some (.inr (.inr r)), l1, l2], .inr (.inr r) :: st, M) x := g_pl (show decode cX2_at 11 = .ok (.aload_n 0, 1) by decide +kernel) rfl
set_option maxRecDepth 20000 in
theorem kX2_at_12 {C : QC} {x : QP} {M : QM} {st : List CV} {L : QL} {a : Nat} (hk : q_kd M a = (1, 2)) : Rr C mX2_at (12, L, qr a :: st, M) x = Rr C mX2_at (15, L, q_fv M a 0 :: st, M) x := g_getf (ow := 2) (e := (2, 0, RX2, 221, 0)) (show decode cX2_at 12 = .ok (.getfield 9, 3) by decide +kernel) rfl hk
set_option maxRecDepth 20000 in
theorem kX2_at_15 {C : QC} {x : QP} {M : QM} {st : List CV} {L : QL} {l0 l1 l2 : Option CV} {z : Int} : Rr C mX2_at (15, [l0, l1, some (qi z)], st, M) x = Rr C mX2_at (16, [l0, l1, some (qi z)], qi z :: st, M) x := g_pl (show decode cX2_at 15 = .ok (.iload_n 2, 1) by decide +kernel) rfl
set_option maxRecDepth 20000 in
theorem kX2_at_16 {C : QC} {x : QP} {M : QM} {st : List CV} {L : QL} {a : Nat} {j : Int} (hk : (q_kd M a).1 = 2) (h0 : 0 ≤ j) (h1 : j < ((q_kd M a).2 : Int)) : Rr C mX2_at (16, L, qi j :: qr a :: st, M) x = Rr C mX2_at (17, L, q_fv M a j.toNat :: st, M) x := g_iald (show decode cX2_at 16 = .ok (.iaload, 1) by decide +kernel) hk h0 h1
set_option maxRecDepth 20000 in
theorem kX2_at_17 {C : QC} {x : QP} {M : QM} {st : List CV} {L : QL} {l0 l1 l2 : Option CV} {z : Int} : Rr C mX2_at (17, [l0, some (qi z), l2], st, M) x = Rr C mX2_at (18, [l0, some (qi z), l2], qi z :: st, M) x := g_pl (show decode cX2_at 17 = .ok (.iload_n 1, 1) by decide +kernel) rfl
set_option maxRecDepth 20000 in
theorem kX2_at_18 {C : QC} {x : QP} {M : QM} {st : List CV} {L : QL} {a b : Int} (ha1 : -2147483648 ≤ a) (ha2 : a < 2147483648) (hb1 : -2147483648 ≤ b) (hb2 : b < 2147483648) : Rr C mX2_at (18, L, qi b :: qi a :: st, M) x = (if b < a then Rr C mX2_at (28, L, st, M) x else Rr C mX2_at (21, L, st, M) x) := (g_icmp (show decode cX2_at 18 = .ok (.if_icmp .gt 10, 3) by decide +kernel) rfl ha1 ha2 hb1 hb2).trans (g_ite c_gt)
set_option maxRecDepth 20000 in
theorem kX2_at_21 {C : QC} {x : QP} {M : QM} {st : List CV} {L : QL} {l0 l1 l2 : Option CV} {r : Option Nat} : Rr C mX2_at (21, [some (.inr (.inr r)), l1, l2], st, M) x = Rr C mX2_at (22, [some (.inr (.inr r)), l1, l2], .inr (.inr r) :: st, M) x := g_pl (show decode cX2_at 21 = .ok (.aload_n 0, 1) by decide +kernel) rfl
set_option maxRecDepth 20000 in
theorem kX2_at_22 {C : QC} {x : QP} {M : QM} {st : List CV} {L : QL} {a : Nat} (hk : q_kd M a = (1, 2)) : Rr C mX2_at (22, L, qr a :: st, M) x = Rr C mX2_at (25, L, q_fv M a 1 :: st, M) x := g_getf (ow := 2) (e := (2, 1, RX2, 222, 0)) (show decode cX2_at 22 = .ok (.getfield 15, 3) by decide +kernel) rfl hk
set_option maxRecDepth 20000 in
theorem kX2_at_25 {C : QC} {x : QP} {M : QM} {st : List CV} {L : QL} {l0 l1 l2 : Option CV} {z : Int} : Rr C mX2_at (25, [l0, l1, some (qi z)], st, M) x = Rr C mX2_at (26, [l0, l1, some (qi z)], qi z :: st, M) x := g_pl (show decode cX2_at 25 = .ok (.iload_n 2, 1) by decide +kernel) rfl
set_option maxRecDepth 20000 in
theorem kX2_at_26 {C : QC} {x : QP} {M : QM} {st : List CV} {L : QL} {a : Nat} {j : Int} (hk : (q_kd M a).1 = 3) (h0 : 0 ≤ j) (h1 : j < ((q_kd M a).2 : Int)) : Rr C mX2_at (26, L, qi j :: qr a :: st, M) x = Rr C mX2_at (27, L, q_fv M a j.toNat :: st, M) x := g_lald (show decode cX2_at 26 = .ok (.laload, 1) by decide +kernel) hk h0 h1
set_option maxRecDepth 20000 in
theorem kX2_at_27 {C : QC} {x : QP} {M : QM} {st : List CV} {L : QL} {z : Int} : Rr C mX2_at (27, L, [ql z], M) x = x (some (ql z)) M := g_lret (show decode cX2_at 27 = .ok (.lreturn, 1) by decide +kernel)
set_option maxRecDepth 20000 in
theorem kX2_at_28 {C : QC} {x : QP} {M : QM} {st : List CV} {L : QL} {l0 l1 l2 : Option CV} {z : Int} : Rr C mX2_at (28, [l0, l1, some (qi z)], st, M) x = Rr C mX2_at (31, [l0, q_cut l1, some (qi (z + (-1)))], st, M) x := g_pl (show decode cX2_at 28 = .ok (.iinc 2 (-1), 3) by decide +kernel) rfl
set_option maxRecDepth 20000 in
theorem kX2_at_31 {C : QC} {x : QP} {M : QM} {st : List CV} {L : QL} : Rr C mX2_at (31, L, st, M) x = Rr C mX2_at (7, L, st, M) x := g_pl (show decode cX2_at 31 = .ok (.goto (-24), 3) by decide +kernel) rfl
set_option maxRecDepth 20000 in
theorem kX2_at_34 {C : QC} {x : QP} {M : QM} {st : List CV} {L : QL} : Rr C mX2_at (34, L, st, M) x = Rr C mX2_at (35, L, ql 0 :: st, M) x := g_pl (show decode cX2_at 34 = .ok (.lconst 0, 1) by decide +kernel) rfl
set_option maxRecDepth 20000 in
theorem kX2_at_35 {C : QC} {x : QP} {M : QM} {st : List CV} {L : QL} {z : Int} : Rr C mX2_at (35, L, [ql z], M) x = x (some (ql z)) M := g_lret (show decode cX2_at 35 = .ok (.lreturn, 1) by decide +kernel)
set_option maxRecDepth 20000 in
theorem eX2_at {d : Nat} {M : QM} {x : QP} {a : Nat} {v0 : Int} : q_T (d + 1) iX2_at [qr a, qi v0] M x = Rr (q_C d) mX2_at (0, [some (qr a), some (qi v0), none], [], M) x := g_entryT (e := _) rfl (Nat.le_of_ble_eq_true rfl) rfl rfl
def mX2_dayOf : QI := (2, cX2_dayOf, false, some .int)
set_option maxRecDepth 20000 in
theorem kX2_dayOf_0 {C : QC} {x : QP} {M : QM} {st : List CV} {L : QL} {l0 l1 : Option CV} {z : Int} : Rr C mX2_dayOf (0, [l0, some (qi z)], st, M) x = Rr C mX2_dayOf (1, [l0, some (qi z)], qi z :: st, M) x := g_pl (show decode cX2_dayOf 0 = .ok (.iload_n 1, 1) by decide +kernel) rfl
set_option maxRecDepth 20000 in
theorem kX2_dayOf_1 {C : QC} {x : QP} {M : QM} {st : List CV} {L : QL} {a : Int} (ha1 : -2147483648 ≤ a) (ha2 : a < 2147483648) : Rr C mX2_dayOf (1, L, qi a :: st, M) x = (if a < 0 then Rr C mX2_dayOf (21, L, st, M) x else Rr C mX2_dayOf (4, L, st, M) x) := (g_if (show decode cX2_dayOf 1 = .ok (.ifCond .lt 20, 3) by decide +kernel) rfl ha1 ha2).trans (g_ite c_lt)
set_option maxRecDepth 20000 in
theorem kX2_dayOf_4 {C : QC} {x : QP} {M : QM} {st : List CV} {L : QL} {l0 l1 : Option CV} {z : Int} : Rr C mX2_dayOf (4, [l0, some (qi z)], st, M) x = Rr C mX2_dayOf (5, [l0, some (qi z)], qi z :: st, M) x := g_pl (show decode cX2_dayOf 4 = .ok (.iload_n 1, 1) by decide +kernel) rfl
set_option maxRecDepth 20000 in
theorem kX2_dayOf_5 {C : QC} {x : QP} {M : QM} {st : List CV} {L : QL} {l0 l1 : Option CV} {r : Option Nat} : Rr C mX2_dayOf (5, [some (.inr (.inr r)), l1], st, M) x = Rr C mX2_dayOf (6, [some (.inr (.inr r)), l1], .inr (.inr r) :: st, M) x := g_pl (show decode cX2_dayOf 5 = .ok (.aload_n 0, 1) by decide +kernel) rfl
set_option maxRecDepth 20000 in
theorem kX2_dayOf_6 {C : QC} {x : QP} {M : QM} {st : List CV} {L : QL} {a : Nat} (hk : q_kd M a = (1, 2)) : Rr C mX2_dayOf (6, L, qr a :: st, M) x = Rr C mX2_dayOf (9, L, q_fv M a 2 :: st, M) x := g_getf (ow := 2) (e := (2, 2, RX2, 223, 0)) (show decode cX2_dayOf 6 = .ok (.getfield 19, 3) by decide +kernel) rfl hk
set_option maxRecDepth 20000 in
theorem kX2_dayOf_9 {C : QC} {x : QP} {M : QM} {st : List CV} {L : QL} {a b : Int} (ha1 : -2147483648 ≤ a) (ha2 : a < 2147483648) (hb1 : -2147483648 ≤ b) (hb2 : b < 2147483648) : Rr C mX2_dayOf (9, L, qi b :: qi a :: st, M) x = (if a < b then Rr C mX2_dayOf (12, L, st, M) x else Rr C mX2_dayOf (21, L, st, M) x) := (g_icmp (show decode cX2_dayOf 9 = .ok (.if_icmp .ge 12, 3) by decide +kernel) rfl ha1 ha2 hb1 hb2).trans (g_itn c_ge)
set_option maxRecDepth 20000 in
theorem kX2_dayOf_12 {C : QC} {x : QP} {M : QM} {st : List CV} {L : QL} {l0 l1 : Option CV} {r : Option Nat} : Rr C mX2_dayOf (12, [some (.inr (.inr r)), l1], st, M) x = Rr C mX2_dayOf (13, [some (.inr (.inr r)), l1], .inr (.inr r) :: st, M) x := g_pl (show decode cX2_dayOf 12 = .ok (.aload_n 0, 1) by decide +kernel) rfl
set_option maxRecDepth 20000 in
theorem kX2_dayOf_13 {C : QC} {x : QP} {M : QM} {st : List CV} {L : QL} {a : Nat} (hk : q_kd M a = (1, 2)) : Rr C mX2_dayOf (13, L, qr a :: st, M) x = Rr C mX2_dayOf (16, L, q_fv M a 0 :: st, M) x := g_getf (ow := 2) (e := (2, 0, RX2, 221, 0)) (show decode cX2_dayOf 13 = .ok (.getfield 9, 3) by decide +kernel) rfl hk
set_option maxRecDepth 20000 in
theorem kX2_dayOf_16 {C : QC} {x : QP} {M : QM} {st : List CV} {L : QL} {l0 l1 : Option CV} {z : Int} : Rr C mX2_dayOf (16, [l0, some (qi z)], st, M) x = Rr C mX2_dayOf (17, [l0, some (qi z)], qi z :: st, M) x := g_pl (show decode cX2_dayOf 16 = .ok (.iload_n 1, 1) by decide +kernel) rfl
set_option maxRecDepth 20000 in
theorem kX2_dayOf_17 {C : QC} {x : QP} {M : QM} {st : List CV} {L : QL} {a : Nat} {j : Int} (hk : (q_kd M a).1 = 2) (h0 : 0 ≤ j) (h1 : j < ((q_kd M a).2 : Int)) : Rr C mX2_dayOf (17, L, qi j :: qr a :: st, M) x = Rr C mX2_dayOf (18, L, q_fv M a j.toNat :: st, M) x := g_iald (show decode cX2_dayOf 17 = .ok (.iaload, 1) by decide +kernel) hk h0 h1
set_option maxRecDepth 20000 in
theorem kX2_dayOf_18 {C : QC} {x : QP} {M : QM} {st : List CV} {L : QL} : Rr C mX2_dayOf (18, L, st, M) x = Rr C mX2_dayOf (23, L, st, M) x := g_pl (show decode cX2_dayOf 18 = .ok (.goto 5, 3) by decide +kernel) rfl
set_option maxRecDepth 20000 in
theorem kX2_dayOf_21 {C : QC} {x : QP} {M : QM} {st : List CV} {L : QL} : Rr C mX2_dayOf (21, L, st, M) x = Rr C mX2_dayOf (23, L, qi (-5) :: st, M) x := g_pl (show decode cX2_dayOf 21 = .ok (.bipush (-5), 2) by decide +kernel) rfl
set_option maxRecDepth 20000 in
theorem kX2_dayOf_23 {C : QC} {x : QP} {M : QM} {st : List CV} {L : QL} {z : Int} : Rr C mX2_dayOf (23, L, [qi z], M) x = x (some (qi z)) M := g_iret (show decode cX2_dayOf 23 = .ok (.ireturn, 1) by decide +kernel) rfl
set_option maxRecDepth 20000 in
theorem eX2_dayOf {d : Nat} {M : QM} {x : QP} {a : Nat} {v0 : Int} : q_T (d + 1) iX2_dayOf [qr a, qi v0] M x = Rr (q_C d) mX2_dayOf (0, [some (qr a), some (qi v0)], [], M) x := g_entryT (e := _) rfl (Nat.le_of_ble_eq_true rfl) rfl rfl
def mX2_wordOf : QI := (2, cX2_wordOf, false, some .long)
set_option maxRecDepth 20000 in
theorem kX2_wordOf_0 {C : QC} {x : QP} {M : QM} {st : List CV} {L : QL} {l0 l1 : Option CV} {z : Int} : Rr C mX2_wordOf (0, [l0, some (qi z)], st, M) x = Rr C mX2_wordOf (1, [l0, some (qi z)], qi z :: st, M) x := g_pl (show decode cX2_wordOf 0 = .ok (.iload_n 1, 1) by decide +kernel) rfl
set_option maxRecDepth 20000 in
theorem kX2_wordOf_1 {C : QC} {x : QP} {M : QM} {st : List CV} {L : QL} {a : Int} (ha1 : -2147483648 ≤ a) (ha2 : a < 2147483648) : Rr C mX2_wordOf (1, L, qi a :: st, M) x = (if a < 0 then Rr C mX2_wordOf (21, L, st, M) x else Rr C mX2_wordOf (4, L, st, M) x) := (g_if (show decode cX2_wordOf 1 = .ok (.ifCond .lt 20, 3) by decide +kernel) rfl ha1 ha2).trans (g_ite c_lt)
set_option maxRecDepth 20000 in
theorem kX2_wordOf_4 {C : QC} {x : QP} {M : QM} {st : List CV} {L : QL} {l0 l1 : Option CV} {z : Int} : Rr C mX2_wordOf (4, [l0, some (qi z)], st, M) x = Rr C mX2_wordOf (5, [l0, some (qi z)], qi z :: st, M) x := g_pl (show decode cX2_wordOf 4 = .ok (.iload_n 1, 1) by decide +kernel) rfl
set_option maxRecDepth 20000 in
theorem kX2_wordOf_5 {C : QC} {x : QP} {M : QM} {st : List CV} {L : QL} {l0 l1 : Option CV} {r : Option Nat} : Rr C mX2_wordOf (5, [some (.inr (.inr r)), l1], st, M) x = Rr C mX2_wordOf (6, [some (.inr (.inr r)), l1], .inr (.inr r) :: st, M) x := g_pl (show decode cX2_wordOf 5 = .ok (.aload_n 0, 1) by decide +kernel) rfl
set_option maxRecDepth 20000 in
theorem kX2_wordOf_6 {C : QC} {x : QP} {M : QM} {st : List CV} {L : QL} {a : Nat} (hk : q_kd M a = (1, 2)) : Rr C mX2_wordOf (6, L, qr a :: st, M) x = Rr C mX2_wordOf (9, L, q_fv M a 2 :: st, M) x := g_getf (ow := 2) (e := (2, 2, RX2, 223, 0)) (show decode cX2_wordOf 6 = .ok (.getfield 19, 3) by decide +kernel) rfl hk
set_option maxRecDepth 20000 in
theorem kX2_wordOf_9 {C : QC} {x : QP} {M : QM} {st : List CV} {L : QL} {a b : Int} (ha1 : -2147483648 ≤ a) (ha2 : a < 2147483648) (hb1 : -2147483648 ≤ b) (hb2 : b < 2147483648) : Rr C mX2_wordOf (9, L, qi b :: qi a :: st, M) x = (if a < b then Rr C mX2_wordOf (12, L, st, M) x else Rr C mX2_wordOf (21, L, st, M) x) := (g_icmp (show decode cX2_wordOf 9 = .ok (.if_icmp .ge 12, 3) by decide +kernel) rfl ha1 ha2 hb1 hb2).trans (g_itn c_ge)
set_option maxRecDepth 20000 in
theorem kX2_wordOf_12 {C : QC} {x : QP} {M : QM} {st : List CV} {L : QL} {l0 l1 : Option CV} {r : Option Nat} : Rr C mX2_wordOf (12, [some (.inr (.inr r)), l1], st, M) x = Rr C mX2_wordOf (13, [some (.inr (.inr r)), l1], .inr (.inr r) :: st, M) x := g_pl (show decode cX2_wordOf 12 = .ok (.aload_n 0, 1) by decide +kernel) rfl
set_option maxRecDepth 20000 in
theorem kX2_wordOf_13 {C : QC} {x : QP} {M : QM} {st : List CV} {L : QL} {a : Nat} (hk : q_kd M a = (1, 2)) : Rr C mX2_wordOf (13, L, qr a :: st, M) x = Rr C mX2_wordOf (16, L, q_fv M a 1 :: st, M) x := g_getf (ow := 2) (e := (2, 1, RX2, 222, 0)) (show decode cX2_wordOf 13 = .ok (.getfield 15, 3) by decide +kernel) rfl hk
set_option maxRecDepth 20000 in
theorem kX2_wordOf_16 {C : QC} {x : QP} {M : QM} {st : List CV} {L : QL} {l0 l1 : Option CV} {z : Int} : Rr C mX2_wordOf (16, [l0, some (qi z)], st, M) x = Rr C mX2_wordOf (17, [l0, some (qi z)], qi z :: st, M) x := g_pl (show decode cX2_wordOf 16 = .ok (.iload_n 1, 1) by decide +kernel) rfl
set_option maxRecDepth 20000 in
theorem kX2_wordOf_17 {C : QC} {x : QP} {M : QM} {st : List CV} {L : QL} {a : Nat} {j : Int} (hk : (q_kd M a).1 = 3) (h0 : 0 ≤ j) (h1 : j < ((q_kd M a).2 : Int)) : Rr C mX2_wordOf (17, L, qi j :: qr a :: st, M) x = Rr C mX2_wordOf (18, L, q_fv M a j.toNat :: st, M) x := g_lald (show decode cX2_wordOf 17 = .ok (.laload, 1) by decide +kernel) hk h0 h1
set_option maxRecDepth 20000 in
theorem kX2_wordOf_18 {C : QC} {x : QP} {M : QM} {st : List CV} {L : QL} : Rr C mX2_wordOf (18, L, st, M) x = Rr C mX2_wordOf (22, L, st, M) x := g_pl (show decode cX2_wordOf 18 = .ok (.goto 4, 3) by decide +kernel) rfl
set_option maxRecDepth 20000 in
theorem kX2_wordOf_21 {C : QC} {x : QP} {M : QM} {st : List CV} {L : QL} : Rr C mX2_wordOf (21, L, st, M) x = Rr C mX2_wordOf (22, L, ql 0 :: st, M) x := g_pl (show decode cX2_wordOf 21 = .ok (.lconst 0, 1) by decide +kernel) rfl
set_option maxRecDepth 20000 in
theorem kX2_wordOf_22 {C : QC} {x : QP} {M : QM} {st : List CV} {L : QL} {z : Int} : Rr C mX2_wordOf (22, L, [ql z], M) x = x (some (ql z)) M := g_lret (show decode cX2_wordOf 22 = .ok (.lreturn, 1) by decide +kernel)
set_option maxRecDepth 20000 in
theorem eX2_wordOf {d : Nat} {M : QM} {x : QP} {a : Nat} {v0 : Int} : q_T (d + 1) iX2_wordOf [qr a, qi v0] M x = Rr (q_C d) mX2_wordOf (0, [some (qr a), some (qi v0)], [], M) x := g_entryT (e := _) rfl (Nat.le_of_ble_eq_true rfl) rfl rfl
def mX2_daysOf : QI := (2, cX2_daysOf, false, some .int)
set_option maxRecDepth 20000 in
theorem kX2_daysOf_0 {C : QC} {x : QP} {M : QM} {st : List CV} {L : QL} {l0 l1 l2 : Option CV} {z : Int} : Rr C mX2_daysOf (0, [l0, some (qi z), l2], st, M) x = Rr C mX2_daysOf (1, [l0, some (qi z), l2], qi z :: st, M) x := g_pl (show decode cX2_daysOf 0 = .ok (.iload_n 1, 1) by decide +kernel) rfl
set_option maxRecDepth 20000 in
theorem kX2_daysOf_1 {C : QC} {x : QP} {M : QM} {st : List CV} {L : QL} : Rr C mX2_daysOf (1, L, st, M) x = Rr C mX2_daysOf (2, L, qi 1 :: st, M) x := g_pl (show decode cX2_daysOf 1 = .ok (.iconst 1, 1) by decide +kernel) rfl
set_option maxRecDepth 20000 in
theorem kX2_daysOf_2 {C : QC} {x : QP} {M : QM} {st : List CV} {L : QL} {a b : Int} : Rr C mX2_daysOf (2, L, qi b :: qi a :: st, M) x = Rr C mX2_daysOf (3, L, qi (a + b) :: st, M) x := g_pl (show decode cX2_daysOf 2 = .ok (.iadd, 1) by decide +kernel) rfl
set_option maxRecDepth 20000 in
theorem kX2_daysOf_3 {C : QC} {x : QP} {M : QM} {st : List CV} {L : QL} {l0 l1 l2 : Option CV} {r : Option Nat} : Rr C mX2_daysOf (3, [some (.inr (.inr r)), l1, l2], st, M) x = Rr C mX2_daysOf (4, [some (.inr (.inr r)), l1, l2], .inr (.inr r) :: st, M) x := g_pl (show decode cX2_daysOf 3 = .ok (.aload_n 0, 1) by decide +kernel) rfl
set_option maxRecDepth 20000 in
theorem kX2_daysOf_4 {C : QC} {x : QP} {M : QM} {st : List CV} {L : QL} {a : Nat} (hk : q_kd M a = (1, 2)) : Rr C mX2_daysOf (4, L, qr a :: st, M) x = Rr C mX2_daysOf (7, L, q_fv M a 2 :: st, M) x := g_getf (ow := 2) (e := (2, 2, RX2, 223, 0)) (show decode cX2_daysOf 4 = .ok (.getfield 19, 3) by decide +kernel) rfl hk
set_option maxRecDepth 20000 in
theorem kX2_daysOf_7 {C : QC} {x : QP} {M : QM} {st : List CV} {L : QL} {a b : Int} (ha1 : -2147483648 ≤ a) (ha2 : a < 2147483648) (hb1 : -2147483648 ≤ b) (hb2 : b < 2147483648) : Rr C mX2_daysOf (7, L, qi b :: qi a :: st, M) x = (if a < b then Rr C mX2_daysOf (10, L, st, M) x else Rr C mX2_daysOf (20, L, st, M) x) := (g_icmp (show decode cX2_daysOf 7 = .ok (.if_icmp .ge 13, 3) by decide +kernel) rfl ha1 ha2 hb1 hb2).trans (g_itn c_ge)
set_option maxRecDepth 20000 in
theorem kX2_daysOf_10 {C : QC} {x : QP} {M : QM} {st : List CV} {L : QL} {l0 l1 l2 : Option CV} {r : Option Nat} : Rr C mX2_daysOf (10, [some (.inr (.inr r)), l1, l2], st, M) x = Rr C mX2_daysOf (11, [some (.inr (.inr r)), l1, l2], .inr (.inr r) :: st, M) x := g_pl (show decode cX2_daysOf 10 = .ok (.aload_n 0, 1) by decide +kernel) rfl
set_option maxRecDepth 20000 in
theorem kX2_daysOf_11 {C : QC} {x : QP} {M : QM} {st : List CV} {L : QL} {l0 l1 l2 : Option CV} {z : Int} : Rr C mX2_daysOf (11, [l0, some (qi z), l2], st, M) x = Rr C mX2_daysOf (12, [l0, some (qi z), l2], qi z :: st, M) x := g_pl (show decode cX2_daysOf 11 = .ok (.iload_n 1, 1) by decide +kernel) rfl
set_option maxRecDepth 20000 in
theorem kX2_daysOf_12 {C : QC} {x : QP} {M : QM} {st : List CV} {L : QL} : Rr C mX2_daysOf (12, L, st, M) x = Rr C mX2_daysOf (13, L, qi 1 :: st, M) x := g_pl (show decode cX2_daysOf 12 = .ok (.iconst 1, 1) by decide +kernel) rfl
set_option maxRecDepth 20000 in
theorem kX2_daysOf_13 {C : QC} {x : QP} {M : QM} {st : List CV} {L : QL} {a b : Int} : Rr C mX2_daysOf (13, L, qi b :: qi a :: st, M) x = Rr C mX2_daysOf (14, L, qi (a + b) :: st, M) x := g_pl (show decode cX2_daysOf 13 = .ok (.iadd, 1) by decide +kernel) rfl
set_option maxRecDepth 20000 in
theorem kX2_daysOf_14 {C : QC} {x : QP} {M : QM} {L : QL} {rest : List CV} {a0 : CV} {v : CV} {M1 : QM} {b : Nat} (hb : q_kd M b = (1, 2)) (hC : C iX2_dayOf [qr b, a0] M (some v) M1) (hw : (rest.map q_wd).sum ≤ 8) (k : Rr C mX2_daysOf (17, L, v :: rest, M1) x) : Rr C mX2_daysOf (14, L, a0 :: qr b :: rest, M) x := g_cv (ow := 2) (e := (0, 183, 2, [1235, 1236, 1237, 86])) (as := [a0]) (show decode cX2_daysOf 14 = .ok (.invokevirtual 32, 3) by decide +kernel) rfl rfl rfl (Or.inl rfl) rfl hb hC hw k
set_option maxRecDepth 20000 in
theorem kX2_daysOf_17 {C : QC} {x : QP} {M : QM} {st : List CV} {L : QL} : Rr C mX2_daysOf (17, L, st, M) x = Rr C mX2_daysOf (21, L, st, M) x := g_pl (show decode cX2_daysOf 17 = .ok (.goto 4, 3) by decide +kernel) rfl
set_option maxRecDepth 20000 in
theorem kX2_daysOf_20 {C : QC} {x : QP} {M : QM} {st : List CV} {L : QL} {l0 l1 l2 : Option CV} {z : Int} : Rr C mX2_daysOf (20, [l0, l1, some (qi z)], st, M) x = Rr C mX2_daysOf (21, [l0, l1, some (qi z)], qi z :: st, M) x := g_pl (show decode cX2_daysOf 20 = .ok (.iload_n 2, 1) by decide +kernel) rfl
set_option maxRecDepth 20000 in
theorem kX2_daysOf_21 {C : QC} {x : QP} {M : QM} {st : List CV} {L : QL} {l0 l1 l2 : Option CV} {r : Option Nat} : Rr C mX2_daysOf (21, [some (.inr (.inr r)), l1, l2], st, M) x = Rr C mX2_daysOf (22, [some (.inr (.inr r)), l1, l2], .inr (.inr r) :: st, M) x := g_pl (show decode cX2_daysOf 21 = .ok (.aload_n 0, 1) by decide +kernel) rfl
set_option maxRecDepth 20000 in
theorem kX2_daysOf_22 {C : QC} {x : QP} {M : QM} {st : List CV} {L : QL} {l0 l1 l2 : Option CV} {z : Int} : Rr C mX2_daysOf (22, [l0, some (qi z), l2], st, M) x = Rr C mX2_daysOf (23, [l0, some (qi z), l2], qi z :: st, M) x := g_pl (show decode cX2_daysOf 22 = .ok (.iload_n 1, 1) by decide +kernel) rfl
set_option maxRecDepth 20000 in
theorem kX2_daysOf_23 {C : QC} {x : QP} {M : QM} {L : QL} {rest : List CV} {a0 : CV} {v : CV} {M1 : QM} {b : Nat} (hb : q_kd M b = (1, 2)) (hC : C iX2_dayOf [qr b, a0] M (some v) M1) (hw : (rest.map q_wd).sum ≤ 8) (k : Rr C mX2_daysOf (26, L, v :: rest, M1) x) : Rr C mX2_daysOf (23, L, a0 :: qr b :: rest, M) x := g_cv (ow := 2) (e := (0, 183, 2, [1235, 1236, 1237, 86])) (as := [a0]) (show decode cX2_daysOf 23 = .ok (.invokevirtual 32, 3) by decide +kernel) rfl rfl rfl (Or.inl rfl) rfl hb hC hw k
set_option maxRecDepth 20000 in
theorem kX2_daysOf_26 {C : QC} {x : QP} {M : QM} {st : List CV} {L : QL} {a b : Int} : Rr C mX2_daysOf (26, L, qi b :: qi a :: st, M) x = Rr C mX2_daysOf (27, L, qi (a - b) :: st, M) x := g_pl (show decode cX2_daysOf 26 = .ok (.isub, 1) by decide +kernel) rfl
set_option maxRecDepth 20000 in
theorem kX2_daysOf_27 {C : QC} {x : QP} {M : QM} {st : List CV} {L : QL} {z : Int} : Rr C mX2_daysOf (27, L, [qi z], M) x = x (some (qi z)) M := g_iret (show decode cX2_daysOf 27 = .ok (.ireturn, 1) by decide +kernel) rfl
set_option maxRecDepth 20000 in
theorem eX2_daysOf {d : Nat} {M : QM} {x : QP} {a : Nat} {v0 : Int} {v1 : Int} : q_T (d + 1) iX2_daysOf [qr a, qi v0, qi v1] M x = Rr (q_C d) mX2_daysOf (0, [some (qr a), some (qi v0), some (qi v1)], [], M) x := g_entryT (e := _) rfl (Nat.le_of_ble_eq_true rfl) rfl rfl
def mX2_longestHeld : QI := (2, cX2_longestHeld, false, some .int)
set_option maxRecDepth 20000 in
theorem kX2_longestHeld_0 {C : QC} {x : QP} {M : QM} {st : List CV} {L : QL} : Rr C mX2_longestHeld (0, L, st, M) x = Rr C mX2_longestHeld (1, L, qi 0 :: st, M) x := g_pl (show decode cX2_longestHeld 0 = .ok (.iconst 0, 1) by decide +kernel) rfl
set_option maxRecDepth 20000 in
theorem kX2_longestHeld_1 {C : QC} {x : QP} {M : QM} {st : List CV} {L : QL} {l0 l1 l2 l3 : Option CV} {z : Int} : Rr C mX2_longestHeld (1, [l0, l1, l2, l3], qi z :: st, M) x = Rr C mX2_longestHeld (2, [l0, q_cut l1, some (qi z), l3], st, M) x := g_pl (show decode cX2_longestHeld 1 = .ok (.istore_n 2, 1) by decide +kernel) rfl
set_option maxRecDepth 20000 in
theorem kX2_longestHeld_2 {C : QC} {x : QP} {M : QM} {st : List CV} {L : QL} : Rr C mX2_longestHeld (2, L, st, M) x = Rr C mX2_longestHeld (3, L, qi 1 :: st, M) x := g_pl (show decode cX2_longestHeld 2 = .ok (.iconst 1, 1) by decide +kernel) rfl
set_option maxRecDepth 20000 in
theorem kX2_longestHeld_3 {C : QC} {x : QP} {M : QM} {st : List CV} {L : QL} {l0 l1 l2 l3 : Option CV} {z : Int} : Rr C mX2_longestHeld (3, [l0, l1, l2, l3], qi z :: st, M) x = Rr C mX2_longestHeld (4, [l0, l1, q_cut l2, some (qi z)], st, M) x := g_pl (show decode cX2_longestHeld 3 = .ok (.istore_n 3, 1) by decide +kernel) rfl
set_option maxRecDepth 20000 in
theorem kX2_longestHeld_4 {C : QC} {x : QP} {M : QM} {st : List CV} {L : QL} {l0 l1 l2 l3 : Option CV} {z : Int} : Rr C mX2_longestHeld (4, [l0, l1, l2, some (qi z)], st, M) x = Rr C mX2_longestHeld (5, [l0, l1, l2, some (qi z)], qi z :: st, M) x := g_pl (show decode cX2_longestHeld 4 = .ok (.iload_n 3, 1) by decide +kernel) rfl
set_option maxRecDepth 20000 in
theorem kX2_longestHeld_5 {C : QC} {x : QP} {M : QM} {st : List CV} {L : QL} {l0 l1 l2 l3 : Option CV} {r : Option Nat} : Rr C mX2_longestHeld (5, [some (.inr (.inr r)), l1, l2, l3], st, M) x = Rr C mX2_longestHeld (6, [some (.inr (.inr r)), l1, l2, l3], .inr (.inr r) :: st, M) x := g_pl (show decode cX2_longestHeld 5 = .ok (.aload_n 0, 1) by decide +kernel) rfl
set_option maxRecDepth 20000 in
theorem kX2_longestHeld_6 {C : QC} {x : QP} {M : QM} {st : List CV} {L : QL} {a : Nat} (hk : q_kd M a = (1, 2)) : Rr C mX2_longestHeld (6, L, qr a :: st, M) x = Rr C mX2_longestHeld (9, L, q_fv M a 2 :: st, M) x := g_getf (ow := 2) (e := (2, 2, RX2, 223, 0)) (show decode cX2_longestHeld 6 = .ok (.getfield 19, 3) by decide +kernel) rfl hk
set_option maxRecDepth 20000 in
theorem kX2_longestHeld_9 {C : QC} {x : QP} {M : QM} {st : List CV} {L : QL} {a b : Int} (ha1 : -2147483648 ≤ a) (ha2 : a < 2147483648) (hb1 : -2147483648 ≤ b) (hb2 : b < 2147483648) : Rr C mX2_longestHeld (9, L, qi b :: qi a :: st, M) x = (if a < b then Rr C mX2_longestHeld (12, L, st, M) x else Rr C mX2_longestHeld (35, L, st, M) x) := (g_icmp (show decode cX2_longestHeld 9 = .ok (.if_icmp .ge 26, 3) by decide +kernel) rfl ha1 ha2 hb1 hb2).trans (g_itn c_ge)
set_option maxRecDepth 20000 in
theorem kX2_longestHeld_12 {C : QC} {x : QP} {M : QM} {st : List CV} {L : QL} {l0 l1 l2 l3 : Option CV} {r : Option Nat} : Rr C mX2_longestHeld (12, [some (.inr (.inr r)), l1, l2, l3], st, M) x = Rr C mX2_longestHeld (13, [some (.inr (.inr r)), l1, l2, l3], .inr (.inr r) :: st, M) x := g_pl (show decode cX2_longestHeld 12 = .ok (.aload_n 0, 1) by decide +kernel) rfl
set_option maxRecDepth 20000 in
theorem kX2_longestHeld_13 {C : QC} {x : QP} {M : QM} {st : List CV} {L : QL} {l0 l1 l2 l3 : Option CV} {z : Int} : Rr C mX2_longestHeld (13, [l0, l1, l2, some (qi z)], st, M) x = Rr C mX2_longestHeld (14, [l0, l1, l2, some (qi z)], qi z :: st, M) x := g_pl (show decode cX2_longestHeld 13 = .ok (.iload_n 3, 1) by decide +kernel) rfl
set_option maxRecDepth 20000 in
theorem kX2_longestHeld_14 {C : QC} {x : QP} {M : QM} {st : List CV} {L : QL} {l0 l1 l2 l3 : Option CV} {z : Int} : Rr C mX2_longestHeld (14, [l0, some (qi z), l2, l3], st, M) x = Rr C mX2_longestHeld (15, [l0, some (qi z), l2, l3], qi z :: st, M) x := g_pl (show decode cX2_longestHeld 14 = .ok (.iload_n 1, 1) by decide +kernel) rfl
set_option maxRecDepth 20000 in
theorem kX2_longestHeld_15 {C : QC} {x : QP} {M : QM} {L : QL} {rest : List CV} {a0 a1 : CV} {v : CV} {M1 : QM} {b : Nat} (hb : q_kd M b = (1, 2)) (hC : C iX2_daysOf [qr b, a0, a1] M (some v) M1) (hw : (rest.map q_wd).sum ≤ 8) (k : Rr C mX2_longestHeld (18, L, v :: rest, M1) x) : Rr C mX2_longestHeld (15, L, a1 :: a0 :: qr b :: rest, M) x := g_cv (ow := 2) (e := (0, 182, 2, [1231, 1232, 1233, 86])) (as := [a0, a1]) (show decode cX2_longestHeld 15 = .ok (.invokevirtual 36, 3) by decide +kernel) rfl rfl rfl (Or.inl rfl) rfl hb hC hw k
set_option maxRecDepth 20000 in
theorem kX2_longestHeld_18 {C : QC} {x : QP} {M : QM} {st : List CV} {L : QL} {l0 l1 l2 l3 : Option CV} {r : Option Nat} : Rr C mX2_longestHeld (18, [some (.inr (.inr r)), l1, l2, l3], st, M) x = Rr C mX2_longestHeld (19, [some (.inr (.inr r)), l1, l2, l3], .inr (.inr r) :: st, M) x := g_pl (show decode cX2_longestHeld 18 = .ok (.aload_n 0, 1) by decide +kernel) rfl
set_option maxRecDepth 20000 in
theorem kX2_longestHeld_19 {C : QC} {x : QP} {M : QM} {st : List CV} {L : QL} {l0 l1 l2 l3 : Option CV} {z : Int} : Rr C mX2_longestHeld (19, [l0, l1, some (qi z), l3], st, M) x = Rr C mX2_longestHeld (20, [l0, l1, some (qi z), l3], qi z :: st, M) x := g_pl (show decode cX2_longestHeld 19 = .ok (.iload_n 2, 1) by decide +kernel) rfl
set_option maxRecDepth 20000 in
theorem kX2_longestHeld_20 {C : QC} {x : QP} {M : QM} {st : List CV} {L : QL} {l0 l1 l2 l3 : Option CV} {z : Int} : Rr C mX2_longestHeld (20, [l0, some (qi z), l2, l3], st, M) x = Rr C mX2_longestHeld (21, [l0, some (qi z), l2, l3], qi z :: st, M) x := g_pl (show decode cX2_longestHeld 20 = .ok (.iload_n 1, 1) by decide +kernel) rfl
set_option maxRecDepth 20000 in
theorem kX2_longestHeld_21 {C : QC} {x : QP} {M : QM} {L : QL} {rest : List CV} {a0 a1 : CV} {v : CV} {M1 : QM} {b : Nat} (hb : q_kd M b = (1, 2)) (hC : C iX2_daysOf [qr b, a0, a1] M (some v) M1) (hw : (rest.map q_wd).sum ≤ 8) (k : Rr C mX2_longestHeld (24, L, v :: rest, M1) x) : Rr C mX2_longestHeld (21, L, a1 :: a0 :: qr b :: rest, M) x := g_cv (ow := 2) (e := (0, 182, 2, [1231, 1232, 1233, 86])) (as := [a0, a1]) (show decode cX2_longestHeld 21 = .ok (.invokevirtual 36, 3) by decide +kernel) rfl rfl rfl (Or.inl rfl) rfl hb hC hw k
set_option maxRecDepth 20000 in
theorem kX2_longestHeld_24 {C : QC} {x : QP} {M : QM} {st : List CV} {L : QL} {a b : Int} (ha1 : -2147483648 ≤ a) (ha2 : a < 2147483648) (hb1 : -2147483648 ≤ b) (hb2 : b < 2147483648) : Rr C mX2_longestHeld (24, L, qi b :: qi a :: st, M) x = (if b < a then Rr C mX2_longestHeld (27, L, st, M) x else Rr C mX2_longestHeld (29, L, st, M) x) := (g_icmp (show decode cX2_longestHeld 24 = .ok (.if_icmp .le 5, 3) by decide +kernel) rfl ha1 ha2 hb1 hb2).trans (g_itn c_le)
set_option maxRecDepth 20000 in
theorem kX2_longestHeld_27 {C : QC} {x : QP} {M : QM} {st : List CV} {L : QL} {l0 l1 l2 l3 : Option CV} {z : Int} : Rr C mX2_longestHeld (27, [l0, l1, l2, some (qi z)], st, M) x = Rr C mX2_longestHeld (28, [l0, l1, l2, some (qi z)], qi z :: st, M) x := g_pl (show decode cX2_longestHeld 27 = .ok (.iload_n 3, 1) by decide +kernel) rfl
set_option maxRecDepth 20000 in
theorem kX2_longestHeld_28 {C : QC} {x : QP} {M : QM} {st : List CV} {L : QL} {l0 l1 l2 l3 : Option CV} {z : Int} : Rr C mX2_longestHeld (28, [l0, l1, l2, l3], qi z :: st, M) x = Rr C mX2_longestHeld (29, [l0, q_cut l1, some (qi z), l3], st, M) x := g_pl (show decode cX2_longestHeld 28 = .ok (.istore_n 2, 1) by decide +kernel) rfl
set_option maxRecDepth 20000 in
theorem kX2_longestHeld_29 {C : QC} {x : QP} {M : QM} {st : List CV} {L : QL} {l0 l1 l2 l3 : Option CV} {z : Int} : Rr C mX2_longestHeld (29, [l0, l1, l2, some (qi z)], st, M) x = Rr C mX2_longestHeld (32, [l0, l1, q_cut l2, some (qi (z + 1))], st, M) x := g_pl (show decode cX2_longestHeld 29 = .ok (.iinc 3 1, 3) by decide +kernel) rfl
set_option maxRecDepth 20000 in
theorem kX2_longestHeld_32 {C : QC} {x : QP} {M : QM} {st : List CV} {L : QL} : Rr C mX2_longestHeld (32, L, st, M) x = Rr C mX2_longestHeld (4, L, st, M) x := g_pl (show decode cX2_longestHeld 32 = .ok (.goto (-28), 3) by decide +kernel) rfl
set_option maxRecDepth 20000 in
theorem kX2_longestHeld_35 {C : QC} {x : QP} {M : QM} {st : List CV} {L : QL} {l0 l1 l2 l3 : Option CV} {z : Int} : Rr C mX2_longestHeld (35, [l0, l1, some (qi z), l3], st, M) x = Rr C mX2_longestHeld (36, [l0, l1, some (qi z), l3], qi z :: st, M) x := g_pl (show decode cX2_longestHeld 35 = .ok (.iload_n 2, 1) by decide +kernel) rfl
set_option maxRecDepth 20000 in
theorem kX2_longestHeld_36 {C : QC} {x : QP} {M : QM} {st : List CV} {L : QL} {z : Int} : Rr C mX2_longestHeld (36, L, [qi z], M) x = x (some (qi z)) M := g_iret (show decode cX2_longestHeld 36 = .ok (.ireturn, 1) by decide +kernel) rfl
set_option maxRecDepth 20000 in
theorem eX2_longestHeld {d : Nat} {M : QM} {x : QP} {a : Nat} {v0 : Int} : q_T (d + 1) iX2_longestHeld [qr a, qi v0] M x = Rr (q_C d) mX2_longestHeld (0, [some (qr a), some (qi v0), none, none], [], M) x := g_entryT (e := _) rfl (Nat.le_of_ble_eq_true rfl) rfl rfl
def mX3_init : QI := (3, cX3_init, true, none)
set_option maxRecDepth 20000 in
theorem kX3_init_0 {C : QC} {x : QP} {M : QM} {st : List CV} {L : QL} {l0 l1 l2 l3 l4 l5 l6 : Option CV} {r : Option Nat} : Rr C mX3_init (0, [some (.inr (.inr r)), l1, l2, l3, l4, l5, l6], st, M) x = Rr C mX3_init (1, [some (.inr (.inr r)), l1, l2, l3, l4, l5, l6], .inr (.inr r) :: st, M) x := g_pl (show decode cX3_init 0 = .ok (.aload_n 0, 1) by decide +kernel) rfl
set_option maxRecDepth 20000 in
theorem kX3_init_1 {C : QC} {x : QP} {M : QM} {st : List CV} {L : QL} {a : Nat} (hw : (st.map q_wd).sum ≤ 8) : Rr C mX3_init (1, L, qr a :: st, M) x = Rr C mX3_init (4, L, st, M) x := g_obj (ow := 3) (e := 456) (show decode cX3_init 1 = .ok (.invokespecial 1, 3) by decide +kernel) rfl hw
set_option maxRecDepth 20000 in
theorem kX3_init_4 {C : QC} {x : QP} {M : QM} {st : List CV} {L : QL} {l0 l1 l2 l3 l4 l5 l6 : Option CV} {r : Option Nat} : Rr C mX3_init (4, [some (.inr (.inr r)), l1, l2, l3, l4, l5, l6], st, M) x = Rr C mX3_init (5, [some (.inr (.inr r)), l1, l2, l3, l4, l5, l6], .inr (.inr r) :: st, M) x := g_pl (show decode cX3_init 4 = .ok (.aload_n 0, 1) by decide +kernel) rfl
set_option maxRecDepth 20000 in
theorem kX3_init_5 {C : QC} {x : QP} {M : QM} {st : List CV} {L : QL} {l0 l1 l2 l3 l4 l5 l6 : Option CV} {z : Int} : Rr C mX3_init (5, [l0, some (qi z), l2, l3, l4, l5, l6], st, M) x = Rr C mX3_init (6, [l0, some (qi z), l2, l3, l4, l5, l6], qi z :: st, M) x := g_pl (show decode cX3_init 5 = .ok (.iload_n 1, 1) by decide +kernel) rfl
set_option maxRecDepth 20000 in
theorem kX3_init_6 {C : QC} {x : QP} {M : QM} {st : List CV} {L : QL} {z : Int} {a : Nat} (hk : q_kd M a = (1, 3)) : Rr C mX3_init (6, L, qi z :: qr a :: st, M) x = Rr C mX3_init (9, L, st, q_wr M a 0 (qi z)) x := g_putf (ow := 3) (ini := true) (e := (3, 0, RX3, 457, 0)) (r := (RX3, TX3, 5)) (t := tyX3) (show decode cX3_init 6 = .ok (.putfield 7, 3) by decide +kernel) rfl rfl rfl rfl (by decide +kernel) hk
set_option maxRecDepth 20000 in
theorem kX3_init_9 {C : QC} {x : QP} {M : QM} {st : List CV} {L : QL} {l0 l1 l2 l3 l4 l5 l6 : Option CV} {r : Option Nat} : Rr C mX3_init (9, [some (.inr (.inr r)), l1, l2, l3, l4, l5, l6], st, M) x = Rr C mX3_init (10, [some (.inr (.inr r)), l1, l2, l3, l4, l5, l6], .inr (.inr r) :: st, M) x := g_pl (show decode cX3_init 9 = .ok (.aload_n 0, 1) by decide +kernel) rfl
set_option maxRecDepth 20000 in
theorem kX3_init_10 {C : QC} {x : QP} {M : QM} {st : List CV} {L : QL} {l0 l1 l2 l3 l4 l5 l6 : Option CV} {z : Int} : Rr C mX3_init (10, [l0, l1, some (qi z), l3, l4, l5, l6], st, M) x = Rr C mX3_init (11, [l0, l1, some (qi z), l3, l4, l5, l6], qi z :: st, M) x := g_pl (show decode cX3_init 10 = .ok (.iload_n 2, 1) by decide +kernel) rfl
set_option maxRecDepth 20000 in
theorem kX3_init_11 {C : QC} {x : QP} {M : QM} {st : List CV} {L : QL} {z : Int} {a : Nat} (hk : q_kd M a = (1, 3)) : Rr C mX3_init (11, L, qi z :: qr a :: st, M) x = Rr C mX3_init (14, L, st, q_wr M a 1 (qi z)) x := g_putf (ow := 3) (ini := true) (e := (3, 1, RX3, 460, 0)) (r := (RX3, TX3, 5)) (t := tyX3) (show decode cX3_init 11 = .ok (.putfield 13, 3) by decide +kernel) rfl rfl rfl rfl (by decide +kernel) hk
set_option maxRecDepth 20000 in
theorem kX3_init_14 {C : QC} {x : QP} {M : QM} {st : List CV} {L : QL} {l0 l1 l2 l3 l4 l5 l6 : Option CV} {r : Option Nat} : Rr C mX3_init (14, [some (.inr (.inr r)), l1, l2, l3, l4, l5, l6], st, M) x = Rr C mX3_init (15, [some (.inr (.inr r)), l1, l2, l3, l4, l5, l6], .inr (.inr r) :: st, M) x := g_pl (show decode cX3_init 14 = .ok (.aload_n 0, 1) by decide +kernel) rfl
set_option maxRecDepth 20000 in
theorem kX3_init_15 {C : QC} {x : QP} {M : QM} {st : List CV} {L : QL} {l0 l1 l2 l3 l4 l5 l6 : Option CV} {z : Int} : Rr C mX3_init (15, [l0, l1, l2, some (qi z), l4, l5, l6], st, M) x = Rr C mX3_init (16, [l0, l1, l2, some (qi z), l4, l5, l6], qi z :: st, M) x := g_pl (show decode cX3_init 15 = .ok (.iload_n 3, 1) by decide +kernel) rfl
set_option maxRecDepth 20000 in
theorem kX3_init_16 {C : QC} {x : QP} {M : QM} {st : List CV} {L : QL} {z : Int} {a : Nat} (hk : q_kd M a = (1, 3)) : Rr C mX3_init (16, L, qi z :: qr a :: st, M) x = Rr C mX3_init (19, L, st, q_wr M a 2 (qi z)) x := g_putf (ow := 3) (ini := true) (e := (3, 2, RX3, 463, 0)) (r := (RX3, TX3, 5)) (t := tyX3) (show decode cX3_init 16 = .ok (.putfield 16, 3) by decide +kernel) rfl rfl rfl rfl (by decide +kernel) hk
set_option maxRecDepth 20000 in
theorem kX3_init_19 {C : QC} {x : QP} {M : QM} {st : List CV} {L : QL} {l0 l1 l2 l3 l4 l5 l6 : Option CV} {r : Option Nat} : Rr C mX3_init (19, [some (.inr (.inr r)), l1, l2, l3, l4, l5, l6], st, M) x = Rr C mX3_init (20, [some (.inr (.inr r)), l1, l2, l3, l4, l5, l6], .inr (.inr r) :: st, M) x := g_pl (show decode cX3_init 19 = .ok (.aload_n 0, 1) by decide +kernel) rfl
set_option maxRecDepth 20000 in
theorem kX3_init_20 {C : QC} {x : QP} {M : QM} {st : List CV} {L : QL} {l0 l1 l2 l3 l4 l5 l6 : Option CV} {z : Int} : Rr C mX3_init (20, [l0, l1, l2, l3, some (qi z), l5, l6], st, M) x = Rr C mX3_init (22, [l0, l1, l2, l3, some (qi z), l5, l6], qi z :: st, M) x := g_pl (show decode cX3_init 20 = .ok (.iload 4, 2) by decide +kernel) rfl
set_option maxRecDepth 20000 in
theorem kX3_init_22 {C : QC} {x : QP} {M : QM} {st : List CV} {L : QL} {z : Int} {a : Nat} (hk : q_kd M a = (1, 3)) : Rr C mX3_init (22, L, qi z :: qr a :: st, M) x = Rr C mX3_init (25, L, st, q_wr M a 3 (qi z)) x := g_putf (ow := 3) (ini := true) (e := (3, 3, RX3, 466, 0)) (r := (RX3, TX3, 5)) (t := tyX3) (show decode cX3_init 22 = .ok (.putfield 19, 3) by decide +kernel) rfl rfl rfl rfl (by decide +kernel) hk
set_option maxRecDepth 20000 in
theorem kX3_init_25 {C : QC} {x : QP} {M : QM} {st : List CV} {L : QL} {l0 l1 l2 l3 l4 l5 l6 : Option CV} {r : Option Nat} : Rr C mX3_init (25, [some (.inr (.inr r)), l1, l2, l3, l4, l5, l6], st, M) x = Rr C mX3_init (26, [some (.inr (.inr r)), l1, l2, l3, l4, l5, l6], .inr (.inr r) :: st, M) x := g_pl (show decode cX3_init 25 = .ok (.aload_n 0, 1) by decide +kernel) rfl
set_option maxRecDepth 20000 in
theorem kX3_init_26 {C : QC} {x : QP} {M : QM} {st : List CV} {L : QL} {l0 l1 l2 l3 l4 l5 l6 : Option CV} {z : Int} : Rr C mX3_init (26, [l0, l1, l2, l3, l4, some (ql z), l6], st, M) x = Rr C mX3_init (28, [l0, l1, l2, l3, l4, some (ql z), l6], ql z :: st, M) x := g_pl (show decode cX3_init 26 = .ok (.lload 5, 2) by decide +kernel) rfl
set_option maxRecDepth 20000 in
theorem kX3_init_28 {C : QC} {x : QP} {M : QM} {st : List CV} {L : QL} {z : Int} {a : Nat} (hk : q_kd M a = (1, 3)) : Rr C mX3_init (28, L, ql z :: qr a :: st, M) x = Rr C mX3_init (31, L, st, q_wr M a 4 (ql z)) x := g_putf (ow := 3) (ini := true) (e := (3, 4, RX3, 469, 0)) (r := (RX3, TX3, 5)) (t := tyX3) (show decode cX3_init 28 = .ok (.putfield 22, 3) by decide +kernel) rfl rfl rfl rfl (by decide +kernel) hk
set_option maxRecDepth 20000 in
theorem kX3_init_31 {C : QC} {x : QP} {M : QM} {st : List CV} {L : QL} : Rr C mX3_init (31, L, [], M) x = x none M := g_vret (show decode cX3_init 31 = .ok (.return_, 1) by decide +kernel)
set_option maxRecDepth 20000 in
theorem eX3_init {d : Nat} {M : QM} {x : QP} {a : Nat} {v0 : Int} {v1 : Int} {v2 : Int} {v3 : Int} {v4 : Int} : q_T (d + 1) iX3_init [qr a, qi v0, qi v1, qi v2, qi v3, ql v4] M x = Rr (q_C d) mX3_init (0, [some (qr a), some (qi v0), some (qi v1), some (qi v2), some (qi v3), some (ql v4), none], [], M) x := g_entryT (e := _) rfl (Nat.le_of_ble_eq_true rfl) rfl rfl
def mX4_init : QI := (4, cX4_init, true, none)
set_option maxRecDepth 20000 in
theorem kX4_init_0 {C : QC} {x : QP} {M : QM} {st : List CV} {L : QL} {r : Option Nat} : Rr C mX4_init (0, [some (.inr (.inr r))], st, M) x = Rr C mX4_init (1, [some (.inr (.inr r))], .inr (.inr r) :: st, M) x := g_pl (show decode cX4_init 0 = .ok (.aload_n 0, 1) by decide +kernel) rfl
set_option maxRecDepth 20000 in
theorem kX4_init_1 {C : QC} {x : QP} {M : QM} {st : List CV} {L : QL} {a : Nat} (hw : (st.map q_wd).sum ≤ 8) : Rr C mX4_init (1, L, qr a :: st, M) x = Rr C mX4_init (4, L, st, M) x := g_obj (ow := 4) (e := 214) (show decode cX4_init 1 = .ok (.invokespecial 3, 3) by decide +kernel) rfl hw
set_option maxRecDepth 20000 in
theorem kX4_init_4 {C : QC} {x : QP} {M : QM} {st : List CV} {L : QL} {r : Option Nat} : Rr C mX4_init (4, [some (.inr (.inr r))], st, M) x = Rr C mX4_init (5, [some (.inr (.inr r))], .inr (.inr r) :: st, M) x := g_pl (show decode cX4_init 4 = .ok (.aload_n 0, 1) by decide +kernel) rfl
set_option maxRecDepth 20000 in
theorem kX4_init_5 {C : QC} {x : QP} {M : QM} {st : List CV} {L : QL} : Rr C mX4_init (5, L, st, M) x = Rr C mX4_init (6, L, qi 0 :: st, M) x := g_pl (show decode cX4_init 5 = .ok (.iconst 0, 1) by decide +kernel) rfl
set_option maxRecDepth 20000 in
theorem kX4_init_6 {C : QC} {x : QP} {M : QM} {st : List CV} {L : QL} {z : Int} {a : Nat} (hk : q_kd M a = (1, 4)) : Rr C mX4_init (6, L, qi z :: qr a :: st, M) x = Rr C mX4_init (9, L, st, q_wr M a 0 (qi z)) x := g_putf (ow := 4) (ini := true) (e := (4, 0, RX4, 267, 0)) (r := (RX4, TX4, 9)) (t := tyX4) (show decode cX4_init 6 = .ok (.putfield 9, 3) by decide +kernel) rfl rfl rfl rfl (by decide +kernel) hk
set_option maxRecDepth 20000 in
theorem kX4_init_9 {C : QC} {x : QP} {M : QM} {st : List CV} {L : QL} {r : Option Nat} : Rr C mX4_init (9, [some (.inr (.inr r))], st, M) x = Rr C mX4_init (10, [some (.inr (.inr r))], .inr (.inr r) :: st, M) x := g_pl (show decode cX4_init 9 = .ok (.aload_n 0, 1) by decide +kernel) rfl
set_option maxRecDepth 20000 in
theorem kX4_init_10 {C : QC} {x : QP} {M : QM} {st : List CV} {L : QL} : Rr C mX4_init (10, L, st, M) x = Rr C mX4_init (11, L, qi 0 :: st, M) x := g_pl (show decode cX4_init 10 = .ok (.iconst 0, 1) by decide +kernel) rfl
set_option maxRecDepth 20000 in
theorem kX4_init_11 {C : QC} {x : QP} {M : QM} {st : List CV} {L : QL} {z : Int} {a : Nat} (hk : q_kd M a = (1, 4)) : Rr C mX4_init (11, L, qi z :: qr a :: st, M) x = Rr C mX4_init (14, L, st, q_wr M a 1 (qi z)) x := g_putf (ow := 4) (ini := true) (e := (4, 1, RX4, 271, 0)) (r := (RX4, TX4, 9)) (t := tyX4) (show decode cX4_init 11 = .ok (.putfield 15, 3) by decide +kernel) rfl rfl rfl rfl (by decide +kernel) hk
set_option maxRecDepth 20000 in
theorem kX4_init_14 {C : QC} {x : QP} {M : QM} {st : List CV} {L : QL} {r : Option Nat} : Rr C mX4_init (14, [some (.inr (.inr r))], st, M) x = Rr C mX4_init (15, [some (.inr (.inr r))], .inr (.inr r) :: st, M) x := g_pl (show decode cX4_init 14 = .ok (.aload_n 0, 1) by decide +kernel) rfl
set_option maxRecDepth 20000 in
theorem kX4_init_15 {C : QC} {x : QP} {M : QM} {st : List CV} {L : QL} : Rr C mX4_init (15, L, st, M) x = Rr C mX4_init (17, L, qi (-5) :: st, M) x := g_pl (show decode cX4_init 15 = .ok (.bipush (-5), 2) by decide +kernel) rfl
set_option maxRecDepth 20000 in
theorem kX4_init_17 {C : QC} {x : QP} {M : QM} {st : List CV} {L : QL} {z : Int} {a : Nat} (hk : q_kd M a = (1, 4)) : Rr C mX4_init (17, L, qi z :: qr a :: st, M) x = Rr C mX4_init (20, L, st, q_wr M a 2 (qi z)) x := g_putf (ow := 4) (ini := true) (e := (4, 2, RX4, 274, 0)) (r := (RX4, TX4, 9)) (t := tyX4) (show decode cX4_init 17 = .ok (.putfield 18, 3) by decide +kernel) rfl rfl rfl rfl (by decide +kernel) hk
set_option maxRecDepth 20000 in
theorem kX4_init_20 {C : QC} {x : QP} {M : QM} {st : List CV} {L : QL} {r : Option Nat} : Rr C mX4_init (20, [some (.inr (.inr r))], st, M) x = Rr C mX4_init (21, [some (.inr (.inr r))], .inr (.inr r) :: st, M) x := g_pl (show decode cX4_init 20 = .ok (.aload_n 0, 1) by decide +kernel) rfl
set_option maxRecDepth 20000 in
theorem kX4_init_21 {C : QC} {x : QP} {M : QM} {st : List CV} {L : QL} : Rr C mX4_init (21, L, st, M) x = Rr C mX4_init (23, L, qi (-5) :: st, M) x := g_pl (show decode cX4_init 21 = .ok (.bipush (-5), 2) by decide +kernel) rfl
set_option maxRecDepth 20000 in
theorem kX4_init_23 {C : QC} {x : QP} {M : QM} {st : List CV} {L : QL} {z : Int} {a : Nat} (hk : q_kd M a = (1, 4)) : Rr C mX4_init (23, L, qi z :: qr a :: st, M) x = Rr C mX4_init (26, L, st, q_wr M a 3 (qi z)) x := g_putf (ow := 4) (ini := true) (e := (4, 3, RX4, 277, 0)) (r := (RX4, TX4, 9)) (t := tyX4) (show decode cX4_init 23 = .ok (.putfield 21, 3) by decide +kernel) rfl rfl rfl rfl (by decide +kernel) hk
set_option maxRecDepth 20000 in
theorem kX4_init_26 {C : QC} {x : QP} {M : QM} {st : List CV} {L : QL} {r : Option Nat} : Rr C mX4_init (26, [some (.inr (.inr r))], st, M) x = Rr C mX4_init (27, [some (.inr (.inr r))], .inr (.inr r) :: st, M) x := g_pl (show decode cX4_init 26 = .ok (.aload_n 0, 1) by decide +kernel) rfl
set_option maxRecDepth 20000 in
theorem kX4_init_27 {C : QC} {x : QP} {M : QM} {st : List CV} {L : QL} : Rr C mX4_init (27, L, st, M) x = Rr C mX4_init (28, L, qi 0 :: st, M) x := g_pl (show decode cX4_init 27 = .ok (.iconst 0, 1) by decide +kernel) rfl
set_option maxRecDepth 20000 in
theorem kX4_init_28 {C : QC} {x : QP} {M : QM} {st : List CV} {L : QL} {z : Int} {a : Nat} (hk : q_kd M a = (1, 4)) : Rr C mX4_init (28, L, qi z :: qr a :: st, M) x = Rr C mX4_init (31, L, st, q_wr M a 4 (qi z)) x := g_putf (ow := 4) (ini := true) (e := (4, 4, RX4, 279, 0)) (r := (RX4, TX4, 9)) (t := tyX4) (show decode cX4_init 28 = .ok (.putfield 24, 3) by decide +kernel) rfl rfl rfl rfl (by decide +kernel) hk
set_option maxRecDepth 20000 in
theorem kX4_init_31 {C : QC} {x : QP} {M : QM} {st : List CV} {L : QL} {r : Option Nat} : Rr C mX4_init (31, [some (.inr (.inr r))], st, M) x = Rr C mX4_init (32, [some (.inr (.inr r))], .inr (.inr r) :: st, M) x := g_pl (show decode cX4_init 31 = .ok (.aload_n 0, 1) by decide +kernel) rfl
set_option maxRecDepth 20000 in
theorem kX4_init_32 {C : QC} {x : QP} {M : QM} {st : List CV} {L : QL} : Rr C mX4_init (32, L, st, M) x = Rr C mX4_init (33, L, qi 0 :: st, M) x := g_pl (show decode cX4_init 32 = .ok (.iconst 0, 1) by decide +kernel) rfl
set_option maxRecDepth 20000 in
theorem kX4_init_33 {C : QC} {x : QP} {M : QM} {st : List CV} {L : QL} {z : Int} {a : Nat} (hk : q_kd M a = (1, 4)) : Rr C mX4_init (33, L, qi z :: qr a :: st, M) x = Rr C mX4_init (36, L, st, q_wr M a 5 (qi z)) x := g_putf (ow := 4) (ini := true) (e := (4, 5, RX4, 282, 0)) (r := (RX4, TX4, 9)) (t := tyX4) (show decode cX4_init 33 = .ok (.putfield 27, 3) by decide +kernel) rfl rfl rfl rfl (by decide +kernel) hk
set_option maxRecDepth 20000 in
theorem kX4_init_36 {C : QC} {x : QP} {M : QM} {st : List CV} {L : QL} {r : Option Nat} : Rr C mX4_init (36, [some (.inr (.inr r))], st, M) x = Rr C mX4_init (37, [some (.inr (.inr r))], .inr (.inr r) :: st, M) x := g_pl (show decode cX4_init 36 = .ok (.aload_n 0, 1) by decide +kernel) rfl
set_option maxRecDepth 20000 in
theorem kX4_init_37 {C : QC} {x : QP} {M : QM} {st : List CV} {L : QL} : Rr C mX4_init (37, L, st, M) x = Rr C mX4_init (40, L, qr (q_top M) :: st, q_al M (1, 2) 3 (fun k => q_dv (tyX2 k))) x := g_new (ow := 4) (e := (2, 215, 216, 86)) (r := (RX2, TX2, 3)) (t := tyX2) (show decode cX4_init 37 = .ok (.new 30, 3) by decide +kernel) rfl rfl rfl
set_option maxRecDepth 20000 in
theorem kX4_init_40i {C : QC} {x : QP} {M : QM} {st : List CV} {L : QL} {a : Int} : Rr C mX4_init (40, L, qi a :: st, M) x = Rr C mX4_init (41, L, qi a :: qi a :: st, M) x := g_pl (show decode cX4_init 40 = .ok (.dup, 1) by decide +kernel) rfl
set_option maxRecDepth 20000 in
theorem kX4_init_40r {C : QC} {x : QP} {M : QM} {st : List CV} {L : QL} {a : Option Nat} : Rr C mX4_init (40, L, .inr (.inr a) :: st, M) x = Rr C mX4_init (41, L, .inr (.inr a) :: .inr (.inr a) :: st, M) x := g_pl (show decode cX4_init 40 = .ok (.dup, 1) by decide +kernel) rfl
set_option maxRecDepth 20000 in
theorem kX4_init_41 {C : QC} {x : QP} {M : QM} {L : QL} {rest : List CV} {M1 : QM} {b : Nat} (hC : C iX2_init [qr b] M none M1) (hw : (rest.map q_wd).sum ≤ 8) (k : Rr C mX4_init (44, L, rest, M1) x) : Rr C mX4_init (41, L, qr b :: rest, M) x := g_ci (ow := 4) (e := (4, 9, 0, [4, 218, 86])) (as := []) (show decode cX4_init 41 = .ok (.invokespecial 32, 3) by decide +kernel) rfl rfl rfl (Or.inl (Or.inr rfl)) rfl hC hw k
set_option maxRecDepth 20000 in
theorem kX4_init_44 {C : QC} {x : QP} {M : QM} {st : List CV} {L : QL} {z : Option Nat} {a : Nat} (hk : q_kd M a = (1, 4)) : Rr C mX4_init (44, L, .inr (.inr z) :: qr a :: st, M) x = Rr C mX4_init (47, L, st, q_wr M a 6 (.inr (.inr z))) x := g_putf (ow := 4) (ini := true) (e := (4, 6, RX4, 285, 0)) (r := (RX4, TX4, 9)) (t := tyX4) (show decode cX4_init 44 = .ok (.putfield 33, 3) by decide +kernel) rfl rfl rfl rfl (by decide +kernel) hk
set_option maxRecDepth 20000 in
theorem kX4_init_47 {C : QC} {x : QP} {M : QM} {st : List CV} {L : QL} {r : Option Nat} : Rr C mX4_init (47, [some (.inr (.inr r))], st, M) x = Rr C mX4_init (48, [some (.inr (.inr r))], .inr (.inr r) :: st, M) x := g_pl (show decode cX4_init 47 = .ok (.aload_n 0, 1) by decide +kernel) rfl
set_option maxRecDepth 20000 in
theorem kX4_init_48 {C : QC} {x : QP} {M : QM} {st : List CV} {L : QL} : Rr C mX4_init (48, L, st, M) x = Rr C mX4_init (51, L, qr (q_top M) :: st, q_al M (1, 9) 3 (fun k => q_dv (tyX9 k))) x := g_new (ow := 4) (e := (9, 232, 233, 87)) (r := (RX9, TX9, 3)) (t := tyX9) (show decode cX4_init 48 = .ok (.new 37, 3) by decide +kernel) rfl rfl rfl
set_option maxRecDepth 20000 in
theorem kX4_init_51i {C : QC} {x : QP} {M : QM} {st : List CV} {L : QL} {a : Int} : Rr C mX4_init (51, L, qi a :: st, M) x = Rr C mX4_init (52, L, qi a :: qi a :: st, M) x := g_pl (show decode cX4_init 51 = .ok (.dup, 1) by decide +kernel) rfl
set_option maxRecDepth 20000 in
theorem kX4_init_51r {C : QC} {x : QP} {M : QM} {st : List CV} {L : QL} {a : Option Nat} : Rr C mX4_init (51, L, .inr (.inr a) :: st, M) x = Rr C mX4_init (52, L, .inr (.inr a) :: .inr (.inr a) :: st, M) x := g_pl (show decode cX4_init 51 = .ok (.dup, 1) by decide +kernel) rfl
set_option maxRecDepth 20000 in
theorem kX4_init_52 {C : QC} {x : QP} {M : QM} {L : QL} {rest : List CV} {M1 : QM} {b : Nat} (hC : C iX9_init [qr b] M none M1) (hw : (rest.map q_wd).sum ≤ 8) (k : Rr C mX4_init (55, L, rest, M1) x) : Rr C mX4_init (52, L, qr b :: rest, M) x := g_ci (ow := 4) (e := (4, 10, 0, [5, 235, 87])) (as := []) (show decode cX4_init 52 = .ok (.invokespecial 39, 3) by decide +kernel) rfl rfl rfl (Or.inl (Or.inr rfl)) rfl hC hw k
set_option maxRecDepth 20000 in
theorem kX4_init_55 {C : QC} {x : QP} {M : QM} {st : List CV} {L : QL} {z : Option Nat} {a : Nat} (hk : q_kd M a = (1, 4)) : Rr C mX4_init (55, L, .inr (.inr z) :: qr a :: st, M) x = Rr C mX4_init (58, L, st, q_wr M a 7 (.inr (.inr z))) x := g_putf (ow := 4) (ini := true) (e := (4, 7, RX4, 288, 0)) (r := (RX4, TX4, 9)) (t := tyX4) (show decode cX4_init 55 = .ok (.putfield 40, 3) by decide +kernel) rfl rfl rfl rfl (by decide +kernel) hk
set_option maxRecDepth 20000 in
theorem kX4_init_58 {C : QC} {x : QP} {M : QM} {st : List CV} {L : QL} {r : Option Nat} : Rr C mX4_init (58, [some (.inr (.inr r))], st, M) x = Rr C mX4_init (59, [some (.inr (.inr r))], .inr (.inr r) :: st, M) x := g_pl (show decode cX4_init 58 = .ok (.aload_n 0, 1) by decide +kernel) rfl
set_option maxRecDepth 20000 in
theorem kX4_init_59 {C : QC} {x : QP} {M : QM} {st : List CV} {L : QL} : Rr C mX4_init (59, L, st, M) x = Rr C mX4_init (62, L, qr (q_top M) :: st, q_al M (1, 1) 4 (fun k => q_dv (tyX1 k))) x := g_new (ow := 4) (e := (1, 248, 249, 88)) (r := (RX1, TX1, 4)) (t := tyX1) (show decode cX4_init 59 = .ok (.new 44, 3) by decide +kernel) rfl rfl rfl
set_option maxRecDepth 20000 in
theorem kX4_init_62i {C : QC} {x : QP} {M : QM} {st : List CV} {L : QL} {a : Int} : Rr C mX4_init (62, L, qi a :: st, M) x = Rr C mX4_init (63, L, qi a :: qi a :: st, M) x := g_pl (show decode cX4_init 62 = .ok (.dup, 1) by decide +kernel) rfl
set_option maxRecDepth 20000 in
theorem kX4_init_62r {C : QC} {x : QP} {M : QM} {st : List CV} {L : QL} {a : Option Nat} : Rr C mX4_init (62, L, .inr (.inr a) :: st, M) x = Rr C mX4_init (63, L, .inr (.inr a) :: .inr (.inr a) :: st, M) x := g_pl (show decode cX4_init 62 = .ok (.dup, 1) by decide +kernel) rfl
set_option maxRecDepth 20000 in
theorem kX4_init_63 {C : QC} {x : QP} {M : QM} {L : QL} {rest : List CV} {M1 : QM} {b : Nat} (hC : C iX1_init [qr b] M none M1) (hw : (rest.map q_wd).sum ≤ 8) (k : Rr C mX4_init (66, L, rest, M1) x) : Rr C mX4_init (63, L, qr b :: rest, M) x := g_ci (ow := 4) (e := (4, 11, 0, [6, 251, 88])) (as := []) (show decode cX4_init 63 = .ok (.invokespecial 46, 3) by decide +kernel) rfl rfl rfl (Or.inl (Or.inr rfl)) rfl hC hw k
set_option maxRecDepth 20000 in
theorem kX4_init_66 {C : QC} {x : QP} {M : QM} {st : List CV} {L : QL} {z : Option Nat} {a : Nat} (hk : q_kd M a = (1, 4)) : Rr C mX4_init (66, L, .inr (.inr z) :: qr a :: st, M) x = Rr C mX4_init (69, L, st, q_wr M a 8 (.inr (.inr z))) x := g_putf (ow := 4) (ini := true) (e := (4, 8, RX4, 292, 0)) (r := (RX4, TX4, 9)) (t := tyX4) (show decode cX4_init 66 = .ok (.putfield 47, 3) by decide +kernel) rfl rfl rfl rfl (by decide +kernel) hk
set_option maxRecDepth 20000 in
theorem kX4_init_69 {C : QC} {x : QP} {M : QM} {st : List CV} {L : QL} : Rr C mX4_init (69, L, [], M) x = x none M := g_vret (show decode cX4_init 69 = .ok (.return_, 1) by decide +kernel)
set_option maxRecDepth 20000 in
theorem eX4_init {d : Nat} {M : QM} {x : QP} {a : Nat} : q_T (d + 1) iX4_init [qr a] M x = Rr (q_C d) mX4_init (0, [some (qr a)], [], M) x := g_entryT (e := _) rfl (Nat.le_of_ble_eq_true rfl) rfl rfl
def mX4_begin : QI := (4, cX4_begin, false, none)
set_option maxRecDepth 20000 in
theorem kX4_begin_0 {C : QC} {x : QP} {M : QM} {st : List CV} {L : QL} {l0 l1 l2 l3 l4 l5 : Option CV} {r : Option Nat} : Rr C mX4_begin (0, [some (.inr (.inr r)), l1, l2, l3, l4, l5], st, M) x = Rr C mX4_begin (1, [some (.inr (.inr r)), l1, l2, l3, l4, l5], .inr (.inr r) :: st, M) x := g_pl (show decode cX4_begin 0 = .ok (.aload_n 0, 1) by decide +kernel) rfl
set_option maxRecDepth 20000 in
theorem kX4_begin_1 {C : QC} {x : QP} {M : QM} {st : List CV} {L : QL} {l0 l1 l2 l3 l4 l5 : Option CV} {z : Int} : Rr C mX4_begin (1, [l0, some (qi z), l2, l3, l4, l5], st, M) x = Rr C mX4_begin (2, [l0, some (qi z), l2, l3, l4, l5], qi z :: st, M) x := g_pl (show decode cX4_begin 1 = .ok (.iload_n 1, 1) by decide +kernel) rfl
set_option maxRecDepth 20000 in
theorem kX4_begin_2 {C : QC} {x : QP} {M : QM} {st : List CV} {L : QL} {z : Int} {a : Nat} (hk : q_kd M a = (1, 4)) : Rr C mX4_begin (2, L, qi z :: qr a :: st, M) x = Rr C mX4_begin (5, L, st, q_wr M a 0 (qi z)) x := g_putf (ow := 4) (ini := false) (e := (4, 0, RX4, 267, 0)) (r := (RX4, TX4, 9)) (t := tyX4) (show decode cX4_begin 2 = .ok (.putfield 9, 3) by decide +kernel) rfl rfl rfl rfl (by decide +kernel) hk
set_option maxRecDepth 20000 in
theorem kX4_begin_5 {C : QC} {x : QP} {M : QM} {st : List CV} {L : QL} {l0 l1 l2 l3 l4 l5 : Option CV} {r : Option Nat} : Rr C mX4_begin (5, [some (.inr (.inr r)), l1, l2, l3, l4, l5], st, M) x = Rr C mX4_begin (6, [some (.inr (.inr r)), l1, l2, l3, l4, l5], .inr (.inr r) :: st, M) x := g_pl (show decode cX4_begin 5 = .ok (.aload_n 0, 1) by decide +kernel) rfl
set_option maxRecDepth 20000 in
theorem kX4_begin_6 {C : QC} {x : QP} {M : QM} {st : List CV} {L : QL} {l0 l1 l2 l3 l4 l5 : Option CV} {z : Int} : Rr C mX4_begin (6, [l0, l1, l2, some (qi z), l4, l5], st, M) x = Rr C mX4_begin (7, [l0, l1, l2, some (qi z), l4, l5], qi z :: st, M) x := g_pl (show decode cX4_begin 6 = .ok (.iload_n 3, 1) by decide +kernel) rfl
set_option maxRecDepth 20000 in
theorem kX4_begin_7 {C : QC} {x : QP} {M : QM} {st : List CV} {L : QL} {z : Int} {a : Nat} (hk : q_kd M a = (1, 4)) : Rr C mX4_begin (7, L, qi z :: qr a :: st, M) x = Rr C mX4_begin (10, L, st, q_wr M a 1 (qi z)) x := g_putf (ow := 4) (ini := false) (e := (4, 1, RX4, 271, 0)) (r := (RX4, TX4, 9)) (t := tyX4) (show decode cX4_begin 7 = .ok (.putfield 15, 3) by decide +kernel) rfl rfl rfl rfl (by decide +kernel) hk
set_option maxRecDepth 20000 in
theorem kX4_begin_10 {C : QC} {x : QP} {M : QM} {st : List CV} {L : QL} {l0 l1 l2 l3 l4 l5 : Option CV} {r : Option Nat} : Rr C mX4_begin (10, [some (.inr (.inr r)), l1, l2, l3, l4, l5], st, M) x = Rr C mX4_begin (11, [some (.inr (.inr r)), l1, l2, l3, l4, l5], .inr (.inr r) :: st, M) x := g_pl (show decode cX4_begin 10 = .ok (.aload_n 0, 1) by decide +kernel) rfl
set_option maxRecDepth 20000 in
theorem kX4_begin_11 {C : QC} {x : QP} {M : QM} {st : List CV} {L : QL} : Rr C mX4_begin (11, L, st, M) x = Rr C mX4_begin (13, L, qi (-5) :: st, M) x := g_pl (show decode cX4_begin 11 = .ok (.bipush (-5), 2) by decide +kernel) rfl
set_option maxRecDepth 20000 in
theorem kX4_begin_13 {C : QC} {x : QP} {M : QM} {st : List CV} {L : QL} {z : Int} {a : Nat} (hk : q_kd M a = (1, 4)) : Rr C mX4_begin (13, L, qi z :: qr a :: st, M) x = Rr C mX4_begin (16, L, st, q_wr M a 2 (qi z)) x := g_putf (ow := 4) (ini := false) (e := (4, 2, RX4, 274, 0)) (r := (RX4, TX4, 9)) (t := tyX4) (show decode cX4_begin 13 = .ok (.putfield 18, 3) by decide +kernel) rfl rfl rfl rfl (by decide +kernel) hk
set_option maxRecDepth 20000 in
theorem kX4_begin_16 {C : QC} {x : QP} {M : QM} {st : List CV} {L : QL} {l0 l1 l2 l3 l4 l5 : Option CV} {r : Option Nat} : Rr C mX4_begin (16, [some (.inr (.inr r)), l1, l2, l3, l4, l5], st, M) x = Rr C mX4_begin (17, [some (.inr (.inr r)), l1, l2, l3, l4, l5], .inr (.inr r) :: st, M) x := g_pl (show decode cX4_begin 16 = .ok (.aload_n 0, 1) by decide +kernel) rfl
set_option maxRecDepth 20000 in
theorem kX4_begin_17 {C : QC} {x : QP} {M : QM} {st : List CV} {L : QL} : Rr C mX4_begin (17, L, st, M) x = Rr C mX4_begin (19, L, qi (-5) :: st, M) x := g_pl (show decode cX4_begin 17 = .ok (.bipush (-5), 2) by decide +kernel) rfl
set_option maxRecDepth 20000 in
theorem kX4_begin_19 {C : QC} {x : QP} {M : QM} {st : List CV} {L : QL} {z : Int} {a : Nat} (hk : q_kd M a = (1, 4)) : Rr C mX4_begin (19, L, qi z :: qr a :: st, M) x = Rr C mX4_begin (22, L, st, q_wr M a 3 (qi z)) x := g_putf (ow := 4) (ini := false) (e := (4, 3, RX4, 277, 0)) (r := (RX4, TX4, 9)) (t := tyX4) (show decode cX4_begin 19 = .ok (.putfield 21, 3) by decide +kernel) rfl rfl rfl rfl (by decide +kernel) hk
set_option maxRecDepth 20000 in
theorem kX4_begin_22 {C : QC} {x : QP} {M : QM} {st : List CV} {L : QL} {l0 l1 l2 l3 l4 l5 : Option CV} {r : Option Nat} : Rr C mX4_begin (22, [some (.inr (.inr r)), l1, l2, l3, l4, l5], st, M) x = Rr C mX4_begin (23, [some (.inr (.inr r)), l1, l2, l3, l4, l5], .inr (.inr r) :: st, M) x := g_pl (show decode cX4_begin 22 = .ok (.aload_n 0, 1) by decide +kernel) rfl
set_option maxRecDepth 20000 in
theorem kX4_begin_23 {C : QC} {x : QP} {M : QM} {st : List CV} {L : QL} {l0 l1 l2 l3 l4 l5 : Option CV} {z : Int} : Rr C mX4_begin (23, [l0, l1, l2, some (qi z), l4, l5], st, M) x = Rr C mX4_begin (24, [l0, l1, l2, some (qi z), l4, l5], qi z :: st, M) x := g_pl (show decode cX4_begin 23 = .ok (.iload_n 3, 1) by decide +kernel) rfl
set_option maxRecDepth 20000 in
theorem kX4_begin_24 {C : QC} {x : QP} {M : QM} {st : List CV} {L : QL} {z : Int} {a : Nat} (hk : q_kd M a = (1, 4)) : Rr C mX4_begin (24, L, qi z :: qr a :: st, M) x = Rr C mX4_begin (27, L, st, q_wr M a 4 (qi z)) x := g_putf (ow := 4) (ini := false) (e := (4, 4, RX4, 279, 0)) (r := (RX4, TX4, 9)) (t := tyX4) (show decode cX4_begin 24 = .ok (.putfield 24, 3) by decide +kernel) rfl rfl rfl rfl (by decide +kernel) hk
set_option maxRecDepth 20000 in
theorem kX4_begin_27 {C : QC} {x : QP} {M : QM} {st : List CV} {L : QL} {l0 l1 l2 l3 l4 l5 : Option CV} {r : Option Nat} : Rr C mX4_begin (27, [some (.inr (.inr r)), l1, l2, l3, l4, l5], st, M) x = Rr C mX4_begin (28, [some (.inr (.inr r)), l1, l2, l3, l4, l5], .inr (.inr r) :: st, M) x := g_pl (show decode cX4_begin 27 = .ok (.aload_n 0, 1) by decide +kernel) rfl
set_option maxRecDepth 20000 in
theorem kX4_begin_28 {C : QC} {x : QP} {M : QM} {st : List CV} {L : QL} {l0 l1 l2 l3 l4 l5 : Option CV} {z : Int} : Rr C mX4_begin (28, [l0, l1, some (qi z), l3, l4, l5], st, M) x = Rr C mX4_begin (29, [l0, l1, some (qi z), l3, l4, l5], qi z :: st, M) x := g_pl (show decode cX4_begin 28 = .ok (.iload_n 2, 1) by decide +kernel) rfl
set_option maxRecDepth 20000 in
theorem kX4_begin_29 {C : QC} {x : QP} {M : QM} {st : List CV} {L : QL} : Rr C mX4_begin (29, L, st, M) x = Rr C mX4_begin (31, L, qi (-5) :: st, M) x := g_pl (show decode cX4_begin 29 = .ok (.bipush (-5), 2) by decide +kernel) rfl
set_option maxRecDepth 20000 in
theorem kX4_begin_31 {C : QC} {x : QP} {M : QM} {st : List CV} {L : QL} {a b : Int} (ha1 : -2147483648 ≤ a) (ha2 : a < 2147483648) (hb1 : -2147483648 ≤ b) (hb2 : b < 2147483648) : Rr C mX4_begin (31, L, qi b :: qi a :: st, M) x = (if a = b then Rr C mX4_begin (34, L, st, M) x else Rr C mX4_begin (38, L, st, M) x) := (g_icmp (show decode cX4_begin 31 = .ok (.if_icmp .ne 7, 3) by decide +kernel) rfl ha1 ha2 hb1 hb2).trans (g_itn c_ne)
set_option maxRecDepth 20000 in
theorem kX4_begin_34 {C : QC} {x : QP} {M : QM} {st : List CV} {L : QL} : Rr C mX4_begin (34, L, st, M) x = Rr C mX4_begin (35, L, qi 0 :: st, M) x := g_pl (show decode cX4_begin 34 = .ok (.iconst 0, 1) by decide +kernel) rfl
set_option maxRecDepth 20000 in
theorem kX4_begin_35 {C : QC} {x : QP} {M : QM} {st : List CV} {L : QL} : Rr C mX4_begin (35, L, st, M) x = Rr C mX4_begin (39, L, st, M) x := g_pl (show decode cX4_begin 35 = .ok (.goto 4, 3) by decide +kernel) rfl
set_option maxRecDepth 20000 in
theorem kX4_begin_38 {C : QC} {x : QP} {M : QM} {st : List CV} {L : QL} : Rr C mX4_begin (38, L, st, M) x = Rr C mX4_begin (39, L, qi 1 :: st, M) x := g_pl (show decode cX4_begin 38 = .ok (.iconst 1, 1) by decide +kernel) rfl
set_option maxRecDepth 20000 in
theorem kX4_begin_39 {C : QC} {x : QP} {M : QM} {st : List CV} {L : QL} {z : Int} {a : Nat} (hk : q_kd M a = (1, 4)) : Rr C mX4_begin (39, L, qi z :: qr a :: st, M) x = Rr C mX4_begin (42, L, st, q_wr M a 5 (qi z)) x := g_putf (ow := 4) (ini := false) (e := (4, 5, RX4, 282, 0)) (r := (RX4, TX4, 9)) (t := tyX4) (show decode cX4_begin 39 = .ok (.putfield 27, 3) by decide +kernel) rfl rfl rfl rfl (by decide +kernel) hk
set_option maxRecDepth 20000 in
theorem kX4_begin_42 {C : QC} {x : QP} {M : QM} {st : List CV} {L : QL} {l0 l1 l2 l3 l4 l5 : Option CV} {r : Option Nat} : Rr C mX4_begin (42, [some (.inr (.inr r)), l1, l2, l3, l4, l5], st, M) x = Rr C mX4_begin (43, [some (.inr (.inr r)), l1, l2, l3, l4, l5], .inr (.inr r) :: st, M) x := g_pl (show decode cX4_begin 42 = .ok (.aload_n 0, 1) by decide +kernel) rfl
set_option maxRecDepth 20000 in
theorem kX4_begin_43 {C : QC} {x : QP} {M : QM} {st : List CV} {L : QL} {a : Nat} (hk : q_kd M a = (1, 4)) : Rr C mX4_begin (43, L, qr a :: st, M) x = Rr C mX4_begin (46, L, q_fv M a 6 :: st, M) x := g_getf (ow := 4) (e := (4, 6, RX4, 285, 0)) (show decode cX4_begin 43 = .ok (.getfield 33, 3) by decide +kernel) rfl hk
set_option maxRecDepth 20000 in
theorem kX4_begin_46 {C : QC} {x : QP} {M : QM} {st : List CV} {L : QL} {l0 l1 l2 l3 l4 l5 : Option CV} {z : Int} : Rr C mX4_begin (46, [l0, l1, l2, some (qi z), l4, l5], st, M) x = Rr C mX4_begin (47, [l0, l1, l2, some (qi z), l4, l5], qi z :: st, M) x := g_pl (show decode cX4_begin 46 = .ok (.iload_n 3, 1) by decide +kernel) rfl
set_option maxRecDepth 20000 in
theorem kX4_begin_47 {C : QC} {x : QP} {M : QM} {st : List CV} {L : QL} {l0 l1 l2 l3 l4 l5 : Option CV} {z : Int} : Rr C mX4_begin (47, [l0, l1, l2, l3, some (ql z), l5], st, M) x = Rr C mX4_begin (49, [l0, l1, l2, l3, some (ql z), l5], ql z :: st, M) x := g_pl (show decode cX4_begin 47 = .ok (.lload 4, 2) by decide +kernel) rfl
set_option maxRecDepth 20000 in
theorem kX4_begin_49 {C : QC} {x : QP} {M : QM} {L : QL} {rest : List CV} {a0 a1 : CV} {M1 : QM} {b : Nat} (hb : q_kd M b = (1, 2)) (hC : C iX2_begin [qr b, a0, a1] M none M1) (hw : (rest.map q_wd).sum ≤ 8) (k : Rr C mX4_begin (52, L, rest, M1) x) : Rr C mX4_begin (49, L, a1 :: a0 :: qr b :: rest, M) x := g_cv (ow := 4) (e := (0, 56, 2, [637, 638, 639, 86])) (as := [a0, a1]) (show decode cX4_begin 49 = .ok (.invokevirtual 51, 3) by decide +kernel) rfl rfl rfl (Or.inl rfl) rfl hb hC hw k
set_option maxRecDepth 20000 in
theorem kX4_begin_52 {C : QC} {x : QP} {M : QM} {st : List CV} {L : QL} {l0 l1 l2 l3 l4 l5 : Option CV} {r : Option Nat} : Rr C mX4_begin (52, [some (.inr (.inr r)), l1, l2, l3, l4, l5], st, M) x = Rr C mX4_begin (53, [some (.inr (.inr r)), l1, l2, l3, l4, l5], .inr (.inr r) :: st, M) x := g_pl (show decode cX4_begin 52 = .ok (.aload_n 0, 1) by decide +kernel) rfl
set_option maxRecDepth 20000 in
theorem kX4_begin_53 {C : QC} {x : QP} {M : QM} {st : List CV} {L : QL} {a : Nat} (hk : q_kd M a = (1, 4)) : Rr C mX4_begin (53, L, qr a :: st, M) x = Rr C mX4_begin (56, L, q_fv M a 7 :: st, M) x := g_getf (ow := 4) (e := (4, 7, RX4, 288, 0)) (show decode cX4_begin 53 = .ok (.getfield 40, 3) by decide +kernel) rfl hk
set_option maxRecDepth 20000 in
theorem kX4_begin_56 {C : QC} {x : QP} {M : QM} {st : List CV} {L : QL} {l0 l1 l2 l3 l4 l5 : Option CV} {z : Int} : Rr C mX4_begin (56, [l0, l1, l2, some (qi z), l4, l5], st, M) x = Rr C mX4_begin (57, [l0, l1, l2, some (qi z), l4, l5], qi z :: st, M) x := g_pl (show decode cX4_begin 56 = .ok (.iload_n 3, 1) by decide +kernel) rfl
set_option maxRecDepth 20000 in
theorem kX4_begin_57 {C : QC} {x : QP} {M : QM} {st : List CV} {L : QL} {l0 l1 l2 l3 l4 l5 : Option CV} {z : Int} : Rr C mX4_begin (57, [l0, l1, some (qi z), l3, l4, l5], st, M) x = Rr C mX4_begin (58, [l0, l1, some (qi z), l3, l4, l5], qi z :: st, M) x := g_pl (show decode cX4_begin 57 = .ok (.iload_n 2, 1) by decide +kernel) rfl
set_option maxRecDepth 20000 in
theorem kX4_begin_58 {C : QC} {x : QP} {M : QM} {L : QL} {rest : List CV} {a0 a1 : CV} {M1 : QM} {b : Nat} (hb : q_kd M b = (1, 9)) (hC : C iX9_begin [qr b, a0, a1] M none M1) (hw : (rest.map q_wd).sum ≤ 8) (k : Rr C mX4_begin (61, L, rest, M1) x) : Rr C mX4_begin (58, L, a1 :: a0 :: qr b :: rest, M) x := g_cv (ow := 4) (e := (0, 57, 9, [641, 642, 643, 87])) (as := [a0, a1]) (show decode cX4_begin 58 = .ok (.invokevirtual 55, 3) by decide +kernel) rfl rfl rfl (Or.inl rfl) rfl hb hC hw k
set_option maxRecDepth 20000 in
theorem kX4_begin_61 {C : QC} {x : QP} {M : QM} {st : List CV} {L : QL} {l0 l1 l2 l3 l4 l5 : Option CV} {r : Option Nat} : Rr C mX4_begin (61, [some (.inr (.inr r)), l1, l2, l3, l4, l5], st, M) x = Rr C mX4_begin (62, [some (.inr (.inr r)), l1, l2, l3, l4, l5], .inr (.inr r) :: st, M) x := g_pl (show decode cX4_begin 61 = .ok (.aload_n 0, 1) by decide +kernel) rfl
set_option maxRecDepth 20000 in
theorem kX4_begin_62 {C : QC} {x : QP} {M : QM} {st : List CV} {L : QL} {a : Nat} (hk : q_kd M a = (1, 4)) : Rr C mX4_begin (62, L, qr a :: st, M) x = Rr C mX4_begin (65, L, q_fv M a 8 :: st, M) x := g_getf (ow := 4) (e := (4, 8, RX4, 292, 0)) (show decode cX4_begin 62 = .ok (.getfield 47, 3) by decide +kernel) rfl hk
set_option maxRecDepth 20000 in
theorem kX4_begin_65 {C : QC} {x : QP} {M : QM} {st : List CV} {L : QL} {l0 l1 l2 l3 l4 l5 : Option CV} {z : Int} : Rr C mX4_begin (65, [l0, l1, l2, some (qi z), l4, l5], st, M) x = Rr C mX4_begin (66, [l0, l1, l2, some (qi z), l4, l5], qi z :: st, M) x := g_pl (show decode cX4_begin 65 = .ok (.iload_n 3, 1) by decide +kernel) rfl
set_option maxRecDepth 20000 in
theorem kX4_begin_66 {C : QC} {x : QP} {M : QM} {st : List CV} {L : QL} {l0 l1 l2 l3 l4 l5 : Option CV} {z : Int} : Rr C mX4_begin (66, [l0, l1, some (qi z), l3, l4, l5], st, M) x = Rr C mX4_begin (67, [l0, l1, some (qi z), l3, l4, l5], qi z :: st, M) x := g_pl (show decode cX4_begin 66 = .ok (.iload_n 2, 1) by decide +kernel) rfl
set_option maxRecDepth 20000 in
theorem kX4_begin_67 {C : QC} {x : QP} {M : QM} {L : QL} {rest : List CV} {a0 a1 : CV} {M1 : QM} {b : Nat} (hb : q_kd M b = (1, 1)) (hC : C iX1_begin [qr b, a0, a1] M none M1) (hw : (rest.map q_wd).sum ≤ 8) (k : Rr C mX4_begin (70, L, rest, M1) x) : Rr C mX4_begin (67, L, a1 :: a0 :: qr b :: rest, M) x := g_cv (ow := 4) (e := (0, 58, 1, [645, 646, 647, 88])) (as := [a0, a1]) (show decode cX4_begin 67 = .ok (.invokevirtual 58, 3) by decide +kernel) rfl rfl rfl (Or.inl rfl) rfl hb hC hw k
set_option maxRecDepth 20000 in
theorem kX4_begin_70 {C : QC} {x : QP} {M : QM} {st : List CV} {L : QL} : Rr C mX4_begin (70, L, [], M) x = x none M := g_vret (show decode cX4_begin 70 = .ok (.return_, 1) by decide +kernel)
set_option maxRecDepth 20000 in
theorem eX4_begin {d : Nat} {M : QM} {x : QP} {a : Nat} {v0 : Int} {v1 : Int} {v2 : Int} {v3 : Int} : q_T (d + 1) iX4_begin [qr a, qi v0, qi v1, qi v2, ql v3] M x = Rr (q_C d) mX4_begin (0, [some (qr a), some (qi v0), some (qi v1), some (qi v2), some (ql v3), none], [], M) x := g_entryT (e := _) rfl (Nat.le_of_ble_eq_true rfl) rfl rfl
def mX4_remember : QI := (4, cX4_remember, false, none)
set_option maxRecDepth 20000 in
theorem kX4_remember_0 {C : QC} {x : QP} {M : QM} {st : List CV} {L : QL} {l0 l1 l2 l3 : Option CV} {r : Option Nat} : Rr C mX4_remember (0, [some (.inr (.inr r)), l1, l2, l3], st, M) x = Rr C mX4_remember (1, [some (.inr (.inr r)), l1, l2, l3], .inr (.inr r) :: st, M) x := g_pl (show decode cX4_remember 0 = .ok (.aload_n 0, 1) by decide +kernel) rfl
set_option maxRecDepth 20000 in
theorem kX4_remember_1 {C : QC} {x : QP} {M : QM} {st : List CV} {L : QL} {l0 l1 l2 l3 : Option CV} {z : Int} : Rr C mX4_remember (1, [l0, some (qi z), l2, l3], st, M) x = Rr C mX4_remember (2, [l0, some (qi z), l2, l3], qi z :: st, M) x := g_pl (show decode cX4_remember 1 = .ok (.iload_n 1, 1) by decide +kernel) rfl
set_option maxRecDepth 20000 in
theorem kX4_remember_2 {C : QC} {x : QP} {M : QM} {st : List CV} {L : QL} {z : Int} {a : Nat} (hk : q_kd M a = (1, 4)) : Rr C mX4_remember (2, L, qi z :: qr a :: st, M) x = Rr C mX4_remember (5, L, st, q_wr M a 4 (qi z)) x := g_putf (ow := 4) (ini := false) (e := (4, 4, RX4, 279, 0)) (r := (RX4, TX4, 9)) (t := tyX4) (show decode cX4_remember 2 = .ok (.putfield 24, 3) by decide +kernel) rfl rfl rfl rfl (by decide +kernel) hk
set_option maxRecDepth 20000 in
theorem kX4_remember_5 {C : QC} {x : QP} {M : QM} {st : List CV} {L : QL} {l0 l1 l2 l3 : Option CV} {r : Option Nat} : Rr C mX4_remember (5, [some (.inr (.inr r)), l1, l2, l3], st, M) x = Rr C mX4_remember (6, [some (.inr (.inr r)), l1, l2, l3], .inr (.inr r) :: st, M) x := g_pl (show decode cX4_remember 5 = .ok (.aload_n 0, 1) by decide +kernel) rfl
set_option maxRecDepth 20000 in
theorem kX4_remember_6 {C : QC} {x : QP} {M : QM} {st : List CV} {L : QL} {a : Nat} (hk : q_kd M a = (1, 4)) : Rr C mX4_remember (6, L, qr a :: st, M) x = Rr C mX4_remember (9, L, q_fv M a 8 :: st, M) x := g_getf (ow := 4) (e := (4, 8, RX4, 292, 0)) (show decode cX4_remember 6 = .ok (.getfield 47, 3) by decide +kernel) rfl hk
set_option maxRecDepth 20000 in
theorem kX4_remember_9 {C : QC} {x : QP} {M : QM} {st : List CV} {L : QL} {l0 l1 l2 l3 : Option CV} {z : Int} : Rr C mX4_remember (9, [l0, some (qi z), l2, l3], st, M) x = Rr C mX4_remember (10, [l0, some (qi z), l2, l3], qi z :: st, M) x := g_pl (show decode cX4_remember 9 = .ok (.iload_n 1, 1) by decide +kernel) rfl
set_option maxRecDepth 20000 in
theorem kX4_remember_10 {C : QC} {x : QP} {M : QM} {st : List CV} {L : QL} {l0 l1 l2 l3 : Option CV} {z : Int} : Rr C mX4_remember (10, [l0, l1, some (qi z), l3], st, M) x = Rr C mX4_remember (11, [l0, l1, some (qi z), l3], qi z :: st, M) x := g_pl (show decode cX4_remember 10 = .ok (.iload_n 2, 1) by decide +kernel) rfl
set_option maxRecDepth 20000 in
theorem kX4_remember_11 {C : QC} {x : QP} {M : QM} {st : List CV} {L : QL} {l0 l1 l2 l3 : Option CV} {z : Int} : Rr C mX4_remember (11, [l0, l1, l2, some (qi z)], st, M) x = Rr C mX4_remember (12, [l0, l1, l2, some (qi z)], qi z :: st, M) x := g_pl (show decode cX4_remember 11 = .ok (.iload_n 3, 1) by decide +kernel) rfl
set_option maxRecDepth 20000 in
theorem kX4_remember_12 {C : QC} {x : QP} {M : QM} {L : QL} {rest : List CV} {a0 a1 a2 : CV} {M1 : QM} {b : Nat} (hb : q_kd M b = (1, 1)) (hC : C iX1_append [qr b, a0, a1, a2] M none M1) (hw : (rest.map q_wd).sum ≤ 8) (k : Rr C mX4_remember (15, L, rest, M1) x) : Rr C mX4_remember (12, L, a2 :: a1 :: a0 :: qr b :: rest, M) x := g_cv (ow := 4) (e := (0, 72, 1, [711, 712, 713, 88])) (as := [a0, a1, a2]) (show decode cX4_remember 12 = .ok (.invokevirtual 59, 3) by decide +kernel) rfl rfl rfl (Or.inl rfl) rfl hb hC hw k
set_option maxRecDepth 20000 in
theorem kX4_remember_15 {C : QC} {x : QP} {M : QM} {st : List CV} {L : QL} : Rr C mX4_remember (15, L, [], M) x = x none M := g_vret (show decode cX4_remember 15 = .ok (.return_, 1) by decide +kernel)
set_option maxRecDepth 20000 in
theorem eX4_remember {d : Nat} {M : QM} {x : QP} {a : Nat} {v0 : Int} {v1 : Int} {v2 : Int} : q_T (d + 1) iX4_remember [qr a, qi v0, qi v1, qi v2] M x = Rr (q_C d) mX4_remember (0, [some (qr a), some (qi v0), some (qi v1), some (qi v2)], [], M) x := g_entryT (e := _) rfl (Nat.le_of_ble_eq_true rfl) rfl rfl
def mX4_hasEnded : QI := (4, cX4_hasEnded, false, some .boolean)
set_option maxRecDepth 20000 in
theorem kX4_hasEnded_0 {C : QC} {x : QP} {M : QM} {st : List CV} {L : QL} {r : Option Nat} : Rr C mX4_hasEnded (0, [some (.inr (.inr r))], st, M) x = Rr C mX4_hasEnded (1, [some (.inr (.inr r))], .inr (.inr r) :: st, M) x := g_pl (show decode cX4_hasEnded 0 = .ok (.aload_n 0, 1) by decide +kernel) rfl
set_option maxRecDepth 20000 in
theorem kX4_hasEnded_1 {C : QC} {x : QP} {M : QM} {st : List CV} {L : QL} {a : Nat} (hk : q_kd M a = (1, 4)) : Rr C mX4_hasEnded (1, L, qr a :: st, M) x = Rr C mX4_hasEnded (4, L, q_fv M a 2 :: st, M) x := g_getf (ow := 4) (e := (4, 2, RX4, 274, 0)) (show decode cX4_hasEnded 1 = .ok (.getfield 18, 3) by decide +kernel) rfl hk
set_option maxRecDepth 20000 in
theorem kX4_hasEnded_4 {C : QC} {x : QP} {M : QM} {st : List CV} {L : QL} : Rr C mX4_hasEnded (4, L, st, M) x = Rr C mX4_hasEnded (6, L, qi (-5) :: st, M) x := g_pl (show decode cX4_hasEnded 4 = .ok (.bipush (-5), 2) by decide +kernel) rfl
set_option maxRecDepth 20000 in
theorem kX4_hasEnded_6 {C : QC} {x : QP} {M : QM} {st : List CV} {L : QL} {a b : Int} (ha1 : -2147483648 ≤ a) (ha2 : a < 2147483648) (hb1 : -2147483648 ≤ b) (hb2 : b < 2147483648) : Rr C mX4_hasEnded (6, L, qi b :: qi a :: st, M) x = (if a = b then Rr C mX4_hasEnded (13, L, st, M) x else Rr C mX4_hasEnded (9, L, st, M) x) := (g_icmp (show decode cX4_hasEnded 6 = .ok (.if_icmp .eq 7, 3) by decide +kernel) rfl ha1 ha2 hb1 hb2).trans (g_ite c_eq)
set_option maxRecDepth 20000 in
theorem kX4_hasEnded_9 {C : QC} {x : QP} {M : QM} {st : List CV} {L : QL} : Rr C mX4_hasEnded (9, L, st, M) x = Rr C mX4_hasEnded (10, L, qi 1 :: st, M) x := g_pl (show decode cX4_hasEnded 9 = .ok (.iconst 1, 1) by decide +kernel) rfl
set_option maxRecDepth 20000 in
theorem kX4_hasEnded_10 {C : QC} {x : QP} {M : QM} {st : List CV} {L : QL} : Rr C mX4_hasEnded (10, L, st, M) x = Rr C mX4_hasEnded (14, L, st, M) x := g_pl (show decode cX4_hasEnded 10 = .ok (.goto 4, 3) by decide +kernel) rfl
set_option maxRecDepth 20000 in
theorem kX4_hasEnded_13 {C : QC} {x : QP} {M : QM} {st : List CV} {L : QL} : Rr C mX4_hasEnded (13, L, st, M) x = Rr C mX4_hasEnded (14, L, qi 0 :: st, M) x := g_pl (show decode cX4_hasEnded 13 = .ok (.iconst 0, 1) by decide +kernel) rfl
set_option maxRecDepth 20000 in
theorem kX4_hasEnded_14 {C : QC} {x : QP} {M : QM} {st : List CV} {L : QL} {z : Int} (hz : z = 0 ∨ z = 1) : Rr C mX4_hasEnded (14, L, [qi z], M) x = x (some (qi z)) M := g_iret (show decode cX4_hasEnded 14 = .ok (.ireturn, 1) by decide +kernel) (by rcases hz with rfl | rfl <;> rfl)
set_option maxRecDepth 20000 in
theorem eX4_hasEnded {d : Nat} {M : QM} {x : QP} {a : Nat} : q_T (d + 1) iX4_hasEnded [qr a] M x = Rr (q_C d) mX4_hasEnded (0, [some (qr a)], [], M) x := g_entryT (e := _) rfl (Nat.le_of_ble_eq_true rfl) rfl rfl
def mX4_end : QI := (4, cX4_end, false, some .int)
set_option maxRecDepth 20000 in
theorem kX4_end_0 {C : QC} {x : QP} {M : QM} {st : List CV} {L : QL} {r : Option Nat} : Rr C mX4_end (0, [some (.inr (.inr r))], st, M) x = Rr C mX4_end (1, [some (.inr (.inr r))], .inr (.inr r) :: st, M) x := g_pl (show decode cX4_end 0 = .ok (.aload_n 0, 1) by decide +kernel) rfl
set_option maxRecDepth 20000 in
theorem kX4_end_1 {C : QC} {x : QP} {M : QM} {L : QL} {rest : List CV} {v : CV} {M1 : QM} {b : Nat} (hb : q_kd M b = (1, 4)) (hC : C iX4_hasEnded [qr b] M (some v) M1) (hw : (rest.map q_wd).sum ≤ 8) (k : Rr C mX4_end (4, L, v :: rest, M1) x) : Rr C mX4_end (1, L, qr b :: rest, M) x := g_cv (ow := 4) (e := (0, 32, 4, [511, 512, 513, 85])) (as := []) (show decode cX4_end 1 = .ok (.invokevirtual 63, 3) by decide +kernel) rfl rfl rfl (Or.inl rfl) rfl hb hC hw k
set_option maxRecDepth 20000 in
theorem kX4_end_4 {C : QC} {x : QP} {M : QM} {st : List CV} {L : QL} {a : Int} (ha1 : -2147483648 ≤ a) (ha2 : a < 2147483648) : Rr C mX4_end (4, L, qi a :: st, M) x = (if a = 0 then Rr C mX4_end (14, L, st, M) x else Rr C mX4_end (7, L, st, M) x) := (g_if (show decode cX4_end 4 = .ok (.ifCond .eq 10, 3) by decide +kernel) rfl ha1 ha2).trans (g_ite c_eq)
set_option maxRecDepth 20000 in
theorem kX4_end_7 {C : QC} {x : QP} {M : QM} {st : List CV} {L : QL} {r : Option Nat} : Rr C mX4_end (7, [some (.inr (.inr r))], st, M) x = Rr C mX4_end (8, [some (.inr (.inr r))], .inr (.inr r) :: st, M) x := g_pl (show decode cX4_end 7 = .ok (.aload_n 0, 1) by decide +kernel) rfl
set_option maxRecDepth 20000 in
theorem kX4_end_8 {C : QC} {x : QP} {M : QM} {st : List CV} {L : QL} {a : Nat} (hk : q_kd M a = (1, 4)) : Rr C mX4_end (8, L, qr a :: st, M) x = Rr C mX4_end (11, L, q_fv M a 2 :: st, M) x := g_getf (ow := 4) (e := (4, 2, RX4, 274, 0)) (show decode cX4_end 8 = .ok (.getfield 18, 3) by decide +kernel) rfl hk
set_option maxRecDepth 20000 in
theorem kX4_end_11 {C : QC} {x : QP} {M : QM} {st : List CV} {L : QL} : Rr C mX4_end (11, L, st, M) x = Rr C mX4_end (17, L, st, M) x := g_pl (show decode cX4_end 11 = .ok (.goto 6, 3) by decide +kernel) rfl
set_option maxRecDepth 20000 in
theorem kX4_end_14 {C : QC} {x : QP} {M : QM} {st : List CV} {L : QL} : Rr C mX4_end (14, L, st, M) x = Rr C mX4_end (17, L, qi 10000 :: st, M) x := g_pl (show decode cX4_end 14 = .ok (.sipush 10000, 3) by decide +kernel) rfl
set_option maxRecDepth 20000 in
theorem kX4_end_17 {C : QC} {x : QP} {M : QM} {st : List CV} {L : QL} {z : Int} : Rr C mX4_end (17, L, [qi z], M) x = x (some (qi z)) M := g_iret (show decode cX4_end 17 = .ok (.ireturn, 1) by decide +kernel) rfl
set_option maxRecDepth 20000 in
theorem eX4_end {d : Nat} {M : QM} {x : QP} {a : Nat} : q_T (d + 1) iX4_end [qr a] M x = Rr (q_C d) mX4_end (0, [some (qr a)], [], M) x := g_entryT (e := _) rfl (Nat.le_of_ble_eq_true rfl) rfl rfl
def mX4_existsOn : QI := (4, cX4_existsOn, false, some .boolean)
set_option maxRecDepth 20000 in
theorem kX4_existsOn_0 {C : QC} {x : QP} {M : QM} {st : List CV} {L : QL} {l0 l1 : Option CV} {r : Option Nat} : Rr C mX4_existsOn (0, [some (.inr (.inr r)), l1], st, M) x = Rr C mX4_existsOn (1, [some (.inr (.inr r)), l1], .inr (.inr r) :: st, M) x := g_pl (show decode cX4_existsOn 0 = .ok (.aload_n 0, 1) by decide +kernel) rfl
set_option maxRecDepth 20000 in
theorem kX4_existsOn_1 {C : QC} {x : QP} {M : QM} {st : List CV} {L : QL} {a : Nat} (hk : q_kd M a = (1, 4)) : Rr C mX4_existsOn (1, L, qr a :: st, M) x = Rr C mX4_existsOn (4, L, q_fv M a 1 :: st, M) x := g_getf (ow := 4) (e := (4, 1, RX4, 271, 0)) (show decode cX4_existsOn 1 = .ok (.getfield 15, 3) by decide +kernel) rfl hk
set_option maxRecDepth 20000 in
theorem kX4_existsOn_4 {C : QC} {x : QP} {M : QM} {st : List CV} {L : QL} {l0 l1 : Option CV} {z : Int} : Rr C mX4_existsOn (4, [l0, some (qi z)], st, M) x = Rr C mX4_existsOn (5, [l0, some (qi z)], qi z :: st, M) x := g_pl (show decode cX4_existsOn 4 = .ok (.iload_n 1, 1) by decide +kernel) rfl
set_option maxRecDepth 20000 in
theorem kX4_existsOn_5 {C : QC} {x : QP} {M : QM} {st : List CV} {L : QL} {a b : Int} (ha1 : -2147483648 ≤ a) (ha2 : a < 2147483648) (hb1 : -2147483648 ≤ b) (hb2 : b < 2147483648) : Rr C mX4_existsOn (5, L, qi b :: qi a :: st, M) x = (if b < a then Rr C mX4_existsOn (20, L, st, M) x else Rr C mX4_existsOn (8, L, st, M) x) := (g_icmp (show decode cX4_existsOn 5 = .ok (.if_icmp .gt 15, 3) by decide +kernel) rfl ha1 ha2 hb1 hb2).trans (g_ite c_gt)
set_option maxRecDepth 20000 in
theorem kX4_existsOn_8 {C : QC} {x : QP} {M : QM} {st : List CV} {L : QL} {l0 l1 : Option CV} {z : Int} : Rr C mX4_existsOn (8, [l0, some (qi z)], st, M) x = Rr C mX4_existsOn (9, [l0, some (qi z)], qi z :: st, M) x := g_pl (show decode cX4_existsOn 8 = .ok (.iload_n 1, 1) by decide +kernel) rfl
set_option maxRecDepth 20000 in
theorem kX4_existsOn_9 {C : QC} {x : QP} {M : QM} {st : List CV} {L : QL} {l0 l1 : Option CV} {r : Option Nat} : Rr C mX4_existsOn (9, [some (.inr (.inr r)), l1], st, M) x = Rr C mX4_existsOn (10, [some (.inr (.inr r)), l1], .inr (.inr r) :: st, M) x := g_pl (show decode cX4_existsOn 9 = .ok (.aload_n 0, 1) by decide +kernel) rfl
set_option maxRecDepth 20000 in
theorem kX4_existsOn_10 {C : QC} {x : QP} {M : QM} {L : QL} {rest : List CV} {v : CV} {M1 : QM} {b : Nat} (hb : q_kd M b = (1, 4)) (hC : C iX4_end [qr b] M (some v) M1) (hw : (rest.map q_wd).sum ≤ 8) (k : Rr C mX4_existsOn (13, L, v :: rest, M1) x) : Rr C mX4_existsOn (10, L, qr b :: rest, M) x := g_cv (ow := 4) (e := (0, 40, 4, [540, 541, 542, 85])) (as := []) (show decode cX4_existsOn 10 = .ok (.invokevirtual 67, 3) by decide +kernel) rfl rfl rfl (Or.inl rfl) rfl hb hC hw k
set_option maxRecDepth 20000 in
theorem kX4_existsOn_13 {C : QC} {x : QP} {M : QM} {st : List CV} {L : QL} {a b : Int} (ha1 : -2147483648 ≤ a) (ha2 : a < 2147483648) (hb1 : -2147483648 ≤ b) (hb2 : b < 2147483648) : Rr C mX4_existsOn (13, L, qi b :: qi a :: st, M) x = (if a < b then Rr C mX4_existsOn (16, L, st, M) x else Rr C mX4_existsOn (20, L, st, M) x) := (g_icmp (show decode cX4_existsOn 13 = .ok (.if_icmp .ge 7, 3) by decide +kernel) rfl ha1 ha2 hb1 hb2).trans (g_itn c_ge)
set_option maxRecDepth 20000 in
theorem kX4_existsOn_16 {C : QC} {x : QP} {M : QM} {st : List CV} {L : QL} : Rr C mX4_existsOn (16, L, st, M) x = Rr C mX4_existsOn (17, L, qi 1 :: st, M) x := g_pl (show decode cX4_existsOn 16 = .ok (.iconst 1, 1) by decide +kernel) rfl
set_option maxRecDepth 20000 in
theorem kX4_existsOn_17 {C : QC} {x : QP} {M : QM} {st : List CV} {L : QL} : Rr C mX4_existsOn (17, L, st, M) x = Rr C mX4_existsOn (21, L, st, M) x := g_pl (show decode cX4_existsOn 17 = .ok (.goto 4, 3) by decide +kernel) rfl
set_option maxRecDepth 20000 in
theorem kX4_existsOn_20 {C : QC} {x : QP} {M : QM} {st : List CV} {L : QL} : Rr C mX4_existsOn (20, L, st, M) x = Rr C mX4_existsOn (21, L, qi 0 :: st, M) x := g_pl (show decode cX4_existsOn 20 = .ok (.iconst 0, 1) by decide +kernel) rfl
set_option maxRecDepth 20000 in
theorem kX4_existsOn_21 {C : QC} {x : QP} {M : QM} {st : List CV} {L : QL} {z : Int} (hz : z = 0 ∨ z = 1) : Rr C mX4_existsOn (21, L, [qi z], M) x = x (some (qi z)) M := g_iret (show decode cX4_existsOn 21 = .ok (.ireturn, 1) by decide +kernel) (by rcases hz with rfl | rfl <;> rfl)
set_option maxRecDepth 20000 in
theorem eX4_existsOn {d : Nat} {M : QM} {x : QP} {a : Nat} {v0 : Int} : q_T (d + 1) iX4_existsOn [qr a, qi v0] M x = Rr (q_C d) mX4_existsOn (0, [some (qr a), some (qi v0)], [], M) x := g_entryT (e := _) rfl (Nat.le_of_ble_eq_true rfl) rfl rfl
def mX4_standsFrom : QI := (4, cX4_standsFrom, false, some .boolean)
set_option maxRecDepth 20000 in
theorem kX4_standsFrom_0 {C : QC} {x : QP} {M : QM} {st : List CV} {L : QL} {l0 l1 : Option CV} {r : Option Nat} : Rr C mX4_standsFrom (0, [some (.inr (.inr r)), l1], st, M) x = Rr C mX4_standsFrom (1, [some (.inr (.inr r)), l1], .inr (.inr r) :: st, M) x := g_pl (show decode cX4_standsFrom 0 = .ok (.aload_n 0, 1) by decide +kernel) rfl
set_option maxRecDepth 20000 in
theorem kX4_standsFrom_1 {C : QC} {x : QP} {M : QM} {st : List CV} {L : QL} {a : Nat} (hk : q_kd M a = (1, 4)) : Rr C mX4_standsFrom (1, L, qr a :: st, M) x = Rr C mX4_standsFrom (4, L, q_fv M a 1 :: st, M) x := g_getf (ow := 4) (e := (4, 1, RX4, 271, 0)) (show decode cX4_standsFrom 1 = .ok (.getfield 15, 3) by decide +kernel) rfl hk
set_option maxRecDepth 20000 in
theorem kX4_standsFrom_4 {C : QC} {x : QP} {M : QM} {st : List CV} {L : QL} {l0 l1 : Option CV} {z : Int} : Rr C mX4_standsFrom (4, [l0, some (qi z)], st, M) x = Rr C mX4_standsFrom (5, [l0, some (qi z)], qi z :: st, M) x := g_pl (show decode cX4_standsFrom 4 = .ok (.iload_n 1, 1) by decide +kernel) rfl
set_option maxRecDepth 20000 in
theorem kX4_standsFrom_5 {C : QC} {x : QP} {M : QM} {st : List CV} {L : QL} {a b : Int} (ha1 : -2147483648 ≤ a) (ha2 : a < 2147483648) (hb1 : -2147483648 ≤ b) (hb2 : b < 2147483648) : Rr C mX4_standsFrom (5, L, qi b :: qi a :: st, M) x = (if b < a then Rr C mX4_standsFrom (19, L, st, M) x else Rr C mX4_standsFrom (8, L, st, M) x) := (g_icmp (show decode cX4_standsFrom 5 = .ok (.if_icmp .gt 14, 3) by decide +kernel) rfl ha1 ha2 hb1 hb2).trans (g_ite c_gt)
set_option maxRecDepth 20000 in
theorem kX4_standsFrom_8 {C : QC} {x : QP} {M : QM} {st : List CV} {L : QL} {l0 l1 : Option CV} {r : Option Nat} : Rr C mX4_standsFrom (8, [some (.inr (.inr r)), l1], st, M) x = Rr C mX4_standsFrom (9, [some (.inr (.inr r)), l1], .inr (.inr r) :: st, M) x := g_pl (show decode cX4_standsFrom 8 = .ok (.aload_n 0, 1) by decide +kernel) rfl
set_option maxRecDepth 20000 in
theorem kX4_standsFrom_9 {C : QC} {x : QP} {M : QM} {L : QL} {rest : List CV} {v : CV} {M1 : QM} {b : Nat} (hb : q_kd M b = (1, 4)) (hC : C iX4_hasEnded [qr b] M (some v) M1) (hw : (rest.map q_wd).sum ≤ 8) (k : Rr C mX4_standsFrom (12, L, v :: rest, M1) x) : Rr C mX4_standsFrom (9, L, qr b :: rest, M) x := g_cv (ow := 4) (e := (0, 32, 4, [511, 512, 513, 85])) (as := []) (show decode cX4_standsFrom 9 = .ok (.invokevirtual 63, 3) by decide +kernel) rfl rfl rfl (Or.inl rfl) rfl hb hC hw k
set_option maxRecDepth 20000 in
theorem kX4_standsFrom_12 {C : QC} {x : QP} {M : QM} {st : List CV} {L : QL} {a : Int} (ha1 : -2147483648 ≤ a) (ha2 : a < 2147483648) : Rr C mX4_standsFrom (12, L, qi a :: st, M) x = (if a = 0 then Rr C mX4_standsFrom (15, L, st, M) x else Rr C mX4_standsFrom (19, L, st, M) x) := (g_if (show decode cX4_standsFrom 12 = .ok (.ifCond .ne 7, 3) by decide +kernel) rfl ha1 ha2).trans (g_itn c_ne)
set_option maxRecDepth 20000 in
theorem kX4_standsFrom_15 {C : QC} {x : QP} {M : QM} {st : List CV} {L : QL} : Rr C mX4_standsFrom (15, L, st, M) x = Rr C mX4_standsFrom (16, L, qi 1 :: st, M) x := g_pl (show decode cX4_standsFrom 15 = .ok (.iconst 1, 1) by decide +kernel) rfl
set_option maxRecDepth 20000 in
theorem kX4_standsFrom_16 {C : QC} {x : QP} {M : QM} {st : List CV} {L : QL} : Rr C mX4_standsFrom (16, L, st, M) x = Rr C mX4_standsFrom (20, L, st, M) x := g_pl (show decode cX4_standsFrom 16 = .ok (.goto 4, 3) by decide +kernel) rfl
set_option maxRecDepth 20000 in
theorem kX4_standsFrom_19 {C : QC} {x : QP} {M : QM} {st : List CV} {L : QL} : Rr C mX4_standsFrom (19, L, st, M) x = Rr C mX4_standsFrom (20, L, qi 0 :: st, M) x := g_pl (show decode cX4_standsFrom 19 = .ok (.iconst 0, 1) by decide +kernel) rfl
set_option maxRecDepth 20000 in
theorem kX4_standsFrom_20 {C : QC} {x : QP} {M : QM} {st : List CV} {L : QL} {z : Int} (hz : z = 0 ∨ z = 1) : Rr C mX4_standsFrom (20, L, [qi z], M) x = x (some (qi z)) M := g_iret (show decode cX4_standsFrom 20 = .ok (.ireturn, 1) by decide +kernel) (by rcases hz with rfl | rfl <;> rfl)
set_option maxRecDepth 20000 in
theorem eX4_standsFrom {d : Nat} {M : QM} {x : QP} {a : Nat} {v0 : Int} : q_T (d + 1) iX4_standsFrom [qr a, qi v0] M x = Rr (q_C d) mX4_standsFrom (0, [some (qr a), some (qi v0)], [], M) x := g_entryT (e := _) rfl (Nat.le_of_ble_eq_true rfl) rfl rfl
def mX4_firstDayUnder : QI := (4, cX4_firstDayUnder, false, some .int)
set_option maxRecDepth 20000 in
theorem kX4_firstDayUnder_0 {C : QC} {x : QP} {M : QM} {st : List CV} {L : QL} {l0 l1 l2 : Option CV} {r : Option Nat} : Rr C mX4_firstDayUnder (0, [some (.inr (.inr r)), l1, l2], st, M) x = Rr C mX4_firstDayUnder (1, [some (.inr (.inr r)), l1, l2], .inr (.inr r) :: st, M) x := g_pl (show decode cX4_firstDayUnder 0 = .ok (.aload_n 0, 1) by decide +kernel) rfl
set_option maxRecDepth 20000 in
theorem kX4_firstDayUnder_1 {C : QC} {x : QP} {M : QM} {st : List CV} {L : QL} {a : Nat} (hk : q_kd M a = (1, 4)) : Rr C mX4_firstDayUnder (1, L, qr a :: st, M) x = Rr C mX4_firstDayUnder (4, L, q_fv M a 7 :: st, M) x := g_getf (ow := 4) (e := (4, 7, RX4, 288, 0)) (show decode cX4_firstDayUnder 1 = .ok (.getfield 40, 3) by decide +kernel) rfl hk
set_option maxRecDepth 20000 in
theorem kX4_firstDayUnder_4 {C : QC} {x : QP} {M : QM} {st : List CV} {L : QL} {l0 l1 l2 : Option CV} {z : Int} : Rr C mX4_firstDayUnder (4, [l0, some (qi z), l2], st, M) x = Rr C mX4_firstDayUnder (5, [l0, some (qi z), l2], qi z :: st, M) x := g_pl (show decode cX4_firstDayUnder 4 = .ok (.iload_n 1, 1) by decide +kernel) rfl
set_option maxRecDepth 20000 in
theorem kX4_firstDayUnder_5 {C : QC} {x : QP} {M : QM} {st : List CV} {L : QL} {l0 l1 l2 : Option CV} {z : Int} : Rr C mX4_firstDayUnder (5, [l0, l1, some (qi z)], st, M) x = Rr C mX4_firstDayUnder (6, [l0, l1, some (qi z)], qi z :: st, M) x := g_pl (show decode cX4_firstDayUnder 5 = .ok (.iload_n 2, 1) by decide +kernel) rfl
set_option maxRecDepth 20000 in
theorem kX4_firstDayUnder_6 {C : QC} {x : QP} {M : QM} {st : List CV} {L : QL} {l0 l1 l2 : Option CV} {r : Option Nat} : Rr C mX4_firstDayUnder (6, [some (.inr (.inr r)), l1, l2], st, M) x = Rr C mX4_firstDayUnder (7, [some (.inr (.inr r)), l1, l2], .inr (.inr r) :: st, M) x := g_pl (show decode cX4_firstDayUnder 6 = .ok (.aload_n 0, 1) by decide +kernel) rfl
set_option maxRecDepth 20000 in
theorem kX4_firstDayUnder_7 {C : QC} {x : QP} {M : QM} {L : QL} {rest : List CV} {v : CV} {M1 : QM} {b : Nat} (hb : q_kd M b = (1, 4)) (hC : C iX4_end [qr b] M (some v) M1) (hw : (rest.map q_wd).sum ≤ 8) (k : Rr C mX4_firstDayUnder (10, L, v :: rest, M1) x) : Rr C mX4_firstDayUnder (7, L, qr b :: rest, M) x := g_cv (ow := 4) (e := (0, 40, 4, [540, 541, 542, 85])) (as := []) (show decode cX4_firstDayUnder 7 = .ok (.invokevirtual 67, 3) by decide +kernel) rfl rfl rfl (Or.inl rfl) rfl hb hC hw k
set_option maxRecDepth 20000 in
theorem kX4_firstDayUnder_10 {C : QC} {x : QP} {M : QM} {L : QL} {rest : List CV} {a0 a1 a2 : CV} {v : CV} {M1 : QM} {b : Nat} (hb : q_kd M b = (1, 9)) (hC : C iX9_firstDayWith [qr b, a0, a1, a2] M (some v) M1) (hw : (rest.map q_wd).sum ≤ 8) (k : Rr C mX4_firstDayUnder (13, L, v :: rest, M1) x) : Rr C mX4_firstDayUnder (10, L, a2 :: a1 :: a0 :: qr b :: rest, M) x := g_cv (ow := 4) (e := (0, 41, 9, [544, 545, 546, 87])) (as := [a0, a1, a2]) (show decode cX4_firstDayUnder 10 = .ok (.invokevirtual 71, 3) by decide +kernel) rfl rfl rfl (Or.inl rfl) rfl hb hC hw k
set_option maxRecDepth 20000 in
theorem kX4_firstDayUnder_13 {C : QC} {x : QP} {M : QM} {st : List CV} {L : QL} {z : Int} : Rr C mX4_firstDayUnder (13, L, [qi z], M) x = x (some (qi z)) M := g_iret (show decode cX4_firstDayUnder 13 = .ok (.ireturn, 1) by decide +kernel) rfl
set_option maxRecDepth 20000 in
theorem eX4_firstDayUnder {d : Nat} {M : QM} {x : QP} {a : Nat} {v0 : Int} {v1 : Int} : q_T (d + 1) iX4_firstDayUnder [qr a, qi v0, qi v1] M x = Rr (q_C d) mX4_firstDayUnder (0, [some (qr a), some (qi v0), some (qi v1)], [], M) x := g_entryT (e := _) rfl (Nat.le_of_ble_eq_true rfl) rfl rfl
def mX4_differsOn : QI := (4, cX4_differsOn, false, some .boolean)
set_option maxRecDepth 20000 in
theorem kX4_differsOn_0 {C : QC} {x : QP} {M : QM} {st : List CV} {L : QL} {l0 l1 l2 : Option CV} {r : Option Nat} : Rr C mX4_differsOn (0, [some (.inr (.inr r)), l1, l2], st, M) x = Rr C mX4_differsOn (1, [some (.inr (.inr r)), l1, l2], .inr (.inr r) :: st, M) x := g_pl (show decode cX4_differsOn 0 = .ok (.aload_n 0, 1) by decide +kernel) rfl
set_option maxRecDepth 20000 in
theorem kX4_differsOn_1 {C : QC} {x : QP} {M : QM} {st : List CV} {L : QL} {l0 l1 l2 : Option CV} {z : Int} : Rr C mX4_differsOn (1, [l0, some (qi z), l2], st, M) x = Rr C mX4_differsOn (2, [l0, some (qi z), l2], qi z :: st, M) x := g_pl (show decode cX4_differsOn 1 = .ok (.iload_n 1, 1) by decide +kernel) rfl
set_option maxRecDepth 20000 in
theorem kX4_differsOn_2 {C : QC} {x : QP} {M : QM} {L : QL} {rest : List CV} {a0 : CV} {v : CV} {M1 : QM} {b : Nat} (hb : q_kd M b = (1, 4)) (hC : C iX4_existsOn [qr b, a0] M (some v) M1) (hw : (rest.map q_wd).sum ≤ 8) (k : Rr C mX4_differsOn (5, L, v :: rest, M1) x) : Rr C mX4_differsOn (2, L, a0 :: qr b :: rest, M) x := g_cv (ow := 4) (e := (0, 109, 4, [1219, 870, 871, 85])) (as := [a0]) (show decode cX4_differsOn 2 = .ok (.invokevirtual 75, 3) by decide +kernel) rfl rfl rfl (Or.inl rfl) rfl hb hC hw k
set_option maxRecDepth 20000 in
theorem kX4_differsOn_5 {C : QC} {x : QP} {M : QM} {st : List CV} {L : QL} {a : Int} (ha1 : -2147483648 ≤ a) (ha2 : a < 2147483648) : Rr C mX4_differsOn (5, L, qi a :: st, M) x = (if a = 0 then Rr C mX4_differsOn (16, L, st, M) x else Rr C mX4_differsOn (8, L, st, M) x) := (g_if (show decode cX4_differsOn 5 = .ok (.ifCond .eq 11, 3) by decide +kernel) rfl ha1 ha2).trans (g_ite c_eq)
set_option maxRecDepth 20000 in
theorem kX4_differsOn_8 {C : QC} {x : QP} {M : QM} {st : List CV} {L : QL} {l0 l1 l2 : Option CV} {r : Option Nat} : Rr C mX4_differsOn (8, [some (.inr (.inr r)), l1, l2], st, M) x = Rr C mX4_differsOn (9, [some (.inr (.inr r)), l1, l2], .inr (.inr r) :: st, M) x := g_pl (show decode cX4_differsOn 8 = .ok (.aload_n 0, 1) by decide +kernel) rfl
set_option maxRecDepth 20000 in
theorem kX4_differsOn_9 {C : QC} {x : QP} {M : QM} {st : List CV} {L : QL} {l0 l1 l2 : Option CV} {z : Int} : Rr C mX4_differsOn (9, [l0, l1, some (qi z)], st, M) x = Rr C mX4_differsOn (10, [l0, l1, some (qi z)], qi z :: st, M) x := g_pl (show decode cX4_differsOn 9 = .ok (.iload_n 2, 1) by decide +kernel) rfl
set_option maxRecDepth 20000 in
theorem kX4_differsOn_10 {C : QC} {x : QP} {M : QM} {L : QL} {rest : List CV} {a0 : CV} {v : CV} {M1 : QM} {b : Nat} (hb : q_kd M b = (1, 4)) (hC : C iX4_existsOn [qr b, a0] M (some v) M1) (hw : (rest.map q_wd).sum ≤ 8) (k : Rr C mX4_differsOn (13, L, v :: rest, M1) x) : Rr C mX4_differsOn (10, L, a0 :: qr b :: rest, M) x := g_cv (ow := 4) (e := (0, 109, 4, [1219, 870, 871, 85])) (as := [a0]) (show decode cX4_differsOn 10 = .ok (.invokevirtual 75, 3) by decide +kernel) rfl rfl rfl (Or.inl rfl) rfl hb hC hw k
set_option maxRecDepth 20000 in
theorem kX4_differsOn_13 {C : QC} {x : QP} {M : QM} {st : List CV} {L : QL} {a : Int} (ha1 : -2147483648 ≤ a) (ha2 : a < 2147483648) : Rr C mX4_differsOn (13, L, qi a :: st, M) x = (if a = 0 then Rr C mX4_differsOn (16, L, st, M) x else Rr C mX4_differsOn (18, L, st, M) x) := (g_if (show decode cX4_differsOn 13 = .ok (.ifCond .ne 5, 3) by decide +kernel) rfl ha1 ha2).trans (g_itn c_ne)
set_option maxRecDepth 20000 in
theorem kX4_differsOn_16 {C : QC} {x : QP} {M : QM} {st : List CV} {L : QL} : Rr C mX4_differsOn (16, L, st, M) x = Rr C mX4_differsOn (17, L, qi 0 :: st, M) x := g_pl (show decode cX4_differsOn 16 = .ok (.iconst 0, 1) by decide +kernel) rfl
set_option maxRecDepth 20000 in
theorem kX4_differsOn_17 {C : QC} {x : QP} {M : QM} {st : List CV} {L : QL} {z : Int} (hz : z = 0 ∨ z = 1) : Rr C mX4_differsOn (17, L, [qi z], M) x = x (some (qi z)) M := g_iret (show decode cX4_differsOn 17 = .ok (.ireturn, 1) by decide +kernel) (by rcases hz with rfl | rfl <;> rfl)
set_option maxRecDepth 20000 in
theorem kX4_differsOn_18 {C : QC} {x : QP} {M : QM} {st : List CV} {L : QL} {l0 l1 l2 : Option CV} {r : Option Nat} : Rr C mX4_differsOn (18, [some (.inr (.inr r)), l1, l2], st, M) x = Rr C mX4_differsOn (19, [some (.inr (.inr r)), l1, l2], .inr (.inr r) :: st, M) x := g_pl (show decode cX4_differsOn 18 = .ok (.aload_n 0, 1) by decide +kernel) rfl
set_option maxRecDepth 20000 in
theorem kX4_differsOn_19 {C : QC} {x : QP} {M : QM} {st : List CV} {L : QL} {a : Nat} (hk : q_kd M a = (1, 4)) : Rr C mX4_differsOn (19, L, qr a :: st, M) x = Rr C mX4_differsOn (22, L, q_fv M a 7 :: st, M) x := g_getf (ow := 4) (e := (4, 7, RX4, 288, 0)) (show decode cX4_differsOn 19 = .ok (.getfield 40, 3) by decide +kernel) rfl hk
set_option maxRecDepth 20000 in
theorem kX4_differsOn_22 {C : QC} {x : QP} {M : QM} {st : List CV} {L : QL} {l0 l1 l2 : Option CV} {z : Int} : Rr C mX4_differsOn (22, [l0, some (qi z), l2], st, M) x = Rr C mX4_differsOn (23, [l0, some (qi z), l2], qi z :: st, M) x := g_pl (show decode cX4_differsOn 22 = .ok (.iload_n 1, 1) by decide +kernel) rfl
set_option maxRecDepth 20000 in
theorem kX4_differsOn_23 {C : QC} {x : QP} {M : QM} {L : QL} {rest : List CV} {a0 : CV} {v : CV} {M1 : QM} {b : Nat} (hb : q_kd M b = (1, 9)) (hC : C iX9_at [qr b, a0] M (some v) M1) (hw : (rest.map q_wd).sum ≤ 8) (k : Rr C mX4_differsOn (26, L, v :: rest, M1) x) : Rr C mX4_differsOn (23, L, a0 :: qr b :: rest, M) x := g_cv (ow := 4) (e := (0, 36, 9, [1220, 526, 527, 87])) (as := [a0]) (show decode cX4_differsOn 23 = .ok (.invokevirtual 79, 3) by decide +kernel) rfl rfl rfl (Or.inl rfl) rfl hb hC hw k
set_option maxRecDepth 20000 in
theorem kX4_differsOn_26 {C : QC} {x : QP} {M : QM} {st : List CV} {L : QL} {l0 l1 l2 : Option CV} {r : Option Nat} : Rr C mX4_differsOn (26, [some (.inr (.inr r)), l1, l2], st, M) x = Rr C mX4_differsOn (27, [some (.inr (.inr r)), l1, l2], .inr (.inr r) :: st, M) x := g_pl (show decode cX4_differsOn 26 = .ok (.aload_n 0, 1) by decide +kernel) rfl
set_option maxRecDepth 20000 in
theorem kX4_differsOn_27 {C : QC} {x : QP} {M : QM} {st : List CV} {L : QL} {a : Nat} (hk : q_kd M a = (1, 4)) : Rr C mX4_differsOn (27, L, qr a :: st, M) x = Rr C mX4_differsOn (30, L, q_fv M a 7 :: st, M) x := g_getf (ow := 4) (e := (4, 7, RX4, 288, 0)) (show decode cX4_differsOn 27 = .ok (.getfield 40, 3) by decide +kernel) rfl hk
set_option maxRecDepth 20000 in
theorem kX4_differsOn_30 {C : QC} {x : QP} {M : QM} {st : List CV} {L : QL} {l0 l1 l2 : Option CV} {z : Int} : Rr C mX4_differsOn (30, [l0, l1, some (qi z)], st, M) x = Rr C mX4_differsOn (31, [l0, l1, some (qi z)], qi z :: st, M) x := g_pl (show decode cX4_differsOn 30 = .ok (.iload_n 2, 1) by decide +kernel) rfl
set_option maxRecDepth 20000 in
theorem kX4_differsOn_31 {C : QC} {x : QP} {M : QM} {L : QL} {rest : List CV} {a0 : CV} {v : CV} {M1 : QM} {b : Nat} (hb : q_kd M b = (1, 9)) (hC : C iX9_at [qr b, a0] M (some v) M1) (hw : (rest.map q_wd).sum ≤ 8) (k : Rr C mX4_differsOn (34, L, v :: rest, M1) x) : Rr C mX4_differsOn (31, L, a0 :: qr b :: rest, M) x := g_cv (ow := 4) (e := (0, 36, 9, [1220, 526, 527, 87])) (as := [a0]) (show decode cX4_differsOn 31 = .ok (.invokevirtual 79, 3) by decide +kernel) rfl rfl rfl (Or.inl rfl) rfl hb hC hw k
set_option maxRecDepth 20000 in
theorem kX4_differsOn_34 {C : QC} {x : QP} {M : QM} {st : List CV} {L : QL} {a b : Int} (ha1 : -2147483648 ≤ a) (ha2 : a < 2147483648) (hb1 : -2147483648 ≤ b) (hb2 : b < 2147483648) : Rr C mX4_differsOn (34, L, qi b :: qi a :: st, M) x = (if a = b then Rr C mX4_differsOn (37, L, st, M) x else Rr C mX4_differsOn (57, L, st, M) x) := (g_icmp (show decode cX4_differsOn 34 = .ok (.if_icmp .ne 23, 3) by decide +kernel) rfl ha1 ha2 hb1 hb2).trans (g_itn c_ne)
set_option maxRecDepth 20000 in
theorem kX4_differsOn_37 {C : QC} {x : QP} {M : QM} {st : List CV} {L : QL} {l0 l1 l2 : Option CV} {r : Option Nat} : Rr C mX4_differsOn (37, [some (.inr (.inr r)), l1, l2], st, M) x = Rr C mX4_differsOn (38, [some (.inr (.inr r)), l1, l2], .inr (.inr r) :: st, M) x := g_pl (show decode cX4_differsOn 37 = .ok (.aload_n 0, 1) by decide +kernel) rfl
set_option maxRecDepth 20000 in
theorem kX4_differsOn_38 {C : QC} {x : QP} {M : QM} {st : List CV} {L : QL} {a : Nat} (hk : q_kd M a = (1, 4)) : Rr C mX4_differsOn (38, L, qr a :: st, M) x = Rr C mX4_differsOn (41, L, q_fv M a 6 :: st, M) x := g_getf (ow := 4) (e := (4, 6, RX4, 285, 0)) (show decode cX4_differsOn 38 = .ok (.getfield 33, 3) by decide +kernel) rfl hk
set_option maxRecDepth 20000 in
theorem kX4_differsOn_41 {C : QC} {x : QP} {M : QM} {st : List CV} {L : QL} {l0 l1 l2 : Option CV} {z : Int} : Rr C mX4_differsOn (41, [l0, some (qi z), l2], st, M) x = Rr C mX4_differsOn (42, [l0, some (qi z), l2], qi z :: st, M) x := g_pl (show decode cX4_differsOn 41 = .ok (.iload_n 1, 1) by decide +kernel) rfl
set_option maxRecDepth 20000 in
theorem kX4_differsOn_42 {C : QC} {x : QP} {M : QM} {L : QL} {rest : List CV} {a0 : CV} {v : CV} {M1 : QM} {b : Nat} (hb : q_kd M b = (1, 2)) (hC : C iX2_at [qr b, a0] M (some v) M1) (hw : (rest.map q_wd).sum ≤ 8) (k : Rr C mX4_differsOn (45, L, v :: rest, M1) x) : Rr C mX4_differsOn (42, L, a0 :: qr b :: rest, M) x := g_cv (ow := 4) (e := (0, 66, 2, [1221, 684, 685, 86])) (as := [a0]) (show decode cX4_differsOn 42 = .ok (.invokevirtual 83, 3) by decide +kernel) rfl rfl rfl (Or.inl rfl) rfl hb hC hw k
set_option maxRecDepth 20000 in
theorem kX4_differsOn_45 {C : QC} {x : QP} {M : QM} {st : List CV} {L : QL} {l0 l1 l2 : Option CV} {r : Option Nat} : Rr C mX4_differsOn (45, [some (.inr (.inr r)), l1, l2], st, M) x = Rr C mX4_differsOn (46, [some (.inr (.inr r)), l1, l2], .inr (.inr r) :: st, M) x := g_pl (show decode cX4_differsOn 45 = .ok (.aload_n 0, 1) by decide +kernel) rfl
set_option maxRecDepth 20000 in
theorem kX4_differsOn_46 {C : QC} {x : QP} {M : QM} {st : List CV} {L : QL} {a : Nat} (hk : q_kd M a = (1, 4)) : Rr C mX4_differsOn (46, L, qr a :: st, M) x = Rr C mX4_differsOn (49, L, q_fv M a 6 :: st, M) x := g_getf (ow := 4) (e := (4, 6, RX4, 285, 0)) (show decode cX4_differsOn 46 = .ok (.getfield 33, 3) by decide +kernel) rfl hk
set_option maxRecDepth 20000 in
theorem kX4_differsOn_49 {C : QC} {x : QP} {M : QM} {st : List CV} {L : QL} {l0 l1 l2 : Option CV} {z : Int} : Rr C mX4_differsOn (49, [l0, l1, some (qi z)], st, M) x = Rr C mX4_differsOn (50, [l0, l1, some (qi z)], qi z :: st, M) x := g_pl (show decode cX4_differsOn 49 = .ok (.iload_n 2, 1) by decide +kernel) rfl
set_option maxRecDepth 20000 in
theorem kX4_differsOn_50 {C : QC} {x : QP} {M : QM} {L : QL} {rest : List CV} {a0 : CV} {v : CV} {M1 : QM} {b : Nat} (hb : q_kd M b = (1, 2)) (hC : C iX2_at [qr b, a0] M (some v) M1) (hw : (rest.map q_wd).sum ≤ 8) (k : Rr C mX4_differsOn (53, L, v :: rest, M1) x) : Rr C mX4_differsOn (50, L, a0 :: qr b :: rest, M) x := g_cv (ow := 4) (e := (0, 66, 2, [1221, 684, 685, 86])) (as := [a0]) (show decode cX4_differsOn 50 = .ok (.invokevirtual 83, 3) by decide +kernel) rfl rfl rfl (Or.inl rfl) rfl hb hC hw k
set_option maxRecDepth 20000 in
theorem kX4_differsOn_53 {C : QC} {x : QP} {M : QM} {st : List CV} {L : QL} {a b : Int} : Rr C mX4_differsOn (53, L, ql b :: ql a :: st, M) x = Rr C mX4_differsOn (54, L, qi (q_lcmp a b) :: st, M) x := g_pl (show decode cX4_differsOn 53 = .ok (.lcmp, 1) by decide +kernel) rfl
set_option maxRecDepth 20000 in
theorem kX4_differsOn_54 {C : QC} {x : QP} {M : QM} {st : List CV} {L : QL} {a : Int} (ha1 : -2147483648 ≤ a) (ha2 : a < 2147483648) : Rr C mX4_differsOn (54, L, qi a :: st, M) x = (if a = 0 then Rr C mX4_differsOn (61, L, st, M) x else Rr C mX4_differsOn (57, L, st, M) x) := (g_if (show decode cX4_differsOn 54 = .ok (.ifCond .eq 7, 3) by decide +kernel) rfl ha1 ha2).trans (g_ite c_eq)
set_option maxRecDepth 20000 in
theorem kX4_differsOn_57 {C : QC} {x : QP} {M : QM} {st : List CV} {L : QL} : Rr C mX4_differsOn (57, L, st, M) x = Rr C mX4_differsOn (58, L, qi 1 :: st, M) x := g_pl (show decode cX4_differsOn 57 = .ok (.iconst 1, 1) by decide +kernel) rfl
set_option maxRecDepth 20000 in
theorem kX4_differsOn_58 {C : QC} {x : QP} {M : QM} {st : List CV} {L : QL} : Rr C mX4_differsOn (58, L, st, M) x = Rr C mX4_differsOn (62, L, st, M) x := g_pl (show decode cX4_differsOn 58 = .ok (.goto 4, 3) by decide +kernel) rfl
set_option maxRecDepth 20000 in
theorem kX4_differsOn_61 {C : QC} {x : QP} {M : QM} {st : List CV} {L : QL} : Rr C mX4_differsOn (61, L, st, M) x = Rr C mX4_differsOn (62, L, qi 0 :: st, M) x := g_pl (show decode cX4_differsOn 61 = .ok (.iconst 0, 1) by decide +kernel) rfl
set_option maxRecDepth 20000 in
theorem kX4_differsOn_62 {C : QC} {x : QP} {M : QM} {st : List CV} {L : QL} {z : Int} (hz : z = 0 ∨ z = 1) : Rr C mX4_differsOn (62, L, [qi z], M) x = x (some (qi z)) M := g_iret (show decode cX4_differsOn 62 = .ok (.ireturn, 1) by decide +kernel) (by rcases hz with rfl | rfl <;> rfl)
set_option maxRecDepth 20000 in
theorem eX4_differsOn {d : Nat} {M : QM} {x : QP} {a : Nat} {v0 : Int} {v1 : Int} : q_T (d + 1) iX4_differsOn [qr a, qi v0, qi v1] M x = Rr (q_C d) mX4_differsOn (0, [some (qr a), some (qi v0), some (qi v1)], [], M) x := g_entryT (e := _) rfl (Nat.le_of_ble_eq_true rfl) rfl rfl
def mX5_init : QI := (5, cX5_init, true, none)
set_option maxRecDepth 20000 in
theorem kX5_init_0 {C : QC} {x : QP} {M : QM} {st : List CV} {L : QL} {r : Option Nat} : Rr C mX5_init (0, [some (.inr (.inr r))], st, M) x = Rr C mX5_init (1, [some (.inr (.inr r))], .inr (.inr r) :: st, M) x := g_pl (show decode cX5_init 0 = .ok (.aload_n 0, 1) by decide +kernel) rfl
set_option maxRecDepth 20000 in
theorem kX5_init_1 {C : QC} {x : QP} {M : QM} {st : List CV} {L : QL} {a : Nat} (hw : (st.map q_wd).sum ≤ 8) : Rr C mX5_init (1, L, qr a :: st, M) x = Rr C mX5_init (4, L, st, M) x := g_obj (ow := 5) (e := 134) (show decode cX5_init 1 = .ok (.invokespecial 3, 3) by decide +kernel) rfl hw
set_option maxRecDepth 20000 in
theorem kX5_init_4 {C : QC} {x : QP} {M : QM} {st : List CV} {L : QL} {r : Option Nat} : Rr C mX5_init (4, [some (.inr (.inr r))], st, M) x = Rr C mX5_init (5, [some (.inr (.inr r))], .inr (.inr r) :: st, M) x := g_pl (show decode cX5_init 4 = .ok (.aload_n 0, 1) by decide +kernel) rfl
set_option maxRecDepth 20000 in
theorem kX5_init_5 {C : QC} {x : QP} {M : QM} {st : List CV} {L : QL} : Rr C mX5_init (5, L, st, M) x = Rr C mX5_init (8, L, qr (q_top M) :: st, q_al M (1, 15) 3 (fun k => q_dv (tyJx4a65c k))) x := g_new (ow := 5) (e := (15, 135, 136, 82)) (r := (RJx4a65c, TJx4a65c, 3)) (t := tyJx4a65c) (show decode cX5_init 5 = .ok (.new 9, 3) by decide +kernel) rfl rfl rfl
set_option maxRecDepth 20000 in
theorem kX5_init_8i {C : QC} {x : QP} {M : QM} {st : List CV} {L : QL} {a : Int} : Rr C mX5_init (8, L, qi a :: st, M) x = Rr C mX5_init (9, L, qi a :: qi a :: st, M) x := g_pl (show decode cX5_init 8 = .ok (.dup, 1) by decide +kernel) rfl
set_option maxRecDepth 20000 in
theorem kX5_init_8r {C : QC} {x : QP} {M : QM} {st : List CV} {L : QL} {a : Option Nat} : Rr C mX5_init (8, L, .inr (.inr a) :: st, M) x = Rr C mX5_init (9, L, .inr (.inr a) :: .inr (.inr a) :: st, M) x := g_pl (show decode cX5_init 8 = .ok (.dup, 1) by decide +kernel) rfl
set_option maxRecDepth 20000 in
theorem kX5_init_9 {C : QC} {x : QP} {M : QM} {L : QL} {rest : List CV} {M1 : QM} {b : Nat} (hC : C iJx4a65c_init_da8c8 [qr b] M none M1) (hw : (rest.map q_wd).sum ≤ 8) (k : Rr C mX5_init (12, L, rest, M1) x) : Rr C mX5_init (9, L, qr b :: rest, M) x := g_ci (ow := 5) (e := (3, 3, 0, [137, 138, 82])) (as := []) (show decode cX5_init 9 = .ok (.invokespecial 11, 3) by decide +kernel) rfl rfl rfl (Or.inl (Or.inl rfl)) rfl hC hw k
set_option maxRecDepth 20000 in
theorem kX5_init_12 {C : QC} {x : QP} {M : QM} {st : List CV} {L : QL} {z : Option Nat} {a : Nat} (hk : q_kd M a = (1, 5)) : Rr C mX5_init (12, L, .inr (.inr z) :: qr a :: st, M) x = Rr C mX5_init (15, L, st, q_wr M a 0 (.inr (.inr z))) x := g_putf (ow := 5) (ini := true) (e := (5, 0, RX5, 161, 0)) (r := (RX5, TX5, 4)) (t := tyX5) (show decode cX5_init 12 = .ok (.putfield 12, 3) by decide +kernel) rfl rfl rfl rfl (by decide +kernel) hk
set_option maxRecDepth 20000 in
theorem kX5_init_15 {C : QC} {x : QP} {M : QM} {st : List CV} {L : QL} {r : Option Nat} : Rr C mX5_init (15, [some (.inr (.inr r))], st, M) x = Rr C mX5_init (16, [some (.inr (.inr r))], .inr (.inr r) :: st, M) x := g_pl (show decode cX5_init 15 = .ok (.aload_n 0, 1) by decide +kernel) rfl
set_option maxRecDepth 20000 in
theorem kX5_init_16 {C : QC} {x : QP} {M : QM} {st : List CV} {L : QL} : Rr C mX5_init (16, L, st, M) x = Rr C mX5_init (17, L, qi 0 :: st, M) x := g_pl (show decode cX5_init 16 = .ok (.iconst 0, 1) by decide +kernel) rfl
set_option maxRecDepth 20000 in
theorem kX5_init_17 {C : QC} {x : QP} {M : QM} {st : List CV} {L : QL} {z : Int} {a : Nat} (hk : q_kd M a = (1, 5)) : Rr C mX5_init (17, L, qi z :: qr a :: st, M) x = Rr C mX5_init (20, L, st, q_wr M a 1 (qi z)) x := g_putf (ow := 5) (ini := true) (e := (5, 1, RX5, 162, 0)) (r := (RX5, TX5, 4)) (t := tyX5) (show decode cX5_init 17 = .ok (.putfield 18, 3) by decide +kernel) rfl rfl rfl rfl (by decide +kernel) hk
set_option maxRecDepth 20000 in
theorem kX5_init_20 {C : QC} {x : QP} {M : QM} {st : List CV} {L : QL} {r : Option Nat} : Rr C mX5_init (20, [some (.inr (.inr r))], st, M) x = Rr C mX5_init (21, [some (.inr (.inr r))], .inr (.inr r) :: st, M) x := g_pl (show decode cX5_init 20 = .ok (.aload_n 0, 1) by decide +kernel) rfl
set_option maxRecDepth 20000 in
theorem kX5_init_21 {C : QC} {x : QP} {M : QM} {st : List CV} {L : QL} : Rr C mX5_init (21, L, st, M) x = Rr C mX5_init (22, L, qi 0 :: st, M) x := g_pl (show decode cX5_init 21 = .ok (.iconst 0, 1) by decide +kernel) rfl
set_option maxRecDepth 20000 in
theorem kX5_init_22 {C : QC} {x : QP} {M : QM} {st : List CV} {L : QL} {z : Int} {a : Nat} (hk : q_kd M a = (1, 5)) : Rr C mX5_init (22, L, qi z :: qr a :: st, M) x = Rr C mX5_init (25, L, st, q_wr M a 2 (qi z)) x := g_putf (ow := 5) (ini := true) (e := (5, 2, RX5, 163, 0)) (r := (RX5, TX5, 4)) (t := tyX5) (show decode cX5_init 22 = .ok (.putfield 22, 3) by decide +kernel) rfl rfl rfl rfl (by decide +kernel) hk
set_option maxRecDepth 20000 in
theorem kX5_init_25 {C : QC} {x : QP} {M : QM} {st : List CV} {L : QL} {r : Option Nat} : Rr C mX5_init (25, [some (.inr (.inr r))], st, M) x = Rr C mX5_init (26, [some (.inr (.inr r))], .inr (.inr r) :: st, M) x := g_pl (show decode cX5_init 25 = .ok (.aload_n 0, 1) by decide +kernel) rfl
set_option maxRecDepth 20000 in
theorem kX5_init_26 {C : QC} {x : QP} {M : QM} {st : List CV} {L : QL} : Rr C mX5_init (26, L, st, M) x = Rr C mX5_init (27, L, ql 0 :: st, M) x := g_pl (show decode cX5_init 26 = .ok (.lconst 0, 1) by decide +kernel) rfl
set_option maxRecDepth 20000 in
theorem kX5_init_27 {C : QC} {x : QP} {M : QM} {st : List CV} {L : QL} {z : Int} {a : Nat} (hk : q_kd M a = (1, 5)) : Rr C mX5_init (27, L, ql z :: qr a :: st, M) x = Rr C mX5_init (30, L, st, q_wr M a 3 (ql z)) x := g_putf (ow := 5) (ini := true) (e := (5, 3, RX5, 164, 0)) (r := (RX5, TX5, 4)) (t := tyX5) (show decode cX5_init 27 = .ok (.putfield 25, 3) by decide +kernel) rfl rfl rfl rfl (by decide +kernel) hk
set_option maxRecDepth 20000 in
theorem kX5_init_30 {C : QC} {x : QP} {M : QM} {st : List CV} {L : QL} : Rr C mX5_init (30, L, [], M) x = x none M := g_vret (show decode cX5_init 30 = .ok (.return_, 1) by decide +kernel)
set_option maxRecDepth 20000 in
theorem eX5_init {d : Nat} {M : QM} {x : QP} {a : Nat} : q_T (d + 1) iX5_init [qr a] M x = Rr (q_C d) mX5_init (0, [some (qr a)], [], M) x := g_entryT (e := _) rfl (Nat.le_of_ble_eq_true rfl) rfl rfl
def mX5_size : QI := (5, cX5_size, false, some .int)
set_option maxRecDepth 20000 in
theorem kX5_size_0 {C : QC} {x : QP} {M : QM} {st : List CV} {L : QL} {r : Option Nat} : Rr C mX5_size (0, [some (.inr (.inr r))], st, M) x = Rr C mX5_size (1, [some (.inr (.inr r))], .inr (.inr r) :: st, M) x := g_pl (show decode cX5_size 0 = .ok (.aload_n 0, 1) by decide +kernel) rfl
set_option maxRecDepth 20000 in
theorem kX5_size_1 {C : QC} {x : QP} {M : QM} {st : List CV} {L : QL} {a : Nat} (hk : q_kd M a = (1, 5)) : Rr C mX5_size (1, L, qr a :: st, M) x = Rr C mX5_size (4, L, q_fv M a 0 :: st, M) x := g_getf (ow := 5) (e := (5, 0, RX5, 161, 0)) (show decode cX5_size 1 = .ok (.getfield 12, 3) by decide +kernel) rfl hk
set_option maxRecDepth 20000 in
theorem kX5_size_4 {C : QC} {x : QP} {M : QM} {L : QL} {rest : List CV} {v : CV} {M1 : QM} {b : Nat} (hb : q_kd M b = (1, 15)) (hC : C iJx4a65c_size_8abf5 [qr b] M (some v) M1) (hw : (rest.map q_wd).sum ≤ 8) (k : Rr C mX5_size (7, L, v :: rest, M1) x) : Rr C mX5_size (4, L, qr b :: rest, M) x := g_cv (ow := 5) (e := (0, 43, 15, [814, 559, 560, 82])) (as := []) (show decode cX5_size 4 = .ok (.invokevirtual 29, 3) by decide +kernel) rfl rfl rfl (Or.inl rfl) rfl hb hC hw k
set_option maxRecDepth 20000 in
theorem kX5_size_7 {C : QC} {x : QP} {M : QM} {st : List CV} {L : QL} {z : Int} : Rr C mX5_size (7, L, [qi z], M) x = x (some (qi z)) M := g_iret (show decode cX5_size 7 = .ok (.ireturn, 1) by decide +kernel) rfl
set_option maxRecDepth 20000 in
theorem eX5_size {d : Nat} {M : QM} {x : QP} {a : Nat} : q_T (d + 1) iX5_size [qr a] M x = Rr (q_C d) mX5_size (0, [some (qr a)], [], M) x := g_entryT (e := _) rfl (Nat.le_of_ble_eq_true rfl) rfl rfl
def mX5_order : QI := (5, cX5_order, false, some (.object "PlaceRegister$Order"))
set_option maxRecDepth 20000 in
theorem kX5_order_0 {C : QC} {x : QP} {M : QM} {st : List CV} {L : QL} {l0 l1 : Option CV} {z : Int} : Rr C mX5_order (0, [l0, some (qi z)], st, M) x = Rr C mX5_order (1, [l0, some (qi z)], qi z :: st, M) x := g_pl (show decode cX5_order 0 = .ok (.iload_n 1, 1) by decide +kernel) rfl
set_option maxRecDepth 20000 in
theorem kX5_order_1 {C : QC} {x : QP} {M : QM} {st : List CV} {L : QL} {a : Int} (ha1 : -2147483648 ≤ a) (ha2 : a < 2147483648) : Rr C mX5_order (1, L, qi a :: st, M) x = (if a < 0 then Rr C mX5_order (29, L, st, M) x else Rr C mX5_order (4, L, st, M) x) := (g_if (show decode cX5_order 1 = .ok (.ifCond .lt 28, 3) by decide +kernel) rfl ha1 ha2).trans (g_ite c_lt)
set_option maxRecDepth 20000 in
theorem kX5_order_4 {C : QC} {x : QP} {M : QM} {st : List CV} {L : QL} {l0 l1 : Option CV} {z : Int} : Rr C mX5_order (4, [l0, some (qi z)], st, M) x = Rr C mX5_order (5, [l0, some (qi z)], qi z :: st, M) x := g_pl (show decode cX5_order 4 = .ok (.iload_n 1, 1) by decide +kernel) rfl
set_option maxRecDepth 20000 in
theorem kX5_order_5 {C : QC} {x : QP} {M : QM} {st : List CV} {L : QL} {l0 l1 : Option CV} {r : Option Nat} : Rr C mX5_order (5, [some (.inr (.inr r)), l1], st, M) x = Rr C mX5_order (6, [some (.inr (.inr r)), l1], .inr (.inr r) :: st, M) x := g_pl (show decode cX5_order 5 = .ok (.aload_n 0, 1) by decide +kernel) rfl
set_option maxRecDepth 20000 in
theorem kX5_order_6 {C : QC} {x : QP} {M : QM} {st : List CV} {L : QL} {a : Nat} (hk : q_kd M a = (1, 5)) : Rr C mX5_order (6, L, qr a :: st, M) x = Rr C mX5_order (9, L, q_fv M a 0 :: st, M) x := g_getf (ow := 5) (e := (5, 0, RX5, 161, 0)) (show decode cX5_order 6 = .ok (.getfield 12, 3) by decide +kernel) rfl hk
set_option maxRecDepth 20000 in
theorem kX5_order_9 {C : QC} {x : QP} {M : QM} {L : QL} {rest : List CV} {v : CV} {M1 : QM} {b : Nat} (hb : q_kd M b = (1, 15)) (hC : C iJx4a65c_size_8abf5 [qr b] M (some v) M1) (hw : (rest.map q_wd).sum ≤ 8) (k : Rr C mX5_order (12, L, v :: rest, M1) x) : Rr C mX5_order (9, L, qr b :: rest, M) x := g_cv (ow := 5) (e := (0, 43, 15, [814, 559, 560, 82])) (as := []) (show decode cX5_order 9 = .ok (.invokevirtual 29, 3) by decide +kernel) rfl rfl rfl (Or.inl rfl) rfl hb hC hw k
set_option maxRecDepth 20000 in
theorem kX5_order_12 {C : QC} {x : QP} {M : QM} {st : List CV} {L : QL} {a b : Int} (ha1 : -2147483648 ≤ a) (ha2 : a < 2147483648) (hb1 : -2147483648 ≤ b) (hb2 : b < 2147483648) : Rr C mX5_order (12, L, qi b :: qi a :: st, M) x = (if a < b then Rr C mX5_order (15, L, st, M) x else Rr C mX5_order (29, L, st, M) x) := (g_icmp (show decode cX5_order 12 = .ok (.if_icmp .ge 17, 3) by decide +kernel) rfl ha1 ha2 hb1 hb2).trans (g_itn c_ge)
set_option maxRecDepth 20000 in
theorem kX5_order_15 {C : QC} {x : QP} {M : QM} {st : List CV} {L : QL} {l0 l1 : Option CV} {r : Option Nat} : Rr C mX5_order (15, [some (.inr (.inr r)), l1], st, M) x = Rr C mX5_order (16, [some (.inr (.inr r)), l1], .inr (.inr r) :: st, M) x := g_pl (show decode cX5_order 15 = .ok (.aload_n 0, 1) by decide +kernel) rfl
set_option maxRecDepth 20000 in
theorem kX5_order_16 {C : QC} {x : QP} {M : QM} {st : List CV} {L : QL} {a : Nat} (hk : q_kd M a = (1, 5)) : Rr C mX5_order (16, L, qr a :: st, M) x = Rr C mX5_order (19, L, q_fv M a 0 :: st, M) x := g_getf (ow := 5) (e := (5, 0, RX5, 161, 0)) (show decode cX5_order 16 = .ok (.getfield 12, 3) by decide +kernel) rfl hk
set_option maxRecDepth 20000 in
theorem kX5_order_19 {C : QC} {x : QP} {M : QM} {st : List CV} {L : QL} {l0 l1 : Option CV} {z : Int} : Rr C mX5_order (19, [l0, some (qi z)], st, M) x = Rr C mX5_order (20, [l0, some (qi z)], qi z :: st, M) x := g_pl (show decode cX5_order 19 = .ok (.iload_n 1, 1) by decide +kernel) rfl
set_option maxRecDepth 20000 in
theorem kX5_order_20 {C : QC} {x : QP} {M : QM} {L : QL} {rest : List CV} {a0 : CV} {v : CV} {M1 : QM} {b : Nat} (hb : q_kd M b = (1, 15)) (hC : C iJx4a65c_get_915e3 [qr b, a0] M (some v) M1) (hw : (rest.map q_wd).sum ≤ 8) (k : Rr C mX5_order (23, L, v :: rest, M1) x) : Rr C mX5_order (20, L, a0 :: qr b :: rest, M) x := g_cv (ow := 5) (e := (0, 97, 15, [819, 820, 821, 82])) (as := [a0]) (show decode cX5_order 20 = .ok (.invokevirtual 33, 3) by decide +kernel) rfl rfl rfl (Or.inl rfl) rfl hb hC hw k
set_option maxRecDepth 20000 in
theorem kX5_order_23n {C : QC} {x : QP} {M : QM} {st : List CV} {L : QL} : Rr C mX5_order (23, L, qn :: st, M) x = Rr C mX5_order (26, L, qn :: st, M) x := g_castN (show decode cX5_order 23 = .ok (.checkcast 37, 3) by decide +kernel)
set_option maxRecDepth 20000 in
theorem kX5_order_23r {C : QC} {x : QP} {M : QM} {st : List CV} {L : QL} {a : Nat} (hk : q_kd M a = (1, 3)) : Rr C mX5_order (23, L, qr a :: st, M) x = Rr C mX5_order (26, L, qr a :: st, M) x := g_cast (ow := 5) (e := (3, 802, 452, 96)) (show decode cX5_order 23 = .ok (.checkcast 37, 3) by decide +kernel) rfl hk
set_option maxRecDepth 20000 in
theorem kX5_order_26 {C : QC} {x : QP} {M : QM} {st : List CV} {L : QL} : Rr C mX5_order (26, L, st, M) x = Rr C mX5_order (30, L, st, M) x := g_pl (show decode cX5_order 26 = .ok (.goto 4, 3) by decide +kernel) rfl
set_option maxRecDepth 20000 in
theorem kX5_order_29 {C : QC} {x : QP} {M : QM} {st : List CV} {L : QL} : Rr C mX5_order (29, L, st, M) x = Rr C mX5_order (30, L, qn :: st, M) x := g_pl (show decode cX5_order 29 = .ok (.aconst_null, 1) by decide +kernel) rfl
set_option maxRecDepth 20000 in
theorem kX5_order_30 {C : QC} {x : QP} {M : QM} {st : List CV} {L : QL} {r : Option Nat} : Rr C mX5_order (30, L, [.inr (.inr r)], M) x = x (some (.inr (.inr r))) M := g_areto (show decode cX5_order 30 = .ok (.areturn, 1) by decide +kernel)
set_option maxRecDepth 20000 in
theorem eX5_order {d : Nat} {M : QM} {x : QP} {a : Nat} {v0 : Int} : q_T (d + 1) iX5_order [qr a, qi v0] M x = Rr (q_C d) mX5_order (0, [some (qr a), some (qi v0)], [], M) x := g_entryT (e := _) rfl (Nat.le_of_ble_eq_true rfl) rfl rfl
def mX5_read : QI := (5, cX5_read, false, some .int)
set_option maxRecDepth 20000 in
theorem kX5_read_0 {C : QC} {x : QP} {M : QM} {st : List CV} {L : QL} {l0 l1 l2 : Option CV} {r : Option Nat} : Rr C mX5_read (0, [some (.inr (.inr r)), l1, l2], st, M) x = Rr C mX5_read (1, [some (.inr (.inr r)), l1, l2], .inr (.inr r) :: st, M) x := g_pl (show decode cX5_read 0 = .ok (.aload_n 0, 1) by decide +kernel) rfl
set_option maxRecDepth 20000 in
theorem kX5_read_1 {C : QC} {x : QP} {M : QM} {st : List CV} {L : QL} {a : Nat} (hk : q_kd M a = (1, 5)) : Rr C mX5_read (1, L, qr a :: st, M) x = Rr C mX5_read (4, L, q_fv M a 0 :: st, M) x := g_getf (ow := 5) (e := (5, 0, RX5, 161, 0)) (show decode cX5_read 1 = .ok (.getfield 12, 3) by decide +kernel) rfl hk
set_option maxRecDepth 20000 in
theorem kX5_read_4 {C : QC} {x : QP} {M : QM} {L : QL} {rest : List CV} {M1 : QM} {b : Nat} (hb : q_kd M b = (1, 15)) (hC : C iJx4a65c_clear_da8c8 [qr b] M none M1) (hw : (rest.map q_wd).sum ≤ 8) (k : Rr C mX5_read (7, L, rest, M1) x) : Rr C mX5_read (4, L, qr b :: rest, M) x := g_cv (ow := 5) (e := (0, 86, 15, [769, 770, 771, 82])) (as := []) (show decode cX5_read 4 = .ok (.invokevirtual 39, 3) by decide +kernel) rfl rfl rfl (Or.inl rfl) rfl hb hC hw k
set_option maxRecDepth 20000 in
theorem kX5_read_7 {C : QC} {x : QP} {M : QM} {st : List CV} {L : QL} {l0 l1 l2 : Option CV} {r : Option Nat} : Rr C mX5_read (7, [some (.inr (.inr r)), l1, l2], st, M) x = Rr C mX5_read (8, [some (.inr (.inr r)), l1, l2], .inr (.inr r) :: st, M) x := g_pl (show decode cX5_read 7 = .ok (.aload_n 0, 1) by decide +kernel) rfl
set_option maxRecDepth 20000 in
theorem kX5_read_8 {C : QC} {x : QP} {M : QM} {st : List CV} {L : QL} : Rr C mX5_read (8, L, st, M) x = Rr C mX5_read (9, L, qi 0 :: st, M) x := g_pl (show decode cX5_read 8 = .ok (.iconst 0, 1) by decide +kernel) rfl
set_option maxRecDepth 20000 in
theorem kX5_read_9 {C : QC} {x : QP} {M : QM} {st : List CV} {L : QL} {z : Int} {a : Nat} (hk : q_kd M a = (1, 5)) : Rr C mX5_read (9, L, qi z :: qr a :: st, M) x = Rr C mX5_read (12, L, st, q_wr M a 1 (qi z)) x := g_putf (ow := 5) (ini := false) (e := (5, 1, RX5, 162, 0)) (r := (RX5, TX5, 4)) (t := tyX5) (show decode cX5_read 9 = .ok (.putfield 18, 3) by decide +kernel) rfl rfl rfl rfl (by decide +kernel) hk
set_option maxRecDepth 20000 in
theorem kX5_read_12 {C : QC} {x : QP} {M : QM} {st : List CV} {L : QL} : Rr C mX5_read (12, L, st, M) x = Rr C mX5_read (13, L, qi 0 :: st, M) x := g_pl (show decode cX5_read 12 = .ok (.iconst 0, 1) by decide +kernel) rfl
set_option maxRecDepth 20000 in
theorem kX5_read_13 {C : QC} {x : QP} {M : QM} {st : List CV} {L : QL} {l0 l1 l2 : Option CV} {z : Int} : Rr C mX5_read (13, [l0, l1, l2], qi z :: st, M) x = Rr C mX5_read (14, [l0, q_cut l1, some (qi z)], st, M) x := g_pl (show decode cX5_read 13 = .ok (.istore_n 2, 1) by decide +kernel) rfl
set_option maxRecDepth 20000 in
theorem kX5_read_14 {C : QC} {x : QP} {M : QM} {st : List CV} {L : QL} {l0 l1 l2 : Option CV} {z : Int} : Rr C mX5_read (14, [l0, l1, some (qi z)], st, M) x = Rr C mX5_read (15, [l0, l1, some (qi z)], qi z :: st, M) x := g_pl (show decode cX5_read 14 = .ok (.iload_n 2, 1) by decide +kernel) rfl
set_option maxRecDepth 20000 in
theorem kX5_read_15 {C : QC} {x : QP} {M : QM} {st : List CV} {L : QL} : Rr C mX5_read (15, L, st, M) x = Rr C mX5_read (17, L, qi 80 :: st, M) x := g_pl (show decode cX5_read 15 = .ok (.bipush 80, 2) by decide +kernel) rfl
set_option maxRecDepth 20000 in
theorem kX5_read_17 {C : QC} {x : QP} {M : QM} {st : List CV} {L : QL} {a b : Int} (ha1 : -2147483648 ≤ a) (ha2 : a < 2147483648) (hb1 : -2147483648 ≤ b) (hb2 : b < 2147483648) : Rr C mX5_read (17, L, qi b :: qi a :: st, M) x = (if a < b then Rr C mX5_read (20, L, st, M) x else Rr C mX5_read (67, L, st, M) x) := (g_icmp (show decode cX5_read 17 = .ok (.if_icmp .ge 50, 3) by decide +kernel) rfl ha1 ha2 hb1 hb2).trans (g_itn c_ge)
set_option maxRecDepth 20000 in
theorem kX5_read_20 {C : QC} {x : QP} {M : QM} {st : List CV} {L : QL} {l0 l1 l2 : Option CV} {r : Option Nat} : Rr C mX5_read (20, [some (.inr (.inr r)), l1, l2], st, M) x = Rr C mX5_read (21, [some (.inr (.inr r)), l1, l2], .inr (.inr r) :: st, M) x := g_pl (show decode cX5_read 20 = .ok (.aload_n 0, 1) by decide +kernel) rfl
set_option maxRecDepth 20000 in
theorem kX5_read_21 {C : QC} {x : QP} {M : QM} {st : List CV} {L : QL} {l0 l1 l2 : Option CV} {r : Option Nat} : Rr C mX5_read (21, [l0, some (.inr (.inr r)), l2], st, M) x = Rr C mX5_read (22, [l0, some (.inr (.inr r)), l2], .inr (.inr r) :: st, M) x := g_pl (show decode cX5_read 21 = .ok (.aload_n 1, 1) by decide +kernel) rfl
set_option maxRecDepth 20000 in
theorem kX5_read_22 {C : QC} {x : QP} {M : QM} {L : QL} {rest : List CV} {a0 : CV} {v : CV} {M1 : QM} {b : Nat} (hb : q_kd M b = (1, 5)) (hC : C iX5_readCommand [qr b, a0] M (some v) M1) (hw : (rest.map q_wd).sum ≤ 8) (k : Rr C mX5_read (25, L, v :: rest, M1) x) : Rr C mX5_read (22, L, a0 :: qr b :: rest, M) x := g_cv (ow := 5) (e := (0, 87, 5, [773, 775, 11, 79])) (as := [a0]) (show decode cX5_read 22 = .ok (.invokevirtual 42, 3) by decide +kernel) rfl rfl rfl (Or.inl rfl) rfl hb hC hw k
set_option maxRecDepth 20000 in
theorem kX5_read_25 {C : QC} {x : QP} {M : QM} {st : List CV} {L : QL} {a : Int} (ha1 : -2147483648 ≤ a) (ha2 : a < 2147483648) : Rr C mX5_read (25, L, qi a :: st, M) x = (if a = 0 then Rr C mX5_read (28, L, st, M) x else Rr C mX5_read (33, L, st, M) x) := (g_if (show decode cX5_read 25 = .ok (.ifCond .ne 8, 3) by decide +kernel) rfl ha1 ha2).trans (g_itn c_ne)
set_option maxRecDepth 20000 in
theorem kX5_read_28 {C : QC} {x : QP} {M : QM} {st : List CV} {L : QL} {l0 l1 l2 : Option CV} {r : Option Nat} : Rr C mX5_read (28, [some (.inr (.inr r)), l1, l2], st, M) x = Rr C mX5_read (29, [some (.inr (.inr r)), l1, l2], .inr (.inr r) :: st, M) x := g_pl (show decode cX5_read 28 = .ok (.aload_n 0, 1) by decide +kernel) rfl
set_option maxRecDepth 20000 in
theorem kX5_read_29 {C : QC} {x : QP} {M : QM} {st : List CV} {L : QL} {a : Nat} (hk : q_kd M a = (1, 5)) : Rr C mX5_read (29, L, qr a :: st, M) x = Rr C mX5_read (32, L, q_fv M a 1 :: st, M) x := g_getf (ow := 5) (e := (5, 1, RX5, 162, 0)) (show decode cX5_read 29 = .ok (.getfield 18, 3) by decide +kernel) rfl hk
set_option maxRecDepth 20000 in
theorem kX5_read_32 {C : QC} {x : QP} {M : QM} {st : List CV} {L : QL} {z : Int} : Rr C mX5_read (32, L, [qi z], M) x = x (some (qi z)) M := g_iret (show decode cX5_read 32 = .ok (.ireturn, 1) by decide +kernel) rfl
set_option maxRecDepth 20000 in
theorem kX5_read_33 {C : QC} {x : QP} {M : QM} {st : List CV} {L : QL} {l0 l1 l2 : Option CV} {r : Option Nat} : Rr C mX5_read (33, [some (.inr (.inr r)), l1, l2], st, M) x = Rr C mX5_read (34, [some (.inr (.inr r)), l1, l2], .inr (.inr r) :: st, M) x := g_pl (show decode cX5_read 33 = .ok (.aload_n 0, 1) by decide +kernel) rfl
set_option maxRecDepth 20000 in
theorem kX5_read_34 {C : QC} {x : QP} {M : QM} {st : List CV} {L : QL} {a : Nat} (hk : q_kd M a = (1, 5)) : Rr C mX5_read (34, L, qr a :: st, M) x = Rr C mX5_read (37, L, q_fv M a 1 :: st, M) x := g_getf (ow := 5) (e := (5, 1, RX5, 162, 0)) (show decode cX5_read 34 = .ok (.getfield 18, 3) by decide +kernel) rfl hk
set_option maxRecDepth 20000 in
theorem kX5_read_37 {C : QC} {x : QP} {M : QM} {st : List CV} {L : QL} {l0 l1 l2 : Option CV} {r : Option Nat} : Rr C mX5_read (37, [l0, some (.inr (.inr r)), l2], st, M) x = Rr C mX5_read (38, [l0, some (.inr (.inr r)), l2], .inr (.inr r) :: st, M) x := g_pl (show decode cX5_read 37 = .ok (.aload_n 1, 1) by decide +kernel) rfl
set_option maxRecDepth 20000 in
theorem kX5_read_38 {C : QC} {x : QP} {M : QM} {L : QL} {rest : List CV} {v : CV} {M1 : QM} {b : Nat} (hb : q_kd M b = (1, 8)) (hC : C iX8_length [qr b] M (some v) M1) (hw : (rest.map q_wd).sum ≤ 8) (k : Rr C mX5_read (41, L, v :: rest, M1) x) : Rr C mX5_read (38, L, qr b :: rest, M) x := g_cv (ow := 5) (e := (0, 17, 8, [805, 430, 431, 78])) (as := []) (show decode cX5_read 38 = .ok (.invokevirtual 46, 3) by decide +kernel) rfl rfl rfl (Or.inl rfl) rfl hb hC hw k
set_option maxRecDepth 20000 in
theorem kX5_read_41 {C : QC} {x : QP} {M : QM} {st : List CV} {L : QL} {a b : Int} (ha1 : -2147483648 ≤ a) (ha2 : a < 2147483648) (hb1 : -2147483648 ≤ b) (hb2 : b < 2147483648) : Rr C mX5_read (41, L, qi b :: qi a :: st, M) x = (if a = b then Rr C mX5_read (44, L, st, M) x else Rr C mX5_read (46, L, st, M) x) := (g_icmp (show decode cX5_read 41 = .ok (.if_icmp .ne 5, 3) by decide +kernel) rfl ha1 ha2 hb1 hb2).trans (g_itn c_ne)
set_option maxRecDepth 20000 in
theorem kX5_read_44 {C : QC} {x : QP} {M : QM} {st : List CV} {L : QL} : Rr C mX5_read (44, L, st, M) x = Rr C mX5_read (45, L, qi (-1) :: st, M) x := g_pl (show decode cX5_read 44 = .ok (.iconst (-1), 1) by decide +kernel) rfl
set_option maxRecDepth 20000 in
theorem kX5_read_45 {C : QC} {x : QP} {M : QM} {st : List CV} {L : QL} {z : Int} : Rr C mX5_read (45, L, [qi z], M) x = x (some (qi z)) M := g_iret (show decode cX5_read 45 = .ok (.ireturn, 1) by decide +kernel) rfl
set_option maxRecDepth 20000 in
theorem kX5_read_46 {C : QC} {x : QP} {M : QM} {st : List CV} {L : QL} {l0 l1 l2 : Option CV} {r : Option Nat} : Rr C mX5_read (46, [some (.inr (.inr r)), l1, l2], st, M) x = Rr C mX5_read (47, [some (.inr (.inr r)), l1, l2], .inr (.inr r) :: st, M) x := g_pl (show decode cX5_read 46 = .ok (.aload_n 0, 1) by decide +kernel) rfl
set_option maxRecDepth 20000 in
theorem kX5_read_47 {C : QC} {x : QP} {M : QM} {st : List CV} {L : QL} {l0 l1 l2 : Option CV} {r : Option Nat} : Rr C mX5_read (47, [l0, some (.inr (.inr r)), l2], st, M) x = Rr C mX5_read (48, [l0, some (.inr (.inr r)), l2], .inr (.inr r) :: st, M) x := g_pl (show decode cX5_read 47 = .ok (.aload_n 1, 1) by decide +kernel) rfl
set_option maxRecDepth 20000 in
theorem kX5_read_48 {C : QC} {x : QP} {M : QM} {st : List CV} {L : QL} : Rr C mX5_read (48, L, st, M) x = Rr C mX5_read (50, L, qi 59 :: st, M) x := g_pl (show decode cX5_read 48 = .ok (.bipush 59, 2) by decide +kernel) rfl
set_option maxRecDepth 20000 in
theorem kX5_read_50 {C : QC} {x : QP} {M : QM} {L : QL} {rest : List CV} {a0 a1 : CV} {v : CV} {M1 : QM} {b : Nat} (hb : q_kd M b = (1, 5)) (hC : C iX5_readSign [qr b, a0, a1] M (some v) M1) (hw : (rest.map q_wd).sum ≤ 8) (k : Rr C mX5_read (53, L, v :: rest, M1) x) : Rr C mX5_read (50, L, a1 :: a0 :: qr b :: rest, M) x := g_cv (ow := 5) (e := (0, 92, 5, [792, 794, 14, 79])) (as := [a0, a1]) (show decode cX5_read 50 = .ok (.invokevirtual 51, 3) by decide +kernel) rfl rfl rfl (Or.inl rfl) rfl hb hC hw k
set_option maxRecDepth 20000 in
theorem kX5_read_53 {C : QC} {x : QP} {M : QM} {st : List CV} {L : QL} {a : Int} (ha1 : -2147483648 ≤ a) (ha2 : a < 2147483648) : Rr C mX5_read (53, L, qi a :: st, M) x = (if a = 0 then Rr C mX5_read (56, L, st, M) x else Rr C mX5_read (61, L, st, M) x) := (g_if (show decode cX5_read 53 = .ok (.ifCond .ne 8, 3) by decide +kernel) rfl ha1 ha2).trans (g_itn c_ne)
set_option maxRecDepth 20000 in
theorem kX5_read_56 {C : QC} {x : QP} {M : QM} {st : List CV} {L : QL} {l0 l1 l2 : Option CV} {r : Option Nat} : Rr C mX5_read (56, [some (.inr (.inr r)), l1, l2], st, M) x = Rr C mX5_read (57, [some (.inr (.inr r)), l1, l2], .inr (.inr r) :: st, M) x := g_pl (show decode cX5_read 56 = .ok (.aload_n 0, 1) by decide +kernel) rfl
set_option maxRecDepth 20000 in
theorem kX5_read_57 {C : QC} {x : QP} {M : QM} {st : List CV} {L : QL} {a : Nat} (hk : q_kd M a = (1, 5)) : Rr C mX5_read (57, L, qr a :: st, M) x = Rr C mX5_read (60, L, q_fv M a 1 :: st, M) x := g_getf (ow := 5) (e := (5, 1, RX5, 162, 0)) (show decode cX5_read 57 = .ok (.getfield 18, 3) by decide +kernel) rfl hk
set_option maxRecDepth 20000 in
theorem kX5_read_60 {C : QC} {x : QP} {M : QM} {st : List CV} {L : QL} {z : Int} : Rr C mX5_read (60, L, [qi z], M) x = x (some (qi z)) M := g_iret (show decode cX5_read 60 = .ok (.ireturn, 1) by decide +kernel) rfl
set_option maxRecDepth 20000 in
theorem kX5_read_61 {C : QC} {x : QP} {M : QM} {st : List CV} {L : QL} {l0 l1 l2 : Option CV} {z : Int} : Rr C mX5_read (61, [l0, l1, some (qi z)], st, M) x = Rr C mX5_read (64, [l0, q_cut l1, some (qi (z + 1))], st, M) x := g_pl (show decode cX5_read 61 = .ok (.iinc 2 1, 3) by decide +kernel) rfl
set_option maxRecDepth 20000 in
theorem kX5_read_64 {C : QC} {x : QP} {M : QM} {st : List CV} {L : QL} : Rr C mX5_read (64, L, st, M) x = Rr C mX5_read (14, L, st, M) x := g_pl (show decode cX5_read 64 = .ok (.goto (-50), 3) by decide +kernel) rfl
set_option maxRecDepth 20000 in
theorem kX5_read_67 {C : QC} {x : QP} {M : QM} {st : List CV} {L : QL} {l0 l1 l2 : Option CV} {r : Option Nat} : Rr C mX5_read (67, [some (.inr (.inr r)), l1, l2], st, M) x = Rr C mX5_read (68, [some (.inr (.inr r)), l1, l2], .inr (.inr r) :: st, M) x := g_pl (show decode cX5_read 67 = .ok (.aload_n 0, 1) by decide +kernel) rfl
set_option maxRecDepth 20000 in
theorem kX5_read_68 {C : QC} {x : QP} {M : QM} {st : List CV} {L : QL} {a : Nat} (hk : q_kd M a = (1, 5)) : Rr C mX5_read (68, L, qr a :: st, M) x = Rr C mX5_read (71, L, q_fv M a 1 :: st, M) x := g_getf (ow := 5) (e := (5, 1, RX5, 162, 0)) (show decode cX5_read 68 = .ok (.getfield 18, 3) by decide +kernel) rfl hk
set_option maxRecDepth 20000 in
theorem kX5_read_71 {C : QC} {x : QP} {M : QM} {st : List CV} {L : QL} {z : Int} : Rr C mX5_read (71, L, [qi z], M) x = x (some (qi z)) M := g_iret (show decode cX5_read 71 = .ok (.ireturn, 1) by decide +kernel) rfl
set_option maxRecDepth 20000 in
theorem eX5_read {d : Nat} {M : QM} {x : QP} {a : Nat} {v0 : Option Nat} : q_T (d + 1) iX5_read [qr a, .inr (.inr v0)] M x = Rr (q_C d) mX5_read (0, [some (qr a), some (.inr (.inr v0)), none], [], M) x := g_entryT (e := _) rfl (Nat.le_of_ble_eq_true rfl) rfl rfl
def mX5_readCommand : QI := (5, cX5_readCommand, false, some .boolean)
set_option maxRecDepth 20000 in
theorem kX5_readCommand_0 {C : QC} {x : QP} {M : QM} {st : List CV} {L : QL} {l0 l1 l2 l3 l4 l5 : Option CV} {r : Option Nat} : Rr C mX5_readCommand (0, [l0, some (.inr (.inr r)), l2, l3, l4, l5], st, M) x = Rr C mX5_readCommand (1, [l0, some (.inr (.inr r)), l2, l3, l4, l5], .inr (.inr r) :: st, M) x := g_pl (show decode cX5_readCommand 0 = .ok (.aload_n 1, 1) by decide +kernel) rfl
set_option maxRecDepth 20000 in
theorem kX5_readCommand_1 {C : QC} {x : QP} {M : QM} {st : List CV} {L : QL} {l0 l1 l2 l3 l4 l5 : Option CV} {r : Option Nat} : Rr C mX5_readCommand (1, [some (.inr (.inr r)), l1, l2, l3, l4, l5], st, M) x = Rr C mX5_readCommand (2, [some (.inr (.inr r)), l1, l2, l3, l4, l5], .inr (.inr r) :: st, M) x := g_pl (show decode cX5_readCommand 1 = .ok (.aload_n 0, 1) by decide +kernel) rfl
set_option maxRecDepth 20000 in
theorem kX5_readCommand_2 {C : QC} {x : QP} {M : QM} {st : List CV} {L : QL} {a : Nat} (hk : q_kd M a = (1, 5)) : Rr C mX5_readCommand (2, L, qr a :: st, M) x = Rr C mX5_readCommand (5, L, q_fv M a 1 :: st, M) x := g_getf (ow := 5) (e := (5, 1, RX5, 162, 0)) (show decode cX5_readCommand 2 = .ok (.getfield 18, 3) by decide +kernel) rfl hk
set_option maxRecDepth 20000 in
theorem kX5_readCommand_5 {C : QC} {x : QP} {M : QM} {L : QL} {rest : List CV} {a0 : CV} {v : CV} {M1 : QM} {b : Nat} (hb : q_kd M b = (1, 8)) (hC : C iX8_at [qr b, a0] M (some v) M1) (hw : (rest.map q_wd).sum ≤ 8) (k : Rr C mX5_readCommand (8, L, v :: rest, M1) x) : Rr C mX5_readCommand (5, L, a0 :: qr b :: rest, M) x := g_cv (ow := 5) (e := (0, 88, 8, [777, 778, 779, 78])) (as := [a0]) (show decode cX5_readCommand 5 = .ok (.invokevirtual 55, 3) by decide +kernel) rfl rfl rfl (Or.inl rfl) rfl hb hC hw k
set_option maxRecDepth 20000 in
theorem kX5_readCommand_8 {C : QC} {x : QP} {M : QM} {L : QL} {rest : List CV} {a0 : CV} {v : CV} {M1 : QM} (hC : C iX5_sortFor [a0] M (some v) M1) (hw : (rest.map q_wd).sum ≤ 8) (k : Rr C mX5_readCommand (11, L, v :: rest, M1) x) : Rr C mX5_readCommand (8, L, a0 :: rest, M) x := g_cs (ow := 5) (e := (1, 89, 0, [781, 782, 79])) (as := [a0]) (show decode cX5_readCommand 8 = .ok (.invokestatic 59, 3) by decide +kernel) rfl rfl rfl rfl (Or.inl rfl) rfl hC hw k
set_option maxRecDepth 20000 in
theorem kX5_readCommand_11 {C : QC} {x : QP} {M : QM} {st : List CV} {L : QL} {l0 l1 l2 l3 l4 l5 : Option CV} {z : Int} : Rr C mX5_readCommand (11, [l0, l1, l2, l3, l4, l5], qi z :: st, M) x = Rr C mX5_readCommand (12, [l0, q_cut l1, some (qi z), l3, l4, l5], st, M) x := g_pl (show decode cX5_readCommand 11 = .ok (.istore_n 2, 1) by decide +kernel) rfl
set_option maxRecDepth 20000 in
theorem kX5_readCommand_12 {C : QC} {x : QP} {M : QM} {st : List CV} {L : QL} {l0 l1 l2 l3 l4 l5 : Option CV} {z : Int} : Rr C mX5_readCommand (12, [l0, l1, some (qi z), l3, l4, l5], st, M) x = Rr C mX5_readCommand (13, [l0, l1, some (qi z), l3, l4, l5], qi z :: st, M) x := g_pl (show decode cX5_readCommand 12 = .ok (.iload_n 2, 1) by decide +kernel) rfl
set_option maxRecDepth 20000 in
theorem kX5_readCommand_13 {C : QC} {x : QP} {M : QM} {st : List CV} {L : QL} {a : Int} (ha1 : -2147483648 ≤ a) (ha2 : a < 2147483648) : Rr C mX5_readCommand (13, L, qi a :: st, M) x = (if a < 0 then Rr C mX5_readCommand (16, L, st, M) x else Rr C mX5_readCommand (18, L, st, M) x) := (g_if (show decode cX5_readCommand 13 = .ok (.ifCond .ge 5, 3) by decide +kernel) rfl ha1 ha2).trans (g_itn c_ge)
set_option maxRecDepth 20000 in
theorem kX5_readCommand_16 {C : QC} {x : QP} {M : QM} {st : List CV} {L : QL} : Rr C mX5_readCommand (16, L, st, M) x = Rr C mX5_readCommand (17, L, qi 0 :: st, M) x := g_pl (show decode cX5_readCommand 16 = .ok (.iconst 0, 1) by decide +kernel) rfl
set_option maxRecDepth 20000 in
theorem kX5_readCommand_17 {C : QC} {x : QP} {M : QM} {st : List CV} {L : QL} {z : Int} (hz : z = 0 ∨ z = 1) : Rr C mX5_readCommand (17, L, [qi z], M) x = x (some (qi z)) M := g_iret (show decode cX5_readCommand 17 = .ok (.ireturn, 1) by decide +kernel) (by rcases hz with rfl | rfl <;> rfl)
set_option maxRecDepth 20000 in
theorem kX5_readCommand_18 {C : QC} {x : QP} {M : QM} {st : List CV} {L : QL} {l0 l1 l2 l3 l4 l5 : Option CV} {r : Option Nat} : Rr C mX5_readCommand (18, [some (.inr (.inr r)), l1, l2, l3, l4, l5], st, M) x = Rr C mX5_readCommand (19, [some (.inr (.inr r)), l1, l2, l3, l4, l5], .inr (.inr r) :: st, M) x := g_pl (show decode cX5_readCommand 18 = .ok (.aload_n 0, 1) by decide +kernel) rfl
set_option maxRecDepth 20000 in
theorem kX5_readCommand_19i {C : QC} {x : QP} {M : QM} {st : List CV} {L : QL} {a : Int} : Rr C mX5_readCommand (19, L, qi a :: st, M) x = Rr C mX5_readCommand (20, L, qi a :: qi a :: st, M) x := g_pl (show decode cX5_readCommand 19 = .ok (.dup, 1) by decide +kernel) rfl
set_option maxRecDepth 20000 in
theorem kX5_readCommand_19r {C : QC} {x : QP} {M : QM} {st : List CV} {L : QL} {a : Option Nat} : Rr C mX5_readCommand (19, L, .inr (.inr a) :: st, M) x = Rr C mX5_readCommand (20, L, .inr (.inr a) :: .inr (.inr a) :: st, M) x := g_pl (show decode cX5_readCommand 19 = .ok (.dup, 1) by decide +kernel) rfl
set_option maxRecDepth 20000 in
theorem kX5_readCommand_20 {C : QC} {x : QP} {M : QM} {st : List CV} {L : QL} {a : Nat} (hk : q_kd M a = (1, 5)) : Rr C mX5_readCommand (20, L, qr a :: st, M) x = Rr C mX5_readCommand (23, L, q_fv M a 1 :: st, M) x := g_getf (ow := 5) (e := (5, 1, RX5, 162, 0)) (show decode cX5_readCommand 20 = .ok (.getfield 18, 3) by decide +kernel) rfl hk
set_option maxRecDepth 20000 in
theorem kX5_readCommand_23 {C : QC} {x : QP} {M : QM} {st : List CV} {L : QL} : Rr C mX5_readCommand (23, L, st, M) x = Rr C mX5_readCommand (24, L, qi 1 :: st, M) x := g_pl (show decode cX5_readCommand 23 = .ok (.iconst 1, 1) by decide +kernel) rfl
set_option maxRecDepth 20000 in
theorem kX5_readCommand_24 {C : QC} {x : QP} {M : QM} {st : List CV} {L : QL} {a b : Int} : Rr C mX5_readCommand (24, L, qi b :: qi a :: st, M) x = Rr C mX5_readCommand (25, L, qi (a + b) :: st, M) x := g_pl (show decode cX5_readCommand 24 = .ok (.iadd, 1) by decide +kernel) rfl
set_option maxRecDepth 20000 in
theorem kX5_readCommand_25 {C : QC} {x : QP} {M : QM} {st : List CV} {L : QL} {z : Int} {a : Nat} (hk : q_kd M a = (1, 5)) : Rr C mX5_readCommand (25, L, qi z :: qr a :: st, M) x = Rr C mX5_readCommand (28, L, st, q_wr M a 1 (qi z)) x := g_putf (ow := 5) (ini := false) (e := (5, 1, RX5, 162, 0)) (r := (RX5, TX5, 4)) (t := tyX5) (show decode cX5_readCommand 25 = .ok (.putfield 18, 3) by decide +kernel) rfl rfl rfl rfl (by decide +kernel) hk
set_option maxRecDepth 20000 in
theorem kX5_readCommand_28 {C : QC} {x : QP} {M : QM} {st : List CV} {L : QL} {l0 l1 l2 l3 l4 l5 : Option CV} {z : Int} : Rr C mX5_readCommand (28, [l0, l1, some (qi z), l3, l4, l5], st, M) x = Rr C mX5_readCommand (29, [l0, l1, some (qi z), l3, l4, l5], qi z :: st, M) x := g_pl (show decode cX5_readCommand 28 = .ok (.iload_n 2, 1) by decide +kernel) rfl
set_option maxRecDepth 20000 in
theorem kX5_readCommand_29 {C : QC} {x : QP} {M : QM} {st : List CV} {L : QL} {a : Int} (ha1 : -2147483648 ≤ a) (ha2 : a < 2147483648) : Rr C mX5_readCommand (29, L, qi a :: st, M) x = (if a = 0 then Rr C mX5_readCommand (32, L, st, M) x else Rr C mX5_readCommand (43, L, st, M) x) := (g_if (show decode cX5_readCommand 29 = .ok (.ifCond .ne 14, 3) by decide +kernel) rfl ha1 ha2).trans (g_itn c_ne)
set_option maxRecDepth 20000 in
theorem kX5_readCommand_32 {C : QC} {x : QP} {M : QM} {st : List CV} {L : QL} {l0 l1 l2 l3 l4 l5 : Option CV} {r : Option Nat} : Rr C mX5_readCommand (32, [some (.inr (.inr r)), l1, l2, l3, l4, l5], st, M) x = Rr C mX5_readCommand (33, [some (.inr (.inr r)), l1, l2, l3, l4, l5], .inr (.inr r) :: st, M) x := g_pl (show decode cX5_readCommand 32 = .ok (.aload_n 0, 1) by decide +kernel) rfl
set_option maxRecDepth 20000 in
theorem kX5_readCommand_33 {C : QC} {x : QP} {M : QM} {st : List CV} {L : QL} {l0 l1 l2 l3 l4 l5 : Option CV} {r : Option Nat} : Rr C mX5_readCommand (33, [l0, some (.inr (.inr r)), l2, l3, l4, l5], st, M) x = Rr C mX5_readCommand (34, [l0, some (.inr (.inr r)), l2, l3, l4, l5], .inr (.inr r) :: st, M) x := g_pl (show decode cX5_readCommand 33 = .ok (.aload_n 1, 1) by decide +kernel) rfl
set_option maxRecDepth 20000 in
theorem kX5_readCommand_34 {C : QC} {x : QP} {M : QM} {L : QL} {rest : List CV} {a0 : CV} {v : CV} {M1 : QM} {b : Nat} (hb : q_kd M b = (1, 5)) (hC : C iX5_readKind [qr b, a0] M (some v) M1) (hw : (rest.map q_wd).sum ≤ 8) (k : Rr C mX5_readCommand (37, L, v :: rest, M1) x) : Rr C mX5_readCommand (34, L, a0 :: qr b :: rest, M) x := g_cv (ow := 5) (e := (0, 90, 5, [784, 786, 12, 79])) (as := [a0]) (show decode cX5_readCommand 34 = .ok (.invokevirtual 62, 3) by decide +kernel) rfl rfl rfl (Or.inl rfl) rfl hb hC hw k
set_option maxRecDepth 20000 in
theorem kX5_readCommand_37 {C : QC} {x : QP} {M : QM} {st : List CV} {L : QL} {a : Int} (ha1 : -2147483648 ≤ a) (ha2 : a < 2147483648) : Rr C mX5_readCommand (37, L, qi a :: st, M) x = (if a = 0 then Rr C mX5_readCommand (51, L, st, M) x else Rr C mX5_readCommand (40, L, st, M) x) := (g_if (show decode cX5_readCommand 37 = .ok (.ifCond .eq 14, 3) by decide +kernel) rfl ha1 ha2).trans (g_ite c_eq)
set_option maxRecDepth 20000 in
theorem kX5_readCommand_40 {C : QC} {x : QP} {M : QM} {st : List CV} {L : QL} : Rr C mX5_readCommand (40, L, st, M) x = Rr C mX5_readCommand (53, L, st, M) x := g_pl (show decode cX5_readCommand 40 = .ok (.goto 13, 3) by decide +kernel) rfl
set_option maxRecDepth 20000 in
theorem kX5_readCommand_43 {C : QC} {x : QP} {M : QM} {st : List CV} {L : QL} {l0 l1 l2 l3 l4 l5 : Option CV} {r : Option Nat} : Rr C mX5_readCommand (43, [some (.inr (.inr r)), l1, l2, l3, l4, l5], st, M) x = Rr C mX5_readCommand (44, [some (.inr (.inr r)), l1, l2, l3, l4, l5], .inr (.inr r) :: st, M) x := g_pl (show decode cX5_readCommand 43 = .ok (.aload_n 0, 1) by decide +kernel) rfl
set_option maxRecDepth 20000 in
theorem kX5_readCommand_44 {C : QC} {x : QP} {M : QM} {st : List CV} {L : QL} {l0 l1 l2 l3 l4 l5 : Option CV} {r : Option Nat} : Rr C mX5_readCommand (44, [l0, some (.inr (.inr r)), l2, l3, l4, l5], st, M) x = Rr C mX5_readCommand (45, [l0, some (.inr (.inr r)), l2, l3, l4, l5], .inr (.inr r) :: st, M) x := g_pl (show decode cX5_readCommand 44 = .ok (.aload_n 1, 1) by decide +kernel) rfl
set_option maxRecDepth 20000 in
theorem kX5_readCommand_45 {C : QC} {x : QP} {M : QM} {L : QL} {rest : List CV} {a0 : CV} {v : CV} {M1 : QM} {b : Nat} (hb : q_kd M b = (1, 5)) (hC : C iX5_readNumber [qr b, a0] M (some v) M1) (hw : (rest.map q_wd).sum ≤ 8) (k : Rr C mX5_readCommand (48, L, v :: rest, M1) x) : Rr C mX5_readCommand (45, L, a0 :: qr b :: rest, M) x := g_cv (ow := 5) (e := (0, 91, 5, [788, 790, 13, 79])) (as := [a0]) (show decode cX5_readCommand 45 = .ok (.invokevirtual 65, 3) by decide +kernel) rfl rfl rfl (Or.inl rfl) rfl hb hC hw k
set_option maxRecDepth 20000 in
theorem kX5_readCommand_48 {C : QC} {x : QP} {M : QM} {st : List CV} {L : QL} {a : Int} (ha1 : -2147483648 ≤ a) (ha2 : a < 2147483648) : Rr C mX5_readCommand (48, L, qi a :: st, M) x = (if a = 0 then Rr C mX5_readCommand (51, L, st, M) x else Rr C mX5_readCommand (53, L, st, M) x) := (g_if (show decode cX5_readCommand 48 = .ok (.ifCond .ne 5, 3) by decide +kernel) rfl ha1 ha2).trans (g_itn c_ne)
set_option maxRecDepth 20000 in
theorem kX5_readCommand_51 {C : QC} {x : QP} {M : QM} {st : List CV} {L : QL} : Rr C mX5_readCommand (51, L, st, M) x = Rr C mX5_readCommand (52, L, qi 0 :: st, M) x := g_pl (show decode cX5_readCommand 51 = .ok (.iconst 0, 1) by decide +kernel) rfl
set_option maxRecDepth 20000 in
theorem kX5_readCommand_52 {C : QC} {x : QP} {M : QM} {st : List CV} {L : QL} {z : Int} (hz : z = 0 ∨ z = 1) : Rr C mX5_readCommand (52, L, [qi z], M) x = x (some (qi z)) M := g_iret (show decode cX5_readCommand 52 = .ok (.ireturn, 1) by decide +kernel) (by rcases hz with rfl | rfl <;> rfl)
set_option maxRecDepth 20000 in
theorem kX5_readCommand_53 {C : QC} {x : QP} {M : QM} {st : List CV} {L : QL} {l0 l1 l2 l3 l4 l5 : Option CV} {r : Option Nat} : Rr C mX5_readCommand (53, [some (.inr (.inr r)), l1, l2, l3, l4, l5], st, M) x = Rr C mX5_readCommand (54, [some (.inr (.inr r)), l1, l2, l3, l4, l5], .inr (.inr r) :: st, M) x := g_pl (show decode cX5_readCommand 53 = .ok (.aload_n 0, 1) by decide +kernel) rfl
set_option maxRecDepth 20000 in
theorem kX5_readCommand_54 {C : QC} {x : QP} {M : QM} {st : List CV} {L : QL} {a : Nat} (hk : q_kd M a = (1, 5)) : Rr C mX5_readCommand (54, L, qr a :: st, M) x = Rr C mX5_readCommand (57, L, q_fv M a 2 :: st, M) x := g_getf (ow := 5) (e := (5, 2, RX5, 163, 0)) (show decode cX5_readCommand 54 = .ok (.getfield 22, 3) by decide +kernel) rfl hk
set_option maxRecDepth 20000 in
theorem kX5_readCommand_57 {C : QC} {x : QP} {M : QM} {st : List CV} {L : QL} {l0 l1 l2 l3 l4 l5 : Option CV} {z : Int} : Rr C mX5_readCommand (57, [l0, l1, l2, l3, l4, l5], qi z :: st, M) x = Rr C mX5_readCommand (58, [l0, l1, q_cut l2, some (qi z), l4, l5], st, M) x := g_pl (show decode cX5_readCommand 57 = .ok (.istore_n 3, 1) by decide +kernel) rfl
set_option maxRecDepth 20000 in
theorem kX5_readCommand_58 {C : QC} {x : QP} {M : QM} {st : List CV} {L : QL} : Rr C mX5_readCommand (58, L, st, M) x = Rr C mX5_readCommand (59, L, qi 0 :: st, M) x := g_pl (show decode cX5_readCommand 58 = .ok (.iconst 0, 1) by decide +kernel) rfl
set_option maxRecDepth 20000 in
theorem kX5_readCommand_59 {C : QC} {x : QP} {M : QM} {st : List CV} {L : QL} {l0 l1 l2 l3 l4 l5 : Option CV} {z : Int} : Rr C mX5_readCommand (59, [l0, l1, l2, l3, l4, l5], qi z :: st, M) x = Rr C mX5_readCommand (61, [l0, l1, l2, q_cut l3, some (qi z), l5], st, M) x := g_pl (show decode cX5_readCommand 59 = .ok (.istore 4, 2) by decide +kernel) rfl
set_option maxRecDepth 20000 in
theorem kX5_readCommand_61 {C : QC} {x : QP} {M : QM} {st : List CV} {L : QL} {l0 l1 l2 l3 l4 l5 : Option CV} {z : Int} : Rr C mX5_readCommand (61, [l0, l1, some (qi z), l3, l4, l5], st, M) x = Rr C mX5_readCommand (62, [l0, l1, some (qi z), l3, l4, l5], qi z :: st, M) x := g_pl (show decode cX5_readCommand 61 = .ok (.iload_n 2, 1) by decide +kernel) rfl
set_option maxRecDepth 20000 in
theorem kX5_readCommand_62 {C : QC} {x : QP} {M : QM} {st : List CV} {L : QL} {a : Int} (ha1 : -2147483648 ≤ a) (ha2 : a < 2147483648) : Rr C mX5_readCommand (62, L, qi a :: st, M) x = (if a = 0 then Rr C mX5_readCommand (75, L, st, M) x else Rr C mX5_readCommand (65, L, st, M) x) := (g_if (show decode cX5_readCommand 62 = .ok (.ifCond .eq 13, 3) by decide +kernel) rfl ha1 ha2).trans (g_ite c_eq)
set_option maxRecDepth 20000 in
theorem kX5_readCommand_65 {C : QC} {x : QP} {M : QM} {st : List CV} {L : QL} {l0 l1 l2 l3 l4 l5 : Option CV} {z : Int} : Rr C mX5_readCommand (65, [l0, l1, some (qi z), l3, l4, l5], st, M) x = Rr C mX5_readCommand (66, [l0, l1, some (qi z), l3, l4, l5], qi z :: st, M) x := g_pl (show decode cX5_readCommand 65 = .ok (.iload_n 2, 1) by decide +kernel) rfl
set_option maxRecDepth 20000 in
theorem kX5_readCommand_66 {C : QC} {x : QP} {M : QM} {st : List CV} {L : QL} : Rr C mX5_readCommand (66, L, st, M) x = Rr C mX5_readCommand (67, L, qi 2 :: st, M) x := g_pl (show decode cX5_readCommand 66 = .ok (.iconst 2, 1) by decide +kernel) rfl
set_option maxRecDepth 20000 in
theorem kX5_readCommand_67 {C : QC} {x : QP} {M : QM} {st : List CV} {L : QL} {a b : Int} (ha1 : -2147483648 ≤ a) (ha2 : a < 2147483648) (hb1 : -2147483648 ≤ b) (hb2 : b < 2147483648) : Rr C mX5_readCommand (67, L, qi b :: qi a :: st, M) x = (if a = b then Rr C mX5_readCommand (75, L, st, M) x else Rr C mX5_readCommand (70, L, st, M) x) := (g_icmp (show decode cX5_readCommand 67 = .ok (.if_icmp .eq 8, 3) by decide +kernel) rfl ha1 ha2 hb1 hb2).trans (g_ite c_eq)
set_option maxRecDepth 20000 in
theorem kX5_readCommand_70 {C : QC} {x : QP} {M : QM} {st : List CV} {L : QL} {l0 l1 l2 l3 l4 l5 : Option CV} {z : Int} : Rr C mX5_readCommand (70, [l0, l1, some (qi z), l3, l4, l5], st, M) x = Rr C mX5_readCommand (71, [l0, l1, some (qi z), l3, l4, l5], qi z :: st, M) x := g_pl (show decode cX5_readCommand 70 = .ok (.iload_n 2, 1) by decide +kernel) rfl
set_option maxRecDepth 20000 in
theorem kX5_readCommand_71 {C : QC} {x : QP} {M : QM} {st : List CV} {L : QL} : Rr C mX5_readCommand (71, L, st, M) x = Rr C mX5_readCommand (72, L, qi 4 :: st, M) x := g_pl (show decode cX5_readCommand 71 = .ok (.iconst 4, 1) by decide +kernel) rfl
set_option maxRecDepth 20000 in
theorem kX5_readCommand_72 {C : QC} {x : QP} {M : QM} {st : List CV} {L : QL} {a b : Int} (ha1 : -2147483648 ≤ a) (ha2 : a < 2147483648) (hb1 : -2147483648 ≤ b) (hb2 : b < 2147483648) : Rr C mX5_readCommand (72, L, qi b :: qi a :: st, M) x = (if a = b then Rr C mX5_readCommand (75, L, st, M) x else Rr C mX5_readCommand (101, L, st, M) x) := (g_icmp (show decode cX5_readCommand 72 = .ok (.if_icmp .ne 29, 3) by decide +kernel) rfl ha1 ha2 hb1 hb2).trans (g_itn c_ne)
set_option maxRecDepth 20000 in
theorem kX5_readCommand_75 {C : QC} {x : QP} {M : QM} {st : List CV} {L : QL} {l0 l1 l2 l3 l4 l5 : Option CV} {r : Option Nat} : Rr C mX5_readCommand (75, [some (.inr (.inr r)), l1, l2, l3, l4, l5], st, M) x = Rr C mX5_readCommand (76, [some (.inr (.inr r)), l1, l2, l3, l4, l5], .inr (.inr r) :: st, M) x := g_pl (show decode cX5_readCommand 75 = .ok (.aload_n 0, 1) by decide +kernel) rfl
set_option maxRecDepth 20000 in
theorem kX5_readCommand_76 {C : QC} {x : QP} {M : QM} {st : List CV} {L : QL} {l0 l1 l2 l3 l4 l5 : Option CV} {r : Option Nat} : Rr C mX5_readCommand (76, [l0, some (.inr (.inr r)), l2, l3, l4, l5], st, M) x = Rr C mX5_readCommand (77, [l0, some (.inr (.inr r)), l2, l3, l4, l5], .inr (.inr r) :: st, M) x := g_pl (show decode cX5_readCommand 76 = .ok (.aload_n 1, 1) by decide +kernel) rfl
set_option maxRecDepth 20000 in
theorem kX5_readCommand_77 {C : QC} {x : QP} {M : QM} {st : List CV} {L : QL} : Rr C mX5_readCommand (77, L, st, M) x = Rr C mX5_readCommand (79, L, qi 62 :: st, M) x := g_pl (show decode cX5_readCommand 77 = .ok (.bipush 62, 2) by decide +kernel) rfl
set_option maxRecDepth 20000 in
theorem kX5_readCommand_79 {C : QC} {x : QP} {M : QM} {L : QL} {rest : List CV} {a0 a1 : CV} {v : CV} {M1 : QM} {b : Nat} (hb : q_kd M b = (1, 5)) (hC : C iX5_readSign [qr b, a0, a1] M (some v) M1) (hw : (rest.map q_wd).sum ≤ 8) (k : Rr C mX5_readCommand (82, L, v :: rest, M1) x) : Rr C mX5_readCommand (79, L, a1 :: a0 :: qr b :: rest, M) x := g_cv (ow := 5) (e := (0, 92, 5, [792, 794, 14, 79])) (as := [a0, a1]) (show decode cX5_readCommand 79 = .ok (.invokevirtual 51, 3) by decide +kernel) rfl rfl rfl (Or.inl rfl) rfl hb hC hw k
set_option maxRecDepth 20000 in
theorem kX5_readCommand_82 {C : QC} {x : QP} {M : QM} {st : List CV} {L : QL} {a : Int} (ha1 : -2147483648 ≤ a) (ha2 : a < 2147483648) : Rr C mX5_readCommand (82, L, qi a :: st, M) x = (if a = 0 then Rr C mX5_readCommand (93, L, st, M) x else Rr C mX5_readCommand (85, L, st, M) x) := (g_if (show decode cX5_readCommand 82 = .ok (.ifCond .eq 11, 3) by decide +kernel) rfl ha1 ha2).trans (g_ite c_eq)
set_option maxRecDepth 20000 in
theorem kX5_readCommand_85 {C : QC} {x : QP} {M : QM} {st : List CV} {L : QL} {l0 l1 l2 l3 l4 l5 : Option CV} {r : Option Nat} : Rr C mX5_readCommand (85, [some (.inr (.inr r)), l1, l2, l3, l4, l5], st, M) x = Rr C mX5_readCommand (86, [some (.inr (.inr r)), l1, l2, l3, l4, l5], .inr (.inr r) :: st, M) x := g_pl (show decode cX5_readCommand 85 = .ok (.aload_n 0, 1) by decide +kernel) rfl
set_option maxRecDepth 20000 in
theorem kX5_readCommand_86 {C : QC} {x : QP} {M : QM} {st : List CV} {L : QL} {l0 l1 l2 l3 l4 l5 : Option CV} {r : Option Nat} : Rr C mX5_readCommand (86, [l0, some (.inr (.inr r)), l2, l3, l4, l5], st, M) x = Rr C mX5_readCommand (87, [l0, some (.inr (.inr r)), l2, l3, l4, l5], .inr (.inr r) :: st, M) x := g_pl (show decode cX5_readCommand 86 = .ok (.aload_n 1, 1) by decide +kernel) rfl
set_option maxRecDepth 20000 in
theorem kX5_readCommand_87 {C : QC} {x : QP} {M : QM} {L : QL} {rest : List CV} {a0 : CV} {v : CV} {M1 : QM} {b : Nat} (hb : q_kd M b = (1, 5)) (hC : C iX5_readNumber [qr b, a0] M (some v) M1) (hw : (rest.map q_wd).sum ≤ 8) (k : Rr C mX5_readCommand (90, L, v :: rest, M1) x) : Rr C mX5_readCommand (87, L, a0 :: qr b :: rest, M) x := g_cv (ow := 5) (e := (0, 91, 5, [788, 790, 13, 79])) (as := [a0]) (show decode cX5_readCommand 87 = .ok (.invokevirtual 65, 3) by decide +kernel) rfl rfl rfl (Or.inl rfl) rfl hb hC hw k
set_option maxRecDepth 20000 in
theorem kX5_readCommand_90 {C : QC} {x : QP} {M : QM} {st : List CV} {L : QL} {a : Int} (ha1 : -2147483648 ≤ a) (ha2 : a < 2147483648) : Rr C mX5_readCommand (90, L, qi a :: st, M) x = (if a = 0 then Rr C mX5_readCommand (93, L, st, M) x else Rr C mX5_readCommand (95, L, st, M) x) := (g_if (show decode cX5_readCommand 90 = .ok (.ifCond .ne 5, 3) by decide +kernel) rfl ha1 ha2).trans (g_itn c_ne)
set_option maxRecDepth 20000 in
theorem kX5_readCommand_93 {C : QC} {x : QP} {M : QM} {st : List CV} {L : QL} : Rr C mX5_readCommand (93, L, st, M) x = Rr C mX5_readCommand (94, L, qi 0 :: st, M) x := g_pl (show decode cX5_readCommand 93 = .ok (.iconst 0, 1) by decide +kernel) rfl
set_option maxRecDepth 20000 in
theorem kX5_readCommand_94 {C : QC} {x : QP} {M : QM} {st : List CV} {L : QL} {z : Int} (hz : z = 0 ∨ z = 1) : Rr C mX5_readCommand (94, L, [qi z], M) x = x (some (qi z)) M := g_iret (show decode cX5_readCommand 94 = .ok (.ireturn, 1) by decide +kernel) (by rcases hz with rfl | rfl <;> rfl)
set_option maxRecDepth 20000 in
theorem kX5_readCommand_95 {C : QC} {x : QP} {M : QM} {st : List CV} {L : QL} {l0 l1 l2 l3 l4 l5 : Option CV} {r : Option Nat} : Rr C mX5_readCommand (95, [some (.inr (.inr r)), l1, l2, l3, l4, l5], st, M) x = Rr C mX5_readCommand (96, [some (.inr (.inr r)), l1, l2, l3, l4, l5], .inr (.inr r) :: st, M) x := g_pl (show decode cX5_readCommand 95 = .ok (.aload_n 0, 1) by decide +kernel) rfl
set_option maxRecDepth 20000 in
theorem kX5_readCommand_96 {C : QC} {x : QP} {M : QM} {st : List CV} {L : QL} {a : Nat} (hk : q_kd M a = (1, 5)) : Rr C mX5_readCommand (96, L, qr a :: st, M) x = Rr C mX5_readCommand (99, L, q_fv M a 2 :: st, M) x := g_getf (ow := 5) (e := (5, 2, RX5, 163, 0)) (show decode cX5_readCommand 96 = .ok (.getfield 22, 3) by decide +kernel) rfl hk
set_option maxRecDepth 20000 in
theorem kX5_readCommand_99 {C : QC} {x : QP} {M : QM} {st : List CV} {L : QL} {l0 l1 l2 l3 l4 l5 : Option CV} {z : Int} : Rr C mX5_readCommand (99, [l0, l1, l2, l3, l4, l5], qi z :: st, M) x = Rr C mX5_readCommand (101, [l0, l1, l2, q_cut l3, some (qi z), l5], st, M) x := g_pl (show decode cX5_readCommand 99 = .ok (.istore 4, 2) by decide +kernel) rfl
set_option maxRecDepth 20000 in
theorem kX5_readCommand_101 {C : QC} {x : QP} {M : QM} {st : List CV} {L : QL} {l0 l1 l2 l3 l4 l5 : Option CV} {r : Option Nat} : Rr C mX5_readCommand (101, [some (.inr (.inr r)), l1, l2, l3, l4, l5], st, M) x = Rr C mX5_readCommand (102, [some (.inr (.inr r)), l1, l2, l3, l4, l5], .inr (.inr r) :: st, M) x := g_pl (show decode cX5_readCommand 101 = .ok (.aload_n 0, 1) by decide +kernel) rfl
set_option maxRecDepth 20000 in
theorem kX5_readCommand_102 {C : QC} {x : QP} {M : QM} {st : List CV} {L : QL} {l0 l1 l2 l3 l4 l5 : Option CV} {r : Option Nat} : Rr C mX5_readCommand (102, [l0, some (.inr (.inr r)), l2, l3, l4, l5], st, M) x = Rr C mX5_readCommand (103, [l0, some (.inr (.inr r)), l2, l3, l4, l5], .inr (.inr r) :: st, M) x := g_pl (show decode cX5_readCommand 102 = .ok (.aload_n 1, 1) by decide +kernel) rfl
set_option maxRecDepth 20000 in
theorem kX5_readCommand_103 {C : QC} {x : QP} {M : QM} {st : List CV} {L : QL} : Rr C mX5_readCommand (103, L, st, M) x = Rr C mX5_readCommand (105, L, qi 64 :: st, M) x := g_pl (show decode cX5_readCommand 103 = .ok (.bipush 64, 2) by decide +kernel) rfl
set_option maxRecDepth 20000 in
theorem kX5_readCommand_105 {C : QC} {x : QP} {M : QM} {L : QL} {rest : List CV} {a0 a1 : CV} {v : CV} {M1 : QM} {b : Nat} (hb : q_kd M b = (1, 5)) (hC : C iX5_readSign [qr b, a0, a1] M (some v) M1) (hw : (rest.map q_wd).sum ≤ 8) (k : Rr C mX5_readCommand (108, L, v :: rest, M1) x) : Rr C mX5_readCommand (105, L, a1 :: a0 :: qr b :: rest, M) x := g_cv (ow := 5) (e := (0, 92, 5, [792, 794, 14, 79])) (as := [a0, a1]) (show decode cX5_readCommand 105 = .ok (.invokevirtual 51, 3) by decide +kernel) rfl rfl rfl (Or.inl rfl) rfl hb hC hw k
set_option maxRecDepth 20000 in
theorem kX5_readCommand_108 {C : QC} {x : QP} {M : QM} {st : List CV} {L : QL} {a : Int} (ha1 : -2147483648 ≤ a) (ha2 : a < 2147483648) : Rr C mX5_readCommand (108, L, qi a :: st, M) x = (if a = 0 then Rr C mX5_readCommand (119, L, st, M) x else Rr C mX5_readCommand (111, L, st, M) x) := (g_if (show decode cX5_readCommand 108 = .ok (.ifCond .eq 11, 3) by decide +kernel) rfl ha1 ha2).trans (g_ite c_eq)
set_option maxRecDepth 20000 in
theorem kX5_readCommand_111 {C : QC} {x : QP} {M : QM} {st : List CV} {L : QL} {l0 l1 l2 l3 l4 l5 : Option CV} {r : Option Nat} : Rr C mX5_readCommand (111, [some (.inr (.inr r)), l1, l2, l3, l4, l5], st, M) x = Rr C mX5_readCommand (112, [some (.inr (.inr r)), l1, l2, l3, l4, l5], .inr (.inr r) :: st, M) x := g_pl (show decode cX5_readCommand 111 = .ok (.aload_n 0, 1) by decide +kernel) rfl
set_option maxRecDepth 20000 in
theorem kX5_readCommand_112 {C : QC} {x : QP} {M : QM} {st : List CV} {L : QL} {l0 l1 l2 l3 l4 l5 : Option CV} {r : Option Nat} : Rr C mX5_readCommand (112, [l0, some (.inr (.inr r)), l2, l3, l4, l5], st, M) x = Rr C mX5_readCommand (113, [l0, some (.inr (.inr r)), l2, l3, l4, l5], .inr (.inr r) :: st, M) x := g_pl (show decode cX5_readCommand 112 = .ok (.aload_n 1, 1) by decide +kernel) rfl
set_option maxRecDepth 20000 in
theorem kX5_readCommand_113 {C : QC} {x : QP} {M : QM} {L : QL} {rest : List CV} {a0 : CV} {v : CV} {M1 : QM} {b : Nat} (hb : q_kd M b = (1, 5)) (hC : C iX5_readNumber [qr b, a0] M (some v) M1) (hw : (rest.map q_wd).sum ≤ 8) (k : Rr C mX5_readCommand (116, L, v :: rest, M1) x) : Rr C mX5_readCommand (113, L, a0 :: qr b :: rest, M) x := g_cv (ow := 5) (e := (0, 91, 5, [788, 790, 13, 79])) (as := [a0]) (show decode cX5_readCommand 113 = .ok (.invokevirtual 65, 3) by decide +kernel) rfl rfl rfl (Or.inl rfl) rfl hb hC hw k
set_option maxRecDepth 20000 in
theorem kX5_readCommand_116 {C : QC} {x : QP} {M : QM} {st : List CV} {L : QL} {a : Int} (ha1 : -2147483648 ≤ a) (ha2 : a < 2147483648) : Rr C mX5_readCommand (116, L, qi a :: st, M) x = (if a = 0 then Rr C mX5_readCommand (119, L, st, M) x else Rr C mX5_readCommand (121, L, st, M) x) := (g_if (show decode cX5_readCommand 116 = .ok (.ifCond .ne 5, 3) by decide +kernel) rfl ha1 ha2).trans (g_itn c_ne)
set_option maxRecDepth 20000 in
theorem kX5_readCommand_119 {C : QC} {x : QP} {M : QM} {st : List CV} {L : QL} : Rr C mX5_readCommand (119, L, st, M) x = Rr C mX5_readCommand (120, L, qi 0 :: st, M) x := g_pl (show decode cX5_readCommand 119 = .ok (.iconst 0, 1) by decide +kernel) rfl
set_option maxRecDepth 20000 in
theorem kX5_readCommand_120 {C : QC} {x : QP} {M : QM} {st : List CV} {L : QL} {z : Int} (hz : z = 0 ∨ z = 1) : Rr C mX5_readCommand (120, L, [qi z], M) x = x (some (qi z)) M := g_iret (show decode cX5_readCommand 120 = .ok (.ireturn, 1) by decide +kernel) (by rcases hz with rfl | rfl <;> rfl)
set_option maxRecDepth 20000 in
theorem kX5_readCommand_121 {C : QC} {x : QP} {M : QM} {st : List CV} {L : QL} {l0 l1 l2 l3 l4 l5 : Option CV} {r : Option Nat} : Rr C mX5_readCommand (121, [some (.inr (.inr r)), l1, l2, l3, l4, l5], st, M) x = Rr C mX5_readCommand (122, [some (.inr (.inr r)), l1, l2, l3, l4, l5], .inr (.inr r) :: st, M) x := g_pl (show decode cX5_readCommand 121 = .ok (.aload_n 0, 1) by decide +kernel) rfl
set_option maxRecDepth 20000 in
theorem kX5_readCommand_122 {C : QC} {x : QP} {M : QM} {st : List CV} {L : QL} {a : Nat} (hk : q_kd M a = (1, 5)) : Rr C mX5_readCommand (122, L, qr a :: st, M) x = Rr C mX5_readCommand (125, L, q_fv M a 2 :: st, M) x := g_getf (ow := 5) (e := (5, 2, RX5, 163, 0)) (show decode cX5_readCommand 122 = .ok (.getfield 22, 3) by decide +kernel) rfl hk
set_option maxRecDepth 20000 in
theorem kX5_readCommand_125 {C : QC} {x : QP} {M : QM} {st : List CV} {L : QL} {l0 l1 l2 l3 l4 l5 : Option CV} {z : Int} : Rr C mX5_readCommand (125, [l0, l1, l2, l3, l4, l5], qi z :: st, M) x = Rr C mX5_readCommand (127, [l0, l1, l2, l3, q_cut l4, some (qi z)], st, M) x := g_pl (show decode cX5_readCommand 125 = .ok (.istore 5, 2) by decide +kernel) rfl
set_option maxRecDepth 20000 in
theorem kX5_readCommand_127 {C : QC} {x : QP} {M : QM} {st : List CV} {L : QL} {l0 l1 l2 l3 l4 l5 : Option CV} {r : Option Nat} : Rr C mX5_readCommand (127, [some (.inr (.inr r)), l1, l2, l3, l4, l5], st, M) x = Rr C mX5_readCommand (128, [some (.inr (.inr r)), l1, l2, l3, l4, l5], .inr (.inr r) :: st, M) x := g_pl (show decode cX5_readCommand 127 = .ok (.aload_n 0, 1) by decide +kernel) rfl
set_option maxRecDepth 20000 in
theorem kX5_readCommand_128 {C : QC} {x : QP} {M : QM} {st : List CV} {L : QL} : Rr C mX5_readCommand (128, L, st, M) x = Rr C mX5_readCommand (129, L, ql 0 :: st, M) x := g_pl (show decode cX5_readCommand 128 = .ok (.lconst 0, 1) by decide +kernel) rfl
set_option maxRecDepth 20000 in
theorem kX5_readCommand_129 {C : QC} {x : QP} {M : QM} {st : List CV} {L : QL} {z : Int} {a : Nat} (hk : q_kd M a = (1, 5)) : Rr C mX5_readCommand (129, L, ql z :: qr a :: st, M) x = Rr C mX5_readCommand (132, L, st, q_wr M a 3 (ql z)) x := g_putf (ow := 5) (ini := false) (e := (5, 3, RX5, 164, 0)) (r := (RX5, TX5, 4)) (t := tyX5) (show decode cX5_readCommand 129 = .ok (.putfield 25, 3) by decide +kernel) rfl rfl rfl rfl (by decide +kernel) hk
set_option maxRecDepth 20000 in
theorem kX5_readCommand_132 {C : QC} {x : QP} {M : QM} {st : List CV} {L : QL} {l0 l1 l2 l3 l4 l5 : Option CV} {z : Int} : Rr C mX5_readCommand (132, [l0, l1, some (qi z), l3, l4, l5], st, M) x = Rr C mX5_readCommand (133, [l0, l1, some (qi z), l3, l4, l5], qi z :: st, M) x := g_pl (show decode cX5_readCommand 132 = .ok (.iload_n 2, 1) by decide +kernel) rfl
set_option maxRecDepth 20000 in
theorem kX5_readCommand_133 {C : QC} {x : QP} {M : QM} {st : List CV} {L : QL} {a : Int} (ha1 : -2147483648 ≤ a) (ha2 : a < 2147483648) : Rr C mX5_readCommand (133, L, qi a :: st, M) x = (if a = 0 then Rr C mX5_readCommand (146, L, st, M) x else Rr C mX5_readCommand (136, L, st, M) x) := (g_if (show decode cX5_readCommand 133 = .ok (.ifCond .eq 13, 3) by decide +kernel) rfl ha1 ha2).trans (g_ite c_eq)
set_option maxRecDepth 20000 in
theorem kX5_readCommand_136 {C : QC} {x : QP} {M : QM} {st : List CV} {L : QL} {l0 l1 l2 l3 l4 l5 : Option CV} {z : Int} : Rr C mX5_readCommand (136, [l0, l1, some (qi z), l3, l4, l5], st, M) x = Rr C mX5_readCommand (137, [l0, l1, some (qi z), l3, l4, l5], qi z :: st, M) x := g_pl (show decode cX5_readCommand 136 = .ok (.iload_n 2, 1) by decide +kernel) rfl
set_option maxRecDepth 20000 in
theorem kX5_readCommand_137 {C : QC} {x : QP} {M : QM} {st : List CV} {L : QL} : Rr C mX5_readCommand (137, L, st, M) x = Rr C mX5_readCommand (138, L, qi 1 :: st, M) x := g_pl (show decode cX5_readCommand 137 = .ok (.iconst 1, 1) by decide +kernel) rfl
set_option maxRecDepth 20000 in
theorem kX5_readCommand_138 {C : QC} {x : QP} {M : QM} {st : List CV} {L : QL} {a b : Int} (ha1 : -2147483648 ≤ a) (ha2 : a < 2147483648) (hb1 : -2147483648 ≤ b) (hb2 : b < 2147483648) : Rr C mX5_readCommand (138, L, qi b :: qi a :: st, M) x = (if a = b then Rr C mX5_readCommand (146, L, st, M) x else Rr C mX5_readCommand (141, L, st, M) x) := (g_icmp (show decode cX5_readCommand 138 = .ok (.if_icmp .eq 8, 3) by decide +kernel) rfl ha1 ha2 hb1 hb2).trans (g_ite c_eq)
set_option maxRecDepth 20000 in
theorem kX5_readCommand_141 {C : QC} {x : QP} {M : QM} {st : List CV} {L : QL} {l0 l1 l2 l3 l4 l5 : Option CV} {z : Int} : Rr C mX5_readCommand (141, [l0, l1, some (qi z), l3, l4, l5], st, M) x = Rr C mX5_readCommand (142, [l0, l1, some (qi z), l3, l4, l5], qi z :: st, M) x := g_pl (show decode cX5_readCommand 141 = .ok (.iload_n 2, 1) by decide +kernel) rfl
set_option maxRecDepth 20000 in
theorem kX5_readCommand_142 {C : QC} {x : QP} {M : QM} {st : List CV} {L : QL} : Rr C mX5_readCommand (142, L, st, M) x = Rr C mX5_readCommand (143, L, qi 3 :: st, M) x := g_pl (show decode cX5_readCommand 142 = .ok (.iconst 3, 1) by decide +kernel) rfl
set_option maxRecDepth 20000 in
theorem kX5_readCommand_143 {C : QC} {x : QP} {M : QM} {st : List CV} {L : QL} {a b : Int} (ha1 : -2147483648 ≤ a) (ha2 : a < 2147483648) (hb1 : -2147483648 ≤ b) (hb2 : b < 2147483648) : Rr C mX5_readCommand (143, L, qi b :: qi a :: st, M) x = (if a = b then Rr C mX5_readCommand (146, L, st, M) x else Rr C mX5_readCommand (166, L, st, M) x) := (g_icmp (show decode cX5_readCommand 143 = .ok (.if_icmp .ne 23, 3) by decide +kernel) rfl ha1 ha2 hb1 hb2).trans (g_itn c_ne)
set_option maxRecDepth 20000 in
theorem kX5_readCommand_146 {C : QC} {x : QP} {M : QM} {st : List CV} {L : QL} {l0 l1 l2 l3 l4 l5 : Option CV} {r : Option Nat} : Rr C mX5_readCommand (146, [some (.inr (.inr r)), l1, l2, l3, l4, l5], st, M) x = Rr C mX5_readCommand (147, [some (.inr (.inr r)), l1, l2, l3, l4, l5], .inr (.inr r) :: st, M) x := g_pl (show decode cX5_readCommand 146 = .ok (.aload_n 0, 1) by decide +kernel) rfl
set_option maxRecDepth 20000 in
theorem kX5_readCommand_147 {C : QC} {x : QP} {M : QM} {st : List CV} {L : QL} {l0 l1 l2 l3 l4 l5 : Option CV} {r : Option Nat} : Rr C mX5_readCommand (147, [l0, some (.inr (.inr r)), l2, l3, l4, l5], st, M) x = Rr C mX5_readCommand (148, [l0, some (.inr (.inr r)), l2, l3, l4, l5], .inr (.inr r) :: st, M) x := g_pl (show decode cX5_readCommand 147 = .ok (.aload_n 1, 1) by decide +kernel) rfl
set_option maxRecDepth 20000 in
theorem kX5_readCommand_148 {C : QC} {x : QP} {M : QM} {st : List CV} {L : QL} : Rr C mX5_readCommand (148, L, st, M) x = Rr C mX5_readCommand (150, L, qi 58 :: st, M) x := g_pl (show decode cX5_readCommand 148 = .ok (.bipush 58, 2) by decide +kernel) rfl
set_option maxRecDepth 20000 in
theorem kX5_readCommand_150 {C : QC} {x : QP} {M : QM} {L : QL} {rest : List CV} {a0 a1 : CV} {v : CV} {M1 : QM} {b : Nat} (hb : q_kd M b = (1, 5)) (hC : C iX5_readSign [qr b, a0, a1] M (some v) M1) (hw : (rest.map q_wd).sum ≤ 8) (k : Rr C mX5_readCommand (153, L, v :: rest, M1) x) : Rr C mX5_readCommand (150, L, a1 :: a0 :: qr b :: rest, M) x := g_cv (ow := 5) (e := (0, 92, 5, [792, 794, 14, 79])) (as := [a0, a1]) (show decode cX5_readCommand 150 = .ok (.invokevirtual 51, 3) by decide +kernel) rfl rfl rfl (Or.inl rfl) rfl hb hC hw k
set_option maxRecDepth 20000 in
theorem kX5_readCommand_153 {C : QC} {x : QP} {M : QM} {st : List CV} {L : QL} {a : Int} (ha1 : -2147483648 ≤ a) (ha2 : a < 2147483648) : Rr C mX5_readCommand (153, L, qi a :: st, M) x = (if a = 0 then Rr C mX5_readCommand (164, L, st, M) x else Rr C mX5_readCommand (156, L, st, M) x) := (g_if (show decode cX5_readCommand 153 = .ok (.ifCond .eq 11, 3) by decide +kernel) rfl ha1 ha2).trans (g_ite c_eq)
set_option maxRecDepth 20000 in
theorem kX5_readCommand_156 {C : QC} {x : QP} {M : QM} {st : List CV} {L : QL} {l0 l1 l2 l3 l4 l5 : Option CV} {r : Option Nat} : Rr C mX5_readCommand (156, [some (.inr (.inr r)), l1, l2, l3, l4, l5], st, M) x = Rr C mX5_readCommand (157, [some (.inr (.inr r)), l1, l2, l3, l4, l5], .inr (.inr r) :: st, M) x := g_pl (show decode cX5_readCommand 156 = .ok (.aload_n 0, 1) by decide +kernel) rfl
set_option maxRecDepth 20000 in
theorem kX5_readCommand_157 {C : QC} {x : QP} {M : QM} {st : List CV} {L : QL} {l0 l1 l2 l3 l4 l5 : Option CV} {r : Option Nat} : Rr C mX5_readCommand (157, [l0, some (.inr (.inr r)), l2, l3, l4, l5], st, M) x = Rr C mX5_readCommand (158, [l0, some (.inr (.inr r)), l2, l3, l4, l5], .inr (.inr r) :: st, M) x := g_pl (show decode cX5_readCommand 157 = .ok (.aload_n 1, 1) by decide +kernel) rfl
set_option maxRecDepth 20000 in
theorem kX5_readCommand_158 {C : QC} {x : QP} {M : QM} {L : QL} {rest : List CV} {a0 : CV} {v : CV} {M1 : QM} {b : Nat} (hb : q_kd M b = (1, 5)) (hC : C iX5_readWord [qr b, a0] M (some v) M1) (hw : (rest.map q_wd).sum ≤ 8) (k : Rr C mX5_readCommand (161, L, v :: rest, M1) x) : Rr C mX5_readCommand (158, L, a0 :: qr b :: rest, M) x := g_cv (ow := 5) (e := (0, 93, 5, [796, 798, 15, 79])) (as := [a0]) (show decode cX5_readCommand 158 = .ok (.invokevirtual 68, 3) by decide +kernel) rfl rfl rfl (Or.inl rfl) rfl hb hC hw k
set_option maxRecDepth 20000 in
theorem kX5_readCommand_161 {C : QC} {x : QP} {M : QM} {st : List CV} {L : QL} {a : Int} (ha1 : -2147483648 ≤ a) (ha2 : a < 2147483648) : Rr C mX5_readCommand (161, L, qi a :: st, M) x = (if a = 0 then Rr C mX5_readCommand (164, L, st, M) x else Rr C mX5_readCommand (166, L, st, M) x) := (g_if (show decode cX5_readCommand 161 = .ok (.ifCond .ne 5, 3) by decide +kernel) rfl ha1 ha2).trans (g_itn c_ne)
set_option maxRecDepth 20000 in
theorem kX5_readCommand_164 {C : QC} {x : QP} {M : QM} {st : List CV} {L : QL} : Rr C mX5_readCommand (164, L, st, M) x = Rr C mX5_readCommand (165, L, qi 0 :: st, M) x := g_pl (show decode cX5_readCommand 164 = .ok (.iconst 0, 1) by decide +kernel) rfl
set_option maxRecDepth 20000 in
theorem kX5_readCommand_165 {C : QC} {x : QP} {M : QM} {st : List CV} {L : QL} {z : Int} (hz : z = 0 ∨ z = 1) : Rr C mX5_readCommand (165, L, [qi z], M) x = x (some (qi z)) M := g_iret (show decode cX5_readCommand 165 = .ok (.ireturn, 1) by decide +kernel) (by rcases hz with rfl | rfl <;> rfl)
set_option maxRecDepth 20000 in
theorem kX5_readCommand_166 {C : QC} {x : QP} {M : QM} {st : List CV} {L : QL} {l0 l1 l2 l3 l4 l5 : Option CV} {r : Option Nat} : Rr C mX5_readCommand (166, [some (.inr (.inr r)), l1, l2, l3, l4, l5], st, M) x = Rr C mX5_readCommand (167, [some (.inr (.inr r)), l1, l2, l3, l4, l5], .inr (.inr r) :: st, M) x := g_pl (show decode cX5_readCommand 166 = .ok (.aload_n 0, 1) by decide +kernel) rfl
set_option maxRecDepth 20000 in
theorem kX5_readCommand_167 {C : QC} {x : QP} {M : QM} {st : List CV} {L : QL} {a : Nat} (hk : q_kd M a = (1, 5)) : Rr C mX5_readCommand (167, L, qr a :: st, M) x = Rr C mX5_readCommand (170, L, q_fv M a 0 :: st, M) x := g_getf (ow := 5) (e := (5, 0, RX5, 161, 0)) (show decode cX5_readCommand 167 = .ok (.getfield 12, 3) by decide +kernel) rfl hk
set_option maxRecDepth 20000 in
theorem kX5_readCommand_170 {C : QC} {x : QP} {M : QM} {st : List CV} {L : QL} : Rr C mX5_readCommand (170, L, st, M) x = Rr C mX5_readCommand (173, L, qr (q_top M) :: st, q_al M (1, 3) 5 (fun k => q_dv (tyX3 k))) x := g_new (ow := 5) (e := (3, 802, 452, 96)) (r := (RX3, TX3, 5)) (t := tyX3) (show decode cX5_readCommand 170 = .ok (.new 37, 3) by decide +kernel) rfl rfl rfl
set_option maxRecDepth 20000 in
theorem kX5_readCommand_173i {C : QC} {x : QP} {M : QM} {st : List CV} {L : QL} {a : Int} : Rr C mX5_readCommand (173, L, qi a :: st, M) x = Rr C mX5_readCommand (174, L, qi a :: qi a :: st, M) x := g_pl (show decode cX5_readCommand 173 = .ok (.dup, 1) by decide +kernel) rfl
set_option maxRecDepth 20000 in
theorem kX5_readCommand_173r {C : QC} {x : QP} {M : QM} {st : List CV} {L : QL} {a : Option Nat} : Rr C mX5_readCommand (173, L, .inr (.inr a) :: st, M) x = Rr C mX5_readCommand (174, L, .inr (.inr a) :: .inr (.inr a) :: st, M) x := g_pl (show decode cX5_readCommand 173 = .ok (.dup, 1) by decide +kernel) rfl
set_option maxRecDepth 20000 in
theorem kX5_readCommand_174 {C : QC} {x : QP} {M : QM} {st : List CV} {L : QL} {l0 l1 l2 l3 l4 l5 : Option CV} {z : Int} : Rr C mX5_readCommand (174, [l0, l1, some (qi z), l3, l4, l5], st, M) x = Rr C mX5_readCommand (175, [l0, l1, some (qi z), l3, l4, l5], qi z :: st, M) x := g_pl (show decode cX5_readCommand 174 = .ok (.iload_n 2, 1) by decide +kernel) rfl
set_option maxRecDepth 20000 in
theorem kX5_readCommand_175 {C : QC} {x : QP} {M : QM} {st : List CV} {L : QL} {l0 l1 l2 l3 l4 l5 : Option CV} {z : Int} : Rr C mX5_readCommand (175, [l0, l1, l2, some (qi z), l4, l5], st, M) x = Rr C mX5_readCommand (176, [l0, l1, l2, some (qi z), l4, l5], qi z :: st, M) x := g_pl (show decode cX5_readCommand 175 = .ok (.iload_n 3, 1) by decide +kernel) rfl
set_option maxRecDepth 20000 in
theorem kX5_readCommand_176 {C : QC} {x : QP} {M : QM} {st : List CV} {L : QL} {l0 l1 l2 l3 l4 l5 : Option CV} {z : Int} : Rr C mX5_readCommand (176, [l0, l1, l2, l3, some (qi z), l5], st, M) x = Rr C mX5_readCommand (178, [l0, l1, l2, l3, some (qi z), l5], qi z :: st, M) x := g_pl (show decode cX5_readCommand 176 = .ok (.iload 4, 2) by decide +kernel) rfl
set_option maxRecDepth 20000 in
theorem kX5_readCommand_178 {C : QC} {x : QP} {M : QM} {st : List CV} {L : QL} {l0 l1 l2 l3 l4 l5 : Option CV} {z : Int} : Rr C mX5_readCommand (178, [l0, l1, l2, l3, l4, some (qi z)], st, M) x = Rr C mX5_readCommand (180, [l0, l1, l2, l3, l4, some (qi z)], qi z :: st, M) x := g_pl (show decode cX5_readCommand 178 = .ok (.iload 5, 2) by decide +kernel) rfl
set_option maxRecDepth 20000 in
theorem kX5_readCommand_180 {C : QC} {x : QP} {M : QM} {st : List CV} {L : QL} {l0 l1 l2 l3 l4 l5 : Option CV} {r : Option Nat} : Rr C mX5_readCommand (180, [some (.inr (.inr r)), l1, l2, l3, l4, l5], st, M) x = Rr C mX5_readCommand (181, [some (.inr (.inr r)), l1, l2, l3, l4, l5], .inr (.inr r) :: st, M) x := g_pl (show decode cX5_readCommand 180 = .ok (.aload_n 0, 1) by decide +kernel) rfl
set_option maxRecDepth 20000 in
theorem kX5_readCommand_181 {C : QC} {x : QP} {M : QM} {st : List CV} {L : QL} {a : Nat} (hk : q_kd M a = (1, 5)) : Rr C mX5_readCommand (181, L, qr a :: st, M) x = Rr C mX5_readCommand (184, L, q_fv M a 3 :: st, M) x := g_getf (ow := 5) (e := (5, 3, RX5, 164, 0)) (show decode cX5_readCommand 181 = .ok (.getfield 25, 3) by decide +kernel) rfl hk
set_option maxRecDepth 20000 in
theorem kX5_readCommand_184 {C : QC} {x : QP} {M : QM} {L : QL} {rest : List CV} {a0 a1 a2 a3 a4 : CV} {M1 : QM} {b : Nat} (hC : C iX3_init [qr b, a0, a1, a2, a3, a4] M none M1) (hw : (rest.map q_wd).sum ≤ 8) (k : Rr C mX5_readCommand (187, L, rest, M1) x) : Rr C mX5_readCommand (184, L, a4 :: a3 :: a2 :: a1 :: a0 :: qr b :: rest, M) x := g_ci (ow := 5) (e := (3, 23, 0, [803, 454, 96])) (as := [a0, a1, a2, a3, a4]) (show decode cX5_readCommand 184 = .ok (.invokespecial 71, 3) by decide +kernel) rfl rfl rfl (Or.inl (Or.inl rfl)) rfl hC hw k
set_option maxRecDepth 20000 in
theorem kX5_readCommand_187 {C : QC} {x : QP} {M : QM} {L : QL} {rest : List CV} {a0 : CV} {v : CV} {M1 : QM} {b : Nat} (hb : q_kd M b = (1, 15)) (hC : C iJx4a65c_add_9ea2d [qr b, a0] M (some v) M1) (hw : (rest.map q_wd).sum ≤ 8) (k : Rr C mX5_readCommand (190, L, v :: rest, M1) x) : Rr C mX5_readCommand (187, L, a0 :: qr b :: rest, M) x := g_cv (ow := 5) (e := (0, 45, 15, [804, 570, 571, 82])) (as := [a0]) (show decode cX5_readCommand 187 = .ok (.invokevirtual 74, 3) by decide +kernel) rfl rfl rfl (Or.inl rfl) rfl hb hC hw k
set_option maxRecDepth 20000 in
theorem kX5_readCommand_190i {C : QC} {x : QP} {M : QM} {st : List CV} {L : QL} {a : Int} : Rr C mX5_readCommand (190, L, qi a :: st, M) x = Rr C mX5_readCommand (191, L, st, M) x := g_pl (show decode cX5_readCommand 190 = .ok (.pop, 1) by decide +kernel) rfl
set_option maxRecDepth 20000 in
theorem kX5_readCommand_190r {C : QC} {x : QP} {M : QM} {st : List CV} {L : QL} {a : Option Nat} : Rr C mX5_readCommand (190, L, .inr (.inr a) :: st, M) x = Rr C mX5_readCommand (191, L, st, M) x := g_pl (show decode cX5_readCommand 190 = .ok (.pop, 1) by decide +kernel) rfl
set_option maxRecDepth 20000 in
theorem kX5_readCommand_191 {C : QC} {x : QP} {M : QM} {st : List CV} {L : QL} : Rr C mX5_readCommand (191, L, st, M) x = Rr C mX5_readCommand (192, L, qi 1 :: st, M) x := g_pl (show decode cX5_readCommand 191 = .ok (.iconst 1, 1) by decide +kernel) rfl
set_option maxRecDepth 20000 in
theorem kX5_readCommand_192 {C : QC} {x : QP} {M : QM} {st : List CV} {L : QL} {z : Int} (hz : z = 0 ∨ z = 1) : Rr C mX5_readCommand (192, L, [qi z], M) x = x (some (qi z)) M := g_iret (show decode cX5_readCommand 192 = .ok (.ireturn, 1) by decide +kernel) (by rcases hz with rfl | rfl <;> rfl)
set_option maxRecDepth 20000 in
theorem eX5_readCommand {d : Nat} {M : QM} {x : QP} {a : Nat} {v0 : Option Nat} : q_T (d + 1) iX5_readCommand [qr a, .inr (.inr v0)] M x = Rr (q_C d) mX5_readCommand (0, [some (qr a), some (.inr (.inr v0)), none, none, none, none], [], M) x := g_entryT (e := _) rfl (Nat.le_of_ble_eq_true rfl) rfl rfl
def mX5_sortFor : QI := (5, cX5_sortFor, false, some .int)
set_option maxRecDepth 20000 in
theorem kX5_sortFor_0 {C : QC} {x : QP} {M : QM} {st : List CV} {L : QL} {z : Int} : Rr C mX5_sortFor (0, [some (qi z)], st, M) x = Rr C mX5_sortFor (1, [some (qi z)], qi z :: st, M) x := g_pl (show decode cX5_sortFor 0 = .ok (.iload_n 0, 1) by decide +kernel) rfl
set_option maxRecDepth 20000 in
theorem kX5_sortFor_1 {C : QC} {x : QP} {M : QM} {st : List CV} {L : QL} {a : Int} (ha1 : -2147483648 ≤ a) (ha2 : a < 2147483648) : Rr C mX5_sortFor (1, L, qi a :: st, M) x = (if a = 99 then Rr C mX5_sortFor (94, L, st, M) x else if a = 100 then Rr C mX5_sortFor (96, L, st, M) x else if a = 101 then Rr C mX5_sortFor (96, L, st, M) x else if a = 102 then Rr C mX5_sortFor (84, L, st, M) x else if a = 103 then Rr C mX5_sortFor (92, L, st, M) x else if a = 104 then Rr C mX5_sortFor (96, L, st, M) x else if a = 105 then Rr C mX5_sortFor (96, L, st, M) x else if a = 106 then Rr C mX5_sortFor (96, L, st, M) x else if a = 107 then Rr C mX5_sortFor (96, L, st, M) x else if a = 108 then Rr C mX5_sortFor (96, L, st, M) x else if a = 109 then Rr C mX5_sortFor (88, L, st, M) x else if a = 110 then Rr C mX5_sortFor (96, L, st, M) x else if a = 111 then Rr C mX5_sortFor (96, L, st, M) x else if a = 112 then Rr C mX5_sortFor (96, L, st, M) x else if a = 113 then Rr C mX5_sortFor (96, L, st, M) x else if a = 114 then Rr C mX5_sortFor (86, L, st, M) x else if a = 115 then Rr C mX5_sortFor (90, L, st, M) x else Rr C mX5_sortFor (96, L, st, M) x) := by
  by_cases h0 : a = 99
  · subst h0; rw [if_pos rfl]; exact g_tsI (show decode cX5_sortFor 1 = .ok (.tableswitch 95 99 115 #[93, 95, 95, 83, 91, 95, 95, 95, 95, 95, 87, 95, 95, 95, 95, 85, 89], 83) by decide +kernel) (by decide) (by decide) rfl rfl
  rw [if_neg h0]
  by_cases h1 : a = 100
  · subst h1; rw [if_pos rfl]; exact g_tsI (show decode cX5_sortFor 1 = .ok (.tableswitch 95 99 115 #[93, 95, 95, 83, 91, 95, 95, 95, 95, 95, 87, 95, 95, 95, 95, 85, 89], 83) by decide +kernel) (by decide) (by decide) rfl rfl
  rw [if_neg h1]
  by_cases h2 : a = 101
  · subst h2; rw [if_pos rfl]; exact g_tsI (show decode cX5_sortFor 1 = .ok (.tableswitch 95 99 115 #[93, 95, 95, 83, 91, 95, 95, 95, 95, 95, 87, 95, 95, 95, 95, 85, 89], 83) by decide +kernel) (by decide) (by decide) rfl rfl
  rw [if_neg h2]
  by_cases h3 : a = 102
  · subst h3; rw [if_pos rfl]; exact g_tsI (show decode cX5_sortFor 1 = .ok (.tableswitch 95 99 115 #[93, 95, 95, 83, 91, 95, 95, 95, 95, 95, 87, 95, 95, 95, 95, 85, 89], 83) by decide +kernel) (by decide) (by decide) rfl rfl
  rw [if_neg h3]
  by_cases h4 : a = 103
  · subst h4; rw [if_pos rfl]; exact g_tsI (show decode cX5_sortFor 1 = .ok (.tableswitch 95 99 115 #[93, 95, 95, 83, 91, 95, 95, 95, 95, 95, 87, 95, 95, 95, 95, 85, 89], 83) by decide +kernel) (by decide) (by decide) rfl rfl
  rw [if_neg h4]
  by_cases h5 : a = 104
  · subst h5; rw [if_pos rfl]; exact g_tsI (show decode cX5_sortFor 1 = .ok (.tableswitch 95 99 115 #[93, 95, 95, 83, 91, 95, 95, 95, 95, 95, 87, 95, 95, 95, 95, 85, 89], 83) by decide +kernel) (by decide) (by decide) rfl rfl
  rw [if_neg h5]
  by_cases h6 : a = 105
  · subst h6; rw [if_pos rfl]; exact g_tsI (show decode cX5_sortFor 1 = .ok (.tableswitch 95 99 115 #[93, 95, 95, 83, 91, 95, 95, 95, 95, 95, 87, 95, 95, 95, 95, 85, 89], 83) by decide +kernel) (by decide) (by decide) rfl rfl
  rw [if_neg h6]
  by_cases h7 : a = 106
  · subst h7; rw [if_pos rfl]; exact g_tsI (show decode cX5_sortFor 1 = .ok (.tableswitch 95 99 115 #[93, 95, 95, 83, 91, 95, 95, 95, 95, 95, 87, 95, 95, 95, 95, 85, 89], 83) by decide +kernel) (by decide) (by decide) rfl rfl
  rw [if_neg h7]
  by_cases h8 : a = 107
  · subst h8; rw [if_pos rfl]; exact g_tsI (show decode cX5_sortFor 1 = .ok (.tableswitch 95 99 115 #[93, 95, 95, 83, 91, 95, 95, 95, 95, 95, 87, 95, 95, 95, 95, 85, 89], 83) by decide +kernel) (by decide) (by decide) rfl rfl
  rw [if_neg h8]
  by_cases h9 : a = 108
  · subst h9; rw [if_pos rfl]; exact g_tsI (show decode cX5_sortFor 1 = .ok (.tableswitch 95 99 115 #[93, 95, 95, 83, 91, 95, 95, 95, 95, 95, 87, 95, 95, 95, 95, 85, 89], 83) by decide +kernel) (by decide) (by decide) rfl rfl
  rw [if_neg h9]
  by_cases h10 : a = 109
  · subst h10; rw [if_pos rfl]; exact g_tsI (show decode cX5_sortFor 1 = .ok (.tableswitch 95 99 115 #[93, 95, 95, 83, 91, 95, 95, 95, 95, 95, 87, 95, 95, 95, 95, 85, 89], 83) by decide +kernel) (by decide) (by decide) rfl rfl
  rw [if_neg h10]
  by_cases h11 : a = 110
  · subst h11; rw [if_pos rfl]; exact g_tsI (show decode cX5_sortFor 1 = .ok (.tableswitch 95 99 115 #[93, 95, 95, 83, 91, 95, 95, 95, 95, 95, 87, 95, 95, 95, 95, 85, 89], 83) by decide +kernel) (by decide) (by decide) rfl rfl
  rw [if_neg h11]
  by_cases h12 : a = 111
  · subst h12; rw [if_pos rfl]; exact g_tsI (show decode cX5_sortFor 1 = .ok (.tableswitch 95 99 115 #[93, 95, 95, 83, 91, 95, 95, 95, 95, 95, 87, 95, 95, 95, 95, 85, 89], 83) by decide +kernel) (by decide) (by decide) rfl rfl
  rw [if_neg h12]
  by_cases h13 : a = 112
  · subst h13; rw [if_pos rfl]; exact g_tsI (show decode cX5_sortFor 1 = .ok (.tableswitch 95 99 115 #[93, 95, 95, 83, 91, 95, 95, 95, 95, 95, 87, 95, 95, 95, 95, 85, 89], 83) by decide +kernel) (by decide) (by decide) rfl rfl
  rw [if_neg h13]
  by_cases h14 : a = 113
  · subst h14; rw [if_pos rfl]; exact g_tsI (show decode cX5_sortFor 1 = .ok (.tableswitch 95 99 115 #[93, 95, 95, 83, 91, 95, 95, 95, 95, 95, 87, 95, 95, 95, 95, 85, 89], 83) by decide +kernel) (by decide) (by decide) rfl rfl
  rw [if_neg h14]
  by_cases h15 : a = 114
  · subst h15; rw [if_pos rfl]; exact g_tsI (show decode cX5_sortFor 1 = .ok (.tableswitch 95 99 115 #[93, 95, 95, 83, 91, 95, 95, 95, 95, 95, 87, 95, 95, 95, 95, 85, 89], 83) by decide +kernel) (by decide) (by decide) rfl rfl
  rw [if_neg h15]
  by_cases h16 : a = 115
  · subst h16; rw [if_pos rfl]; exact g_tsI (show decode cX5_sortFor 1 = .ok (.tableswitch 95 99 115 #[93, 95, 95, 83, 91, 95, 95, 95, 95, 95, 87, 95, 95, 95, 95, 85, 89], 83) by decide +kernel) (by decide) (by decide) rfl rfl
  rw [if_neg h16]
  exact g_tsO (show decode cX5_sortFor 1 = .ok (.tableswitch 95 99 115 #[93, 95, 95, 83, 91, 95, 95, 95, 95, 95, 87, 95, 95, 95, 95, 85, 89], 83) by decide +kernel) ⟨ha1, ha2⟩ (by omega) rfl
set_option maxRecDepth 20000 in
theorem kX5_sortFor_84 {C : QC} {x : QP} {M : QM} {st : List CV} {L : QL} : Rr C mX5_sortFor (84, L, st, M) x = Rr C mX5_sortFor (85, L, qi 0 :: st, M) x := g_pl (show decode cX5_sortFor 84 = .ok (.iconst 0, 1) by decide +kernel) rfl
set_option maxRecDepth 20000 in
theorem kX5_sortFor_85 {C : QC} {x : QP} {M : QM} {st : List CV} {L : QL} {z : Int} : Rr C mX5_sortFor (85, L, [qi z], M) x = x (some (qi z)) M := g_iret (show decode cX5_sortFor 85 = .ok (.ireturn, 1) by decide +kernel) rfl
set_option maxRecDepth 20000 in
theorem kX5_sortFor_86 {C : QC} {x : QP} {M : QM} {st : List CV} {L : QL} : Rr C mX5_sortFor (86, L, st, M) x = Rr C mX5_sortFor (87, L, qi 1 :: st, M) x := g_pl (show decode cX5_sortFor 86 = .ok (.iconst 1, 1) by decide +kernel) rfl
set_option maxRecDepth 20000 in
theorem kX5_sortFor_87 {C : QC} {x : QP} {M : QM} {st : List CV} {L : QL} {z : Int} : Rr C mX5_sortFor (87, L, [qi z], M) x = x (some (qi z)) M := g_iret (show decode cX5_sortFor 87 = .ok (.ireturn, 1) by decide +kernel) rfl
set_option maxRecDepth 20000 in
theorem kX5_sortFor_88 {C : QC} {x : QP} {M : QM} {st : List CV} {L : QL} : Rr C mX5_sortFor (88, L, st, M) x = Rr C mX5_sortFor (89, L, qi 2 :: st, M) x := g_pl (show decode cX5_sortFor 88 = .ok (.iconst 2, 1) by decide +kernel) rfl
set_option maxRecDepth 20000 in
theorem kX5_sortFor_89 {C : QC} {x : QP} {M : QM} {st : List CV} {L : QL} {z : Int} : Rr C mX5_sortFor (89, L, [qi z], M) x = x (some (qi z)) M := g_iret (show decode cX5_sortFor 89 = .ok (.ireturn, 1) by decide +kernel) rfl
set_option maxRecDepth 20000 in
theorem kX5_sortFor_90 {C : QC} {x : QP} {M : QM} {st : List CV} {L : QL} : Rr C mX5_sortFor (90, L, st, M) x = Rr C mX5_sortFor (91, L, qi 3 :: st, M) x := g_pl (show decode cX5_sortFor 90 = .ok (.iconst 3, 1) by decide +kernel) rfl
set_option maxRecDepth 20000 in
theorem kX5_sortFor_91 {C : QC} {x : QP} {M : QM} {st : List CV} {L : QL} {z : Int} : Rr C mX5_sortFor (91, L, [qi z], M) x = x (some (qi z)) M := g_iret (show decode cX5_sortFor 91 = .ok (.ireturn, 1) by decide +kernel) rfl
set_option maxRecDepth 20000 in
theorem kX5_sortFor_92 {C : QC} {x : QP} {M : QM} {st : List CV} {L : QL} : Rr C mX5_sortFor (92, L, st, M) x = Rr C mX5_sortFor (93, L, qi 4 :: st, M) x := g_pl (show decode cX5_sortFor 92 = .ok (.iconst 4, 1) by decide +kernel) rfl
set_option maxRecDepth 20000 in
theorem kX5_sortFor_93 {C : QC} {x : QP} {M : QM} {st : List CV} {L : QL} {z : Int} : Rr C mX5_sortFor (93, L, [qi z], M) x = x (some (qi z)) M := g_iret (show decode cX5_sortFor 93 = .ok (.ireturn, 1) by decide +kernel) rfl
set_option maxRecDepth 20000 in
theorem kX5_sortFor_94 {C : QC} {x : QP} {M : QM} {st : List CV} {L : QL} : Rr C mX5_sortFor (94, L, st, M) x = Rr C mX5_sortFor (95, L, qi 5 :: st, M) x := g_pl (show decode cX5_sortFor 94 = .ok (.iconst 5, 1) by decide +kernel) rfl
set_option maxRecDepth 20000 in
theorem kX5_sortFor_95 {C : QC} {x : QP} {M : QM} {st : List CV} {L : QL} {z : Int} : Rr C mX5_sortFor (95, L, [qi z], M) x = x (some (qi z)) M := g_iret (show decode cX5_sortFor 95 = .ok (.ireturn, 1) by decide +kernel) rfl
set_option maxRecDepth 20000 in
theorem kX5_sortFor_96 {C : QC} {x : QP} {M : QM} {st : List CV} {L : QL} : Rr C mX5_sortFor (96, L, st, M) x = Rr C mX5_sortFor (97, L, qi (-1) :: st, M) x := g_pl (show decode cX5_sortFor 96 = .ok (.iconst (-1), 1) by decide +kernel) rfl
set_option maxRecDepth 20000 in
theorem kX5_sortFor_97 {C : QC} {x : QP} {M : QM} {st : List CV} {L : QL} {z : Int} : Rr C mX5_sortFor (97, L, [qi z], M) x = x (some (qi z)) M := g_iret (show decode cX5_sortFor 97 = .ok (.ireturn, 1) by decide +kernel) rfl
set_option maxRecDepth 20000 in
theorem eX5_sortFor {d : Nat} {M : QM} {x : QP} {v0 : Int} : q_T (d + 1) iX5_sortFor [qi v0] M x = Rr (q_C d) mX5_sortFor (0, [some (qi v0)], [], M) x := g_entryT (e := _) rfl (Nat.le_of_ble_eq_true rfl) rfl rfl
def mX5_readSign : QI := (5, cX5_readSign, false, some .boolean)
set_option maxRecDepth 20000 in
theorem kX5_readSign_0 {C : QC} {x : QP} {M : QM} {st : List CV} {L : QL} {l0 l1 l2 : Option CV} {r : Option Nat} : Rr C mX5_readSign (0, [l0, some (.inr (.inr r)), l2], st, M) x = Rr C mX5_readSign (1, [l0, some (.inr (.inr r)), l2], .inr (.inr r) :: st, M) x := g_pl (show decode cX5_readSign 0 = .ok (.aload_n 1, 1) by decide +kernel) rfl
set_option maxRecDepth 20000 in
theorem kX5_readSign_1 {C : QC} {x : QP} {M : QM} {st : List CV} {L : QL} {l0 l1 l2 : Option CV} {r : Option Nat} : Rr C mX5_readSign (1, [some (.inr (.inr r)), l1, l2], st, M) x = Rr C mX5_readSign (2, [some (.inr (.inr r)), l1, l2], .inr (.inr r) :: st, M) x := g_pl (show decode cX5_readSign 1 = .ok (.aload_n 0, 1) by decide +kernel) rfl
set_option maxRecDepth 20000 in
theorem kX5_readSign_2 {C : QC} {x : QP} {M : QM} {st : List CV} {L : QL} {a : Nat} (hk : q_kd M a = (1, 5)) : Rr C mX5_readSign (2, L, qr a :: st, M) x = Rr C mX5_readSign (5, L, q_fv M a 1 :: st, M) x := g_getf (ow := 5) (e := (5, 1, RX5, 162, 0)) (show decode cX5_readSign 2 = .ok (.getfield 18, 3) by decide +kernel) rfl hk
set_option maxRecDepth 20000 in
theorem kX5_readSign_5 {C : QC} {x : QP} {M : QM} {L : QL} {rest : List CV} {a0 : CV} {v : CV} {M1 : QM} {b : Nat} (hb : q_kd M b = (1, 8)) (hC : C iX8_at [qr b, a0] M (some v) M1) (hw : (rest.map q_wd).sum ≤ 8) (k : Rr C mX5_readSign (8, L, v :: rest, M1) x) : Rr C mX5_readSign (5, L, a0 :: qr b :: rest, M) x := g_cv (ow := 5) (e := (0, 88, 8, [777, 778, 779, 78])) (as := [a0]) (show decode cX5_readSign 5 = .ok (.invokevirtual 55, 3) by decide +kernel) rfl rfl rfl (Or.inl rfl) rfl hb hC hw k
set_option maxRecDepth 20000 in
theorem kX5_readSign_8 {C : QC} {x : QP} {M : QM} {st : List CV} {L : QL} {l0 l1 l2 : Option CV} {z : Int} : Rr C mX5_readSign (8, [l0, l1, some (qi z)], st, M) x = Rr C mX5_readSign (9, [l0, l1, some (qi z)], qi z :: st, M) x := g_pl (show decode cX5_readSign 8 = .ok (.iload_n 2, 1) by decide +kernel) rfl
set_option maxRecDepth 20000 in
theorem kX5_readSign_9 {C : QC} {x : QP} {M : QM} {st : List CV} {L : QL} {a b : Int} (ha1 : -2147483648 ≤ a) (ha2 : a < 2147483648) (hb1 : -2147483648 ≤ b) (hb2 : b < 2147483648) : Rr C mX5_readSign (9, L, qi b :: qi a :: st, M) x = (if a = b then Rr C mX5_readSign (14, L, st, M) x else Rr C mX5_readSign (12, L, st, M) x) := (g_icmp (show decode cX5_readSign 9 = .ok (.if_icmp .eq 5, 3) by decide +kernel) rfl ha1 ha2 hb1 hb2).trans (g_ite c_eq)
set_option maxRecDepth 20000 in
theorem kX5_readSign_12 {C : QC} {x : QP} {M : QM} {st : List CV} {L : QL} : Rr C mX5_readSign (12, L, st, M) x = Rr C mX5_readSign (13, L, qi 0 :: st, M) x := g_pl (show decode cX5_readSign 12 = .ok (.iconst 0, 1) by decide +kernel) rfl
set_option maxRecDepth 20000 in
theorem kX5_readSign_13 {C : QC} {x : QP} {M : QM} {st : List CV} {L : QL} {z : Int} (hz : z = 0 ∨ z = 1) : Rr C mX5_readSign (13, L, [qi z], M) x = x (some (qi z)) M := g_iret (show decode cX5_readSign 13 = .ok (.ireturn, 1) by decide +kernel) (by rcases hz with rfl | rfl <;> rfl)
set_option maxRecDepth 20000 in
theorem kX5_readSign_14 {C : QC} {x : QP} {M : QM} {st : List CV} {L : QL} {l0 l1 l2 : Option CV} {r : Option Nat} : Rr C mX5_readSign (14, [some (.inr (.inr r)), l1, l2], st, M) x = Rr C mX5_readSign (15, [some (.inr (.inr r)), l1, l2], .inr (.inr r) :: st, M) x := g_pl (show decode cX5_readSign 14 = .ok (.aload_n 0, 1) by decide +kernel) rfl
set_option maxRecDepth 20000 in
theorem kX5_readSign_15i {C : QC} {x : QP} {M : QM} {st : List CV} {L : QL} {a : Int} : Rr C mX5_readSign (15, L, qi a :: st, M) x = Rr C mX5_readSign (16, L, qi a :: qi a :: st, M) x := g_pl (show decode cX5_readSign 15 = .ok (.dup, 1) by decide +kernel) rfl
set_option maxRecDepth 20000 in
theorem kX5_readSign_15r {C : QC} {x : QP} {M : QM} {st : List CV} {L : QL} {a : Option Nat} : Rr C mX5_readSign (15, L, .inr (.inr a) :: st, M) x = Rr C mX5_readSign (16, L, .inr (.inr a) :: .inr (.inr a) :: st, M) x := g_pl (show decode cX5_readSign 15 = .ok (.dup, 1) by decide +kernel) rfl
set_option maxRecDepth 20000 in
theorem kX5_readSign_16 {C : QC} {x : QP} {M : QM} {st : List CV} {L : QL} {a : Nat} (hk : q_kd M a = (1, 5)) : Rr C mX5_readSign (16, L, qr a :: st, M) x = Rr C mX5_readSign (19, L, q_fv M a 1 :: st, M) x := g_getf (ow := 5) (e := (5, 1, RX5, 162, 0)) (show decode cX5_readSign 16 = .ok (.getfield 18, 3) by decide +kernel) rfl hk
set_option maxRecDepth 20000 in
theorem kX5_readSign_19 {C : QC} {x : QP} {M : QM} {st : List CV} {L : QL} : Rr C mX5_readSign (19, L, st, M) x = Rr C mX5_readSign (20, L, qi 1 :: st, M) x := g_pl (show decode cX5_readSign 19 = .ok (.iconst 1, 1) by decide +kernel) rfl
set_option maxRecDepth 20000 in
theorem kX5_readSign_20 {C : QC} {x : QP} {M : QM} {st : List CV} {L : QL} {a b : Int} : Rr C mX5_readSign (20, L, qi b :: qi a :: st, M) x = Rr C mX5_readSign (21, L, qi (a + b) :: st, M) x := g_pl (show decode cX5_readSign 20 = .ok (.iadd, 1) by decide +kernel) rfl
set_option maxRecDepth 20000 in
theorem kX5_readSign_21 {C : QC} {x : QP} {M : QM} {st : List CV} {L : QL} {z : Int} {a : Nat} (hk : q_kd M a = (1, 5)) : Rr C mX5_readSign (21, L, qi z :: qr a :: st, M) x = Rr C mX5_readSign (24, L, st, q_wr M a 1 (qi z)) x := g_putf (ow := 5) (ini := false) (e := (5, 1, RX5, 162, 0)) (r := (RX5, TX5, 4)) (t := tyX5) (show decode cX5_readSign 21 = .ok (.putfield 18, 3) by decide +kernel) rfl rfl rfl rfl (by decide +kernel) hk
set_option maxRecDepth 20000 in
theorem kX5_readSign_24 {C : QC} {x : QP} {M : QM} {st : List CV} {L : QL} : Rr C mX5_readSign (24, L, st, M) x = Rr C mX5_readSign (25, L, qi 1 :: st, M) x := g_pl (show decode cX5_readSign 24 = .ok (.iconst 1, 1) by decide +kernel) rfl
set_option maxRecDepth 20000 in
theorem kX5_readSign_25 {C : QC} {x : QP} {M : QM} {st : List CV} {L : QL} {z : Int} (hz : z = 0 ∨ z = 1) : Rr C mX5_readSign (25, L, [qi z], M) x = x (some (qi z)) M := g_iret (show decode cX5_readSign 25 = .ok (.ireturn, 1) by decide +kernel) (by rcases hz with rfl | rfl <;> rfl)
set_option maxRecDepth 20000 in
theorem eX5_readSign {d : Nat} {M : QM} {x : QP} {a : Nat} {v0 : Option Nat} {v1 : Int} : q_T (d + 1) iX5_readSign [qr a, .inr (.inr v0), qi v1] M x = Rr (q_C d) mX5_readSign (0, [some (qr a), some (.inr (.inr v0)), some (qi v1)], [], M) x := g_entryT (e := _) rfl (Nat.le_of_ble_eq_true rfl) rfl rfl
def mX5_readKind : QI := (5, cX5_readKind, false, some .boolean)
set_option maxRecDepth 20000 in
theorem kX5_readKind_0 {C : QC} {x : QP} {M : QM} {st : List CV} {L : QL} {l0 l1 : Option CV} {r : Option Nat} : Rr C mX5_readKind (0, [some (.inr (.inr r)), l1], st, M) x = Rr C mX5_readKind (1, [some (.inr (.inr r)), l1], .inr (.inr r) :: st, M) x := g_pl (show decode cX5_readKind 0 = .ok (.aload_n 0, 1) by decide +kernel) rfl
set_option maxRecDepth 20000 in
theorem kX5_readKind_1 {C : QC} {x : QP} {M : QM} {st : List CV} {L : QL} {l0 l1 : Option CV} {r : Option Nat} : Rr C mX5_readKind (1, [l0, some (.inr (.inr r))], st, M) x = Rr C mX5_readKind (2, [l0, some (.inr (.inr r))], .inr (.inr r) :: st, M) x := g_pl (show decode cX5_readKind 1 = .ok (.aload_n 1, 1) by decide +kernel) rfl
set_option maxRecDepth 20000 in
theorem kX5_readKind_2 {C : QC} {x : QP} {M : QM} {st : List CV} {L : QL} {l0 l1 : Option CV} {r : Option Nat} : Rr C mX5_readKind (2, [some (.inr (.inr r)), l1], st, M) x = Rr C mX5_readKind (3, [some (.inr (.inr r)), l1], .inr (.inr r) :: st, M) x := g_pl (show decode cX5_readKind 2 = .ok (.aload_n 0, 1) by decide +kernel) rfl
set_option maxRecDepth 20000 in
theorem kX5_readKind_3 {C : QC} {x : QP} {M : QM} {st : List CV} {L : QL} {a : Nat} (hk : q_kd M a = (1, 5)) : Rr C mX5_readKind (3, L, qr a :: st, M) x = Rr C mX5_readKind (6, L, q_fv M a 1 :: st, M) x := g_getf (ow := 5) (e := (5, 1, RX5, 162, 0)) (show decode cX5_readKind 3 = .ok (.getfield 18, 3) by decide +kernel) rfl hk
set_option maxRecDepth 20000 in
theorem kX5_readKind_6 {C : QC} {x : QP} {M : QM} {L : QL} {rest : List CV} {a0 : CV} {v : CV} {M1 : QM} {b : Nat} (hb : q_kd M b = (1, 8)) (hC : C iX8_at [qr b, a0] M (some v) M1) (hw : (rest.map q_wd).sum ≤ 8) (k : Rr C mX5_readKind (9, L, v :: rest, M1) x) : Rr C mX5_readKind (6, L, a0 :: qr b :: rest, M) x := g_cv (ow := 5) (e := (0, 88, 8, [777, 778, 779, 78])) (as := [a0]) (show decode cX5_readKind 6 = .ok (.invokevirtual 55, 3) by decide +kernel) rfl rfl rfl (Or.inl rfl) rfl hb hC hw k
set_option maxRecDepth 20000 in
theorem kX5_readKind_9 {C : QC} {x : QP} {M : QM} {st : List CV} {L : QL} : Rr C mX5_readKind (9, L, st, M) x = Rr C mX5_readKind (11, L, qi 48 :: st, M) x := g_pl (show decode cX5_readKind 9 = .ok (.bipush 48, 2) by decide +kernel) rfl
set_option maxRecDepth 20000 in
theorem kX5_readKind_11 {C : QC} {x : QP} {M : QM} {st : List CV} {L : QL} {a b : Int} : Rr C mX5_readKind (11, L, qi b :: qi a :: st, M) x = Rr C mX5_readKind (12, L, qi (a - b) :: st, M) x := g_pl (show decode cX5_readKind 11 = .ok (.isub, 1) by decide +kernel) rfl
set_option maxRecDepth 20000 in
theorem kX5_readKind_12 {C : QC} {x : QP} {M : QM} {st : List CV} {L : QL} {z : Int} {a : Nat} (hk : q_kd M a = (1, 5)) : Rr C mX5_readKind (12, L, qi z :: qr a :: st, M) x = Rr C mX5_readKind (15, L, st, q_wr M a 2 (qi z)) x := g_putf (ow := 5) (ini := false) (e := (5, 2, RX5, 163, 0)) (r := (RX5, TX5, 4)) (t := tyX5) (show decode cX5_readKind 12 = .ok (.putfield 22, 3) by decide +kernel) rfl rfl rfl rfl (by decide +kernel) hk
set_option maxRecDepth 20000 in
theorem kX5_readKind_15 {C : QC} {x : QP} {M : QM} {st : List CV} {L : QL} {l0 l1 : Option CV} {r : Option Nat} : Rr C mX5_readKind (15, [some (.inr (.inr r)), l1], st, M) x = Rr C mX5_readKind (16, [some (.inr (.inr r)), l1], .inr (.inr r) :: st, M) x := g_pl (show decode cX5_readKind 15 = .ok (.aload_n 0, 1) by decide +kernel) rfl
set_option maxRecDepth 20000 in
theorem kX5_readKind_16 {C : QC} {x : QP} {M : QM} {st : List CV} {L : QL} {a : Nat} (hk : q_kd M a = (1, 5)) : Rr C mX5_readKind (16, L, qr a :: st, M) x = Rr C mX5_readKind (19, L, q_fv M a 2 :: st, M) x := g_getf (ow := 5) (e := (5, 2, RX5, 163, 0)) (show decode cX5_readKind 16 = .ok (.getfield 22, 3) by decide +kernel) rfl hk
set_option maxRecDepth 20000 in
theorem kX5_readKind_19 {C : QC} {x : QP} {M : QM} {st : List CV} {L : QL} {a : Int} (ha1 : -2147483648 ≤ a) (ha2 : a < 2147483648) : Rr C mX5_readKind (19, L, qi a :: st, M) x = (if a < 0 then Rr C mX5_readKind (30, L, st, M) x else Rr C mX5_readKind (22, L, st, M) x) := (g_if (show decode cX5_readKind 19 = .ok (.ifCond .lt 11, 3) by decide +kernel) rfl ha1 ha2).trans (g_ite c_lt)
set_option maxRecDepth 20000 in
theorem kX5_readKind_22 {C : QC} {x : QP} {M : QM} {st : List CV} {L : QL} {l0 l1 : Option CV} {r : Option Nat} : Rr C mX5_readKind (22, [some (.inr (.inr r)), l1], st, M) x = Rr C mX5_readKind (23, [some (.inr (.inr r)), l1], .inr (.inr r) :: st, M) x := g_pl (show decode cX5_readKind 22 = .ok (.aload_n 0, 1) by decide +kernel) rfl
set_option maxRecDepth 20000 in
theorem kX5_readKind_23 {C : QC} {x : QP} {M : QM} {st : List CV} {L : QL} {a : Nat} (hk : q_kd M a = (1, 5)) : Rr C mX5_readKind (23, L, qr a :: st, M) x = Rr C mX5_readKind (26, L, q_fv M a 2 :: st, M) x := g_getf (ow := 5) (e := (5, 2, RX5, 163, 0)) (show decode cX5_readKind 23 = .ok (.getfield 22, 3) by decide +kernel) rfl hk
set_option maxRecDepth 20000 in
theorem kX5_readKind_26 {C : QC} {x : QP} {M : QM} {st : List CV} {L : QL} : Rr C mX5_readKind (26, L, st, M) x = Rr C mX5_readKind (27, L, qi 4 :: st, M) x := g_pl (show decode cX5_readKind 26 = .ok (.iconst 4, 1) by decide +kernel) rfl
set_option maxRecDepth 20000 in
theorem kX5_readKind_27 {C : QC} {x : QP} {M : QM} {st : List CV} {L : QL} {a b : Int} (ha1 : -2147483648 ≤ a) (ha2 : a < 2147483648) (hb1 : -2147483648 ≤ b) (hb2 : b < 2147483648) : Rr C mX5_readKind (27, L, qi b :: qi a :: st, M) x = (if a < b then Rr C mX5_readKind (32, L, st, M) x else Rr C mX5_readKind (30, L, st, M) x) := (g_icmp (show decode cX5_readKind 27 = .ok (.if_icmp .lt 5, 3) by decide +kernel) rfl ha1 ha2 hb1 hb2).trans (g_ite c_lt)
set_option maxRecDepth 20000 in
theorem kX5_readKind_30 {C : QC} {x : QP} {M : QM} {st : List CV} {L : QL} : Rr C mX5_readKind (30, L, st, M) x = Rr C mX5_readKind (31, L, qi 0 :: st, M) x := g_pl (show decode cX5_readKind 30 = .ok (.iconst 0, 1) by decide +kernel) rfl
set_option maxRecDepth 20000 in
theorem kX5_readKind_31 {C : QC} {x : QP} {M : QM} {st : List CV} {L : QL} {z : Int} (hz : z = 0 ∨ z = 1) : Rr C mX5_readKind (31, L, [qi z], M) x = x (some (qi z)) M := g_iret (show decode cX5_readKind 31 = .ok (.ireturn, 1) by decide +kernel) (by rcases hz with rfl | rfl <;> rfl)
set_option maxRecDepth 20000 in
theorem kX5_readKind_32 {C : QC} {x : QP} {M : QM} {st : List CV} {L : QL} {l0 l1 : Option CV} {r : Option Nat} : Rr C mX5_readKind (32, [some (.inr (.inr r)), l1], st, M) x = Rr C mX5_readKind (33, [some (.inr (.inr r)), l1], .inr (.inr r) :: st, M) x := g_pl (show decode cX5_readKind 32 = .ok (.aload_n 0, 1) by decide +kernel) rfl
set_option maxRecDepth 20000 in
theorem kX5_readKind_33i {C : QC} {x : QP} {M : QM} {st : List CV} {L : QL} {a : Int} : Rr C mX5_readKind (33, L, qi a :: st, M) x = Rr C mX5_readKind (34, L, qi a :: qi a :: st, M) x := g_pl (show decode cX5_readKind 33 = .ok (.dup, 1) by decide +kernel) rfl
set_option maxRecDepth 20000 in
theorem kX5_readKind_33r {C : QC} {x : QP} {M : QM} {st : List CV} {L : QL} {a : Option Nat} : Rr C mX5_readKind (33, L, .inr (.inr a) :: st, M) x = Rr C mX5_readKind (34, L, .inr (.inr a) :: .inr (.inr a) :: st, M) x := g_pl (show decode cX5_readKind 33 = .ok (.dup, 1) by decide +kernel) rfl
set_option maxRecDepth 20000 in
theorem kX5_readKind_34 {C : QC} {x : QP} {M : QM} {st : List CV} {L : QL} {a : Nat} (hk : q_kd M a = (1, 5)) : Rr C mX5_readKind (34, L, qr a :: st, M) x = Rr C mX5_readKind (37, L, q_fv M a 1 :: st, M) x := g_getf (ow := 5) (e := (5, 1, RX5, 162, 0)) (show decode cX5_readKind 34 = .ok (.getfield 18, 3) by decide +kernel) rfl hk
set_option maxRecDepth 20000 in
theorem kX5_readKind_37 {C : QC} {x : QP} {M : QM} {st : List CV} {L : QL} : Rr C mX5_readKind (37, L, st, M) x = Rr C mX5_readKind (38, L, qi 1 :: st, M) x := g_pl (show decode cX5_readKind 37 = .ok (.iconst 1, 1) by decide +kernel) rfl
set_option maxRecDepth 20000 in
theorem kX5_readKind_38 {C : QC} {x : QP} {M : QM} {st : List CV} {L : QL} {a b : Int} : Rr C mX5_readKind (38, L, qi b :: qi a :: st, M) x = Rr C mX5_readKind (39, L, qi (a + b) :: st, M) x := g_pl (show decode cX5_readKind 38 = .ok (.iadd, 1) by decide +kernel) rfl
set_option maxRecDepth 20000 in
theorem kX5_readKind_39 {C : QC} {x : QP} {M : QM} {st : List CV} {L : QL} {z : Int} {a : Nat} (hk : q_kd M a = (1, 5)) : Rr C mX5_readKind (39, L, qi z :: qr a :: st, M) x = Rr C mX5_readKind (42, L, st, q_wr M a 1 (qi z)) x := g_putf (ow := 5) (ini := false) (e := (5, 1, RX5, 162, 0)) (r := (RX5, TX5, 4)) (t := tyX5) (show decode cX5_readKind 39 = .ok (.putfield 18, 3) by decide +kernel) rfl rfl rfl rfl (by decide +kernel) hk
set_option maxRecDepth 20000 in
theorem kX5_readKind_42 {C : QC} {x : QP} {M : QM} {st : List CV} {L : QL} : Rr C mX5_readKind (42, L, st, M) x = Rr C mX5_readKind (43, L, qi 1 :: st, M) x := g_pl (show decode cX5_readKind 42 = .ok (.iconst 1, 1) by decide +kernel) rfl
set_option maxRecDepth 20000 in
theorem kX5_readKind_43 {C : QC} {x : QP} {M : QM} {st : List CV} {L : QL} {z : Int} (hz : z = 0 ∨ z = 1) : Rr C mX5_readKind (43, L, [qi z], M) x = x (some (qi z)) M := g_iret (show decode cX5_readKind 43 = .ok (.ireturn, 1) by decide +kernel) (by rcases hz with rfl | rfl <;> rfl)
set_option maxRecDepth 20000 in
theorem eX5_readKind {d : Nat} {M : QM} {x : QP} {a : Nat} {v0 : Option Nat} : q_T (d + 1) iX5_readKind [qr a, .inr (.inr v0)] M x = Rr (q_C d) mX5_readKind (0, [some (qr a), some (.inr (.inr v0))], [], M) x := g_entryT (e := _) rfl (Nat.le_of_ble_eq_true rfl) rfl rfl
def mX5_readNumber : QI := (5, cX5_readNumber, false, some .boolean)
set_option maxRecDepth 20000 in
theorem kX5_readNumber_0 {C : QC} {x : QP} {M : QM} {st : List CV} {L : QL} {l0 l1 l2 : Option CV} {r : Option Nat} : Rr C mX5_readNumber (0, [some (.inr (.inr r)), l1, l2], st, M) x = Rr C mX5_readNumber (1, [some (.inr (.inr r)), l1, l2], .inr (.inr r) :: st, M) x := g_pl (show decode cX5_readNumber 0 = .ok (.aload_n 0, 1) by decide +kernel) rfl
set_option maxRecDepth 20000 in
theorem kX5_readNumber_1 {C : QC} {x : QP} {M : QM} {st : List CV} {L : QL} : Rr C mX5_readNumber (1, L, st, M) x = Rr C mX5_readNumber (2, L, qi 0 :: st, M) x := g_pl (show decode cX5_readNumber 1 = .ok (.iconst 0, 1) by decide +kernel) rfl
set_option maxRecDepth 20000 in
theorem kX5_readNumber_2 {C : QC} {x : QP} {M : QM} {st : List CV} {L : QL} {z : Int} {a : Nat} (hk : q_kd M a = (1, 5)) : Rr C mX5_readNumber (2, L, qi z :: qr a :: st, M) x = Rr C mX5_readNumber (5, L, st, q_wr M a 2 (qi z)) x := g_putf (ow := 5) (ini := false) (e := (5, 2, RX5, 163, 0)) (r := (RX5, TX5, 4)) (t := tyX5) (show decode cX5_readNumber 2 = .ok (.putfield 22, 3) by decide +kernel) rfl rfl rfl rfl (by decide +kernel) hk
set_option maxRecDepth 20000 in
theorem kX5_readNumber_5 {C : QC} {x : QP} {M : QM} {st : List CV} {L : QL} : Rr C mX5_readNumber (5, L, st, M) x = Rr C mX5_readNumber (6, L, qi 0 :: st, M) x := g_pl (show decode cX5_readNumber 5 = .ok (.iconst 0, 1) by decide +kernel) rfl
set_option maxRecDepth 20000 in
theorem kX5_readNumber_6 {C : QC} {x : QP} {M : QM} {st : List CV} {L : QL} {l0 l1 l2 : Option CV} {z : Int} : Rr C mX5_readNumber (6, [l0, l1, l2], qi z :: st, M) x = Rr C mX5_readNumber (7, [l0, q_cut l1, some (qi z)], st, M) x := g_pl (show decode cX5_readNumber 6 = .ok (.istore_n 2, 1) by decide +kernel) rfl
set_option maxRecDepth 20000 in
theorem kX5_readNumber_7 {C : QC} {x : QP} {M : QM} {st : List CV} {L : QL} {l0 l1 l2 : Option CV} {z : Int} : Rr C mX5_readNumber (7, [l0, l1, some (qi z)], st, M) x = Rr C mX5_readNumber (8, [l0, l1, some (qi z)], qi z :: st, M) x := g_pl (show decode cX5_readNumber 7 = .ok (.iload_n 2, 1) by decide +kernel) rfl
set_option maxRecDepth 20000 in
theorem kX5_readNumber_8 {C : QC} {x : QP} {M : QM} {st : List CV} {L : QL} : Rr C mX5_readNumber (8, L, st, M) x = Rr C mX5_readNumber (9, L, qi 4 :: st, M) x := g_pl (show decode cX5_readNumber 8 = .ok (.iconst 4, 1) by decide +kernel) rfl
set_option maxRecDepth 20000 in
theorem kX5_readNumber_9 {C : QC} {x : QP} {M : QM} {st : List CV} {L : QL} {a b : Int} (ha1 : -2147483648 ≤ a) (ha2 : a < 2147483648) (hb1 : -2147483648 ≤ b) (hb2 : b < 2147483648) : Rr C mX5_readNumber (9, L, qi b :: qi a :: st, M) x = (if a < b then Rr C mX5_readNumber (12, L, st, M) x else Rr C mX5_readNumber (77, L, st, M) x) := (g_icmp (show decode cX5_readNumber 9 = .ok (.if_icmp .ge 68, 3) by decide +kernel) rfl ha1 ha2 hb1 hb2).trans (g_itn c_ge)
set_option maxRecDepth 20000 in
theorem kX5_readNumber_12 {C : QC} {x : QP} {M : QM} {st : List CV} {L : QL} {l0 l1 l2 : Option CV} {r : Option Nat} : Rr C mX5_readNumber (12, [l0, some (.inr (.inr r)), l2], st, M) x = Rr C mX5_readNumber (13, [l0, some (.inr (.inr r)), l2], .inr (.inr r) :: st, M) x := g_pl (show decode cX5_readNumber 12 = .ok (.aload_n 1, 1) by decide +kernel) rfl
set_option maxRecDepth 20000 in
theorem kX5_readNumber_13 {C : QC} {x : QP} {M : QM} {st : List CV} {L : QL} {l0 l1 l2 : Option CV} {r : Option Nat} : Rr C mX5_readNumber (13, [some (.inr (.inr r)), l1, l2], st, M) x = Rr C mX5_readNumber (14, [some (.inr (.inr r)), l1, l2], .inr (.inr r) :: st, M) x := g_pl (show decode cX5_readNumber 13 = .ok (.aload_n 0, 1) by decide +kernel) rfl
set_option maxRecDepth 20000 in
theorem kX5_readNumber_14 {C : QC} {x : QP} {M : QM} {st : List CV} {L : QL} {a : Nat} (hk : q_kd M a = (1, 5)) : Rr C mX5_readNumber (14, L, qr a :: st, M) x = Rr C mX5_readNumber (17, L, q_fv M a 1 :: st, M) x := g_getf (ow := 5) (e := (5, 1, RX5, 162, 0)) (show decode cX5_readNumber 14 = .ok (.getfield 18, 3) by decide +kernel) rfl hk
set_option maxRecDepth 20000 in
theorem kX5_readNumber_17 {C : QC} {x : QP} {M : QM} {L : QL} {rest : List CV} {a0 : CV} {v : CV} {M1 : QM} {b : Nat} (hb : q_kd M b = (1, 8)) (hC : C iX8_at [qr b, a0] M (some v) M1) (hw : (rest.map q_wd).sum ≤ 8) (k : Rr C mX5_readNumber (20, L, v :: rest, M1) x) : Rr C mX5_readNumber (17, L, a0 :: qr b :: rest, M) x := g_cv (ow := 5) (e := (0, 88, 8, [777, 778, 779, 78])) (as := [a0]) (show decode cX5_readNumber 17 = .ok (.invokevirtual 55, 3) by decide +kernel) rfl rfl rfl (Or.inl rfl) rfl hb hC hw k
set_option maxRecDepth 20000 in
theorem kX5_readNumber_20 {C : QC} {x : QP} {M : QM} {st : List CV} {L : QL} : Rr C mX5_readNumber (20, L, st, M) x = Rr C mX5_readNumber (22, L, qi 48 :: st, M) x := g_pl (show decode cX5_readNumber 20 = .ok (.bipush 48, 2) by decide +kernel) rfl
set_option maxRecDepth 20000 in
theorem kX5_readNumber_22 {C : QC} {x : QP} {M : QM} {st : List CV} {L : QL} {a b : Int} (ha1 : -2147483648 ≤ a) (ha2 : a < 2147483648) (hb1 : -2147483648 ≤ b) (hb2 : b < 2147483648) : Rr C mX5_readNumber (22, L, qi b :: qi a :: st, M) x = (if a < b then Rr C mX5_readNumber (77, L, st, M) x else Rr C mX5_readNumber (25, L, st, M) x) := (g_icmp (show decode cX5_readNumber 22 = .ok (.if_icmp .lt 55, 3) by decide +kernel) rfl ha1 ha2 hb1 hb2).trans (g_ite c_lt)
set_option maxRecDepth 20000 in
theorem kX5_readNumber_25 {C : QC} {x : QP} {M : QM} {st : List CV} {L : QL} {l0 l1 l2 : Option CV} {r : Option Nat} : Rr C mX5_readNumber (25, [l0, some (.inr (.inr r)), l2], st, M) x = Rr C mX5_readNumber (26, [l0, some (.inr (.inr r)), l2], .inr (.inr r) :: st, M) x := g_pl (show decode cX5_readNumber 25 = .ok (.aload_n 1, 1) by decide +kernel) rfl
set_option maxRecDepth 20000 in
theorem kX5_readNumber_26 {C : QC} {x : QP} {M : QM} {st : List CV} {L : QL} {l0 l1 l2 : Option CV} {r : Option Nat} : Rr C mX5_readNumber (26, [some (.inr (.inr r)), l1, l2], st, M) x = Rr C mX5_readNumber (27, [some (.inr (.inr r)), l1, l2], .inr (.inr r) :: st, M) x := g_pl (show decode cX5_readNumber 26 = .ok (.aload_n 0, 1) by decide +kernel) rfl
set_option maxRecDepth 20000 in
theorem kX5_readNumber_27 {C : QC} {x : QP} {M : QM} {st : List CV} {L : QL} {a : Nat} (hk : q_kd M a = (1, 5)) : Rr C mX5_readNumber (27, L, qr a :: st, M) x = Rr C mX5_readNumber (30, L, q_fv M a 1 :: st, M) x := g_getf (ow := 5) (e := (5, 1, RX5, 162, 0)) (show decode cX5_readNumber 27 = .ok (.getfield 18, 3) by decide +kernel) rfl hk
set_option maxRecDepth 20000 in
theorem kX5_readNumber_30 {C : QC} {x : QP} {M : QM} {L : QL} {rest : List CV} {a0 : CV} {v : CV} {M1 : QM} {b : Nat} (hb : q_kd M b = (1, 8)) (hC : C iX8_at [qr b, a0] M (some v) M1) (hw : (rest.map q_wd).sum ≤ 8) (k : Rr C mX5_readNumber (33, L, v :: rest, M1) x) : Rr C mX5_readNumber (30, L, a0 :: qr b :: rest, M) x := g_cv (ow := 5) (e := (0, 88, 8, [777, 778, 779, 78])) (as := [a0]) (show decode cX5_readNumber 30 = .ok (.invokevirtual 55, 3) by decide +kernel) rfl rfl rfl (Or.inl rfl) rfl hb hC hw k
set_option maxRecDepth 20000 in
theorem kX5_readNumber_33 {C : QC} {x : QP} {M : QM} {st : List CV} {L : QL} : Rr C mX5_readNumber (33, L, st, M) x = Rr C mX5_readNumber (35, L, qi 57 :: st, M) x := g_pl (show decode cX5_readNumber 33 = .ok (.bipush 57, 2) by decide +kernel) rfl
set_option maxRecDepth 20000 in
theorem kX5_readNumber_35 {C : QC} {x : QP} {M : QM} {st : List CV} {L : QL} {a b : Int} (ha1 : -2147483648 ≤ a) (ha2 : a < 2147483648) (hb1 : -2147483648 ≤ b) (hb2 : b < 2147483648) : Rr C mX5_readNumber (35, L, qi b :: qi a :: st, M) x = (if b < a then Rr C mX5_readNumber (77, L, st, M) x else Rr C mX5_readNumber (38, L, st, M) x) := (g_icmp (show decode cX5_readNumber 35 = .ok (.if_icmp .gt 42, 3) by decide +kernel) rfl ha1 ha2 hb1 hb2).trans (g_ite c_gt)
set_option maxRecDepth 20000 in
theorem kX5_readNumber_38 {C : QC} {x : QP} {M : QM} {st : List CV} {L : QL} {l0 l1 l2 : Option CV} {r : Option Nat} : Rr C mX5_readNumber (38, [some (.inr (.inr r)), l1, l2], st, M) x = Rr C mX5_readNumber (39, [some (.inr (.inr r)), l1, l2], .inr (.inr r) :: st, M) x := g_pl (show decode cX5_readNumber 38 = .ok (.aload_n 0, 1) by decide +kernel) rfl
set_option maxRecDepth 20000 in
theorem kX5_readNumber_39 {C : QC} {x : QP} {M : QM} {st : List CV} {L : QL} : Rr C mX5_readNumber (39, L, st, M) x = Rr C mX5_readNumber (41, L, qi 10 :: st, M) x := g_pl (show decode cX5_readNumber 39 = .ok (.bipush 10, 2) by decide +kernel) rfl
set_option maxRecDepth 20000 in
theorem kX5_readNumber_41 {C : QC} {x : QP} {M : QM} {st : List CV} {L : QL} {l0 l1 l2 : Option CV} {r : Option Nat} : Rr C mX5_readNumber (41, [some (.inr (.inr r)), l1, l2], st, M) x = Rr C mX5_readNumber (42, [some (.inr (.inr r)), l1, l2], .inr (.inr r) :: st, M) x := g_pl (show decode cX5_readNumber 41 = .ok (.aload_n 0, 1) by decide +kernel) rfl
set_option maxRecDepth 20000 in
theorem kX5_readNumber_42 {C : QC} {x : QP} {M : QM} {st : List CV} {L : QL} {a : Nat} (hk : q_kd M a = (1, 5)) : Rr C mX5_readNumber (42, L, qr a :: st, M) x = Rr C mX5_readNumber (45, L, q_fv M a 2 :: st, M) x := g_getf (ow := 5) (e := (5, 2, RX5, 163, 0)) (show decode cX5_readNumber 42 = .ok (.getfield 22, 3) by decide +kernel) rfl hk
set_option maxRecDepth 20000 in
theorem kX5_readNumber_45 {C : QC} {x : QP} {M : QM} {st : List CV} {L : QL} {a b : Int} : Rr C mX5_readNumber (45, L, qi b :: qi a :: st, M) x = Rr C mX5_readNumber (46, L, qi (a * b) :: st, M) x := g_pl (show decode cX5_readNumber 45 = .ok (.imul, 1) by decide +kernel) rfl
set_option maxRecDepth 20000 in
theorem kX5_readNumber_46 {C : QC} {x : QP} {M : QM} {st : List CV} {L : QL} {l0 l1 l2 : Option CV} {r : Option Nat} : Rr C mX5_readNumber (46, [l0, some (.inr (.inr r)), l2], st, M) x = Rr C mX5_readNumber (47, [l0, some (.inr (.inr r)), l2], .inr (.inr r) :: st, M) x := g_pl (show decode cX5_readNumber 46 = .ok (.aload_n 1, 1) by decide +kernel) rfl
set_option maxRecDepth 20000 in
theorem kX5_readNumber_47 {C : QC} {x : QP} {M : QM} {st : List CV} {L : QL} {l0 l1 l2 : Option CV} {r : Option Nat} : Rr C mX5_readNumber (47, [some (.inr (.inr r)), l1, l2], st, M) x = Rr C mX5_readNumber (48, [some (.inr (.inr r)), l1, l2], .inr (.inr r) :: st, M) x := g_pl (show decode cX5_readNumber 47 = .ok (.aload_n 0, 1) by decide +kernel) rfl
set_option maxRecDepth 20000 in
theorem kX5_readNumber_48 {C : QC} {x : QP} {M : QM} {st : List CV} {L : QL} {a : Nat} (hk : q_kd M a = (1, 5)) : Rr C mX5_readNumber (48, L, qr a :: st, M) x = Rr C mX5_readNumber (51, L, q_fv M a 1 :: st, M) x := g_getf (ow := 5) (e := (5, 1, RX5, 162, 0)) (show decode cX5_readNumber 48 = .ok (.getfield 18, 3) by decide +kernel) rfl hk
set_option maxRecDepth 20000 in
theorem kX5_readNumber_51 {C : QC} {x : QP} {M : QM} {L : QL} {rest : List CV} {a0 : CV} {v : CV} {M1 : QM} {b : Nat} (hb : q_kd M b = (1, 8)) (hC : C iX8_at [qr b, a0] M (some v) M1) (hw : (rest.map q_wd).sum ≤ 8) (k : Rr C mX5_readNumber (54, L, v :: rest, M1) x) : Rr C mX5_readNumber (51, L, a0 :: qr b :: rest, M) x := g_cv (ow := 5) (e := (0, 88, 8, [777, 778, 779, 78])) (as := [a0]) (show decode cX5_readNumber 51 = .ok (.invokevirtual 55, 3) by decide +kernel) rfl rfl rfl (Or.inl rfl) rfl hb hC hw k
set_option maxRecDepth 20000 in
theorem kX5_readNumber_54 {C : QC} {x : QP} {M : QM} {st : List CV} {L : QL} {a b : Int} : Rr C mX5_readNumber (54, L, qi b :: qi a :: st, M) x = Rr C mX5_readNumber (55, L, qi (a + b) :: st, M) x := g_pl (show decode cX5_readNumber 54 = .ok (.iadd, 1) by decide +kernel) rfl
set_option maxRecDepth 20000 in
theorem kX5_readNumber_55 {C : QC} {x : QP} {M : QM} {st : List CV} {L : QL} : Rr C mX5_readNumber (55, L, st, M) x = Rr C mX5_readNumber (57, L, qi 48 :: st, M) x := g_pl (show decode cX5_readNumber 55 = .ok (.bipush 48, 2) by decide +kernel) rfl
set_option maxRecDepth 20000 in
theorem kX5_readNumber_57 {C : QC} {x : QP} {M : QM} {st : List CV} {L : QL} {a b : Int} : Rr C mX5_readNumber (57, L, qi b :: qi a :: st, M) x = Rr C mX5_readNumber (58, L, qi (a - b) :: st, M) x := g_pl (show decode cX5_readNumber 57 = .ok (.isub, 1) by decide +kernel) rfl
set_option maxRecDepth 20000 in
theorem kX5_readNumber_58 {C : QC} {x : QP} {M : QM} {st : List CV} {L : QL} {z : Int} {a : Nat} (hk : q_kd M a = (1, 5)) : Rr C mX5_readNumber (58, L, qi z :: qr a :: st, M) x = Rr C mX5_readNumber (61, L, st, q_wr M a 2 (qi z)) x := g_putf (ow := 5) (ini := false) (e := (5, 2, RX5, 163, 0)) (r := (RX5, TX5, 4)) (t := tyX5) (show decode cX5_readNumber 58 = .ok (.putfield 22, 3) by decide +kernel) rfl rfl rfl rfl (by decide +kernel) hk
set_option maxRecDepth 20000 in
theorem kX5_readNumber_61 {C : QC} {x : QP} {M : QM} {st : List CV} {L : QL} {l0 l1 l2 : Option CV} {r : Option Nat} : Rr C mX5_readNumber (61, [some (.inr (.inr r)), l1, l2], st, M) x = Rr C mX5_readNumber (62, [some (.inr (.inr r)), l1, l2], .inr (.inr r) :: st, M) x := g_pl (show decode cX5_readNumber 61 = .ok (.aload_n 0, 1) by decide +kernel) rfl
set_option maxRecDepth 20000 in
theorem kX5_readNumber_62i {C : QC} {x : QP} {M : QM} {st : List CV} {L : QL} {a : Int} : Rr C mX5_readNumber (62, L, qi a :: st, M) x = Rr C mX5_readNumber (63, L, qi a :: qi a :: st, M) x := g_pl (show decode cX5_readNumber 62 = .ok (.dup, 1) by decide +kernel) rfl
set_option maxRecDepth 20000 in
theorem kX5_readNumber_62r {C : QC} {x : QP} {M : QM} {st : List CV} {L : QL} {a : Option Nat} : Rr C mX5_readNumber (62, L, .inr (.inr a) :: st, M) x = Rr C mX5_readNumber (63, L, .inr (.inr a) :: .inr (.inr a) :: st, M) x := g_pl (show decode cX5_readNumber 62 = .ok (.dup, 1) by decide +kernel) rfl
set_option maxRecDepth 20000 in
theorem kX5_readNumber_63 {C : QC} {x : QP} {M : QM} {st : List CV} {L : QL} {a : Nat} (hk : q_kd M a = (1, 5)) : Rr C mX5_readNumber (63, L, qr a :: st, M) x = Rr C mX5_readNumber (66, L, q_fv M a 1 :: st, M) x := g_getf (ow := 5) (e := (5, 1, RX5, 162, 0)) (show decode cX5_readNumber 63 = .ok (.getfield 18, 3) by decide +kernel) rfl hk
set_option maxRecDepth 20000 in
theorem kX5_readNumber_66 {C : QC} {x : QP} {M : QM} {st : List CV} {L : QL} : Rr C mX5_readNumber (66, L, st, M) x = Rr C mX5_readNumber (67, L, qi 1 :: st, M) x := g_pl (show decode cX5_readNumber 66 = .ok (.iconst 1, 1) by decide +kernel) rfl
set_option maxRecDepth 20000 in
theorem kX5_readNumber_67 {C : QC} {x : QP} {M : QM} {st : List CV} {L : QL} {a b : Int} : Rr C mX5_readNumber (67, L, qi b :: qi a :: st, M) x = Rr C mX5_readNumber (68, L, qi (a + b) :: st, M) x := g_pl (show decode cX5_readNumber 67 = .ok (.iadd, 1) by decide +kernel) rfl
set_option maxRecDepth 20000 in
theorem kX5_readNumber_68 {C : QC} {x : QP} {M : QM} {st : List CV} {L : QL} {z : Int} {a : Nat} (hk : q_kd M a = (1, 5)) : Rr C mX5_readNumber (68, L, qi z :: qr a :: st, M) x = Rr C mX5_readNumber (71, L, st, q_wr M a 1 (qi z)) x := g_putf (ow := 5) (ini := false) (e := (5, 1, RX5, 162, 0)) (r := (RX5, TX5, 4)) (t := tyX5) (show decode cX5_readNumber 68 = .ok (.putfield 18, 3) by decide +kernel) rfl rfl rfl rfl (by decide +kernel) hk
set_option maxRecDepth 20000 in
theorem kX5_readNumber_71 {C : QC} {x : QP} {M : QM} {st : List CV} {L : QL} {l0 l1 l2 : Option CV} {z : Int} : Rr C mX5_readNumber (71, [l0, l1, some (qi z)], st, M) x = Rr C mX5_readNumber (74, [l0, q_cut l1, some (qi (z + 1))], st, M) x := g_pl (show decode cX5_readNumber 71 = .ok (.iinc 2 1, 3) by decide +kernel) rfl
set_option maxRecDepth 20000 in
theorem kX5_readNumber_74 {C : QC} {x : QP} {M : QM} {st : List CV} {L : QL} : Rr C mX5_readNumber (74, L, st, M) x = Rr C mX5_readNumber (7, L, st, M) x := g_pl (show decode cX5_readNumber 74 = .ok (.goto (-67), 3) by decide +kernel) rfl
set_option maxRecDepth 20000 in
theorem kX5_readNumber_77 {C : QC} {x : QP} {M : QM} {st : List CV} {L : QL} {l0 l1 l2 : Option CV} {z : Int} : Rr C mX5_readNumber (77, [l0, l1, some (qi z)], st, M) x = Rr C mX5_readNumber (78, [l0, l1, some (qi z)], qi z :: st, M) x := g_pl (show decode cX5_readNumber 77 = .ok (.iload_n 2, 1) by decide +kernel) rfl
set_option maxRecDepth 20000 in
theorem kX5_readNumber_78 {C : QC} {x : QP} {M : QM} {st : List CV} {L : QL} {a : Int} (ha1 : -2147483648 ≤ a) (ha2 : a < 2147483648) : Rr C mX5_readNumber (78, L, qi a :: st, M) x = (if 0 < a then Rr C mX5_readNumber (81, L, st, M) x else Rr C mX5_readNumber (85, L, st, M) x) := (g_if (show decode cX5_readNumber 78 = .ok (.ifCond .le 7, 3) by decide +kernel) rfl ha1 ha2).trans (g_itn c_le)
set_option maxRecDepth 20000 in
theorem kX5_readNumber_81 {C : QC} {x : QP} {M : QM} {st : List CV} {L : QL} : Rr C mX5_readNumber (81, L, st, M) x = Rr C mX5_readNumber (82, L, qi 1 :: st, M) x := g_pl (show decode cX5_readNumber 81 = .ok (.iconst 1, 1) by decide +kernel) rfl
set_option maxRecDepth 20000 in
theorem kX5_readNumber_82 {C : QC} {x : QP} {M : QM} {st : List CV} {L : QL} : Rr C mX5_readNumber (82, L, st, M) x = Rr C mX5_readNumber (86, L, st, M) x := g_pl (show decode cX5_readNumber 82 = .ok (.goto 4, 3) by decide +kernel) rfl
set_option maxRecDepth 20000 in
theorem kX5_readNumber_85 {C : QC} {x : QP} {M : QM} {st : List CV} {L : QL} : Rr C mX5_readNumber (85, L, st, M) x = Rr C mX5_readNumber (86, L, qi 0 :: st, M) x := g_pl (show decode cX5_readNumber 85 = .ok (.iconst 0, 1) by decide +kernel) rfl
set_option maxRecDepth 20000 in
theorem kX5_readNumber_86 {C : QC} {x : QP} {M : QM} {st : List CV} {L : QL} {z : Int} (hz : z = 0 ∨ z = 1) : Rr C mX5_readNumber (86, L, [qi z], M) x = x (some (qi z)) M := g_iret (show decode cX5_readNumber 86 = .ok (.ireturn, 1) by decide +kernel) (by rcases hz with rfl | rfl <;> rfl)
set_option maxRecDepth 20000 in
theorem eX5_readNumber {d : Nat} {M : QM} {x : QP} {a : Nat} {v0 : Option Nat} : q_T (d + 1) iX5_readNumber [qr a, .inr (.inr v0)] M x = Rr (q_C d) mX5_readNumber (0, [some (qr a), some (.inr (.inr v0)), none], [], M) x := g_entryT (e := _) rfl (Nat.le_of_ble_eq_true rfl) rfl rfl
def mX5_readWord : QI := (5, cX5_readWord, false, some .boolean)
set_option maxRecDepth 20000 in
theorem kX5_readWord_0 {C : QC} {x : QP} {M : QM} {st : List CV} {L : QL} : Rr C mX5_readWord (0, L, st, M) x = Rr C mX5_readWord (1, L, qi 0 :: st, M) x := g_pl (show decode cX5_readWord 0 = .ok (.iconst 0, 1) by decide +kernel) rfl
set_option maxRecDepth 20000 in
theorem kX5_readWord_1 {C : QC} {x : QP} {M : QM} {st : List CV} {L : QL} {l0 l1 l2 : Option CV} {z : Int} : Rr C mX5_readWord (1, [l0, l1, l2], qi z :: st, M) x = Rr C mX5_readWord (2, [l0, q_cut l1, some (qi z)], st, M) x := g_pl (show decode cX5_readWord 1 = .ok (.istore_n 2, 1) by decide +kernel) rfl
set_option maxRecDepth 20000 in
theorem kX5_readWord_2 {C : QC} {x : QP} {M : QM} {st : List CV} {L : QL} {l0 l1 l2 : Option CV} {z : Int} : Rr C mX5_readWord (2, [l0, l1, some (qi z)], st, M) x = Rr C mX5_readWord (3, [l0, l1, some (qi z)], qi z :: st, M) x := g_pl (show decode cX5_readWord 2 = .ok (.iload_n 2, 1) by decide +kernel) rfl
set_option maxRecDepth 20000 in
theorem kX5_readWord_3 {C : QC} {x : QP} {M : QM} {st : List CV} {L : QL} : Rr C mX5_readWord (3, L, st, M) x = Rr C mX5_readWord (5, L, qi 8 :: st, M) x := g_pl (show decode cX5_readWord 3 = .ok (.bipush 8, 2) by decide +kernel) rfl
set_option maxRecDepth 20000 in
theorem kX5_readWord_5 {C : QC} {x : QP} {M : QM} {st : List CV} {L : QL} {a b : Int} (ha1 : -2147483648 ≤ a) (ha2 : a < 2147483648) (hb1 : -2147483648 ≤ b) (hb2 : b < 2147483648) : Rr C mX5_readWord (5, L, qi b :: qi a :: st, M) x = (if a < b then Rr C mX5_readWord (8, L, st, M) x else Rr C mX5_readWord (63, L, st, M) x) := (g_icmp (show decode cX5_readWord 5 = .ok (.if_icmp .ge 58, 3) by decide +kernel) rfl ha1 ha2 hb1 hb2).trans (g_itn c_ge)
set_option maxRecDepth 20000 in
theorem kX5_readWord_8 {C : QC} {x : QP} {M : QM} {st : List CV} {L : QL} {l0 l1 l2 : Option CV} {r : Option Nat} : Rr C mX5_readWord (8, [l0, some (.inr (.inr r)), l2], st, M) x = Rr C mX5_readWord (9, [l0, some (.inr (.inr r)), l2], .inr (.inr r) :: st, M) x := g_pl (show decode cX5_readWord 8 = .ok (.aload_n 1, 1) by decide +kernel) rfl
set_option maxRecDepth 20000 in
theorem kX5_readWord_9 {C : QC} {x : QP} {M : QM} {st : List CV} {L : QL} {l0 l1 l2 : Option CV} {r : Option Nat} : Rr C mX5_readWord (9, [some (.inr (.inr r)), l1, l2], st, M) x = Rr C mX5_readWord (10, [some (.inr (.inr r)), l1, l2], .inr (.inr r) :: st, M) x := g_pl (show decode cX5_readWord 9 = .ok (.aload_n 0, 1) by decide +kernel) rfl
set_option maxRecDepth 20000 in
theorem kX5_readWord_10 {C : QC} {x : QP} {M : QM} {st : List CV} {L : QL} {a : Nat} (hk : q_kd M a = (1, 5)) : Rr C mX5_readWord (10, L, qr a :: st, M) x = Rr C mX5_readWord (13, L, q_fv M a 1 :: st, M) x := g_getf (ow := 5) (e := (5, 1, RX5, 162, 0)) (show decode cX5_readWord 10 = .ok (.getfield 18, 3) by decide +kernel) rfl hk
set_option maxRecDepth 20000 in
theorem kX5_readWord_13 {C : QC} {x : QP} {M : QM} {L : QL} {rest : List CV} {a0 : CV} {v : CV} {M1 : QM} {b : Nat} (hb : q_kd M b = (1, 8)) (hC : C iX8_at [qr b, a0] M (some v) M1) (hw : (rest.map q_wd).sum ≤ 8) (k : Rr C mX5_readWord (16, L, v :: rest, M1) x) : Rr C mX5_readWord (13, L, a0 :: qr b :: rest, M) x := g_cv (ow := 5) (e := (0, 88, 8, [777, 778, 779, 78])) (as := [a0]) (show decode cX5_readWord 13 = .ok (.invokevirtual 55, 3) by decide +kernel) rfl rfl rfl (Or.inl rfl) rfl hb hC hw k
set_option maxRecDepth 20000 in
theorem kX5_readWord_16 {C : QC} {x : QP} {M : QM} {L : QL} {rest : List CV} {a0 : CV} {v : CV} {M1 : QM} (hC : C iX10_isLetter [a0] M (some v) M1) (hw : (rest.map q_wd).sum ≤ 8) (k : Rr C mX5_readWord (19, L, v :: rest, M1) x) : Rr C mX5_readWord (16, L, a0 :: rest, M) x := g_cs (ow := 5) (e := (1, 21, 0, [800, 446, 95])) (as := [a0]) (show decode cX5_readWord 16 = .ok (.invokestatic 78, 3) by decide +kernel) rfl rfl rfl rfl (Or.inl rfl) rfl hC hw k
set_option maxRecDepth 20000 in
theorem kX5_readWord_19 {C : QC} {x : QP} {M : QM} {st : List CV} {L : QL} {a : Int} (ha1 : -2147483648 ≤ a) (ha2 : a < 2147483648) : Rr C mX5_readWord (19, L, qi a :: st, M) x = (if a = 0 then Rr C mX5_readWord (63, L, st, M) x else Rr C mX5_readWord (22, L, st, M) x) := (g_if (show decode cX5_readWord 19 = .ok (.ifCond .eq 44, 3) by decide +kernel) rfl ha1 ha2).trans (g_ite c_eq)
set_option maxRecDepth 20000 in
theorem kX5_readWord_22 {C : QC} {x : QP} {M : QM} {st : List CV} {L : QL} {l0 l1 l2 : Option CV} {r : Option Nat} : Rr C mX5_readWord (22, [some (.inr (.inr r)), l1, l2], st, M) x = Rr C mX5_readWord (23, [some (.inr (.inr r)), l1, l2], .inr (.inr r) :: st, M) x := g_pl (show decode cX5_readWord 22 = .ok (.aload_n 0, 1) by decide +kernel) rfl
set_option maxRecDepth 20000 in
theorem kX5_readWord_23 {C : QC} {x : QP} {M : QM} {st : List CV} {L : QL} {l0 l1 l2 : Option CV} {r : Option Nat} : Rr C mX5_readWord (23, [some (.inr (.inr r)), l1, l2], st, M) x = Rr C mX5_readWord (24, [some (.inr (.inr r)), l1, l2], .inr (.inr r) :: st, M) x := g_pl (show decode cX5_readWord 23 = .ok (.aload_n 0, 1) by decide +kernel) rfl
set_option maxRecDepth 20000 in
theorem kX5_readWord_24 {C : QC} {x : QP} {M : QM} {st : List CV} {L : QL} {a : Nat} (hk : q_kd M a = (1, 5)) : Rr C mX5_readWord (24, L, qr a :: st, M) x = Rr C mX5_readWord (27, L, q_fv M a 3 :: st, M) x := g_getf (ow := 5) (e := (5, 3, RX5, 164, 0)) (show decode cX5_readWord 24 = .ok (.getfield 25, 3) by decide +kernel) rfl hk
set_option maxRecDepth 20000 in
theorem kX5_readWord_27 {C : QC} {x : QP} {M : QM} {st : List CV} {L : QL} {l0 l1 l2 : Option CV} {z : Int} : Rr C mX5_readWord (27, [l0, l1, some (qi z)], st, M) x = Rr C mX5_readWord (28, [l0, l1, some (qi z)], qi z :: st, M) x := g_pl (show decode cX5_readWord 27 = .ok (.iload_n 2, 1) by decide +kernel) rfl
set_option maxRecDepth 20000 in
theorem kX5_readWord_28 {C : QC} {x : QP} {M : QM} {st : List CV} {L : QL} {l0 l1 l2 : Option CV} {r : Option Nat} : Rr C mX5_readWord (28, [l0, some (.inr (.inr r)), l2], st, M) x = Rr C mX5_readWord (29, [l0, some (.inr (.inr r)), l2], .inr (.inr r) :: st, M) x := g_pl (show decode cX5_readWord 28 = .ok (.aload_n 1, 1) by decide +kernel) rfl
set_option maxRecDepth 20000 in
theorem kX5_readWord_29 {C : QC} {x : QP} {M : QM} {st : List CV} {L : QL} {l0 l1 l2 : Option CV} {r : Option Nat} : Rr C mX5_readWord (29, [some (.inr (.inr r)), l1, l2], st, M) x = Rr C mX5_readWord (30, [some (.inr (.inr r)), l1, l2], .inr (.inr r) :: st, M) x := g_pl (show decode cX5_readWord 29 = .ok (.aload_n 0, 1) by decide +kernel) rfl
set_option maxRecDepth 20000 in
theorem kX5_readWord_30 {C : QC} {x : QP} {M : QM} {st : List CV} {L : QL} {a : Nat} (hk : q_kd M a = (1, 5)) : Rr C mX5_readWord (30, L, qr a :: st, M) x = Rr C mX5_readWord (33, L, q_fv M a 1 :: st, M) x := g_getf (ow := 5) (e := (5, 1, RX5, 162, 0)) (show decode cX5_readWord 30 = .ok (.getfield 18, 3) by decide +kernel) rfl hk
set_option maxRecDepth 20000 in
theorem kX5_readWord_33 {C : QC} {x : QP} {M : QM} {L : QL} {rest : List CV} {a0 : CV} {v : CV} {M1 : QM} {b : Nat} (hb : q_kd M b = (1, 8)) (hC : C iX8_at [qr b, a0] M (some v) M1) (hw : (rest.map q_wd).sum ≤ 8) (k : Rr C mX5_readWord (36, L, v :: rest, M1) x) : Rr C mX5_readWord (33, L, a0 :: qr b :: rest, M) x := g_cv (ow := 5) (e := (0, 88, 8, [777, 778, 779, 78])) (as := [a0]) (show decode cX5_readWord 33 = .ok (.invokevirtual 55, 3) by decide +kernel) rfl rfl rfl (Or.inl rfl) rfl hb hC hw k
set_option maxRecDepth 20000 in
theorem kX5_readWord_36 {C : QC} {x : QP} {M : QM} {st : List CV} {L : QL} : Rr C mX5_readWord (36, L, st, M) x = Rr C mX5_readWord (38, L, qi 97 :: st, M) x := g_pl (show decode cX5_readWord 36 = .ok (.bipush 97, 2) by decide +kernel) rfl
set_option maxRecDepth 20000 in
theorem kX5_readWord_38 {C : QC} {x : QP} {M : QM} {st : List CV} {L : QL} {a b : Int} : Rr C mX5_readWord (38, L, qi b :: qi a :: st, M) x = Rr C mX5_readWord (39, L, qi (a - b) :: st, M) x := g_pl (show decode cX5_readWord 38 = .ok (.isub, 1) by decide +kernel) rfl
set_option maxRecDepth 20000 in
theorem kX5_readWord_39 {C : QC} {x : QP} {M : QM} {st : List CV} {L : QL} : Rr C mX5_readWord (39, L, st, M) x = Rr C mX5_readWord (40, L, qi 1 :: st, M) x := g_pl (show decode cX5_readWord 39 = .ok (.iconst 1, 1) by decide +kernel) rfl
set_option maxRecDepth 20000 in
theorem kX5_readWord_40 {C : QC} {x : QP} {M : QM} {st : List CV} {L : QL} {a b : Int} : Rr C mX5_readWord (40, L, qi b :: qi a :: st, M) x = Rr C mX5_readWord (41, L, qi (a + b) :: st, M) x := g_pl (show decode cX5_readWord 40 = .ok (.iadd, 1) by decide +kernel) rfl
set_option maxRecDepth 20000 in
theorem kX5_readWord_41 {C : QC} {x : QP} {M : QM} {L : QL} {rest : List CV} {a0 a1 a2 : CV} {v : CV} {M1 : QM} (hC : C iX10_with [a0, a1, a2] M (some v) M1) (hw : (rest.map q_wd).sum ≤ 8) (k : Rr C mX5_readWord (44, L, v :: rest, M1) x) : Rr C mX5_readWord (41, L, a2 :: a1 :: a0 :: rest, M) x := g_cs (ow := 5) (e := (1, 22, 0, [801, 449, 95])) (as := [a0, a1, a2]) (show decode cX5_readWord 41 = .ok (.invokestatic 84, 3) by decide +kernel) rfl rfl rfl rfl (Or.inl rfl) rfl hC hw k
set_option maxRecDepth 20000 in
theorem kX5_readWord_44 {C : QC} {x : QP} {M : QM} {st : List CV} {L : QL} {z : Int} {a : Nat} (hk : q_kd M a = (1, 5)) : Rr C mX5_readWord (44, L, ql z :: qr a :: st, M) x = Rr C mX5_readWord (47, L, st, q_wr M a 3 (ql z)) x := g_putf (ow := 5) (ini := false) (e := (5, 3, RX5, 164, 0)) (r := (RX5, TX5, 4)) (t := tyX5) (show decode cX5_readWord 44 = .ok (.putfield 25, 3) by decide +kernel) rfl rfl rfl rfl (by decide +kernel) hk
set_option maxRecDepth 20000 in
theorem kX5_readWord_47 {C : QC} {x : QP} {M : QM} {st : List CV} {L : QL} {l0 l1 l2 : Option CV} {r : Option Nat} : Rr C mX5_readWord (47, [some (.inr (.inr r)), l1, l2], st, M) x = Rr C mX5_readWord (48, [some (.inr (.inr r)), l1, l2], .inr (.inr r) :: st, M) x := g_pl (show decode cX5_readWord 47 = .ok (.aload_n 0, 1) by decide +kernel) rfl
set_option maxRecDepth 20000 in
theorem kX5_readWord_48i {C : QC} {x : QP} {M : QM} {st : List CV} {L : QL} {a : Int} : Rr C mX5_readWord (48, L, qi a :: st, M) x = Rr C mX5_readWord (49, L, qi a :: qi a :: st, M) x := g_pl (show decode cX5_readWord 48 = .ok (.dup, 1) by decide +kernel) rfl
set_option maxRecDepth 20000 in
theorem kX5_readWord_48r {C : QC} {x : QP} {M : QM} {st : List CV} {L : QL} {a : Option Nat} : Rr C mX5_readWord (48, L, .inr (.inr a) :: st, M) x = Rr C mX5_readWord (49, L, .inr (.inr a) :: .inr (.inr a) :: st, M) x := g_pl (show decode cX5_readWord 48 = .ok (.dup, 1) by decide +kernel) rfl
set_option maxRecDepth 20000 in
theorem kX5_readWord_49 {C : QC} {x : QP} {M : QM} {st : List CV} {L : QL} {a : Nat} (hk : q_kd M a = (1, 5)) : Rr C mX5_readWord (49, L, qr a :: st, M) x = Rr C mX5_readWord (52, L, q_fv M a 1 :: st, M) x := g_getf (ow := 5) (e := (5, 1, RX5, 162, 0)) (show decode cX5_readWord 49 = .ok (.getfield 18, 3) by decide +kernel) rfl hk
set_option maxRecDepth 20000 in
theorem kX5_readWord_52 {C : QC} {x : QP} {M : QM} {st : List CV} {L : QL} : Rr C mX5_readWord (52, L, st, M) x = Rr C mX5_readWord (53, L, qi 1 :: st, M) x := g_pl (show decode cX5_readWord 52 = .ok (.iconst 1, 1) by decide +kernel) rfl
set_option maxRecDepth 20000 in
theorem kX5_readWord_53 {C : QC} {x : QP} {M : QM} {st : List CV} {L : QL} {a b : Int} : Rr C mX5_readWord (53, L, qi b :: qi a :: st, M) x = Rr C mX5_readWord (54, L, qi (a + b) :: st, M) x := g_pl (show decode cX5_readWord 53 = .ok (.iadd, 1) by decide +kernel) rfl
set_option maxRecDepth 20000 in
theorem kX5_readWord_54 {C : QC} {x : QP} {M : QM} {st : List CV} {L : QL} {z : Int} {a : Nat} (hk : q_kd M a = (1, 5)) : Rr C mX5_readWord (54, L, qi z :: qr a :: st, M) x = Rr C mX5_readWord (57, L, st, q_wr M a 1 (qi z)) x := g_putf (ow := 5) (ini := false) (e := (5, 1, RX5, 162, 0)) (r := (RX5, TX5, 4)) (t := tyX5) (show decode cX5_readWord 54 = .ok (.putfield 18, 3) by decide +kernel) rfl rfl rfl rfl (by decide +kernel) hk
set_option maxRecDepth 20000 in
theorem kX5_readWord_57 {C : QC} {x : QP} {M : QM} {st : List CV} {L : QL} {l0 l1 l2 : Option CV} {z : Int} : Rr C mX5_readWord (57, [l0, l1, some (qi z)], st, M) x = Rr C mX5_readWord (60, [l0, q_cut l1, some (qi (z + 1))], st, M) x := g_pl (show decode cX5_readWord 57 = .ok (.iinc 2 1, 3) by decide +kernel) rfl
set_option maxRecDepth 20000 in
theorem kX5_readWord_60 {C : QC} {x : QP} {M : QM} {st : List CV} {L : QL} : Rr C mX5_readWord (60, L, st, M) x = Rr C mX5_readWord (2, L, st, M) x := g_pl (show decode cX5_readWord 60 = .ok (.goto (-58), 3) by decide +kernel) rfl
set_option maxRecDepth 20000 in
theorem kX5_readWord_63 {C : QC} {x : QP} {M : QM} {st : List CV} {L : QL} {l0 l1 l2 : Option CV} {z : Int} : Rr C mX5_readWord (63, [l0, l1, some (qi z)], st, M) x = Rr C mX5_readWord (64, [l0, l1, some (qi z)], qi z :: st, M) x := g_pl (show decode cX5_readWord 63 = .ok (.iload_n 2, 1) by decide +kernel) rfl
set_option maxRecDepth 20000 in
theorem kX5_readWord_64 {C : QC} {x : QP} {M : QM} {st : List CV} {L : QL} {a : Int} (ha1 : -2147483648 ≤ a) (ha2 : a < 2147483648) : Rr C mX5_readWord (64, L, qi a :: st, M) x = (if 0 < a then Rr C mX5_readWord (67, L, st, M) x else Rr C mX5_readWord (71, L, st, M) x) := (g_if (show decode cX5_readWord 64 = .ok (.ifCond .le 7, 3) by decide +kernel) rfl ha1 ha2).trans (g_itn c_le)
set_option maxRecDepth 20000 in
theorem kX5_readWord_67 {C : QC} {x : QP} {M : QM} {st : List CV} {L : QL} : Rr C mX5_readWord (67, L, st, M) x = Rr C mX5_readWord (68, L, qi 1 :: st, M) x := g_pl (show decode cX5_readWord 67 = .ok (.iconst 1, 1) by decide +kernel) rfl
set_option maxRecDepth 20000 in
theorem kX5_readWord_68 {C : QC} {x : QP} {M : QM} {st : List CV} {L : QL} : Rr C mX5_readWord (68, L, st, M) x = Rr C mX5_readWord (72, L, st, M) x := g_pl (show decode cX5_readWord 68 = .ok (.goto 4, 3) by decide +kernel) rfl
set_option maxRecDepth 20000 in
theorem kX5_readWord_71 {C : QC} {x : QP} {M : QM} {st : List CV} {L : QL} : Rr C mX5_readWord (71, L, st, M) x = Rr C mX5_readWord (72, L, qi 0 :: st, M) x := g_pl (show decode cX5_readWord 71 = .ok (.iconst 0, 1) by decide +kernel) rfl
set_option maxRecDepth 20000 in
theorem kX5_readWord_72 {C : QC} {x : QP} {M : QM} {st : List CV} {L : QL} {z : Int} (hz : z = 0 ∨ z = 1) : Rr C mX5_readWord (72, L, [qi z], M) x = x (some (qi z)) M := g_iret (show decode cX5_readWord 72 = .ok (.ireturn, 1) by decide +kernel) (by rcases hz with rfl | rfl <;> rfl)
set_option maxRecDepth 20000 in
theorem eX5_readWord {d : Nat} {M : QM} {x : QP} {a : Nat} {v0 : Option Nat} : q_T (d + 1) iX5_readWord [qr a, .inr (.inr v0)] M x = Rr (q_C d) mX5_readWord (0, [some (qr a), some (.inr (.inr v0)), none], [], M) x := g_entryT (e := _) rfl (Nat.le_of_ble_eq_true rfl) rfl rfl
