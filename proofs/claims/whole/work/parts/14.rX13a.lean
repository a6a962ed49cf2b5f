/-! rules, one for each instruction: written by a program out of the code -/
def mX13_init : QI := (13, cX13_init, true, none)
set_option maxRecDepth 20000 in
theorem kX13_init_0 {C : QC} {x : QP} {M : QM} {st : List CV} {L : QL} {r : Option Nat} : Rr C mX13_init (0, [some (.inr (.inr r))], st, M) x = Rr C mX13_init (1, [some (.inr (.inr r))], .inr (.inr r) :: st, M) x := g_pl (show decode cX13_init 0 = .ok (.aload_n 0, 1) by decide +kernel) rfl
set_option maxRecDepth 20000 in
theorem kX13_init_1 {C : QC} {x : QP} {M : QM} {st : List CV} {L : QL} {a : Nat} (hw : (st.map q_wd).sum ≤ 8) : Rr C mX13_init (1, L, qr a :: st, M) x = Rr C mX13_init (4, L, st, M) x := g_obj (ow := 13) (e := 1299) (show decode cX13_init 1 = .ok (.invokespecial 3, 3) by decide +kernel) rfl hw
set_option maxRecDepth 20000 in
theorem kX13_init_4 {C : QC} {x : QP} {M : QM} {st : List CV} {L : QL} {r : Option Nat} : Rr C mX13_init (4, [some (.inr (.inr r))], st, M) x = Rr C mX13_init (5, [some (.inr (.inr r))], .inr (.inr r) :: st, M) x := g_pl (show decode cX13_init 4 = .ok (.aload_n 0, 1) by decide +kernel) rfl
set_option maxRecDepth 20000 in
theorem kX13_init_5 {C : QC} {x : QP} {M : QM} {st : List CV} {L : QL} : Rr C mX13_init (5, L, st, M) x = Rr C mX13_init (7, L, qi 121275 :: st, M) x := g_ldc (ow := 13) (e := (121275, 1300)) (show decode cX13_init 5 = .ok (.ldc 9, 2) by decide +kernel) rfl
set_option maxRecDepth 20000 in
theorem kX13_init_7 {C : QC} {x : QP} {M : QM} {st : List CV} {L : QL} {n : Int} (h0 : 0 ≤ n) (h1 : n ≤ 60000000) : Rr C mX13_init (7, L, qi n :: st, M) x = Rr C mX13_init (9, L, qr (q_top M) :: st, q_al M (2, n.toNat) n.toNat (fun _ => qi 0)) x := g_newI (show decode cX13_init 7 = .ok (.newarray .int, 2) by decide +kernel) h0 h1
set_option maxRecDepth 20000 in
theorem kX13_init_9 {C : QC} {x : QP} {M : QM} {st : List CV} {L : QL} {z : Option Nat} {a : Nat} (hk : q_kd M a = (1, 13)) : Rr C mX13_init (9, L, .inr (.inr z) :: qr a :: st, M) x = Rr C mX13_init (12, L, st, q_wr M a 0 (.inr (.inr z))) x := g_putf (ow := 13) (ini := true) (e := (13, 0, RX13, 1301, 0)) (r := (RX13, TX13, 17)) (t := tyX13) (show decode cX13_init 9 = .ok (.putfield 10, 3) by decide +kernel) rfl rfl rfl rfl (by decide +kernel) hk
set_option maxRecDepth 20000 in
theorem kX13_init_12 {C : QC} {x : QP} {M : QM} {st : List CV} {L : QL} {r : Option Nat} : Rr C mX13_init (12, [some (.inr (.inr r))], st, M) x = Rr C mX13_init (13, [some (.inr (.inr r))], .inr (.inr r) :: st, M) x := g_pl (show decode cX13_init 12 = .ok (.aload_n 0, 1) by decide +kernel) rfl
set_option maxRecDepth 20000 in
theorem kX13_init_13 {C : QC} {x : QP} {M : QM} {st : List CV} {L : QL} : Rr C mX13_init (13, L, st, M) x = Rr C mX13_init (15, L, qi 80 :: st, M) x := g_pl (show decode cX13_init 13 = .ok (.bipush 80, 2) by decide +kernel) rfl
set_option maxRecDepth 20000 in
theorem kX13_init_15 {C : QC} {x : QP} {M : QM} {st : List CV} {L : QL} {n : Int} (h0 : 0 ≤ n) (h1 : n ≤ 60000000) : Rr C mX13_init (15, L, qi n :: st, M) x = Rr C mX13_init (17, L, qr (q_top M) :: st, q_al M (2, n.toNat) n.toNat (fun _ => qi 0)) x := g_newI (show decode cX13_init 15 = .ok (.newarray .int, 2) by decide +kernel) h0 h1
set_option maxRecDepth 20000 in
theorem kX13_init_17 {C : QC} {x : QP} {M : QM} {st : List CV} {L : QL} {z : Option Nat} {a : Nat} (hk : q_kd M a = (1, 13)) : Rr C mX13_init (17, L, .inr (.inr z) :: qr a :: st, M) x = Rr C mX13_init (20, L, st, q_wr M a 3 (.inr (.inr z))) x := g_putf (ow := 13) (ini := true) (e := (13, 3, RX13, 1304, 0)) (r := (RX13, TX13, 17)) (t := tyX13) (show decode cX13_init 17 = .ok (.putfield 14, 3) by decide +kernel) rfl rfl rfl rfl (by decide +kernel) hk
set_option maxRecDepth 20000 in
theorem kX13_init_20 {C : QC} {x : QP} {M : QM} {st : List CV} {L : QL} {r : Option Nat} : Rr C mX13_init (20, [some (.inr (.inr r))], st, M) x = Rr C mX13_init (21, [some (.inr (.inr r))], .inr (.inr r) :: st, M) x := g_pl (show decode cX13_init 20 = .ok (.aload_n 0, 1) by decide +kernel) rfl
set_option maxRecDepth 20000 in
theorem kX13_init_21 {C : QC} {x : QP} {M : QM} {st : List CV} {L : QL} : Rr C mX13_init (21, L, st, M) x = Rr C mX13_init (23, L, qi (-5) :: st, M) x := g_pl (show decode cX13_init 21 = .ok (.bipush (-5), 2) by decide +kernel) rfl
set_option maxRecDepth 20000 in
theorem kX13_init_23 {C : QC} {x : QP} {M : QM} {st : List CV} {L : QL} {z : Int} {a : Nat} (hk : q_kd M a = (1, 13)) : Rr C mX13_init (23, L, qi z :: qr a :: st, M) x = Rr C mX13_init (26, L, st, q_wr M a 7 (qi z)) x := g_putf (ow := 13) (ini := true) (e := (13, 7, RX13, 1308, 0)) (r := (RX13, TX13, 17)) (t := tyX13) (show decode cX13_init 23 = .ok (.putfield 17, 3) by decide +kernel) rfl rfl rfl rfl (by decide +kernel) hk
set_option maxRecDepth 20000 in
theorem kX13_init_26 {C : QC} {x : QP} {M : QM} {st : List CV} {L : QL} {r : Option Nat} : Rr C mX13_init (26, [some (.inr (.inr r))], st, M) x = Rr C mX13_init (27, [some (.inr (.inr r))], .inr (.inr r) :: st, M) x := g_pl (show decode cX13_init 26 = .ok (.aload_n 0, 1) by decide +kernel) rfl
set_option maxRecDepth 20000 in
theorem kX13_init_27 {C : QC} {x : QP} {M : QM} {st : List CV} {L : QL} : Rr C mX13_init (27, L, st, M) x = Rr C mX13_init (29, L, qi 8 :: st, M) x := g_pl (show decode cX13_init 27 = .ok (.bipush 8, 2) by decide +kernel) rfl
set_option maxRecDepth 20000 in
theorem kX13_init_29 {C : QC} {x : QP} {M : QM} {st : List CV} {L : QL} {n : Int} (h0 : 0 ≤ n) (h1 : n ≤ 60000000) : Rr C mX13_init (29, L, qi n :: st, M) x = Rr C mX13_init (31, L, qr (q_top M) :: st, q_al M (2, n.toNat) n.toNat (fun _ => qi 0)) x := g_newI (show decode cX13_init 29 = .ok (.newarray .int, 2) by decide +kernel) h0 h1
set_option maxRecDepth 20000 in
theorem kX13_init_31 {C : QC} {x : QP} {M : QM} {st : List CV} {L : QL} {z : Option Nat} {a : Nat} (hk : q_kd M a = (1, 13)) : Rr C mX13_init (31, L, .inr (.inr z) :: qr a :: st, M) x = Rr C mX13_init (34, L, st, q_wr M a 8 (.inr (.inr z))) x := g_putf (ow := 13) (ini := true) (e := (13, 8, RX13, 1309, 0)) (r := (RX13, TX13, 17)) (t := tyX13) (show decode cX13_init 31 = .ok (.putfield 21, 3) by decide +kernel) rfl rfl rfl rfl (by decide +kernel) hk
set_option maxRecDepth 20000 in
theorem kX13_init_34 {C : QC} {x : QP} {M : QM} {st : List CV} {L : QL} {r : Option Nat} : Rr C mX13_init (34, [some (.inr (.inr r))], st, M) x = Rr C mX13_init (35, [some (.inr (.inr r))], .inr (.inr r) :: st, M) x := g_pl (show decode cX13_init 34 = .ok (.aload_n 0, 1) by decide +kernel) rfl
set_option maxRecDepth 20000 in
theorem kX13_init_35 {C : QC} {x : QP} {M : QM} {st : List CV} {L : QL} : Rr C mX13_init (35, L, st, M) x = Rr C mX13_init (38, L, qi 1040 :: st, M) x := g_pl (show decode cX13_init 35 = .ok (.sipush 1040, 3) by decide +kernel) rfl
set_option maxRecDepth 20000 in
theorem kX13_init_38 {C : QC} {x : QP} {M : QM} {st : List CV} {L : QL} {n : Int} (h0 : 0 ≤ n) (h1 : n ≤ 60000000) : Rr C mX13_init (38, L, qi n :: st, M) x = Rr C mX13_init (40, L, qr (q_top M) :: st, q_al M (2, n.toNat) n.toNat (fun _ => qi 0)) x := g_newI (show decode cX13_init 38 = .ok (.newarray .int, 2) by decide +kernel) h0 h1
set_option maxRecDepth 20000 in
theorem kX13_init_40 {C : QC} {x : QP} {M : QM} {st : List CV} {L : QL} {z : Option Nat} {a : Nat} (hk : q_kd M a = (1, 13)) : Rr C mX13_init (40, L, .inr (.inr z) :: qr a :: st, M) x = Rr C mX13_init (43, L, st, q_wr M a 10 (.inr (.inr z))) x := g_putf (ow := 13) (ini := true) (e := (13, 10, RX13, 1311, 0)) (r := (RX13, TX13, 17)) (t := tyX13) (show decode cX13_init 40 = .ok (.putfield 24, 3) by decide +kernel) rfl rfl rfl rfl (by decide +kernel) hk
set_option maxRecDepth 20000 in
theorem kX13_init_43 {C : QC} {x : QP} {M : QM} {st : List CV} {L : QL} {r : Option Nat} : Rr C mX13_init (43, [some (.inr (.inr r))], st, M) x = Rr C mX13_init (44, [some (.inr (.inr r))], .inr (.inr r) :: st, M) x := g_pl (show decode cX13_init 43 = .ok (.aload_n 0, 1) by decide +kernel) rfl
set_option maxRecDepth 20000 in
theorem kX13_init_44 {C : QC} {x : QP} {M : QM} {st : List CV} {L : QL} : Rr C mX13_init (44, L, st, M) x = Rr C mX13_init (46, L, qi 20 :: st, M) x := g_pl (show decode cX13_init 44 = .ok (.bipush 20, 2) by decide +kernel) rfl
set_option maxRecDepth 20000 in
theorem kX13_init_46 {C : QC} {x : QP} {M : QM} {st : List CV} {L : QL} {n : Int} (h0 : 0 ≤ n) (h1 : n ≤ 60000000) : Rr C mX13_init (46, L, qi n :: st, M) x = Rr C mX13_init (48, L, qr (q_top M) :: st, q_al M (2, n.toNat) n.toNat (fun _ => qi 0)) x := g_newI (show decode cX13_init 46 = .ok (.newarray .int, 2) by decide +kernel) h0 h1
set_option maxRecDepth 20000 in
theorem kX13_init_48 {C : QC} {x : QP} {M : QM} {st : List CV} {L : QL} {z : Option Nat} {a : Nat} (hk : q_kd M a = (1, 13)) : Rr C mX13_init (48, L, .inr (.inr z) :: qr a :: st, M) x = Rr C mX13_init (51, L, st, q_wr M a 12 (.inr (.inr z))) x := g_putf (ow := 13) (ini := true) (e := (13, 12, RX13, 1313, 0)) (r := (RX13, TX13, 17)) (t := tyX13) (show decode cX13_init 48 = .ok (.putfield 27, 3) by decide +kernel) rfl rfl rfl rfl (by decide +kernel) hk
set_option maxRecDepth 20000 in
theorem kX13_init_51 {C : QC} {x : QP} {M : QM} {st : List CV} {L : QL} {r : Option Nat} : Rr C mX13_init (51, [some (.inr (.inr r))], st, M) x = Rr C mX13_init (52, [some (.inr (.inr r))], .inr (.inr r) :: st, M) x := g_pl (show decode cX13_init 51 = .ok (.aload_n 0, 1) by decide +kernel) rfl
set_option maxRecDepth 20000 in
theorem kX13_init_52 {C : QC} {x : QP} {M : QM} {st : List CV} {L : QL} : Rr C mX13_init (52, L, st, M) x = Rr C mX13_init (54, L, qi 9 :: st, M) x := g_pl (show decode cX13_init 52 = .ok (.bipush 9, 2) by decide +kernel) rfl
set_option maxRecDepth 20000 in
theorem kX13_init_54 {C : QC} {x : QP} {M : QM} {st : List CV} {L : QL} {n : Int} (h0 : 0 ≤ n) (h1 : n ≤ 60000000) : Rr C mX13_init (54, L, qi n :: st, M) x = Rr C mX13_init (56, L, qr (q_top M) :: st, q_al M (2, n.toNat) n.toNat (fun _ => qi 0)) x := g_newI (show decode cX13_init 54 = .ok (.newarray .int, 2) by decide +kernel) h0 h1
set_option maxRecDepth 20000 in
theorem kX13_init_56 {C : QC} {x : QP} {M : QM} {st : List CV} {L : QL} {z : Option Nat} {a : Nat} (hk : q_kd M a = (1, 13)) : Rr C mX13_init (56, L, .inr (.inr z) :: qr a :: st, M) x = Rr C mX13_init (59, L, st, q_wr M a 14 (.inr (.inr z))) x := g_putf (ow := 13) (ini := true) (e := (13, 14, RX13, 1315, 0)) (r := (RX13, TX13, 17)) (t := tyX13) (show decode cX13_init 56 = .ok (.putfield 30, 3) by decide +kernel) rfl rfl rfl rfl (by decide +kernel) hk
set_option maxRecDepth 20000 in
theorem kX13_init_59 {C : QC} {x : QP} {M : QM} {st : List CV} {L : QL} {r : Option Nat} : Rr C mX13_init (59, [some (.inr (.inr r))], st, M) x = Rr C mX13_init (60, [some (.inr (.inr r))], .inr (.inr r) :: st, M) x := g_pl (show decode cX13_init 59 = .ok (.aload_n 0, 1) by decide +kernel) rfl
set_option maxRecDepth 20000 in
theorem kX13_init_60 {C : QC} {x : QP} {M : QM} {st : List CV} {L : QL} : Rr C mX13_init (60, L, st, M) x = Rr C mX13_init (63, L, qi 384 :: st, M) x := g_pl (show decode cX13_init 60 = .ok (.sipush 384, 3) by decide +kernel) rfl
set_option maxRecDepth 20000 in
theorem kX13_init_63 {C : QC} {x : QP} {M : QM} {st : List CV} {L : QL} {n : Int} (h0 : 0 ≤ n) (h1 : n ≤ 60000000) : Rr C mX13_init (63, L, qi n :: st, M) x = Rr C mX13_init (65, L, qr (q_top M) :: st, q_al M (2, n.toNat) n.toNat (fun _ => qi 0)) x := g_newI (show decode cX13_init 63 = .ok (.newarray .int, 2) by decide +kernel) h0 h1
set_option maxRecDepth 20000 in
theorem kX13_init_65 {C : QC} {x : QP} {M : QM} {st : List CV} {L : QL} {z : Option Nat} {a : Nat} (hk : q_kd M a = (1, 13)) : Rr C mX13_init (65, L, .inr (.inr z) :: qr a :: st, M) x = Rr C mX13_init (68, L, st, q_wr M a 15 (.inr (.inr z))) x := g_putf (ow := 13) (ini := true) (e := (13, 15, RX13, 1316, 0)) (r := (RX13, TX13, 17)) (t := tyX13) (show decode cX13_init 65 = .ok (.putfield 33, 3) by decide +kernel) rfl rfl rfl rfl (by decide +kernel) hk
set_option maxRecDepth 20000 in
theorem kX13_init_68 {C : QC} {x : QP} {M : QM} {st : List CV} {L : QL} : Rr C mX13_init (68, L, [], M) x = x none M := g_vret (show decode cX13_init 68 = .ok (.return_, 1) by decide +kernel)
set_option maxRecDepth 20000 in
theorem eX13_init {d : Nat} {M : QM} {x : QP} {a : Nat} : q_T (d + 1) iX13_init [qr a] M x = Rr (q_C d) mX13_init (0, [some (qr a)], [], M) x := g_entryT (e := _) rfl (Nat.le_of_ble_eq_true rfl) rfl rfl
def mX13_in : QI := (13, cX13_in, false, some .boolean)
set_option maxRecDepth 20000 in
theorem kX13_in_0 {C : QC} {x : QP} {M : QM} {st : List CV} {L : QL} {l0 l1 l2 : Option CV} {z : Int} : Rr C mX13_in (0, [some (qi z), l1, l2], st, M) x = Rr C mX13_in (1, [some (qi z), l1, l2], qi z :: st, M) x := g_pl (show decode cX13_in 0 = .ok (.iload_n 0, 1) by decide +kernel) rfl
set_option maxRecDepth 20000 in
theorem kX13_in_1 {C : QC} {x : QP} {M : QM} {st : List CV} {L : QL} {l0 l1 l2 : Option CV} {z : Int} : Rr C mX13_in (1, [l0, some (qi z), l2], st, M) x = Rr C mX13_in (2, [l0, some (qi z), l2], qi z :: st, M) x := g_pl (show decode cX13_in 1 = .ok (.iload_n 1, 1) by decide +kernel) rfl
set_option maxRecDepth 20000 in
theorem kX13_in_2 {C : QC} {x : QP} {M : QM} {st : List CV} {L : QL} {a b : Int} (ha1 : -2147483648 ≤ a) (ha2 : a < 2147483648) (hb1 : -2147483648 ≤ b) (hb2 : b < 2147483648) : Rr C mX13_in (2, L, qi b :: qi a :: st, M) x = (if a < b then Rr C mX13_in (14, L, st, M) x else Rr C mX13_in (5, L, st, M) x) := (g_icmp (show decode cX13_in 2 = .ok (.if_icmp .lt 12, 3) by decide +kernel) rfl ha1 ha2 hb1 hb2).trans (g_ite c_lt)
set_option maxRecDepth 20000 in
theorem kX13_in_5 {C : QC} {x : QP} {M : QM} {st : List CV} {L : QL} {l0 l1 l2 : Option CV} {z : Int} : Rr C mX13_in (5, [some (qi z), l1, l2], st, M) x = Rr C mX13_in (6, [some (qi z), l1, l2], qi z :: st, M) x := g_pl (show decode cX13_in 5 = .ok (.iload_n 0, 1) by decide +kernel) rfl
set_option maxRecDepth 20000 in
theorem kX13_in_6 {C : QC} {x : QP} {M : QM} {st : List CV} {L : QL} {l0 l1 l2 : Option CV} {z : Int} : Rr C mX13_in (6, [l0, l1, some (qi z)], st, M) x = Rr C mX13_in (7, [l0, l1, some (qi z)], qi z :: st, M) x := g_pl (show decode cX13_in 6 = .ok (.iload_n 2, 1) by decide +kernel) rfl
set_option maxRecDepth 20000 in
theorem kX13_in_7 {C : QC} {x : QP} {M : QM} {st : List CV} {L : QL} {a b : Int} (ha1 : -2147483648 ≤ a) (ha2 : a < 2147483648) (hb1 : -2147483648 ≤ b) (hb2 : b < 2147483648) : Rr C mX13_in (7, L, qi b :: qi a :: st, M) x = (if b < a then Rr C mX13_in (14, L, st, M) x else Rr C mX13_in (10, L, st, M) x) := (g_icmp (show decode cX13_in 7 = .ok (.if_icmp .gt 7, 3) by decide +kernel) rfl ha1 ha2 hb1 hb2).trans (g_ite c_gt)
set_option maxRecDepth 20000 in
theorem kX13_in_10 {C : QC} {x : QP} {M : QM} {st : List CV} {L : QL} : Rr C mX13_in (10, L, st, M) x = Rr C mX13_in (11, L, qi 1 :: st, M) x := g_pl (show decode cX13_in 10 = .ok (.iconst 1, 1) by decide +kernel) rfl
set_option maxRecDepth 20000 in
theorem kX13_in_11 {C : QC} {x : QP} {M : QM} {st : List CV} {L : QL} : Rr C mX13_in (11, L, st, M) x = Rr C mX13_in (15, L, st, M) x := g_pl (show decode cX13_in 11 = .ok (.goto 4, 3) by decide +kernel) rfl
set_option maxRecDepth 20000 in
theorem kX13_in_14 {C : QC} {x : QP} {M : QM} {st : List CV} {L : QL} : Rr C mX13_in (14, L, st, M) x = Rr C mX13_in (15, L, qi 0 :: st, M) x := g_pl (show decode cX13_in 14 = .ok (.iconst 0, 1) by decide +kernel) rfl
set_option maxRecDepth 20000 in
theorem kX13_in_15 {C : QC} {x : QP} {M : QM} {st : List CV} {L : QL} {z : Int} (hz : z = 0 ∨ z = 1) : Rr C mX13_in (15, L, [qi z], M) x = x (some (qi z)) M := g_iret (show decode cX13_in 15 = .ok (.ireturn, 1) by decide +kernel) (by rcases hz with rfl | rfl <;> rfl)
set_option maxRecDepth 20000 in
theorem eX13_in {d : Nat} {M : QM} {x : QP} {v0 : Int} {v1 : Int} {v2 : Int} : q_T (d + 1) iX13_in [qi v0, qi v1, qi v2] M x = Rr (q_C d) mX13_in (0, [some (qi v0), some (qi v1), some (qi v2)], [], M) x := g_entryT (e := _) rfl (Nat.le_of_ble_eq_true rfl) rfl rfl
def mX13_copies : QI := (13, cX13_copies, false, none)
set_option maxRecDepth 20000 in
theorem kX13_copies_0 {C : QC} {x : QP} {M : QM} {st : List CV} {L : QL} : Rr C mX13_copies (0, L, st, M) x = Rr C mX13_copies (1, L, qi 0 :: st, M) x := g_pl (show decode cX13_copies 0 = .ok (.iconst 0, 1) by decide +kernel) rfl
set_option maxRecDepth 20000 in
theorem kX13_copies_1 {C : QC} {x : QP} {M : QM} {st : List CV} {L : QL} {l0 l1 l2 l3 : Option CV} {z : Int} : Rr C mX13_copies (1, [l0, l1, l2, l3], qi z :: st, M) x = Rr C mX13_copies (2, [l0, l1, q_cut l2, some (qi z)], st, M) x := g_pl (show decode cX13_copies 1 = .ok (.istore_n 3, 1) by decide +kernel) rfl
set_option maxRecDepth 20000 in
theorem kX13_copies_2 {C : QC} {x : QP} {M : QM} {st : List CV} {L : QL} {l0 l1 l2 l3 : Option CV} {z : Int} : Rr C mX13_copies (2, [l0, l1, l2, some (qi z)], st, M) x = Rr C mX13_copies (3, [l0, l1, l2, some (qi z)], qi z :: st, M) x := g_pl (show decode cX13_copies 2 = .ok (.iload_n 3, 1) by decide +kernel) rfl
set_option maxRecDepth 20000 in
theorem kX13_copies_3 {C : QC} {x : QP} {M : QM} {st : List CV} {L : QL} : Rr C mX13_copies (3, L, st, M) x = Rr C mX13_copies (6, L, qi 13475 :: st, M) x := g_pl (show decode cX13_copies 3 = .ok (.sipush 13475, 3) by decide +kernel) rfl
set_option maxRecDepth 20000 in
theorem kX13_copies_6 {C : QC} {x : QP} {M : QM} {st : List CV} {L : QL} {a b : Int} (ha1 : -2147483648 ≤ a) (ha2 : a < 2147483648) (hb1 : -2147483648 ≤ b) (hb2 : b < 2147483648) : Rr C mX13_copies (6, L, qi b :: qi a :: st, M) x = (if a < b then Rr C mX13_copies (9, L, st, M) x else Rr C mX13_copies (39, L, st, M) x) := (g_icmp (show decode cX13_copies 6 = .ok (.if_icmp .ge 33, 3) by decide +kernel) rfl ha1 ha2 hb1 hb2).trans (g_itn c_ge)
set_option maxRecDepth 20000 in
theorem kX13_copies_9 {C : QC} {x : QP} {M : QM} {st : List CV} {L : QL} {l0 l1 l2 l3 : Option CV} {r : Option Nat} : Rr C mX13_copies (9, [some (.inr (.inr r)), l1, l2, l3], st, M) x = Rr C mX13_copies (10, [some (.inr (.inr r)), l1, l2, l3], .inr (.inr r) :: st, M) x := g_pl (show decode cX13_copies 9 = .ok (.aload_n 0, 1) by decide +kernel) rfl
set_option maxRecDepth 20000 in
theorem kX13_copies_10 {C : QC} {x : QP} {M : QM} {st : List CV} {L : QL} {a : Nat} (hk : q_kd M a = (1, 13)) : Rr C mX13_copies (10, L, qr a :: st, M) x = Rr C mX13_copies (13, L, q_fv M a 0 :: st, M) x := g_getf (ow := 13) (e := (13, 0, RX13, 1301, 0)) (show decode cX13_copies 10 = .ok (.getfield 10, 3) by decide +kernel) rfl hk
set_option maxRecDepth 20000 in
theorem kX13_copies_13 {C : QC} {x : QP} {M : QM} {st : List CV} {L : QL} : Rr C mX13_copies (13, L, st, M) x = Rr C mX13_copies (16, L, qi 13475 :: st, M) x := g_pl (show decode cX13_copies 13 = .ok (.sipush 13475, 3) by decide +kernel) rfl
set_option maxRecDepth 20000 in
theorem kX13_copies_16 {C : QC} {x : QP} {M : QM} {st : List CV} {L : QL} {l0 l1 l2 l3 : Option CV} {z : Int} : Rr C mX13_copies (16, [l0, l1, some (qi z), l3], st, M) x = Rr C mX13_copies (17, [l0, l1, some (qi z), l3], qi z :: st, M) x := g_pl (show decode cX13_copies 16 = .ok (.iload_n 2, 1) by decide +kernel) rfl
set_option maxRecDepth 20000 in
theorem kX13_copies_17 {C : QC} {x : QP} {M : QM} {st : List CV} {L : QL} {a b : Int} : Rr C mX13_copies (17, L, qi b :: qi a :: st, M) x = Rr C mX13_copies (18, L, qi (a * b) :: st, M) x := g_pl (show decode cX13_copies 17 = .ok (.imul, 1) by decide +kernel) rfl
set_option maxRecDepth 20000 in
theorem kX13_copies_18 {C : QC} {x : QP} {M : QM} {st : List CV} {L : QL} {l0 l1 l2 l3 : Option CV} {z : Int} : Rr C mX13_copies (18, [l0, l1, l2, some (qi z)], st, M) x = Rr C mX13_copies (19, [l0, l1, l2, some (qi z)], qi z :: st, M) x := g_pl (show decode cX13_copies 18 = .ok (.iload_n 3, 1) by decide +kernel) rfl
set_option maxRecDepth 20000 in
theorem kX13_copies_19 {C : QC} {x : QP} {M : QM} {st : List CV} {L : QL} {a b : Int} : Rr C mX13_copies (19, L, qi b :: qi a :: st, M) x = Rr C mX13_copies (20, L, qi (a + b) :: st, M) x := g_pl (show decode cX13_copies 19 = .ok (.iadd, 1) by decide +kernel) rfl
set_option maxRecDepth 20000 in
theorem kX13_copies_20 {C : QC} {x : QP} {M : QM} {st : List CV} {L : QL} {l0 l1 l2 l3 : Option CV} {r : Option Nat} : Rr C mX13_copies (20, [some (.inr (.inr r)), l1, l2, l3], st, M) x = Rr C mX13_copies (21, [some (.inr (.inr r)), l1, l2, l3], .inr (.inr r) :: st, M) x := g_pl (show decode cX13_copies 20 = .ok (.aload_n 0, 1) by decide +kernel) rfl
set_option maxRecDepth 20000 in
theorem kX13_copies_21 {C : QC} {x : QP} {M : QM} {st : List CV} {L : QL} {a : Nat} (hk : q_kd M a = (1, 13)) : Rr C mX13_copies (21, L, qr a :: st, M) x = Rr C mX13_copies (24, L, q_fv M a 0 :: st, M) x := g_getf (ow := 13) (e := (13, 0, RX13, 1301, 0)) (show decode cX13_copies 21 = .ok (.getfield 10, 3) by decide +kernel) rfl hk
set_option maxRecDepth 20000 in
theorem kX13_copies_24 {C : QC} {x : QP} {M : QM} {st : List CV} {L : QL} : Rr C mX13_copies (24, L, st, M) x = Rr C mX13_copies (27, L, qi 13475 :: st, M) x := g_pl (show decode cX13_copies 24 = .ok (.sipush 13475, 3) by decide +kernel) rfl
set_option maxRecDepth 20000 in
theorem kX13_copies_27 {C : QC} {x : QP} {M : QM} {st : List CV} {L : QL} {l0 l1 l2 l3 : Option CV} {z : Int} : Rr C mX13_copies (27, [l0, some (qi z), l2, l3], st, M) x = Rr C mX13_copies (28, [l0, some (qi z), l2, l3], qi z :: st, M) x := g_pl (show decode cX13_copies 27 = .ok (.iload_n 1, 1) by decide +kernel) rfl
set_option maxRecDepth 20000 in
theorem kX13_copies_28 {C : QC} {x : QP} {M : QM} {st : List CV} {L : QL} {a b : Int} : Rr C mX13_copies (28, L, qi b :: qi a :: st, M) x = Rr C mX13_copies (29, L, qi (a * b) :: st, M) x := g_pl (show decode cX13_copies 28 = .ok (.imul, 1) by decide +kernel) rfl
set_option maxRecDepth 20000 in
theorem kX13_copies_29 {C : QC} {x : QP} {M : QM} {st : List CV} {L : QL} {l0 l1 l2 l3 : Option CV} {z : Int} : Rr C mX13_copies (29, [l0, l1, l2, some (qi z)], st, M) x = Rr C mX13_copies (30, [l0, l1, l2, some (qi z)], qi z :: st, M) x := g_pl (show decode cX13_copies 29 = .ok (.iload_n 3, 1) by decide +kernel) rfl
set_option maxRecDepth 20000 in
theorem kX13_copies_30 {C : QC} {x : QP} {M : QM} {st : List CV} {L : QL} {a b : Int} : Rr C mX13_copies (30, L, qi b :: qi a :: st, M) x = Rr C mX13_copies (31, L, qi (a + b) :: st, M) x := g_pl (show decode cX13_copies 30 = .ok (.iadd, 1) by decide +kernel) rfl
set_option maxRecDepth 20000 in
theorem kX13_copies_31 {C : QC} {x : QP} {M : QM} {st : List CV} {L : QL} {a : Nat} {j : Int} (hk : (q_kd M a).1 = 2) (h0 : 0 ≤ j) (h1 : j < ((q_kd M a).2 : Int)) : Rr C mX13_copies (31, L, qi j :: qr a :: st, M) x = Rr C mX13_copies (32, L, q_fv M a j.toNat :: st, M) x := g_iald (show decode cX13_copies 31 = .ok (.iaload, 1) by decide +kernel) hk h0 h1
set_option maxRecDepth 20000 in
theorem kX13_copies_32 {C : QC} {x : QP} {M : QM} {st : List CV} {L : QL} {a : Nat} {j v : Int} (hk : (q_kd M a).1 = 2) (h0 : 0 ≤ j) (h1 : j < ((q_kd M a).2 : Int)) : Rr C mX13_copies (32, L, qi v :: qi j :: qr a :: st, M) x = Rr C mX13_copies (33, L, st, q_wr M a j.toNat (qi v)) x := g_iast (show decode cX13_copies 32 = .ok (.iastore, 1) by decide +kernel) hk h0 h1
set_option maxRecDepth 20000 in
theorem kX13_copies_33 {C : QC} {x : QP} {M : QM} {st : List CV} {L : QL} {l0 l1 l2 l3 : Option CV} {z : Int} : Rr C mX13_copies (33, [l0, l1, l2, some (qi z)], st, M) x = Rr C mX13_copies (36, [l0, l1, q_cut l2, some (qi (z + 1))], st, M) x := g_pl (show decode cX13_copies 33 = .ok (.iinc 3 1, 3) by decide +kernel) rfl
set_option maxRecDepth 20000 in
theorem kX13_copies_36 {C : QC} {x : QP} {M : QM} {st : List CV} {L : QL} : Rr C mX13_copies (36, L, st, M) x = Rr C mX13_copies (2, L, st, M) x := g_pl (show decode cX13_copies 36 = .ok (.goto (-34), 3) by decide +kernel) rfl
set_option maxRecDepth 20000 in
theorem kX13_copies_39 {C : QC} {x : QP} {M : QM} {st : List CV} {L : QL} : Rr C mX13_copies (39, L, [], M) x = x none M := g_vret (show decode cX13_copies 39 = .ok (.return_, 1) by decide +kernel)
set_option maxRecDepth 20000 in
theorem eX13_copies {d : Nat} {M : QM} {x : QP} {a : Nat} {v0 : Int} {v1 : Int} : q_T (d + 1) iX13_copies [qr a, qi v0, qi v1] M x = Rr (q_C d) mX13_copies (0, [some (qr a), some (qi v0), some (qi v1), none], [], M) x := g_entryT (e := _) rfl (Nat.le_of_ble_eq_true rfl) rfl rfl
def mX13_keeps : QI := (13, cX13_keeps, false, none)
set_option maxRecDepth 20000 in
theorem kX13_keeps_0 {C : QC} {x : QP} {M : QM} {st : List CV} {L : QL} {l0 l1 : Option CV} {r : Option Nat} : Rr C mX13_keeps (0, [some (.inr (.inr r)), l1], st, M) x = Rr C mX13_keeps (1, [some (.inr (.inr r)), l1], .inr (.inr r) :: st, M) x := g_pl (show decode cX13_keeps 0 = .ok (.aload_n 0, 1) by decide +kernel) rfl
set_option maxRecDepth 20000 in
theorem kX13_keeps_1 {C : QC} {x : QP} {M : QM} {st : List CV} {L : QL} {a : Nat} (hk : q_kd M a = (1, 13)) : Rr C mX13_keeps (1, L, qr a :: st, M) x = Rr C mX13_keeps (4, L, q_fv M a 1 :: st, M) x := g_getf (ow := 13) (e := (13, 1, RX13, 1302, 0)) (show decode cX13_keeps 1 = .ok (.getfield 36, 3) by decide +kernel) rfl hk
set_option maxRecDepth 20000 in
theorem kX13_keeps_4 {C : QC} {x : QP} {M : QM} {st : List CV} {L : QL} : Rr C mX13_keeps (4, L, st, M) x = Rr C mX13_keeps (6, L, qi 6 :: st, M) x := g_pl (show decode cX13_keeps 4 = .ok (.bipush 6, 2) by decide +kernel) rfl
set_option maxRecDepth 20000 in
theorem kX13_keeps_6 {C : QC} {x : QP} {M : QM} {st : List CV} {L : QL} {a b : Int} (ha1 : -2147483648 ≤ a) (ha2 : a < 2147483648) (hb1 : -2147483648 ≤ b) (hb2 : b < 2147483648) : Rr C mX13_keeps (6, L, qi b :: qi a :: st, M) x = (if a = b then Rr C mX13_keeps (9, L, st, M) x else Rr C mX13_keeps (41, L, st, M) x) := (g_icmp (show decode cX13_keeps 6 = .ok (.if_icmp .ne 35, 3) by decide +kernel) rfl ha1 ha2 hb1 hb2).trans (g_itn c_ne)
set_option maxRecDepth 20000 in
theorem kX13_keeps_9 {C : QC} {x : QP} {M : QM} {st : List CV} {L : QL} : Rr C mX13_keeps (9, L, st, M) x = Rr C mX13_keeps (10, L, qi 1 :: st, M) x := g_pl (show decode cX13_keeps 9 = .ok (.iconst 1, 1) by decide +kernel) rfl
set_option maxRecDepth 20000 in
theorem kX13_keeps_10 {C : QC} {x : QP} {M : QM} {st : List CV} {L : QL} {l0 l1 : Option CV} {z : Int} : Rr C mX13_keeps (10, [l0, l1], qi z :: st, M) x = Rr C mX13_keeps (11, [q_cut l0, some (qi z)], st, M) x := g_pl (show decode cX13_keeps 10 = .ok (.istore_n 1, 1) by decide +kernel) rfl
set_option maxRecDepth 20000 in
theorem kX13_keeps_11 {C : QC} {x : QP} {M : QM} {st : List CV} {L : QL} {l0 l1 : Option CV} {z : Int} : Rr C mX13_keeps (11, [l0, some (qi z)], st, M) x = Rr C mX13_keeps (12, [l0, some (qi z)], qi z :: st, M) x := g_pl (show decode cX13_keeps 11 = .ok (.iload_n 1, 1) by decide +kernel) rfl
set_option maxRecDepth 20000 in
theorem kX13_keeps_12 {C : QC} {x : QP} {M : QM} {st : List CV} {L : QL} : Rr C mX13_keeps (12, L, st, M) x = Rr C mX13_keeps (14, L, qi 6 :: st, M) x := g_pl (show decode cX13_keeps 12 = .ok (.bipush 6, 2) by decide +kernel) rfl
set_option maxRecDepth 20000 in
theorem kX13_keeps_14 {C : QC} {x : QP} {M : QM} {st : List CV} {L : QL} {a b : Int} (ha1 : -2147483648 ≤ a) (ha2 : a < 2147483648) (hb1 : -2147483648 ≤ b) (hb2 : b < 2147483648) : Rr C mX13_keeps (14, L, qi b :: qi a :: st, M) x = (if a < b then Rr C mX13_keeps (17, L, st, M) x else Rr C mX13_keeps (31, L, st, M) x) := (g_icmp (show decode cX13_keeps 14 = .ok (.if_icmp .ge 17, 3) by decide +kernel) rfl ha1 ha2 hb1 hb2).trans (g_itn c_ge)
set_option maxRecDepth 20000 in
theorem kX13_keeps_17 {C : QC} {x : QP} {M : QM} {st : List CV} {L : QL} {l0 l1 : Option CV} {r : Option Nat} : Rr C mX13_keeps (17, [some (.inr (.inr r)), l1], st, M) x = Rr C mX13_keeps (18, [some (.inr (.inr r)), l1], .inr (.inr r) :: st, M) x := g_pl (show decode cX13_keeps 17 = .ok (.aload_n 0, 1) by decide +kernel) rfl
set_option maxRecDepth 20000 in
theorem kX13_keeps_18 {C : QC} {x : QP} {M : QM} {st : List CV} {L : QL} {l0 l1 : Option CV} {z : Int} : Rr C mX13_keeps (18, [l0, some (qi z)], st, M) x = Rr C mX13_keeps (19, [l0, some (qi z)], qi z :: st, M) x := g_pl (show decode cX13_keeps 18 = .ok (.iload_n 1, 1) by decide +kernel) rfl
set_option maxRecDepth 20000 in
theorem kX13_keeps_19 {C : QC} {x : QP} {M : QM} {st : List CV} {L : QL} : Rr C mX13_keeps (19, L, st, M) x = Rr C mX13_keeps (20, L, qi 1 :: st, M) x := g_pl (show decode cX13_keeps 19 = .ok (.iconst 1, 1) by decide +kernel) rfl
set_option maxRecDepth 20000 in
theorem kX13_keeps_20 {C : QC} {x : QP} {M : QM} {st : List CV} {L : QL} {a b : Int} : Rr C mX13_keeps (20, L, qi b :: qi a :: st, M) x = Rr C mX13_keeps (21, L, qi (a + b) :: st, M) x := g_pl (show decode cX13_keeps 20 = .ok (.iadd, 1) by decide +kernel) rfl
set_option maxRecDepth 20000 in
theorem kX13_keeps_21 {C : QC} {x : QP} {M : QM} {st : List CV} {L : QL} {l0 l1 : Option CV} {z : Int} : Rr C mX13_keeps (21, [l0, some (qi z)], st, M) x = Rr C mX13_keeps (22, [l0, some (qi z)], qi z :: st, M) x := g_pl (show decode cX13_keeps 21 = .ok (.iload_n 1, 1) by decide +kernel) rfl
set_option maxRecDepth 20000 in
theorem kX13_keeps_22 {C : QC} {x : QP} {M : QM} {L : QL} {rest : List CV} {a0 a1 : CV} {M1 : QM} {b : Nat} (hb : q_kd M b = (1, 13)) (hC : C iX13_copies [qr b, a0, a1] M none M1) (hw : (rest.map q_wd).sum ≤ 8) (k : Rr C mX13_keeps (25, L, rest, M1) x) : Rr C mX13_keeps (22, L, a1 :: a0 :: qr b :: rest, M) x := g_cv (ow := 13) (e := (0, 212, 13, [1411, 1413, 37, 94])) (as := [a0, a1]) (show decode cX13_keeps 22 = .ok (.invokevirtual 39, 3) by decide +kernel) rfl rfl rfl (Or.inl rfl) rfl hb hC hw k
set_option maxRecDepth 20000 in
theorem kX13_keeps_25 {C : QC} {x : QP} {M : QM} {st : List CV} {L : QL} {l0 l1 : Option CV} {z : Int} : Rr C mX13_keeps (25, [l0, some (qi z)], st, M) x = Rr C mX13_keeps (28, [q_cut l0, some (qi (z + 1))], st, M) x := g_pl (show decode cX13_keeps 25 = .ok (.iinc 1 1, 3) by decide +kernel) rfl
set_option maxRecDepth 20000 in
theorem kX13_keeps_28 {C : QC} {x : QP} {M : QM} {st : List CV} {L : QL} : Rr C mX13_keeps (28, L, st, M) x = Rr C mX13_keeps (11, L, st, M) x := g_pl (show decode cX13_keeps 28 = .ok (.goto (-17), 3) by decide +kernel) rfl
set_option maxRecDepth 20000 in
theorem kX13_keeps_31 {C : QC} {x : QP} {M : QM} {st : List CV} {L : QL} {l0 l1 : Option CV} {r : Option Nat} : Rr C mX13_keeps (31, [some (.inr (.inr r)), l1], st, M) x = Rr C mX13_keeps (32, [some (.inr (.inr r)), l1], .inr (.inr r) :: st, M) x := g_pl (show decode cX13_keeps 31 = .ok (.aload_n 0, 1) by decide +kernel) rfl
set_option maxRecDepth 20000 in
theorem kX13_keeps_32i {C : QC} {x : QP} {M : QM} {st : List CV} {L : QL} {a : Int} : Rr C mX13_keeps (32, L, qi a :: st, M) x = Rr C mX13_keeps (33, L, qi a :: qi a :: st, M) x := g_pl (show decode cX13_keeps 32 = .ok (.dup, 1) by decide +kernel) rfl
set_option maxRecDepth 20000 in
theorem kX13_keeps_32r {C : QC} {x : QP} {M : QM} {st : List CV} {L : QL} {a : Option Nat} : Rr C mX13_keeps (32, L, .inr (.inr a) :: st, M) x = Rr C mX13_keeps (33, L, .inr (.inr a) :: .inr (.inr a) :: st, M) x := g_pl (show decode cX13_keeps 32 = .ok (.dup, 1) by decide +kernel) rfl
set_option maxRecDepth 20000 in
theorem kX13_keeps_33 {C : QC} {x : QP} {M : QM} {st : List CV} {L : QL} {a : Nat} (hk : q_kd M a = (1, 13)) : Rr C mX13_keeps (33, L, qr a :: st, M) x = Rr C mX13_keeps (36, L, q_fv M a 1 :: st, M) x := g_getf (ow := 13) (e := (13, 1, RX13, 1302, 0)) (show decode cX13_keeps 33 = .ok (.getfield 36, 3) by decide +kernel) rfl hk
set_option maxRecDepth 20000 in
theorem kX13_keeps_36 {C : QC} {x : QP} {M : QM} {st : List CV} {L : QL} : Rr C mX13_keeps (36, L, st, M) x = Rr C mX13_keeps (37, L, qi 1 :: st, M) x := g_pl (show decode cX13_keeps 36 = .ok (.iconst 1, 1) by decide +kernel) rfl
set_option maxRecDepth 20000 in
theorem kX13_keeps_37 {C : QC} {x : QP} {M : QM} {st : List CV} {L : QL} {a b : Int} : Rr C mX13_keeps (37, L, qi b :: qi a :: st, M) x = Rr C mX13_keeps (38, L, qi (a - b) :: st, M) x := g_pl (show decode cX13_keeps 37 = .ok (.isub, 1) by decide +kernel) rfl
set_option maxRecDepth 20000 in
theorem kX13_keeps_38 {C : QC} {x : QP} {M : QM} {st : List CV} {L : QL} {z : Int} {a : Nat} (hk : q_kd M a = (1, 13)) : Rr C mX13_keeps (38, L, qi z :: qr a :: st, M) x = Rr C mX13_keeps (41, L, st, q_wr M a 1 (qi z)) x := g_putf (ow := 13) (ini := false) (e := (13, 1, RX13, 1302, 0)) (r := (RX13, TX13, 17)) (t := tyX13) (show decode cX13_keeps 38 = .ok (.putfield 36, 3) by decide +kernel) rfl rfl rfl rfl (by decide +kernel) hk
set_option maxRecDepth 20000 in
theorem kX13_keeps_41 {C : QC} {x : QP} {M : QM} {st : List CV} {L : QL} {l0 l1 : Option CV} {r : Option Nat} : Rr C mX13_keeps (41, [some (.inr (.inr r)), l1], st, M) x = Rr C mX13_keeps (42, [some (.inr (.inr r)), l1], .inr (.inr r) :: st, M) x := g_pl (show decode cX13_keeps 41 = .ok (.aload_n 0, 1) by decide +kernel) rfl
set_option maxRecDepth 20000 in
theorem kX13_keeps_42i {C : QC} {x : QP} {M : QM} {st : List CV} {L : QL} {a : Int} : Rr C mX13_keeps (42, L, qi a :: st, M) x = Rr C mX13_keeps (43, L, qi a :: qi a :: st, M) x := g_pl (show decode cX13_keeps 42 = .ok (.dup, 1) by decide +kernel) rfl
set_option maxRecDepth 20000 in
theorem kX13_keeps_42r {C : QC} {x : QP} {M : QM} {st : List CV} {L : QL} {a : Option Nat} : Rr C mX13_keeps (42, L, .inr (.inr a) :: st, M) x = Rr C mX13_keeps (43, L, .inr (.inr a) :: .inr (.inr a) :: st, M) x := g_pl (show decode cX13_keeps 42 = .ok (.dup, 1) by decide +kernel) rfl
set_option maxRecDepth 20000 in
theorem kX13_keeps_43 {C : QC} {x : QP} {M : QM} {st : List CV} {L : QL} {a : Nat} (hk : q_kd M a = (1, 13)) : Rr C mX13_keeps (43, L, qr a :: st, M) x = Rr C mX13_keeps (46, L, q_fv M a 1 :: st, M) x := g_getf (ow := 13) (e := (13, 1, RX13, 1302, 0)) (show decode cX13_keeps 43 = .ok (.getfield 36, 3) by decide +kernel) rfl hk
set_option maxRecDepth 20000 in
theorem kX13_keeps_46 {C : QC} {x : QP} {M : QM} {st : List CV} {L : QL} : Rr C mX13_keeps (46, L, st, M) x = Rr C mX13_keeps (47, L, qi 1 :: st, M) x := g_pl (show decode cX13_keeps 46 = .ok (.iconst 1, 1) by decide +kernel) rfl
set_option maxRecDepth 20000 in
theorem kX13_keeps_47 {C : QC} {x : QP} {M : QM} {st : List CV} {L : QL} {a b : Int} : Rr C mX13_keeps (47, L, qi b :: qi a :: st, M) x = Rr C mX13_keeps (48, L, qi (a + b) :: st, M) x := g_pl (show decode cX13_keeps 47 = .ok (.iadd, 1) by decide +kernel) rfl
set_option maxRecDepth 20000 in
theorem kX13_keeps_48 {C : QC} {x : QP} {M : QM} {st : List CV} {L : QL} {z : Int} {a : Nat} (hk : q_kd M a = (1, 13)) : Rr C mX13_keeps (48, L, qi z :: qr a :: st, M) x = Rr C mX13_keeps (51, L, st, q_wr M a 1 (qi z)) x := g_putf (ow := 13) (ini := false) (e := (13, 1, RX13, 1302, 0)) (r := (RX13, TX13, 17)) (t := tyX13) (show decode cX13_keeps 48 = .ok (.putfield 36, 3) by decide +kernel) rfl rfl rfl rfl (by decide +kernel) hk
set_option maxRecDepth 20000 in
theorem kX13_keeps_51 {C : QC} {x : QP} {M : QM} {st : List CV} {L : QL} {l0 l1 : Option CV} {r : Option Nat} : Rr C mX13_keeps (51, [some (.inr (.inr r)), l1], st, M) x = Rr C mX13_keeps (52, [some (.inr (.inr r)), l1], .inr (.inr r) :: st, M) x := g_pl (show decode cX13_keeps 51 = .ok (.aload_n 0, 1) by decide +kernel) rfl
set_option maxRecDepth 20000 in
theorem kX13_keeps_52 {C : QC} {x : QP} {M : QM} {st : List CV} {L : QL} : Rr C mX13_keeps (52, L, st, M) x = Rr C mX13_keeps (53, L, qi 0 :: st, M) x := g_pl (show decode cX13_keeps 52 = .ok (.iconst 0, 1) by decide +kernel) rfl
set_option maxRecDepth 20000 in
theorem kX13_keeps_53 {C : QC} {x : QP} {M : QM} {st : List CV} {L : QL} {l0 l1 : Option CV} {r : Option Nat} : Rr C mX13_keeps (53, [some (.inr (.inr r)), l1], st, M) x = Rr C mX13_keeps (54, [some (.inr (.inr r)), l1], .inr (.inr r) :: st, M) x := g_pl (show decode cX13_keeps 53 = .ok (.aload_n 0, 1) by decide +kernel) rfl
set_option maxRecDepth 20000 in
theorem kX13_keeps_54 {C : QC} {x : QP} {M : QM} {st : List CV} {L : QL} {a : Nat} (hk : q_kd M a = (1, 13)) : Rr C mX13_keeps (54, L, qr a :: st, M) x = Rr C mX13_keeps (57, L, q_fv M a 1 :: st, M) x := g_getf (ow := 13) (e := (13, 1, RX13, 1302, 0)) (show decode cX13_keeps 54 = .ok (.getfield 36, 3) by decide +kernel) rfl hk
set_option maxRecDepth 20000 in
theorem kX13_keeps_57 {C : QC} {x : QP} {M : QM} {L : QL} {rest : List CV} {a0 a1 : CV} {M1 : QM} {b : Nat} (hb : q_kd M b = (1, 13)) (hC : C iX13_copies [qr b, a0, a1] M none M1) (hw : (rest.map q_wd).sum ≤ 8) (k : Rr C mX13_keeps (60, L, rest, M1) x) : Rr C mX13_keeps (57, L, a1 :: a0 :: qr b :: rest, M) x := g_cv (ow := 13) (e := (0, 212, 13, [1411, 1413, 37, 94])) (as := [a0, a1]) (show decode cX13_keeps 57 = .ok (.invokevirtual 39, 3) by decide +kernel) rfl rfl rfl (Or.inl rfl) rfl hb hC hw k
set_option maxRecDepth 20000 in
theorem kX13_keeps_60 {C : QC} {x : QP} {M : QM} {st : List CV} {L : QL} : Rr C mX13_keeps (60, L, [], M) x = x none M := g_vret (show decode cX13_keeps 60 = .ok (.return_, 1) by decide +kernel)
set_option maxRecDepth 20000 in
theorem eX13_keeps {d : Nat} {M : QM} {x : QP} {a : Nat} : q_T (d + 1) iX13_keeps [qr a] M x = Rr (q_C d) mX13_keeps (0, [some (qr a), none], [], M) x := g_entryT (e := _) rfl (Nat.le_of_ble_eq_true rfl) rfl rfl
def mX13_isPlace : QI := (13, cX13_isPlace, false, some .boolean)
set_option maxRecDepth 20000 in
theorem kX13_isPlace_0 {C : QC} {x : QP} {M : QM} {st : List CV} {L : QL} {l0 l1 : Option CV} {z : Int} : Rr C mX13_isPlace (0, [l0, some (qi z)], st, M) x = Rr C mX13_isPlace (1, [l0, some (qi z)], qi z :: st, M) x := g_pl (show decode cX13_isPlace 0 = .ok (.iload_n 1, 1) by decide +kernel) rfl
set_option maxRecDepth 20000 in
theorem kX13_isPlace_1 {C : QC} {x : QP} {M : QM} {st : List CV} {L : QL} : Rr C mX13_isPlace (1, L, st, M) x = Rr C mX13_isPlace (2, L, qi 0 :: st, M) x := g_pl (show decode cX13_isPlace 1 = .ok (.iconst 0, 1) by decide +kernel) rfl
set_option maxRecDepth 20000 in
theorem kX13_isPlace_2 {C : QC} {x : QP} {M : QM} {st : List CV} {L : QL} {l0 l1 : Option CV} {r : Option Nat} : Rr C mX13_isPlace (2, [some (.inr (.inr r)), l1], st, M) x = Rr C mX13_isPlace (3, [some (.inr (.inr r)), l1], .inr (.inr r) :: st, M) x := g_pl (show decode cX13_isPlace 2 = .ok (.aload_n 0, 1) by decide +kernel) rfl
set_option maxRecDepth 20000 in
theorem kX13_isPlace_3 {C : QC} {x : QP} {M : QM} {st : List CV} {L : QL} {a : Nat} (hk : q_kd M a = (1, 13)) : Rr C mX13_isPlace (3, L, qr a :: st, M) x = Rr C mX13_isPlace (6, L, q_fv M a 0 :: st, M) x := g_getf (ow := 13) (e := (13, 0, RX13, 1301, 0)) (show decode cX13_isPlace 3 = .ok (.getfield 10, 3) by decide +kernel) rfl hk
set_option maxRecDepth 20000 in
theorem kX13_isPlace_6 {C : QC} {x : QP} {M : QM} {st : List CV} {L : QL} : Rr C mX13_isPlace (6, L, st, M) x = Rr C mX13_isPlace (7, L, qi 0 :: st, M) x := g_pl (show decode cX13_isPlace 6 = .ok (.iconst 0, 1) by decide +kernel) rfl
set_option maxRecDepth 20000 in
theorem kX13_isPlace_7 {C : QC} {x : QP} {M : QM} {st : List CV} {L : QL} {a : Nat} {j : Int} (hk : (q_kd M a).1 = 2) (h0 : 0 ≤ j) (h1 : j < ((q_kd M a).2 : Int)) : Rr C mX13_isPlace (7, L, qi j :: qr a :: st, M) x = Rr C mX13_isPlace (8, L, q_fv M a j.toNat :: st, M) x := g_iald (show decode cX13_isPlace 7 = .ok (.iaload, 1) by decide +kernel) hk h0 h1
set_option maxRecDepth 20000 in
theorem kX13_isPlace_8 {C : QC} {x : QP} {M : QM} {st : List CV} {L : QL} : Rr C mX13_isPlace (8, L, st, M) x = Rr C mX13_isPlace (9, L, qi 1 :: st, M) x := g_pl (show decode cX13_isPlace 8 = .ok (.iconst 1, 1) by decide +kernel) rfl
set_option maxRecDepth 20000 in
theorem kX13_isPlace_9 {C : QC} {x : QP} {M : QM} {st : List CV} {L : QL} {a b : Int} : Rr C mX13_isPlace (9, L, qi b :: qi a :: st, M) x = Rr C mX13_isPlace (10, L, qi (a - b) :: st, M) x := g_pl (show decode cX13_isPlace 9 = .ok (.isub, 1) by decide +kernel) rfl
set_option maxRecDepth 20000 in
theorem kX13_isPlace_10 {C : QC} {x : QP} {M : QM} {L : QL} {rest : List CV} {a0 a1 a2 : CV} {v : CV} {M1 : QM} (hC : C iX13_in [a0, a1, a2] M (some v) M1) (hw : (rest.map q_wd).sum ≤ 8) (k : Rr C mX13_isPlace (13, L, v :: rest, M1) x) : Rr C mX13_isPlace (10, L, a2 :: a1 :: a0 :: rest, M) x := g_cs (ow := 13) (e := (1, 198, 0, [1357, 1358, 94])) (as := [a0, a1, a2]) (show decode cX13_isPlace 10 = .ok (.invokestatic 43, 3) by decide +kernel) rfl rfl rfl rfl (Or.inl rfl) rfl hC hw k
set_option maxRecDepth 20000 in
theorem kX13_isPlace_13 {C : QC} {x : QP} {M : QM} {st : List CV} {L : QL} {z : Int} (hz : z = 0 ∨ z = 1) : Rr C mX13_isPlace (13, L, [qi z], M) x = x (some (qi z)) M := g_iret (show decode cX13_isPlace 13 = .ok (.ireturn, 1) by decide +kernel) (by rcases hz with rfl | rfl <;> rfl)
set_option maxRecDepth 20000 in
theorem eX13_isPlace {d : Nat} {M : QM} {x : QP} {a : Nat} {v0 : Int} : q_T (d + 1) iX13_isPlace [qr a, qi v0] M x = Rr (q_C d) mX13_isPlace (0, [some (qr a), some (qi v0)], [], M) x := g_entryT (e := _) rfl (Nat.le_of_ble_eq_true rfl) rfl rfl
def mX13_isDay : QI := (13, cX13_isDay, false, some .boolean)
set_option maxRecDepth 20000 in
theorem kX13_isDay_0 {C : QC} {x : QP} {M : QM} {st : List CV} {L : QL} {z : Int} : Rr C mX13_isDay (0, [some (qi z)], st, M) x = Rr C mX13_isDay (1, [some (qi z)], qi z :: st, M) x := g_pl (show decode cX13_isDay 0 = .ok (.iload_n 0, 1) by decide +kernel) rfl
set_option maxRecDepth 20000 in
theorem kX13_isDay_1 {C : QC} {x : QP} {M : QM} {st : List CV} {L : QL} : Rr C mX13_isDay (1, L, st, M) x = Rr C mX13_isDay (2, L, qi 0 :: st, M) x := g_pl (show decode cX13_isDay 1 = .ok (.iconst 0, 1) by decide +kernel) rfl
set_option maxRecDepth 20000 in
theorem kX13_isDay_2 {C : QC} {x : QP} {M : QM} {st : List CV} {L : QL} : Rr C mX13_isDay (2, L, st, M) x = Rr C mX13_isDay (5, L, qi 9999 :: st, M) x := g_pl (show decode cX13_isDay 2 = .ok (.sipush 9999, 3) by decide +kernel) rfl
set_option maxRecDepth 20000 in
theorem kX13_isDay_5 {C : QC} {x : QP} {M : QM} {L : QL} {rest : List CV} {a0 a1 a2 : CV} {v : CV} {M1 : QM} (hC : C iX13_in [a0, a1, a2] M (some v) M1) (hw : (rest.map q_wd).sum ≤ 8) (k : Rr C mX13_isDay (8, L, v :: rest, M1) x) : Rr C mX13_isDay (5, L, a2 :: a1 :: a0 :: rest, M) x := g_cs (ow := 13) (e := (1, 198, 0, [1357, 1358, 94])) (as := [a0, a1, a2]) (show decode cX13_isDay 5 = .ok (.invokestatic 43, 3) by decide +kernel) rfl rfl rfl rfl (Or.inl rfl) rfl hC hw k
set_option maxRecDepth 20000 in
theorem kX13_isDay_8 {C : QC} {x : QP} {M : QM} {st : List CV} {L : QL} {z : Int} (hz : z = 0 ∨ z = 1) : Rr C mX13_isDay (8, L, [qi z], M) x = x (some (qi z)) M := g_iret (show decode cX13_isDay 8 = .ok (.ireturn, 1) by decide +kernel) (by rcases hz with rfl | rfl <;> rfl)
set_option maxRecDepth 20000 in
theorem eX13_isDay {d : Nat} {M : QM} {x : QP} {v0 : Int} : q_T (d + 1) iX13_isDay [qi v0] M x = Rr (q_C d) mX13_isDay (0, [some (qi v0)], [], M) x := g_entryT (e := _) rfl (Nat.le_of_ble_eq_true rfl) rfl rfl
def mX13_has : QI := (13, cX13_has, false, some .int)
set_option maxRecDepth 20000 in
theorem kX13_has_0 {C : QC} {x : QP} {M : QM} {st : List CV} {L : QL} {l0 l1 l2 : Option CV} {r : Option Nat} : Rr C mX13_has (0, [some (.inr (.inr r)), l1, l2], st, M) x = Rr C mX13_has (1, [some (.inr (.inr r)), l1, l2], .inr (.inr r) :: st, M) x := g_pl (show decode cX13_has 0 = .ok (.aload_n 0, 1) by decide +kernel) rfl
set_option maxRecDepth 20000 in
theorem kX13_has_1 {C : QC} {x : QP} {M : QM} {st : List CV} {L : QL} {a : Nat} (hk : q_kd M a = (1, 13)) : Rr C mX13_has (1, L, qr a :: st, M) x = Rr C mX13_has (4, L, q_fv M a 0 :: st, M) x := g_getf (ow := 13) (e := (13, 0, RX13, 1301, 0)) (show decode cX13_has 1 = .ok (.getfield 10, 3) by decide +kernel) rfl hk
set_option maxRecDepth 20000 in
theorem kX13_has_4 {C : QC} {x : QP} {M : QM} {st : List CV} {L : QL} : Rr C mX13_has (4, L, st, M) x = Rr C mX13_has (6, L, qi 15 :: st, M) x := g_pl (show decode cX13_has 4 = .ok (.bipush 15, 2) by decide +kernel) rfl
set_option maxRecDepth 20000 in
theorem kX13_has_6 {C : QC} {x : QP} {M : QM} {st : List CV} {L : QL} : Rr C mX13_has (6, L, st, M) x = Rr C mX13_has (8, L, qi 78 :: st, M) x := g_pl (show decode cX13_has 6 = .ok (.bipush 78, 2) by decide +kernel) rfl
set_option maxRecDepth 20000 in
theorem kX13_has_8 {C : QC} {x : QP} {M : QM} {st : List CV} {L : QL} {l0 l1 l2 : Option CV} {z : Int} : Rr C mX13_has (8, [l0, some (qi z), l2], st, M) x = Rr C mX13_has (9, [l0, some (qi z), l2], qi z :: st, M) x := g_pl (show decode cX13_has 8 = .ok (.iload_n 1, 1) by decide +kernel) rfl
set_option maxRecDepth 20000 in
theorem kX13_has_9 {C : QC} {x : QP} {M : QM} {st : List CV} {L : QL} {a b : Int} : Rr C mX13_has (9, L, qi b :: qi a :: st, M) x = Rr C mX13_has (10, L, qi (a * b) :: st, M) x := g_pl (show decode cX13_has 9 = .ok (.imul, 1) by decide +kernel) rfl
set_option maxRecDepth 20000 in
theorem kX13_has_10 {C : QC} {x : QP} {M : QM} {st : List CV} {L : QL} {a b : Int} : Rr C mX13_has (10, L, qi b :: qi a :: st, M) x = Rr C mX13_has (11, L, qi (a + b) :: st, M) x := g_pl (show decode cX13_has 10 = .ok (.iadd, 1) by decide +kernel) rfl
set_option maxRecDepth 20000 in
theorem kX13_has_11 {C : QC} {x : QP} {M : QM} {st : List CV} {L : QL} {l0 l1 l2 : Option CV} {z : Int} : Rr C mX13_has (11, [l0, l1, some (qi z)], st, M) x = Rr C mX13_has (12, [l0, l1, some (qi z)], qi z :: st, M) x := g_pl (show decode cX13_has 11 = .ok (.iload_n 2, 1) by decide +kernel) rfl
set_option maxRecDepth 20000 in
theorem kX13_has_12 {C : QC} {x : QP} {M : QM} {st : List CV} {L : QL} {a b : Int} : Rr C mX13_has (12, L, qi b :: qi a :: st, M) x = Rr C mX13_has (13, L, qi (a + b) :: st, M) x := g_pl (show decode cX13_has 12 = .ok (.iadd, 1) by decide +kernel) rfl
set_option maxRecDepth 20000 in
theorem kX13_has_13 {C : QC} {x : QP} {M : QM} {st : List CV} {L : QL} {a : Nat} {j : Int} (hk : (q_kd M a).1 = 2) (h0 : 0 ≤ j) (h1 : j < ((q_kd M a).2 : Int)) : Rr C mX13_has (13, L, qi j :: qr a :: st, M) x = Rr C mX13_has (14, L, q_fv M a j.toNat :: st, M) x := g_iald (show decode cX13_has 13 = .ok (.iaload, 1) by decide +kernel) hk h0 h1
set_option maxRecDepth 20000 in
theorem kX13_has_14 {C : QC} {x : QP} {M : QM} {st : List CV} {L : QL} {z : Int} : Rr C mX13_has (14, L, [qi z], M) x = x (some (qi z)) M := g_iret (show decode cX13_has 14 = .ok (.ireturn, 1) by decide +kernel) rfl
set_option maxRecDepth 20000 in
theorem eX13_has {d : Nat} {M : QM} {x : QP} {a : Nat} {v0 : Int} {v1 : Int} : q_T (d + 1) iX13_has [qr a, qi v0, qi v1] M x = Rr (q_C d) mX13_has (0, [some (qr a), some (qi v0), some (qi v1)], [], M) x := g_entryT (e := _) rfl (Nat.le_of_ble_eq_true rfl) rfl rfl
def mX13_lays : QI := (13, cX13_lays, false, none)
set_option maxRecDepth 20000 in
theorem kX13_lays_0 {C : QC} {x : QP} {M : QM} {st : List CV} {L : QL} {l0 l1 l2 l3 : Option CV} {r : Option Nat} : Rr C mX13_lays (0, [some (.inr (.inr r)), l1, l2, l3], st, M) x = Rr C mX13_lays (1, [some (.inr (.inr r)), l1, l2, l3], .inr (.inr r) :: st, M) x := g_pl (show decode cX13_lays 0 = .ok (.aload_n 0, 1) by decide +kernel) rfl
set_option maxRecDepth 20000 in
theorem kX13_lays_1 {C : QC} {x : QP} {M : QM} {st : List CV} {L : QL} {a : Nat} (hk : q_kd M a = (1, 13)) : Rr C mX13_lays (1, L, qr a :: st, M) x = Rr C mX13_lays (4, L, q_fv M a 0 :: st, M) x := g_getf (ow := 13) (e := (13, 0, RX13, 1301, 0)) (show decode cX13_lays 1 = .ok (.getfield 10, 3) by decide +kernel) rfl hk
set_option maxRecDepth 20000 in
theorem kX13_lays_4 {C : QC} {x : QP} {M : QM} {st : List CV} {L : QL} : Rr C mX13_lays (4, L, st, M) x = Rr C mX13_lays (6, L, qi 15 :: st, M) x := g_pl (show decode cX13_lays 4 = .ok (.bipush 15, 2) by decide +kernel) rfl
set_option maxRecDepth 20000 in
theorem kX13_lays_6 {C : QC} {x : QP} {M : QM} {st : List CV} {L : QL} : Rr C mX13_lays (6, L, st, M) x = Rr C mX13_lays (8, L, qi 78 :: st, M) x := g_pl (show decode cX13_lays 6 = .ok (.bipush 78, 2) by decide +kernel) rfl
set_option maxRecDepth 20000 in
theorem kX13_lays_8 {C : QC} {x : QP} {M : QM} {st : List CV} {L : QL} {l0 l1 l2 l3 : Option CV} {z : Int} : Rr C mX13_lays (8, [l0, some (qi z), l2, l3], st, M) x = Rr C mX13_lays (9, [l0, some (qi z), l2, l3], qi z :: st, M) x := g_pl (show decode cX13_lays 8 = .ok (.iload_n 1, 1) by decide +kernel) rfl
set_option maxRecDepth 20000 in
theorem kX13_lays_9 {C : QC} {x : QP} {M : QM} {st : List CV} {L : QL} {a b : Int} : Rr C mX13_lays (9, L, qi b :: qi a :: st, M) x = Rr C mX13_lays (10, L, qi (a * b) :: st, M) x := g_pl (show decode cX13_lays 9 = .ok (.imul, 1) by decide +kernel) rfl
set_option maxRecDepth 20000 in
theorem kX13_lays_10 {C : QC} {x : QP} {M : QM} {st : List CV} {L : QL} {a b : Int} : Rr C mX13_lays (10, L, qi b :: qi a :: st, M) x = Rr C mX13_lays (11, L, qi (a + b) :: st, M) x := g_pl (show decode cX13_lays 10 = .ok (.iadd, 1) by decide +kernel) rfl
set_option maxRecDepth 20000 in
theorem kX13_lays_11 {C : QC} {x : QP} {M : QM} {st : List CV} {L : QL} {l0 l1 l2 l3 : Option CV} {z : Int} : Rr C mX13_lays (11, [l0, l1, some (qi z), l3], st, M) x = Rr C mX13_lays (12, [l0, l1, some (qi z), l3], qi z :: st, M) x := g_pl (show decode cX13_lays 11 = .ok (.iload_n 2, 1) by decide +kernel) rfl
set_option maxRecDepth 20000 in
theorem kX13_lays_12 {C : QC} {x : QP} {M : QM} {st : List CV} {L : QL} {a b : Int} : Rr C mX13_lays (12, L, qi b :: qi a :: st, M) x = Rr C mX13_lays (13, L, qi (a + b) :: st, M) x := g_pl (show decode cX13_lays 12 = .ok (.iadd, 1) by decide +kernel) rfl
set_option maxRecDepth 20000 in
theorem kX13_lays_13 {C : QC} {x : QP} {M : QM} {st : List CV} {L : QL} {l0 l1 l2 l3 : Option CV} {z : Int} : Rr C mX13_lays (13, [l0, l1, l2, some (qi z)], st, M) x = Rr C mX13_lays (14, [l0, l1, l2, some (qi z)], qi z :: st, M) x := g_pl (show decode cX13_lays 13 = .ok (.iload_n 3, 1) by decide +kernel) rfl
set_option maxRecDepth 20000 in
theorem kX13_lays_14 {C : QC} {x : QP} {M : QM} {st : List CV} {L : QL} {a : Nat} {j v : Int} (hk : (q_kd M a).1 = 2) (h0 : 0 ≤ j) (h1 : j < ((q_kd M a).2 : Int)) : Rr C mX13_lays (14, L, qi v :: qi j :: qr a :: st, M) x = Rr C mX13_lays (15, L, st, q_wr M a j.toNat (qi v)) x := g_iast (show decode cX13_lays 14 = .ok (.iastore, 1) by decide +kernel) hk h0 h1
set_option maxRecDepth 20000 in
theorem kX13_lays_15 {C : QC} {x : QP} {M : QM} {st : List CV} {L : QL} : Rr C mX13_lays (15, L, [], M) x = x none M := g_vret (show decode cX13_lays 15 = .ok (.return_, 1) by decide +kernel)
set_option maxRecDepth 20000 in
theorem eX13_lays {d : Nat} {M : QM} {x : QP} {a : Nat} {v0 : Int} {v1 : Int} {v2 : Int} : q_T (d + 1) iX13_lays [qr a, qi v0, qi v1, qi v2] M x = Rr (q_C d) mX13_lays (0, [some (qr a), some (qi v0), some (qi v1), some (qi v2)], [], M) x := g_entryT (e := _) rfl (Nat.le_of_ble_eq_true rfl) rfl rfl
def mX13_hasEnded : QI := (13, cX13_hasEnded, false, some .boolean)
set_option maxRecDepth 20000 in
theorem kX13_hasEnded_0 {C : QC} {x : QP} {M : QM} {st : List CV} {L : QL} {l0 l1 : Option CV} {r : Option Nat} : Rr C mX13_hasEnded (0, [some (.inr (.inr r)), l1], st, M) x = Rr C mX13_hasEnded (1, [some (.inr (.inr r)), l1], .inr (.inr r) :: st, M) x := g_pl (show decode cX13_hasEnded 0 = .ok (.aload_n 0, 1) by decide +kernel) rfl
set_option maxRecDepth 20000 in
theorem kX13_hasEnded_1 {C : QC} {x : QP} {M : QM} {st : List CV} {L : QL} {l0 l1 : Option CV} {z : Int} : Rr C mX13_hasEnded (1, [l0, some (qi z)], st, M) x = Rr C mX13_hasEnded (2, [l0, some (qi z)], qi z :: st, M) x := g_pl (show decode cX13_hasEnded 1 = .ok (.iload_n 1, 1) by decide +kernel) rfl
set_option maxRecDepth 20000 in
theorem kX13_hasEnded_2 {C : QC} {x : QP} {M : QM} {st : List CV} {L : QL} : Rr C mX13_hasEnded (2, L, st, M) x = Rr C mX13_hasEnded (3, L, qi 2 :: st, M) x := g_pl (show decode cX13_hasEnded 2 = .ok (.iconst 2, 1) by decide +kernel) rfl
set_option maxRecDepth 20000 in
theorem kX13_hasEnded_3 {C : QC} {x : QP} {M : QM} {L : QL} {rest : List CV} {a0 a1 : CV} {v : CV} {M1 : QM} {b : Nat} (hb : q_kd M b = (1, 13)) (hC : C iX13_has [qr b, a0, a1] M (some v) M1) (hw : (rest.map q_wd).sum ≤ 8) (k : Rr C mX13_hasEnded (6, L, v :: rest, M1) x) : Rr C mX13_hasEnded (3, L, a1 :: a0 :: qr b :: rest, M) x := g_cv (ow := 13) (e := (0, 207, 13, [1391, 1393, 32, 94])) (as := [a0, a1]) (show decode cX13_hasEnded 3 = .ok (.invokevirtual 47, 3) by decide +kernel) rfl rfl rfl (Or.inl rfl) rfl hb hC hw k
set_option maxRecDepth 20000 in
theorem kX13_hasEnded_6 {C : QC} {x : QP} {M : QM} {st : List CV} {L : QL} : Rr C mX13_hasEnded (6, L, st, M) x = Rr C mX13_hasEnded (7, L, qi (-1) :: st, M) x := g_pl (show decode cX13_hasEnded 6 = .ok (.iconst (-1), 1) by decide +kernel) rfl
set_option maxRecDepth 20000 in
theorem kX13_hasEnded_7 {C : QC} {x : QP} {M : QM} {st : List CV} {L : QL} {a b : Int} (ha1 : -2147483648 ≤ a) (ha2 : a < 2147483648) (hb1 : -2147483648 ≤ b) (hb2 : b < 2147483648) : Rr C mX13_hasEnded (7, L, qi b :: qi a :: st, M) x = (if a = b then Rr C mX13_hasEnded (14, L, st, M) x else Rr C mX13_hasEnded (10, L, st, M) x) := (g_icmp (show decode cX13_hasEnded 7 = .ok (.if_icmp .eq 7, 3) by decide +kernel) rfl ha1 ha2 hb1 hb2).trans (g_ite c_eq)
set_option maxRecDepth 20000 in
theorem kX13_hasEnded_10 {C : QC} {x : QP} {M : QM} {st : List CV} {L : QL} : Rr C mX13_hasEnded (10, L, st, M) x = Rr C mX13_hasEnded (11, L, qi 1 :: st, M) x := g_pl (show decode cX13_hasEnded 10 = .ok (.iconst 1, 1) by decide +kernel) rfl
set_option maxRecDepth 20000 in
theorem kX13_hasEnded_11 {C : QC} {x : QP} {M : QM} {st : List CV} {L : QL} : Rr C mX13_hasEnded (11, L, st, M) x = Rr C mX13_hasEnded (15, L, st, M) x := g_pl (show decode cX13_hasEnded 11 = .ok (.goto 4, 3) by decide +kernel) rfl
set_option maxRecDepth 20000 in
theorem kX13_hasEnded_14 {C : QC} {x : QP} {M : QM} {st : List CV} {L : QL} : Rr C mX13_hasEnded (14, L, st, M) x = Rr C mX13_hasEnded (15, L, qi 0 :: st, M) x := g_pl (show decode cX13_hasEnded 14 = .ok (.iconst 0, 1) by decide +kernel) rfl
set_option maxRecDepth 20000 in
theorem kX13_hasEnded_15 {C : QC} {x : QP} {M : QM} {st : List CV} {L : QL} {z : Int} (hz : z = 0 ∨ z = 1) : Rr C mX13_hasEnded (15, L, [qi z], M) x = x (some (qi z)) M := g_iret (show decode cX13_hasEnded 15 = .ok (.ireturn, 1) by decide +kernel) (by rcases hz with rfl | rfl <;> rfl)
set_option maxRecDepth 20000 in
theorem eX13_hasEnded {d : Nat} {M : QM} {x : QP} {a : Nat} {v0 : Int} : q_T (d + 1) iX13_hasEnded [qr a, qi v0] M x = Rr (q_C d) mX13_hasEnded (0, [some (qr a), some (qi v0)], [], M) x := g_entryT (e := _) rfl (Nat.le_of_ble_eq_true rfl) rfl rfl
def mX13_exists : QI := (13, cX13_exists, false, some .boolean)
set_option maxRecDepth 20000 in
theorem kX13_exists_0 {C : QC} {x : QP} {M : QM} {st : List CV} {L : QL} {l0 l1 l2 : Option CV} {r : Option Nat} : Rr C mX13_exists (0, [some (.inr (.inr r)), l1, l2], st, M) x = Rr C mX13_exists (1, [some (.inr (.inr r)), l1, l2], .inr (.inr r) :: st, M) x := g_pl (show decode cX13_exists 0 = .ok (.aload_n 0, 1) by decide +kernel) rfl
set_option maxRecDepth 20000 in
theorem kX13_exists_1 {C : QC} {x : QP} {M : QM} {st : List CV} {L : QL} {l0 l1 l2 : Option CV} {z : Int} : Rr C mX13_exists (1, [l0, some (qi z), l2], st, M) x = Rr C mX13_exists (2, [l0, some (qi z), l2], qi z :: st, M) x := g_pl (show decode cX13_exists 1 = .ok (.iload_n 1, 1) by decide +kernel) rfl
set_option maxRecDepth 20000 in
theorem kX13_exists_2 {C : QC} {x : QP} {M : QM} {st : List CV} {L : QL} : Rr C mX13_exists (2, L, st, M) x = Rr C mX13_exists (3, L, qi 1 :: st, M) x := g_pl (show decode cX13_exists 2 = .ok (.iconst 1, 1) by decide +kernel) rfl
set_option maxRecDepth 20000 in
theorem kX13_exists_3 {C : QC} {x : QP} {M : QM} {L : QL} {rest : List CV} {a0 a1 : CV} {v : CV} {M1 : QM} {b : Nat} (hb : q_kd M b = (1, 13)) (hC : C iX13_has [qr b, a0, a1] M (some v) M1) (hw : (rest.map q_wd).sum ≤ 8) (k : Rr C mX13_exists (6, L, v :: rest, M1) x) : Rr C mX13_exists (3, L, a1 :: a0 :: qr b :: rest, M) x := g_cv (ow := 13) (e := (0, 207, 13, [1391, 1393, 32, 94])) (as := [a0, a1]) (show decode cX13_exists 3 = .ok (.invokevirtual 47, 3) by decide +kernel) rfl rfl rfl (Or.inl rfl) rfl hb hC hw k
set_option maxRecDepth 20000 in
theorem kX13_exists_6 {C : QC} {x : QP} {M : QM} {st : List CV} {L : QL} {l0 l1 l2 : Option CV} {z : Int} : Rr C mX13_exists (6, [l0, l1, some (qi z)], st, M) x = Rr C mX13_exists (7, [l0, l1, some (qi z)], qi z :: st, M) x := g_pl (show decode cX13_exists 6 = .ok (.iload_n 2, 1) by decide +kernel) rfl
set_option maxRecDepth 20000 in
theorem kX13_exists_7 {C : QC} {x : QP} {M : QM} {st : List CV} {L : QL} {a b : Int} (ha1 : -2147483648 ≤ a) (ha2 : a < 2147483648) (hb1 : -2147483648 ≤ b) (hb2 : b < 2147483648) : Rr C mX13_exists (7, L, qi b :: qi a :: st, M) x = (if b < a then Rr C mX13_exists (32, L, st, M) x else Rr C mX13_exists (10, L, st, M) x) := (g_icmp (show decode cX13_exists 7 = .ok (.if_icmp .gt 25, 3) by decide +kernel) rfl ha1 ha2 hb1 hb2).trans (g_ite c_gt)
set_option maxRecDepth 20000 in
theorem kX13_exists_10 {C : QC} {x : QP} {M : QM} {st : List CV} {L : QL} {l0 l1 l2 : Option CV} {r : Option Nat} : Rr C mX13_exists (10, [some (.inr (.inr r)), l1, l2], st, M) x = Rr C mX13_exists (11, [some (.inr (.inr r)), l1, l2], .inr (.inr r) :: st, M) x := g_pl (show decode cX13_exists 10 = .ok (.aload_n 0, 1) by decide +kernel) rfl
set_option maxRecDepth 20000 in
theorem kX13_exists_11 {C : QC} {x : QP} {M : QM} {st : List CV} {L : QL} {l0 l1 l2 : Option CV} {z : Int} : Rr C mX13_exists (11, [l0, some (qi z), l2], st, M) x = Rr C mX13_exists (12, [l0, some (qi z), l2], qi z :: st, M) x := g_pl (show decode cX13_exists 11 = .ok (.iload_n 1, 1) by decide +kernel) rfl
set_option maxRecDepth 20000 in
theorem kX13_exists_12 {C : QC} {x : QP} {M : QM} {L : QL} {rest : List CV} {a0 : CV} {v : CV} {M1 : QM} {b : Nat} (hb : q_kd M b = (1, 13)) (hC : C iX13_hasEnded [qr b, a0] M (some v) M1) (hw : (rest.map q_wd).sum ≤ 8) (k : Rr C mX13_exists (15, L, v :: rest, M1) x) : Rr C mX13_exists (12, L, a0 :: qr b :: rest, M) x := g_cv (ow := 13) (e := (0, 209, 13, [1399, 1401, 34, 94])) (as := [a0]) (show decode cX13_exists 12 = .ok (.invokevirtual 51, 3) by decide +kernel) rfl rfl rfl (Or.inl rfl) rfl hb hC hw k
set_option maxRecDepth 20000 in
theorem kX13_exists_15 {C : QC} {x : QP} {M : QM} {st : List CV} {L : QL} {a : Int} (ha1 : -2147483648 ≤ a) (ha2 : a < 2147483648) : Rr C mX13_exists (15, L, qi a :: st, M) x = (if a = 0 then Rr C mX13_exists (28, L, st, M) x else Rr C mX13_exists (18, L, st, M) x) := (g_if (show decode cX13_exists 15 = .ok (.ifCond .eq 13, 3) by decide +kernel) rfl ha1 ha2).trans (g_ite c_eq)
set_option maxRecDepth 20000 in
theorem kX13_exists_18 {C : QC} {x : QP} {M : QM} {st : List CV} {L : QL} {l0 l1 l2 : Option CV} {z : Int} : Rr C mX13_exists (18, [l0, l1, some (qi z)], st, M) x = Rr C mX13_exists (19, [l0, l1, some (qi z)], qi z :: st, M) x := g_pl (show decode cX13_exists 18 = .ok (.iload_n 2, 1) by decide +kernel) rfl
set_option maxRecDepth 20000 in
theorem kX13_exists_19 {C : QC} {x : QP} {M : QM} {st : List CV} {L : QL} {l0 l1 l2 : Option CV} {r : Option Nat} : Rr C mX13_exists (19, [some (.inr (.inr r)), l1, l2], st, M) x = Rr C mX13_exists (20, [some (.inr (.inr r)), l1, l2], .inr (.inr r) :: st, M) x := g_pl (show decode cX13_exists 19 = .ok (.aload_n 0, 1) by decide +kernel) rfl
set_option maxRecDepth 20000 in
theorem kX13_exists_20 {C : QC} {x : QP} {M : QM} {st : List CV} {L : QL} {l0 l1 l2 : Option CV} {z : Int} : Rr C mX13_exists (20, [l0, some (qi z), l2], st, M) x = Rr C mX13_exists (21, [l0, some (qi z), l2], qi z :: st, M) x := g_pl (show decode cX13_exists 20 = .ok (.iload_n 1, 1) by decide +kernel) rfl
set_option maxRecDepth 20000 in
theorem kX13_exists_21 {C : QC} {x : QP} {M : QM} {st : List CV} {L : QL} : Rr C mX13_exists (21, L, st, M) x = Rr C mX13_exists (22, L, qi 2 :: st, M) x := g_pl (show decode cX13_exists 21 = .ok (.iconst 2, 1) by decide +kernel) rfl
set_option maxRecDepth 20000 in
theorem kX13_exists_22 {C : QC} {x : QP} {M : QM} {L : QL} {rest : List CV} {a0 a1 : CV} {v : CV} {M1 : QM} {b : Nat} (hb : q_kd M b = (1, 13)) (hC : C iX13_has [qr b, a0, a1] M (some v) M1) (hw : (rest.map q_wd).sum ≤ 8) (k : Rr C mX13_exists (25, L, v :: rest, M1) x) : Rr C mX13_exists (22, L, a1 :: a0 :: qr b :: rest, M) x := g_cv (ow := 13) (e := (0, 207, 13, [1391, 1393, 32, 94])) (as := [a0, a1]) (show decode cX13_exists 22 = .ok (.invokevirtual 47, 3) by decide +kernel) rfl rfl rfl (Or.inl rfl) rfl hb hC hw k
set_option maxRecDepth 20000 in
theorem kX13_exists_25 {C : QC} {x : QP} {M : QM} {st : List CV} {L : QL} {a b : Int} (ha1 : -2147483648 ≤ a) (ha2 : a < 2147483648) (hb1 : -2147483648 ≤ b) (hb2 : b < 2147483648) : Rr C mX13_exists (25, L, qi b :: qi a :: st, M) x = (if a < b then Rr C mX13_exists (28, L, st, M) x else Rr C mX13_exists (32, L, st, M) x) := (g_icmp (show decode cX13_exists 25 = .ok (.if_icmp .ge 7, 3) by decide +kernel) rfl ha1 ha2 hb1 hb2).trans (g_itn c_ge)
set_option maxRecDepth 20000 in
theorem kX13_exists_28 {C : QC} {x : QP} {M : QM} {st : List CV} {L : QL} : Rr C mX13_exists (28, L, st, M) x = Rr C mX13_exists (29, L, qi 1 :: st, M) x := g_pl (show decode cX13_exists 28 = .ok (.iconst 1, 1) by decide +kernel) rfl
set_option maxRecDepth 20000 in
theorem kX13_exists_29 {C : QC} {x : QP} {M : QM} {st : List CV} {L : QL} : Rr C mX13_exists (29, L, st, M) x = Rr C mX13_exists (33, L, st, M) x := g_pl (show decode cX13_exists 29 = .ok (.goto 4, 3) by decide +kernel) rfl
set_option maxRecDepth 20000 in
theorem kX13_exists_32 {C : QC} {x : QP} {M : QM} {st : List CV} {L : QL} : Rr C mX13_exists (32, L, st, M) x = Rr C mX13_exists (33, L, qi 0 :: st, M) x := g_pl (show decode cX13_exists 32 = .ok (.iconst 0, 1) by decide +kernel) rfl
set_option maxRecDepth 20000 in
theorem kX13_exists_33 {C : QC} {x : QP} {M : QM} {st : List CV} {L : QL} {z : Int} (hz : z = 0 ∨ z = 1) : Rr C mX13_exists (33, L, [qi z], M) x = x (some (qi z)) M := g_iret (show decode cX13_exists 33 = .ok (.ireturn, 1) by decide +kernel) (by rcases hz with rfl | rfl <;> rfl)
set_option maxRecDepth 20000 in
theorem eX13_exists {d : Nat} {M : QM} {x : QP} {a : Nat} {v0 : Int} {v1 : Int} : q_T (d + 1) iX13_exists [qr a, qi v0, qi v1] M x = Rr (q_C d) mX13_exists (0, [some (qr a), some (qi v0), some (qi v1)], [], M) x := g_entryT (e := _) rfl (Nat.le_of_ble_eq_true rfl) rfl rfl
def mX13_happens : QI := (13, cX13_happens, false, none)
set_option maxRecDepth 20000 in
theorem kX13_happens_0 {C : QC} {x : QP} {M : QM} {st : List CV} {L : QL} {l0 l1 l2 l3 l4 l5 : Option CV} {r : Option Nat} : Rr C mX13_happens (0, [some (.inr (.inr r)), l1, l2, l3, l4, l5], st, M) x = Rr C mX13_happens (1, [some (.inr (.inr r)), l1, l2, l3, l4, l5], .inr (.inr r) :: st, M) x := g_pl (show decode cX13_happens 0 = .ok (.aload_n 0, 1) by decide +kernel) rfl
set_option maxRecDepth 20000 in
theorem kX13_happens_1 {C : QC} {x : QP} {M : QM} {st : List CV} {L : QL} {l0 l1 l2 l3 l4 l5 : Option CV} {z : Int} : Rr C mX13_happens (1, [l0, some (qi z), l2, l3, l4, l5], st, M) x = Rr C mX13_happens (2, [l0, some (qi z), l2, l3, l4, l5], qi z :: st, M) x := g_pl (show decode cX13_happens 1 = .ok (.iload_n 1, 1) by decide +kernel) rfl
set_option maxRecDepth 20000 in
theorem kX13_happens_2 {C : QC} {x : QP} {M : QM} {st : List CV} {L : QL} : Rr C mX13_happens (2, L, st, M) x = Rr C mX13_happens (3, L, qi 5 :: st, M) x := g_pl (show decode cX13_happens 2 = .ok (.iconst 5, 1) by decide +kernel) rfl
set_option maxRecDepth 20000 in
theorem kX13_happens_3 {C : QC} {x : QP} {M : QM} {L : QL} {rest : List CV} {a0 a1 : CV} {v : CV} {M1 : QM} {b : Nat} (hb : q_kd M b = (1, 13)) (hC : C iX13_has [qr b, a0, a1] M (some v) M1) (hw : (rest.map q_wd).sum ≤ 8) (k : Rr C mX13_happens (6, L, v :: rest, M1) x) : Rr C mX13_happens (3, L, a1 :: a0 :: qr b :: rest, M) x := g_cv (ow := 13) (e := (0, 207, 13, [1391, 1393, 32, 94])) (as := [a0, a1]) (show decode cX13_happens 3 = .ok (.invokevirtual 47, 3) by decide +kernel) rfl rfl rfl (Or.inl rfl) rfl hb hC hw k
set_option maxRecDepth 20000 in
theorem kX13_happens_6 {C : QC} {x : QP} {M : QM} {st : List CV} {L : QL} {l0 l1 l2 l3 l4 l5 : Option CV} {z : Int} : Rr C mX13_happens (6, [l0, l1, l2, l3, l4, l5], qi z :: st, M) x = Rr C mX13_happens (8, [l0, l1, l2, l3, q_cut l4, some (qi z)], st, M) x := g_pl (show decode cX13_happens 6 = .ok (.istore 5, 2) by decide +kernel) rfl
set_option maxRecDepth 20000 in
theorem kX13_happens_8 {C : QC} {x : QP} {M : QM} {st : List CV} {L : QL} {l0 l1 l2 l3 l4 l5 : Option CV} {r : Option Nat} : Rr C mX13_happens (8, [some (.inr (.inr r)), l1, l2, l3, l4, l5], st, M) x = Rr C mX13_happens (9, [some (.inr (.inr r)), l1, l2, l3, l4, l5], .inr (.inr r) :: st, M) x := g_pl (show decode cX13_happens 8 = .ok (.aload_n 0, 1) by decide +kernel) rfl
set_option maxRecDepth 20000 in
theorem kX13_happens_9 {C : QC} {x : QP} {M : QM} {st : List CV} {L : QL} {l0 l1 l2 l3 l4 l5 : Option CV} {z : Int} : Rr C mX13_happens (9, [l0, some (qi z), l2, l3, l4, l5], st, M) x = Rr C mX13_happens (10, [l0, some (qi z), l2, l3, l4, l5], qi z :: st, M) x := g_pl (show decode cX13_happens 9 = .ok (.iload_n 1, 1) by decide +kernel) rfl
set_option maxRecDepth 20000 in
theorem kX13_happens_10 {C : QC} {x : QP} {M : QM} {st : List CV} {L : QL} : Rr C mX13_happens (10, L, st, M) x = Rr C mX13_happens (11, L, qi 5 :: st, M) x := g_pl (show decode cX13_happens 10 = .ok (.iconst 5, 1) by decide +kernel) rfl
set_option maxRecDepth 20000 in
theorem kX13_happens_11 {C : QC} {x : QP} {M : QM} {st : List CV} {L : QL} {l0 l1 l2 l3 l4 l5 : Option CV} {z : Int} : Rr C mX13_happens (11, [l0, l1, l2, l3, l4, some (qi z)], st, M) x = Rr C mX13_happens (13, [l0, l1, l2, l3, l4, some (qi z)], qi z :: st, M) x := g_pl (show decode cX13_happens 11 = .ok (.iload 5, 2) by decide +kernel) rfl
set_option maxRecDepth 20000 in
theorem kX13_happens_13 {C : QC} {x : QP} {M : QM} {st : List CV} {L : QL} : Rr C mX13_happens (13, L, st, M) x = Rr C mX13_happens (14, L, qi 1 :: st, M) x := g_pl (show decode cX13_happens 13 = .ok (.iconst 1, 1) by decide +kernel) rfl
set_option maxRecDepth 20000 in
theorem kX13_happens_14 {C : QC} {x : QP} {M : QM} {st : List CV} {L : QL} {a b : Int} : Rr C mX13_happens (14, L, qi b :: qi a :: st, M) x = Rr C mX13_happens (15, L, qi (a + b) :: st, M) x := g_pl (show decode cX13_happens 14 = .ok (.iadd, 1) by decide +kernel) rfl
set_option maxRecDepth 20000 in
theorem kX13_happens_15 {C : QC} {x : QP} {M : QM} {L : QL} {rest : List CV} {a0 a1 a2 : CV} {M1 : QM} {b : Nat} (hb : q_kd M b = (1, 13)) (hC : C iX13_lays [qr b, a0, a1, a2] M none M1) (hw : (rest.map q_wd).sum ≤ 8) (k : Rr C mX13_happens (18, L, rest, M1) x) : Rr C mX13_happens (15, L, a2 :: a1 :: a0 :: qr b :: rest, M) x := g_cv (ow := 13) (e := (0, 214, 13, [1419, 1421, 39, 94])) (as := [a0, a1, a2]) (show decode cX13_happens 15 = .ok (.invokevirtual 55, 3) by decide +kernel) rfl rfl rfl (Or.inl rfl) rfl hb hC hw k
set_option maxRecDepth 20000 in
theorem kX13_happens_18 {C : QC} {x : QP} {M : QM} {st : List CV} {L : QL} {l0 l1 l2 l3 l4 l5 : Option CV} {z : Int} : Rr C mX13_happens (18, [l0, l1, l2, l3, l4, some (qi z)], st, M) x = Rr C mX13_happens (20, [l0, l1, l2, l3, l4, some (qi z)], qi z :: st, M) x := g_pl (show decode cX13_happens 18 = .ok (.iload 5, 2) by decide +kernel) rfl
set_option maxRecDepth 20000 in
theorem kX13_happens_20 {C : QC} {x : QP} {M : QM} {st : List CV} {L : QL} : Rr C mX13_happens (20, L, st, M) x = Rr C mX13_happens (22, L, qi 24 :: st, M) x := g_pl (show decode cX13_happens 20 = .ok (.bipush 24, 2) by decide +kernel) rfl
set_option maxRecDepth 20000 in
theorem kX13_happens_22 {C : QC} {x : QP} {M : QM} {st : List CV} {L : QL} {a b : Int} (ha1 : -2147483648 ≤ a) (ha2 : a < 2147483648) (hb1 : -2147483648 ≤ b) (hb2 : b < 2147483648) : Rr C mX13_happens (22, L, qi b :: qi a :: st, M) x = (if a < b then Rr C mX13_happens (26, L, st, M) x else Rr C mX13_happens (25, L, st, M) x) := (g_icmp (show decode cX13_happens 22 = .ok (.if_icmp .lt 4, 3) by decide +kernel) rfl ha1 ha2 hb1 hb2).trans (g_ite c_lt)
set_option maxRecDepth 20000 in
theorem kX13_happens_25 {C : QC} {x : QP} {M : QM} {st : List CV} {L : QL} : Rr C mX13_happens (25, L, [], M) x = x none M := g_vret (show decode cX13_happens 25 = .ok (.return_, 1) by decide +kernel)
set_option maxRecDepth 20000 in
theorem kX13_happens_26 {C : QC} {x : QP} {M : QM} {st : List CV} {L : QL} {l0 l1 l2 l3 l4 l5 : Option CV} {r : Option Nat} : Rr C mX13_happens (26, [some (.inr (.inr r)), l1, l2, l3, l4, l5], st, M) x = Rr C mX13_happens (27, [some (.inr (.inr r)), l1, l2, l3, l4, l5], .inr (.inr r) :: st, M) x := g_pl (show decode cX13_happens 26 = .ok (.aload_n 0, 1) by decide +kernel) rfl
set_option maxRecDepth 20000 in
theorem kX13_happens_27 {C : QC} {x : QP} {M : QM} {st : List CV} {L : QL} {l0 l1 l2 l3 l4 l5 : Option CV} {z : Int} : Rr C mX13_happens (27, [l0, some (qi z), l2, l3, l4, l5], st, M) x = Rr C mX13_happens (28, [l0, some (qi z), l2, l3, l4, l5], qi z :: st, M) x := g_pl (show decode cX13_happens 27 = .ok (.iload_n 1, 1) by decide +kernel) rfl
set_option maxRecDepth 20000 in
theorem kX13_happens_28 {C : QC} {x : QP} {M : QM} {st : List CV} {L : QL} : Rr C mX13_happens (28, L, st, M) x = Rr C mX13_happens (30, L, qi 6 :: st, M) x := g_pl (show decode cX13_happens 28 = .ok (.bipush 6, 2) by decide +kernel) rfl
set_option maxRecDepth 20000 in
theorem kX13_happens_30 {C : QC} {x : QP} {M : QM} {st : List CV} {L : QL} : Rr C mX13_happens (30, L, st, M) x = Rr C mX13_happens (31, L, qi 3 :: st, M) x := g_pl (show decode cX13_happens 30 = .ok (.iconst 3, 1) by decide +kernel) rfl
set_option maxRecDepth 20000 in
theorem kX13_happens_31 {C : QC} {x : QP} {M : QM} {st : List CV} {L : QL} {l0 l1 l2 l3 l4 l5 : Option CV} {z : Int} : Rr C mX13_happens (31, [l0, l1, l2, l3, l4, some (qi z)], st, M) x = Rr C mX13_happens (33, [l0, l1, l2, l3, l4, some (qi z)], qi z :: st, M) x := g_pl (show decode cX13_happens 31 = .ok (.iload 5, 2) by decide +kernel) rfl
set_option maxRecDepth 20000 in
theorem kX13_happens_33 {C : QC} {x : QP} {M : QM} {st : List CV} {L : QL} {a b : Int} : Rr C mX13_happens (33, L, qi b :: qi a :: st, M) x = Rr C mX13_happens (34, L, qi (a * b) :: st, M) x := g_pl (show decode cX13_happens 33 = .ok (.imul, 1) by decide +kernel) rfl
set_option maxRecDepth 20000 in
theorem kX13_happens_34 {C : QC} {x : QP} {M : QM} {st : List CV} {L : QL} {a b : Int} : Rr C mX13_happens (34, L, qi b :: qi a :: st, M) x = Rr C mX13_happens (35, L, qi (a + b) :: st, M) x := g_pl (show decode cX13_happens 34 = .ok (.iadd, 1) by decide +kernel) rfl
set_option maxRecDepth 20000 in
theorem kX13_happens_35 {C : QC} {x : QP} {M : QM} {st : List CV} {L : QL} {l0 l1 l2 l3 l4 l5 : Option CV} {z : Int} : Rr C mX13_happens (35, [l0, l1, some (qi z), l3, l4, l5], st, M) x = Rr C mX13_happens (36, [l0, l1, some (qi z), l3, l4, l5], qi z :: st, M) x := g_pl (show decode cX13_happens 35 = .ok (.iload_n 2, 1) by decide +kernel) rfl
set_option maxRecDepth 20000 in
theorem kX13_happens_36 {C : QC} {x : QP} {M : QM} {L : QL} {rest : List CV} {a0 a1 a2 : CV} {M1 : QM} {b : Nat} (hb : q_kd M b = (1, 13)) (hC : C iX13_lays [qr b, a0, a1, a2] M none M1) (hw : (rest.map q_wd).sum ≤ 8) (k : Rr C mX13_happens (39, L, rest, M1) x) : Rr C mX13_happens (36, L, a2 :: a1 :: a0 :: qr b :: rest, M) x := g_cv (ow := 13) (e := (0, 214, 13, [1419, 1421, 39, 94])) (as := [a0, a1, a2]) (show decode cX13_happens 36 = .ok (.invokevirtual 55, 3) by decide +kernel) rfl rfl rfl (Or.inl rfl) rfl hb hC hw k
set_option maxRecDepth 20000 in
theorem kX13_happens_39 {C : QC} {x : QP} {M : QM} {st : List CV} {L : QL} {l0 l1 l2 l3 l4 l5 : Option CV} {r : Option Nat} : Rr C mX13_happens (39, [some (.inr (.inr r)), l1, l2, l3, l4, l5], st, M) x = Rr C mX13_happens (40, [some (.inr (.inr r)), l1, l2, l3, l4, l5], .inr (.inr r) :: st, M) x := g_pl (show decode cX13_happens 39 = .ok (.aload_n 0, 1) by decide +kernel) rfl
set_option maxRecDepth 20000 in
theorem kX13_happens_40 {C : QC} {x : QP} {M : QM} {st : List CV} {L : QL} {l0 l1 l2 l3 l4 l5 : Option CV} {z : Int} : Rr C mX13_happens (40, [l0, some (qi z), l2, l3, l4, l5], st, M) x = Rr C mX13_happens (41, [l0, some (qi z), l2, l3, l4, l5], qi z :: st, M) x := g_pl (show decode cX13_happens 40 = .ok (.iload_n 1, 1) by decide +kernel) rfl
set_option maxRecDepth 20000 in
theorem kX13_happens_41 {C : QC} {x : QP} {M : QM} {st : List CV} {L : QL} : Rr C mX13_happens (41, L, st, M) x = Rr C mX13_happens (43, L, qi 6 :: st, M) x := g_pl (show decode cX13_happens 41 = .ok (.bipush 6, 2) by decide +kernel) rfl
set_option maxRecDepth 20000 in
theorem kX13_happens_43 {C : QC} {x : QP} {M : QM} {st : List CV} {L : QL} : Rr C mX13_happens (43, L, st, M) x = Rr C mX13_happens (44, L, qi 3 :: st, M) x := g_pl (show decode cX13_happens 43 = .ok (.iconst 3, 1) by decide +kernel) rfl
set_option maxRecDepth 20000 in
theorem kX13_happens_44 {C : QC} {x : QP} {M : QM} {st : List CV} {L : QL} {l0 l1 l2 l3 l4 l5 : Option CV} {z : Int} : Rr C mX13_happens (44, [l0, l1, l2, l3, l4, some (qi z)], st, M) x = Rr C mX13_happens (46, [l0, l1, l2, l3, l4, some (qi z)], qi z :: st, M) x := g_pl (show decode cX13_happens 44 = .ok (.iload 5, 2) by decide +kernel) rfl
set_option maxRecDepth 20000 in
theorem kX13_happens_46 {C : QC} {x : QP} {M : QM} {st : List CV} {L : QL} {a b : Int} : Rr C mX13_happens (46, L, qi b :: qi a :: st, M) x = Rr C mX13_happens (47, L, qi (a * b) :: st, M) x := g_pl (show decode cX13_happens 46 = .ok (.imul, 1) by decide +kernel) rfl
set_option maxRecDepth 20000 in
theorem kX13_happens_47 {C : QC} {x : QP} {M : QM} {st : List CV} {L : QL} {a b : Int} : Rr C mX13_happens (47, L, qi b :: qi a :: st, M) x = Rr C mX13_happens (48, L, qi (a + b) :: st, M) x := g_pl (show decode cX13_happens 47 = .ok (.iadd, 1) by decide +kernel) rfl
set_option maxRecDepth 20000 in
theorem kX13_happens_48 {C : QC} {x : QP} {M : QM} {st : List CV} {L : QL} : Rr C mX13_happens (48, L, st, M) x = Rr C mX13_happens (49, L, qi 1 :: st, M) x := g_pl (show decode cX13_happens 48 = .ok (.iconst 1, 1) by decide +kernel) rfl
set_option maxRecDepth 20000 in
theorem kX13_happens_49 {C : QC} {x : QP} {M : QM} {st : List CV} {L : QL} {a b : Int} : Rr C mX13_happens (49, L, qi b :: qi a :: st, M) x = Rr C mX13_happens (50, L, qi (a + b) :: st, M) x := g_pl (show decode cX13_happens 49 = .ok (.iadd, 1) by decide +kernel) rfl
set_option maxRecDepth 20000 in
theorem kX13_happens_50 {C : QC} {x : QP} {M : QM} {st : List CV} {L : QL} {l0 l1 l2 l3 l4 l5 : Option CV} {z : Int} : Rr C mX13_happens (50, [l0, l1, l2, some (qi z), l4, l5], st, M) x = Rr C mX13_happens (51, [l0, l1, l2, some (qi z), l4, l5], qi z :: st, M) x := g_pl (show decode cX13_happens 50 = .ok (.iload_n 3, 1) by decide +kernel) rfl
set_option maxRecDepth 20000 in
theorem kX13_happens_51 {C : QC} {x : QP} {M : QM} {L : QL} {rest : List CV} {a0 a1 a2 : CV} {M1 : QM} {b : Nat} (hb : q_kd M b = (1, 13)) (hC : C iX13_lays [qr b, a0, a1, a2] M none M1) (hw : (rest.map q_wd).sum ≤ 8) (k : Rr C mX13_happens (54, L, rest, M1) x) : Rr C mX13_happens (51, L, a2 :: a1 :: a0 :: qr b :: rest, M) x := g_cv (ow := 13) (e := (0, 214, 13, [1419, 1421, 39, 94])) (as := [a0, a1, a2]) (show decode cX13_happens 51 = .ok (.invokevirtual 55, 3) by decide +kernel) rfl rfl rfl (Or.inl rfl) rfl hb hC hw k
set_option maxRecDepth 20000 in
theorem kX13_happens_54 {C : QC} {x : QP} {M : QM} {st : List CV} {L : QL} {l0 l1 l2 l3 l4 l5 : Option CV} {r : Option Nat} : Rr C mX13_happens (54, [some (.inr (.inr r)), l1, l2, l3, l4, l5], st, M) x = Rr C mX13_happens (55, [some (.inr (.inr r)), l1, l2, l3, l4, l5], .inr (.inr r) :: st, M) x := g_pl (show decode cX13_happens 54 = .ok (.aload_n 0, 1) by decide +kernel) rfl
set_option maxRecDepth 20000 in
theorem kX13_happens_55 {C : QC} {x : QP} {M : QM} {st : List CV} {L : QL} {l0 l1 l2 l3 l4 l5 : Option CV} {z : Int} : Rr C mX13_happens (55, [l0, some (qi z), l2, l3, l4, l5], st, M) x = Rr C mX13_happens (56, [l0, some (qi z), l2, l3, l4, l5], qi z :: st, M) x := g_pl (show decode cX13_happens 55 = .ok (.iload_n 1, 1) by decide +kernel) rfl
set_option maxRecDepth 20000 in
theorem kX13_happens_56 {C : QC} {x : QP} {M : QM} {st : List CV} {L : QL} : Rr C mX13_happens (56, L, st, M) x = Rr C mX13_happens (58, L, qi 6 :: st, M) x := g_pl (show decode cX13_happens 56 = .ok (.bipush 6, 2) by decide +kernel) rfl
set_option maxRecDepth 20000 in
theorem kX13_happens_58 {C : QC} {x : QP} {M : QM} {st : List CV} {L : QL} : Rr C mX13_happens (58, L, st, M) x = Rr C mX13_happens (59, L, qi 3 :: st, M) x := g_pl (show decode cX13_happens 58 = .ok (.iconst 3, 1) by decide +kernel) rfl
set_option maxRecDepth 20000 in
theorem kX13_happens_59 {C : QC} {x : QP} {M : QM} {st : List CV} {L : QL} {l0 l1 l2 l3 l4 l5 : Option CV} {z : Int} : Rr C mX13_happens (59, [l0, l1, l2, l3, l4, some (qi z)], st, M) x = Rr C mX13_happens (61, [l0, l1, l2, l3, l4, some (qi z)], qi z :: st, M) x := g_pl (show decode cX13_happens 59 = .ok (.iload 5, 2) by decide +kernel) rfl
set_option maxRecDepth 20000 in
theorem kX13_happens_61 {C : QC} {x : QP} {M : QM} {st : List CV} {L : QL} {a b : Int} : Rr C mX13_happens (61, L, qi b :: qi a :: st, M) x = Rr C mX13_happens (62, L, qi (a * b) :: st, M) x := g_pl (show decode cX13_happens 61 = .ok (.imul, 1) by decide +kernel) rfl
set_option maxRecDepth 20000 in
theorem kX13_happens_62 {C : QC} {x : QP} {M : QM} {st : List CV} {L : QL} {a b : Int} : Rr C mX13_happens (62, L, qi b :: qi a :: st, M) x = Rr C mX13_happens (63, L, qi (a + b) :: st, M) x := g_pl (show decode cX13_happens 62 = .ok (.iadd, 1) by decide +kernel) rfl
set_option maxRecDepth 20000 in
theorem kX13_happens_63 {C : QC} {x : QP} {M : QM} {st : List CV} {L : QL} : Rr C mX13_happens (63, L, st, M) x = Rr C mX13_happens (64, L, qi 2 :: st, M) x := g_pl (show decode cX13_happens 63 = .ok (.iconst 2, 1) by decide +kernel) rfl
set_option maxRecDepth 20000 in
theorem kX13_happens_64 {C : QC} {x : QP} {M : QM} {st : List CV} {L : QL} {a b : Int} : Rr C mX13_happens (64, L, qi b :: qi a :: st, M) x = Rr C mX13_happens (65, L, qi (a + b) :: st, M) x := g_pl (show decode cX13_happens 64 = .ok (.iadd, 1) by decide +kernel) rfl
set_option maxRecDepth 20000 in
theorem kX13_happens_65 {C : QC} {x : QP} {M : QM} {st : List CV} {L : QL} {l0 l1 l2 l3 l4 l5 : Option CV} {z : Int} : Rr C mX13_happens (65, [l0, l1, l2, l3, some (qi z), l5], st, M) x = Rr C mX13_happens (67, [l0, l1, l2, l3, some (qi z), l5], qi z :: st, M) x := g_pl (show decode cX13_happens 65 = .ok (.iload 4, 2) by decide +kernel) rfl
set_option maxRecDepth 20000 in
theorem kX13_happens_67 {C : QC} {x : QP} {M : QM} {L : QL} {rest : List CV} {a0 a1 a2 : CV} {M1 : QM} {b : Nat} (hb : q_kd M b = (1, 13)) (hC : C iX13_lays [qr b, a0, a1, a2] M none M1) (hw : (rest.map q_wd).sum ≤ 8) (k : Rr C mX13_happens (70, L, rest, M1) x) : Rr C mX13_happens (67, L, a2 :: a1 :: a0 :: qr b :: rest, M) x := g_cv (ow := 13) (e := (0, 214, 13, [1419, 1421, 39, 94])) (as := [a0, a1, a2]) (show decode cX13_happens 67 = .ok (.invokevirtual 55, 3) by decide +kernel) rfl rfl rfl (Or.inl rfl) rfl hb hC hw k
set_option maxRecDepth 20000 in
theorem kX13_happens_70 {C : QC} {x : QP} {M : QM} {st : List CV} {L : QL} : Rr C mX13_happens (70, L, [], M) x = x none M := g_vret (show decode cX13_happens 70 = .ok (.return_, 1) by decide +kernel)
set_option maxRecDepth 20000 in
theorem eX13_happens {d : Nat} {M : QM} {x : QP} {a : Nat} {v0 : Int} {v1 : Int} {v2 : Int} {v3 : Int} : q_T (d + 1) iX13_happens [qr a, qi v0, qi v1, qi v2, qi v3] M x = Rr (q_C d) mX13_happens (0, [some (qr a), some (qi v0), some (qi v1), some (qi v2), some (qi v3), none], [], M) x := g_entryT (e := _) rfl (Nat.le_of_ble_eq_true rfl) rfl rfl
def mX13_nameOn : QI := (13, cX13_nameOn, false, some .int)
set_option maxRecDepth 20000 in
theorem kX13_nameOn_0 {C : QC} {x : QP} {M : QM} {st : List CV} {L : QL} : Rr C mX13_nameOn (0, L, st, M) x = Rr C mX13_nameOn (1, L, qi (-1) :: st, M) x := g_pl (show decode cX13_nameOn 0 = .ok (.iconst (-1), 1) by decide +kernel) rfl
set_option maxRecDepth 20000 in
theorem kX13_nameOn_1 {C : QC} {x : QP} {M : QM} {st : List CV} {L : QL} {l0 l1 l2 l3 l4 l5 : Option CV} {z : Int} : Rr C mX13_nameOn (1, [l0, l1, l2, l3, l4, l5], qi z :: st, M) x = Rr C mX13_nameOn (2, [l0, l1, q_cut l2, some (qi z), l4, l5], st, M) x := g_pl (show decode cX13_nameOn 1 = .ok (.istore_n 3, 1) by decide +kernel) rfl
set_option maxRecDepth 20000 in
theorem kX13_nameOn_2 {C : QC} {x : QP} {M : QM} {st : List CV} {L : QL} : Rr C mX13_nameOn (2, L, st, M) x = Rr C mX13_nameOn (3, L, qi 0 :: st, M) x := g_pl (show decode cX13_nameOn 2 = .ok (.iconst 0, 1) by decide +kernel) rfl
set_option maxRecDepth 20000 in
theorem kX13_nameOn_3 {C : QC} {x : QP} {M : QM} {st : List CV} {L : QL} {l0 l1 l2 l3 l4 l5 : Option CV} {z : Int} : Rr C mX13_nameOn (3, [l0, l1, l2, l3, l4, l5], qi z :: st, M) x = Rr C mX13_nameOn (5, [l0, l1, l2, q_cut l3, some (qi z), l5], st, M) x := g_pl (show decode cX13_nameOn 3 = .ok (.istore 4, 2) by decide +kernel) rfl
set_option maxRecDepth 20000 in
theorem kX13_nameOn_5 {C : QC} {x : QP} {M : QM} {st : List CV} {L : QL} {l0 l1 l2 l3 l4 l5 : Option CV} {z : Int} : Rr C mX13_nameOn (5, [l0, l1, l2, l3, some (qi z), l5], st, M) x = Rr C mX13_nameOn (7, [l0, l1, l2, l3, some (qi z), l5], qi z :: st, M) x := g_pl (show decode cX13_nameOn 5 = .ok (.iload 4, 2) by decide +kernel) rfl
set_option maxRecDepth 20000 in
theorem kX13_nameOn_7 {C : QC} {x : QP} {M : QM} {st : List CV} {L : QL} {l0 l1 l2 l3 l4 l5 : Option CV} {r : Option Nat} : Rr C mX13_nameOn (7, [some (.inr (.inr r)), l1, l2, l3, l4, l5], st, M) x = Rr C mX13_nameOn (8, [some (.inr (.inr r)), l1, l2, l3, l4, l5], .inr (.inr r) :: st, M) x := g_pl (show decode cX13_nameOn 7 = .ok (.aload_n 0, 1) by decide +kernel) rfl
set_option maxRecDepth 20000 in
theorem kX13_nameOn_8 {C : QC} {x : QP} {M : QM} {st : List CV} {L : QL} {a : Nat} (hk : q_kd M a = (1, 13)) : Rr C mX13_nameOn (8, L, qr a :: st, M) x = Rr C mX13_nameOn (11, L, q_fv M a 0 :: st, M) x := g_getf (ow := 13) (e := (13, 0, RX13, 1301, 0)) (show decode cX13_nameOn 8 = .ok (.getfield 10, 3) by decide +kernel) rfl hk
set_option maxRecDepth 20000 in
theorem kX13_nameOn_11 {C : QC} {x : QP} {M : QM} {st : List CV} {L : QL} : Rr C mX13_nameOn (11, L, st, M) x = Rr C mX13_nameOn (12, L, qi 1 :: st, M) x := g_pl (show decode cX13_nameOn 11 = .ok (.iconst 1, 1) by decide +kernel) rfl
set_option maxRecDepth 20000 in
theorem kX13_nameOn_12 {C : QC} {x : QP} {M : QM} {st : List CV} {L : QL} {a : Nat} {j : Int} (hk : (q_kd M a).1 = 2) (h0 : 0 ≤ j) (h1 : j < ((q_kd M a).2 : Int)) : Rr C mX13_nameOn (12, L, qi j :: qr a :: st, M) x = Rr C mX13_nameOn (13, L, q_fv M a j.toNat :: st, M) x := g_iald (show decode cX13_nameOn 12 = .ok (.iaload, 1) by decide +kernel) hk h0 h1
set_option maxRecDepth 20000 in
theorem kX13_nameOn_13 {C : QC} {x : QP} {M : QM} {st : List CV} {L : QL} {a b : Int} (ha1 : -2147483648 ≤ a) (ha2 : a < 2147483648) (hb1 : -2147483648 ≤ b) (hb2 : b < 2147483648) : Rr C mX13_nameOn (13, L, qi b :: qi a :: st, M) x = (if a < b then Rr C mX13_nameOn (16, L, st, M) x else Rr C mX13_nameOn (64, L, st, M) x) := (g_icmp (show decode cX13_nameOn 13 = .ok (.if_icmp .ge 51, 3) by decide +kernel) rfl ha1 ha2 hb1 hb2).trans (g_itn c_ge)
set_option maxRecDepth 20000 in
theorem kX13_nameOn_16 {C : QC} {x : QP} {M : QM} {st : List CV} {L : QL} : Rr C mX13_nameOn (16, L, st, M) x = Rr C mX13_nameOn (19, L, qi 1575 :: st, M) x := g_pl (show decode cX13_nameOn 16 = .ok (.sipush 1575, 3) by decide +kernel) rfl
set_option maxRecDepth 20000 in
theorem kX13_nameOn_19 {C : QC} {x : QP} {M : QM} {st : List CV} {L : QL} : Rr C mX13_nameOn (19, L, st, M) x = Rr C mX13_nameOn (21, L, qi 11 :: st, M) x := g_pl (show decode cX13_nameOn 19 = .ok (.bipush 11, 2) by decide +kernel) rfl
set_option maxRecDepth 20000 in
theorem kX13_nameOn_21 {C : QC} {x : QP} {M : QM} {st : List CV} {L : QL} {l0 l1 l2 l3 l4 l5 : Option CV} {z : Int} : Rr C mX13_nameOn (21, [l0, l1, l2, l3, some (qi z), l5], st, M) x = Rr C mX13_nameOn (23, [l0, l1, l2, l3, some (qi z), l5], qi z :: st, M) x := g_pl (show decode cX13_nameOn 21 = .ok (.iload 4, 2) by decide +kernel) rfl
set_option maxRecDepth 20000 in
theorem kX13_nameOn_23 {C : QC} {x : QP} {M : QM} {st : List CV} {L : QL} {a b : Int} : Rr C mX13_nameOn (23, L, qi b :: qi a :: st, M) x = Rr C mX13_nameOn (24, L, qi (a * b) :: st, M) x := g_pl (show decode cX13_nameOn 23 = .ok (.imul, 1) by decide +kernel) rfl
set_option maxRecDepth 20000 in
theorem kX13_nameOn_24 {C : QC} {x : QP} {M : QM} {st : List CV} {L : QL} {a b : Int} : Rr C mX13_nameOn (24, L, qi b :: qi a :: st, M) x = Rr C mX13_nameOn (25, L, qi (a + b) :: st, M) x := g_pl (show decode cX13_nameOn 24 = .ok (.iadd, 1) by decide +kernel) rfl
set_option maxRecDepth 20000 in
theorem kX13_nameOn_25 {C : QC} {x : QP} {M : QM} {st : List CV} {L : QL} {l0 l1 l2 l3 l4 l5 : Option CV} {z : Int} : Rr C mX13_nameOn (25, [l0, l1, l2, l3, l4, l5], qi z :: st, M) x = Rr C mX13_nameOn (27, [l0, l1, l2, l3, q_cut l4, some (qi z)], st, M) x := g_pl (show decode cX13_nameOn 25 = .ok (.istore 5, 2) by decide +kernel) rfl
set_option maxRecDepth 20000 in
theorem kX13_nameOn_27 {C : QC} {x : QP} {M : QM} {st : List CV} {L : QL} {l0 l1 l2 l3 l4 l5 : Option CV} {r : Option Nat} : Rr C mX13_nameOn (27, [some (.inr (.inr r)), l1, l2, l3, l4, l5], st, M) x = Rr C mX13_nameOn (28, [some (.inr (.inr r)), l1, l2, l3, l4, l5], .inr (.inr r) :: st, M) x := g_pl (show decode cX13_nameOn 27 = .ok (.aload_n 0, 1) by decide +kernel) rfl
set_option maxRecDepth 20000 in
theorem kX13_nameOn_28 {C : QC} {x : QP} {M : QM} {st : List CV} {L : QL} {a : Nat} (hk : q_kd M a = (1, 13)) : Rr C mX13_nameOn (28, L, qr a :: st, M) x = Rr C mX13_nameOn (31, L, q_fv M a 0 :: st, M) x := g_getf (ow := 13) (e := (13, 0, RX13, 1301, 0)) (show decode cX13_nameOn 28 = .ok (.getfield 10, 3) by decide +kernel) rfl hk
set_option maxRecDepth 20000 in
theorem kX13_nameOn_31 {C : QC} {x : QP} {M : QM} {st : List CV} {L : QL} {l0 l1 l2 l3 l4 l5 : Option CV} {z : Int} : Rr C mX13_nameOn (31, [l0, l1, l2, l3, l4, some (qi z)], st, M) x = Rr C mX13_nameOn (33, [l0, l1, l2, l3, l4, some (qi z)], qi z :: st, M) x := g_pl (show decode cX13_nameOn 31 = .ok (.iload 5, 2) by decide +kernel) rfl
set_option maxRecDepth 20000 in
theorem kX13_nameOn_33 {C : QC} {x : QP} {M : QM} {st : List CV} {L : QL} {a : Nat} {j : Int} (hk : (q_kd M a).1 = 2) (h0 : 0 ≤ j) (h1 : j < ((q_kd M a).2 : Int)) : Rr C mX13_nameOn (33, L, qi j :: qr a :: st, M) x = Rr C mX13_nameOn (34, L, q_fv M a j.toNat :: st, M) x := g_iald (show decode cX13_nameOn 33 = .ok (.iaload, 1) by decide +kernel) hk h0 h1
set_option maxRecDepth 20000 in
theorem kX13_nameOn_34 {C : QC} {x : QP} {M : QM} {st : List CV} {L : QL} {l0 l1 l2 l3 l4 l5 : Option CV} {z : Int} : Rr C mX13_nameOn (34, [l0, some (qi z), l2, l3, l4, l5], st, M) x = Rr C mX13_nameOn (35, [l0, some (qi z), l2, l3, l4, l5], qi z :: st, M) x := g_pl (show decode cX13_nameOn 34 = .ok (.iload_n 1, 1) by decide +kernel) rfl
set_option maxRecDepth 20000 in
theorem kX13_nameOn_35 {C : QC} {x : QP} {M : QM} {st : List CV} {L : QL} {a b : Int} (ha1 : -2147483648 ≤ a) (ha2 : a < 2147483648) (hb1 : -2147483648 ≤ b) (hb2 : b < 2147483648) : Rr C mX13_nameOn (35, L, qi b :: qi a :: st, M) x = (if a = b then Rr C mX13_nameOn (38, L, st, M) x else Rr C mX13_nameOn (56, L, st, M) x) := (g_icmp (show decode cX13_nameOn 35 = .ok (.if_icmp .ne 21, 3) by decide +kernel) rfl ha1 ha2 hb1 hb2).trans (g_itn c_ne)
set_option maxRecDepth 20000 in
theorem kX13_nameOn_38 {C : QC} {x : QP} {M : QM} {st : List CV} {L : QL} {l0 l1 l2 l3 l4 l5 : Option CV} {r : Option Nat} : Rr C mX13_nameOn (38, [some (.inr (.inr r)), l1, l2, l3, l4, l5], st, M) x = Rr C mX13_nameOn (39, [some (.inr (.inr r)), l1, l2, l3, l4, l5], .inr (.inr r) :: st, M) x := g_pl (show decode cX13_nameOn 38 = .ok (.aload_n 0, 1) by decide +kernel) rfl
set_option maxRecDepth 20000 in
theorem kX13_nameOn_39 {C : QC} {x : QP} {M : QM} {st : List CV} {L : QL} {a : Nat} (hk : q_kd M a = (1, 13)) : Rr C mX13_nameOn (39, L, qr a :: st, M) x = Rr C mX13_nameOn (42, L, q_fv M a 0 :: st, M) x := g_getf (ow := 13) (e := (13, 0, RX13, 1301, 0)) (show decode cX13_nameOn 39 = .ok (.getfield 10, 3) by decide +kernel) rfl hk
set_option maxRecDepth 20000 in
theorem kX13_nameOn_42 {C : QC} {x : QP} {M : QM} {st : List CV} {L : QL} {l0 l1 l2 l3 l4 l5 : Option CV} {z : Int} : Rr C mX13_nameOn (42, [l0, l1, l2, l3, l4, some (qi z)], st, M) x = Rr C mX13_nameOn (44, [l0, l1, l2, l3, l4, some (qi z)], qi z :: st, M) x := g_pl (show decode cX13_nameOn 42 = .ok (.iload 5, 2) by decide +kernel) rfl
set_option maxRecDepth 20000 in
theorem kX13_nameOn_44 {C : QC} {x : QP} {M : QM} {st : List CV} {L : QL} : Rr C mX13_nameOn (44, L, st, M) x = Rr C mX13_nameOn (45, L, qi 1 :: st, M) x := g_pl (show decode cX13_nameOn 44 = .ok (.iconst 1, 1) by decide +kernel) rfl
set_option maxRecDepth 20000 in
theorem kX13_nameOn_45 {C : QC} {x : QP} {M : QM} {st : List CV} {L : QL} {a b : Int} : Rr C mX13_nameOn (45, L, qi b :: qi a :: st, M) x = Rr C mX13_nameOn (46, L, qi (a + b) :: st, M) x := g_pl (show decode cX13_nameOn 45 = .ok (.iadd, 1) by decide +kernel) rfl
set_option maxRecDepth 20000 in
theorem kX13_nameOn_46 {C : QC} {x : QP} {M : QM} {st : List CV} {L : QL} {a : Nat} {j : Int} (hk : (q_kd M a).1 = 2) (h0 : 0 ≤ j) (h1 : j < ((q_kd M a).2 : Int)) : Rr C mX13_nameOn (46, L, qi j :: qr a :: st, M) x = Rr C mX13_nameOn (47, L, q_fv M a j.toNat :: st, M) x := g_iald (show decode cX13_nameOn 46 = .ok (.iaload, 1) by decide +kernel) hk h0 h1
set_option maxRecDepth 20000 in
theorem kX13_nameOn_47 {C : QC} {x : QP} {M : QM} {st : List CV} {L : QL} {l0 l1 l2 l3 l4 l5 : Option CV} {z : Int} : Rr C mX13_nameOn (47, [l0, l1, some (qi z), l3, l4, l5], st, M) x = Rr C mX13_nameOn (48, [l0, l1, some (qi z), l3, l4, l5], qi z :: st, M) x := g_pl (show decode cX13_nameOn 47 = .ok (.iload_n 2, 1) by decide +kernel) rfl
set_option maxRecDepth 20000 in
theorem kX13_nameOn_48 {C : QC} {x : QP} {M : QM} {st : List CV} {L : QL} {a b : Int} (ha1 : -2147483648 ≤ a) (ha2 : a < 2147483648) (hb1 : -2147483648 ≤ b) (hb2 : b < 2147483648) : Rr C mX13_nameOn (48, L, qi b :: qi a :: st, M) x = (if b < a then Rr C mX13_nameOn (56, L, st, M) x else Rr C mX13_nameOn (51, L, st, M) x) := (g_icmp (show decode cX13_nameOn 48 = .ok (.if_icmp .gt 8, 3) by decide +kernel) rfl ha1 ha2 hb1 hb2).trans (g_ite c_gt)
set_option maxRecDepth 20000 in
theorem kX13_nameOn_51 {C : QC} {x : QP} {M : QM} {st : List CV} {L : QL} {l0 l1 l2 l3 l4 l5 : Option CV} {z : Int} : Rr C mX13_nameOn (51, [l0, l1, l2, l3, l4, some (qi z)], st, M) x = Rr C mX13_nameOn (53, [l0, l1, l2, l3, l4, some (qi z)], qi z :: st, M) x := g_pl (show decode cX13_nameOn 51 = .ok (.iload 5, 2) by decide +kernel) rfl
set_option maxRecDepth 20000 in
theorem kX13_nameOn_53 {C : QC} {x : QP} {M : QM} {st : List CV} {L : QL} : Rr C mX13_nameOn (53, L, st, M) x = Rr C mX13_nameOn (57, L, st, M) x := g_pl (show decode cX13_nameOn 53 = .ok (.goto 4, 3) by decide +kernel) rfl
set_option maxRecDepth 20000 in
theorem kX13_nameOn_56 {C : QC} {x : QP} {M : QM} {st : List CV} {L : QL} {l0 l1 l2 l3 l4 l5 : Option CV} {z : Int} : Rr C mX13_nameOn (56, [l0, l1, l2, some (qi z), l4, l5], st, M) x = Rr C mX13_nameOn (57, [l0, l1, l2, some (qi z), l4, l5], qi z :: st, M) x := g_pl (show decode cX13_nameOn 56 = .ok (.iload_n 3, 1) by decide +kernel) rfl
set_option maxRecDepth 20000 in
theorem kX13_nameOn_57 {C : QC} {x : QP} {M : QM} {st : List CV} {L : QL} {l0 l1 l2 l3 l4 l5 : Option CV} {z : Int} : Rr C mX13_nameOn (57, [l0, l1, l2, l3, l4, l5], qi z :: st, M) x = Rr C mX13_nameOn (58, [l0, l1, q_cut l2, some (qi z), l4, l5], st, M) x := g_pl (show decode cX13_nameOn 57 = .ok (.istore_n 3, 1) by decide +kernel) rfl
set_option maxRecDepth 20000 in
theorem kX13_nameOn_58 {C : QC} {x : QP} {M : QM} {st : List CV} {L : QL} {l0 l1 l2 l3 l4 l5 : Option CV} {z : Int} : Rr C mX13_nameOn (58, [l0, l1, l2, l3, some (qi z), l5], st, M) x = Rr C mX13_nameOn (61, [l0, l1, l2, q_cut l3, some (qi (z + 1)), l5], st, M) x := g_pl (show decode cX13_nameOn 58 = .ok (.iinc 4 1, 3) by decide +kernel) rfl
set_option maxRecDepth 20000 in
theorem kX13_nameOn_61 {C : QC} {x : QP} {M : QM} {st : List CV} {L : QL} : Rr C mX13_nameOn (61, L, st, M) x = Rr C mX13_nameOn (5, L, st, M) x := g_pl (show decode cX13_nameOn 61 = .ok (.goto (-56), 3) by decide +kernel) rfl
set_option maxRecDepth 20000 in
theorem kX13_nameOn_64 {C : QC} {x : QP} {M : QM} {st : List CV} {L : QL} {l0 l1 l2 l3 l4 l5 : Option CV} {z : Int} : Rr C mX13_nameOn (64, [l0, l1, l2, some (qi z), l4, l5], st, M) x = Rr C mX13_nameOn (65, [l0, l1, l2, some (qi z), l4, l5], qi z :: st, M) x := g_pl (show decode cX13_nameOn 64 = .ok (.iload_n 3, 1) by decide +kernel) rfl
set_option maxRecDepth 20000 in
theorem kX13_nameOn_65 {C : QC} {x : QP} {M : QM} {st : List CV} {L : QL} {z : Int} : Rr C mX13_nameOn (65, L, [qi z], M) x = x (some (qi z)) M := g_iret (show decode cX13_nameOn 65 = .ok (.ireturn, 1) by decide +kernel) rfl
set_option maxRecDepth 20000 in
theorem eX13_nameOn {d : Nat} {M : QM} {x : QP} {a : Nat} {v0 : Int} {v1 : Int} : q_T (d + 1) iX13_nameOn [qr a, qi v0, qi v1] M x = Rr (q_C d) mX13_nameOn (0, [some (qr a), some (qi v0), some (qi v1), none, none, none], [], M) x := g_entryT (e := _) rfl (Nat.le_of_ble_eq_true rfl) rfl rfl
def mX13_lengthOn : QI := (13, cX13_lengthOn, false, some .int)
set_option maxRecDepth 20000 in
theorem kX13_lengthOn_0 {C : QC} {x : QP} {M : QM} {st : List CV} {L : QL} {l0 l1 l2 : Option CV} {r : Option Nat} : Rr C mX13_lengthOn (0, [some (.inr (.inr r)), l1, l2], st, M) x = Rr C mX13_lengthOn (1, [some (.inr (.inr r)), l1, l2], .inr (.inr r) :: st, M) x := g_pl (show decode cX13_lengthOn 0 = .ok (.aload_n 0, 1) by decide +kernel) rfl
set_option maxRecDepth 20000 in
theorem kX13_lengthOn_1 {C : QC} {x : QP} {M : QM} {st : List CV} {L : QL} {a : Nat} (hk : q_kd M a = (1, 13)) : Rr C mX13_lengthOn (1, L, qr a :: st, M) x = Rr C mX13_lengthOn (4, L, q_fv M a 0 :: st, M) x := g_getf (ow := 13) (e := (13, 0, RX13, 1301, 0)) (show decode cX13_lengthOn 1 = .ok (.getfield 10, 3) by decide +kernel) rfl hk
set_option maxRecDepth 20000 in
theorem kX13_lengthOn_4 {C : QC} {x : QP} {M : QM} {st : List CV} {L : QL} {l0 l1 l2 : Option CV} {r : Option Nat} : Rr C mX13_lengthOn (4, [some (.inr (.inr r)), l1, l2], st, M) x = Rr C mX13_lengthOn (5, [some (.inr (.inr r)), l1, l2], .inr (.inr r) :: st, M) x := g_pl (show decode cX13_lengthOn 4 = .ok (.aload_n 0, 1) by decide +kernel) rfl
set_option maxRecDepth 20000 in
theorem kX13_lengthOn_5 {C : QC} {x : QP} {M : QM} {st : List CV} {L : QL} {l0 l1 l2 : Option CV} {z : Int} : Rr C mX13_lengthOn (5, [l0, some (qi z), l2], st, M) x = Rr C mX13_lengthOn (6, [l0, some (qi z), l2], qi z :: st, M) x := g_pl (show decode cX13_lengthOn 5 = .ok (.iload_n 1, 1) by decide +kernel) rfl
set_option maxRecDepth 20000 in
theorem kX13_lengthOn_6 {C : QC} {x : QP} {M : QM} {st : List CV} {L : QL} {l0 l1 l2 : Option CV} {z : Int} : Rr C mX13_lengthOn (6, [l0, l1, some (qi z)], st, M) x = Rr C mX13_lengthOn (7, [l0, l1, some (qi z)], qi z :: st, M) x := g_pl (show decode cX13_lengthOn 6 = .ok (.iload_n 2, 1) by decide +kernel) rfl
set_option maxRecDepth 20000 in
theorem kX13_lengthOn_7 {C : QC} {x : QP} {M : QM} {L : QL} {rest : List CV} {a0 a1 : CV} {v : CV} {M1 : QM} {b : Nat} (hb : q_kd M b = (1, 13)) (hC : C iX13_nameOn [qr b, a0, a1] M (some v) M1) (hw : (rest.map q_wd).sum ≤ 8) (k : Rr C mX13_lengthOn (10, L, v :: rest, M1) x) : Rr C mX13_lengthOn (7, L, a1 :: a0 :: qr b :: rest, M) x := g_cv (ow := 13) (e := (0, 223, 13, [1455, 1457, 47, 94])) (as := [a0, a1]) (show decode cX13_lengthOn 7 = .ok (.invokevirtual 59, 3) by decide +kernel) rfl rfl rfl (Or.inl rfl) rfl hb hC hw k
set_option maxRecDepth 20000 in
theorem kX13_lengthOn_10 {C : QC} {x : QP} {M : QM} {st : List CV} {L : QL} : Rr C mX13_lengthOn (10, L, st, M) x = Rr C mX13_lengthOn (11, L, qi 2 :: st, M) x := g_pl (show decode cX13_lengthOn 10 = .ok (.iconst 2, 1) by decide +kernel) rfl
set_option maxRecDepth 20000 in
theorem kX13_lengthOn_11 {C : QC} {x : QP} {M : QM} {st : List CV} {L : QL} {a b : Int} : Rr C mX13_lengthOn (11, L, qi b :: qi a :: st, M) x = Rr C mX13_lengthOn (12, L, qi (a + b) :: st, M) x := g_pl (show decode cX13_lengthOn 11 = .ok (.iadd, 1) by decide +kernel) rfl
set_option maxRecDepth 20000 in
theorem kX13_lengthOn_12 {C : QC} {x : QP} {M : QM} {st : List CV} {L : QL} {a : Nat} {j : Int} (hk : (q_kd M a).1 = 2) (h0 : 0 ≤ j) (h1 : j < ((q_kd M a).2 : Int)) : Rr C mX13_lengthOn (12, L, qi j :: qr a :: st, M) x = Rr C mX13_lengthOn (13, L, q_fv M a j.toNat :: st, M) x := g_iald (show decode cX13_lengthOn 12 = .ok (.iaload, 1) by decide +kernel) hk h0 h1
set_option maxRecDepth 20000 in
theorem kX13_lengthOn_13 {C : QC} {x : QP} {M : QM} {st : List CV} {L : QL} {z : Int} : Rr C mX13_lengthOn (13, L, [qi z], M) x = x (some (qi z)) M := g_iret (show decode cX13_lengthOn 13 = .ok (.ireturn, 1) by decide +kernel) rfl
set_option maxRecDepth 20000 in
theorem eX13_lengthOn {d : Nat} {M : QM} {x : QP} {a : Nat} {v0 : Int} {v1 : Int} : q_T (d + 1) iX13_lengthOn [qr a, qi v0, qi v1] M x = Rr (q_C d) mX13_lengthOn (0, [some (qr a), some (qi v0), some (qi v1)], [], M) x := g_entryT (e := _) rfl (Nat.le_of_ble_eq_true rfl) rfl rfl
def mX13_areAlike : QI := (13, cX13_areAlike, false, some .boolean)
set_option maxRecDepth 20000 in
theorem kX13_areAlike_0 {C : QC} {x : QP} {M : QM} {st : List CV} {L : QL} {l0 l1 l2 l3 l4 : Option CV} {r : Option Nat} : Rr C mX13_areAlike (0, [some (.inr (.inr r)), l1, l2, l3, l4], st, M) x = Rr C mX13_areAlike (1, [some (.inr (.inr r)), l1, l2, l3, l4], .inr (.inr r) :: st, M) x := g_pl (show decode cX13_areAlike 0 = .ok (.aload_n 0, 1) by decide +kernel) rfl
set_option maxRecDepth 20000 in
theorem kX13_areAlike_1 {C : QC} {x : QP} {M : QM} {st : List CV} {L : QL} {a : Nat} (hk : q_kd M a = (1, 13)) : Rr C mX13_areAlike (1, L, qr a :: st, M) x = Rr C mX13_areAlike (4, L, q_fv M a 0 :: st, M) x := g_getf (ow := 13) (e := (13, 0, RX13, 1301, 0)) (show decode cX13_areAlike 1 = .ok (.getfield 10, 3) by decide +kernel) rfl hk
set_option maxRecDepth 20000 in
theorem kX13_areAlike_4 {C : QC} {x : QP} {M : QM} {st : List CV} {L : QL} {l0 l1 l2 l3 l4 : Option CV} {z : Int} : Rr C mX13_areAlike (4, [l0, some (qi z), l2, l3, l4], st, M) x = Rr C mX13_areAlike (5, [l0, some (qi z), l2, l3, l4], qi z :: st, M) x := g_pl (show decode cX13_areAlike 4 = .ok (.iload_n 1, 1) by decide +kernel) rfl
set_option maxRecDepth 20000 in
theorem kX13_areAlike_5 {C : QC} {x : QP} {M : QM} {st : List CV} {L : QL} : Rr C mX13_areAlike (5, L, st, M) x = Rr C mX13_areAlike (6, L, qi 2 :: st, M) x := g_pl (show decode cX13_areAlike 5 = .ok (.iconst 2, 1) by decide +kernel) rfl
set_option maxRecDepth 20000 in
theorem kX13_areAlike_6 {C : QC} {x : QP} {M : QM} {st : List CV} {L : QL} {a b : Int} : Rr C mX13_areAlike (6, L, qi b :: qi a :: st, M) x = Rr C mX13_areAlike (7, L, qi (a + b) :: st, M) x := g_pl (show decode cX13_areAlike 6 = .ok (.iadd, 1) by decide +kernel) rfl
set_option maxRecDepth 20000 in
theorem kX13_areAlike_7 {C : QC} {x : QP} {M : QM} {st : List CV} {L : QL} {a : Nat} {j : Int} (hk : (q_kd M a).1 = 2) (h0 : 0 ≤ j) (h1 : j < ((q_kd M a).2 : Int)) : Rr C mX13_areAlike (7, L, qi j :: qr a :: st, M) x = Rr C mX13_areAlike (8, L, q_fv M a j.toNat :: st, M) x := g_iald (show decode cX13_areAlike 7 = .ok (.iaload, 1) by decide +kernel) hk h0 h1
set_option maxRecDepth 20000 in
theorem kX13_areAlike_8 {C : QC} {x : QP} {M : QM} {st : List CV} {L : QL} {l0 l1 l2 l3 l4 : Option CV} {r : Option Nat} : Rr C mX13_areAlike (8, [some (.inr (.inr r)), l1, l2, l3, l4], st, M) x = Rr C mX13_areAlike (9, [some (.inr (.inr r)), l1, l2, l3, l4], .inr (.inr r) :: st, M) x := g_pl (show decode cX13_areAlike 8 = .ok (.aload_n 0, 1) by decide +kernel) rfl
set_option maxRecDepth 20000 in
theorem kX13_areAlike_9 {C : QC} {x : QP} {M : QM} {st : List CV} {L : QL} {a : Nat} (hk : q_kd M a = (1, 13)) : Rr C mX13_areAlike (9, L, qr a :: st, M) x = Rr C mX13_areAlike (12, L, q_fv M a 0 :: st, M) x := g_getf (ow := 13) (e := (13, 0, RX13, 1301, 0)) (show decode cX13_areAlike 9 = .ok (.getfield 10, 3) by decide +kernel) rfl hk
set_option maxRecDepth 20000 in
theorem kX13_areAlike_12 {C : QC} {x : QP} {M : QM} {st : List CV} {L : QL} {l0 l1 l2 l3 l4 : Option CV} {z : Int} : Rr C mX13_areAlike (12, [l0, l1, some (qi z), l3, l4], st, M) x = Rr C mX13_areAlike (13, [l0, l1, some (qi z), l3, l4], qi z :: st, M) x := g_pl (show decode cX13_areAlike 12 = .ok (.iload_n 2, 1) by decide +kernel) rfl
set_option maxRecDepth 20000 in
theorem kX13_areAlike_13 {C : QC} {x : QP} {M : QM} {st : List CV} {L : QL} : Rr C mX13_areAlike (13, L, st, M) x = Rr C mX13_areAlike (14, L, qi 2 :: st, M) x := g_pl (show decode cX13_areAlike 13 = .ok (.iconst 2, 1) by decide +kernel) rfl
set_option maxRecDepth 20000 in
theorem kX13_areAlike_14 {C : QC} {x : QP} {M : QM} {st : List CV} {L : QL} {a b : Int} : Rr C mX13_areAlike (14, L, qi b :: qi a :: st, M) x = Rr C mX13_areAlike (15, L, qi (a + b) :: st, M) x := g_pl (show decode cX13_areAlike 14 = .ok (.iadd, 1) by decide +kernel) rfl
set_option maxRecDepth 20000 in
theorem kX13_areAlike_15 {C : QC} {x : QP} {M : QM} {st : List CV} {L : QL} {a : Nat} {j : Int} (hk : (q_kd M a).1 = 2) (h0 : 0 ≤ j) (h1 : j < ((q_kd M a).2 : Int)) : Rr C mX13_areAlike (15, L, qi j :: qr a :: st, M) x = Rr C mX13_areAlike (16, L, q_fv M a j.toNat :: st, M) x := g_iald (show decode cX13_areAlike 15 = .ok (.iaload, 1) by decide +kernel) hk h0 h1
set_option maxRecDepth 20000 in
theorem kX13_areAlike_16 {C : QC} {x : QP} {M : QM} {st : List CV} {L : QL} {a b : Int} (ha1 : -2147483648 ≤ a) (ha2 : a < 2147483648) (hb1 : -2147483648 ≤ b) (hb2 : b < 2147483648) : Rr C mX13_areAlike (16, L, qi b :: qi a :: st, M) x = (if a = b then Rr C mX13_areAlike (19, L, st, M) x else Rr C mX13_areAlike (23, L, st, M) x) := (g_icmp (show decode cX13_areAlike 16 = .ok (.if_icmp .ne 7, 3) by decide +kernel) rfl ha1 ha2 hb1 hb2).trans (g_itn c_ne)
set_option maxRecDepth 20000 in
theorem kX13_areAlike_19 {C : QC} {x : QP} {M : QM} {st : List CV} {L : QL} : Rr C mX13_areAlike (19, L, st, M) x = Rr C mX13_areAlike (20, L, qi 1 :: st, M) x := g_pl (show decode cX13_areAlike 19 = .ok (.iconst 1, 1) by decide +kernel) rfl
set_option maxRecDepth 20000 in
theorem kX13_areAlike_20 {C : QC} {x : QP} {M : QM} {st : List CV} {L : QL} : Rr C mX13_areAlike (20, L, st, M) x = Rr C mX13_areAlike (24, L, st, M) x := g_pl (show decode cX13_areAlike 20 = .ok (.goto 4, 3) by decide +kernel) rfl
set_option maxRecDepth 20000 in
theorem kX13_areAlike_23 {C : QC} {x : QP} {M : QM} {st : List CV} {L : QL} : Rr C mX13_areAlike (23, L, st, M) x = Rr C mX13_areAlike (24, L, qi 0 :: st, M) x := g_pl (show decode cX13_areAlike 23 = .ok (.iconst 0, 1) by decide +kernel) rfl
set_option maxRecDepth 20000 in
theorem kX13_areAlike_24 {C : QC} {x : QP} {M : QM} {st : List CV} {L : QL} {l0 l1 l2 l3 l4 : Option CV} {z : Int} : Rr C mX13_areAlike (24, [l0, l1, l2, l3, l4], qi z :: st, M) x = Rr C mX13_areAlike (25, [l0, l1, q_cut l2, some (qi z), l4], st, M) x := g_pl (show decode cX13_areAlike 24 = .ok (.istore_n 3, 1) by decide +kernel) rfl
set_option maxRecDepth 20000 in
theorem kX13_areAlike_25 {C : QC} {x : QP} {M : QM} {st : List CV} {L : QL} : Rr C mX13_areAlike (25, L, st, M) x = Rr C mX13_areAlike (26, L, qi 0 :: st, M) x := g_pl (show decode cX13_areAlike 25 = .ok (.iconst 0, 1) by decide +kernel) rfl
set_option maxRecDepth 20000 in
theorem kX13_areAlike_26 {C : QC} {x : QP} {M : QM} {st : List CV} {L : QL} {l0 l1 l2 l3 l4 : Option CV} {z : Int} : Rr C mX13_areAlike (26, [l0, l1, l2, l3, l4], qi z :: st, M) x = Rr C mX13_areAlike (28, [l0, l1, l2, q_cut l3, some (qi z)], st, M) x := g_pl (show decode cX13_areAlike 26 = .ok (.istore 4, 2) by decide +kernel) rfl
set_option maxRecDepth 20000 in
theorem kX13_areAlike_28 {C : QC} {x : QP} {M : QM} {st : List CV} {L : QL} {l0 l1 l2 l3 l4 : Option CV} {z : Int} : Rr C mX13_areAlike (28, [l0, l1, l2, l3, some (qi z)], st, M) x = Rr C mX13_areAlike (30, [l0, l1, l2, l3, some (qi z)], qi z :: st, M) x := g_pl (show decode cX13_areAlike 28 = .ok (.iload 4, 2) by decide +kernel) rfl
set_option maxRecDepth 20000 in
theorem kX13_areAlike_30 {C : QC} {x : QP} {M : QM} {st : List CV} {L : QL} {l0 l1 l2 l3 l4 : Option CV} {r : Option Nat} : Rr C mX13_areAlike (30, [some (.inr (.inr r)), l1, l2, l3, l4], st, M) x = Rr C mX13_areAlike (31, [some (.inr (.inr r)), l1, l2, l3, l4], .inr (.inr r) :: st, M) x := g_pl (show decode cX13_areAlike 30 = .ok (.aload_n 0, 1) by decide +kernel) rfl
set_option maxRecDepth 20000 in
theorem kX13_areAlike_31 {C : QC} {x : QP} {M : QM} {st : List CV} {L : QL} {a : Nat} (hk : q_kd M a = (1, 13)) : Rr C mX13_areAlike (31, L, qr a :: st, M) x = Rr C mX13_areAlike (34, L, q_fv M a 0 :: st, M) x := g_getf (ow := 13) (e := (13, 0, RX13, 1301, 0)) (show decode cX13_areAlike 31 = .ok (.getfield 10, 3) by decide +kernel) rfl hk
set_option maxRecDepth 20000 in
theorem kX13_areAlike_34 {C : QC} {x : QP} {M : QM} {st : List CV} {L : QL} {l0 l1 l2 l3 l4 : Option CV} {z : Int} : Rr C mX13_areAlike (34, [l0, some (qi z), l2, l3, l4], st, M) x = Rr C mX13_areAlike (35, [l0, some (qi z), l2, l3, l4], qi z :: st, M) x := g_pl (show decode cX13_areAlike 34 = .ok (.iload_n 1, 1) by decide +kernel) rfl
set_option maxRecDepth 20000 in
theorem kX13_areAlike_35 {C : QC} {x : QP} {M : QM} {st : List CV} {L : QL} : Rr C mX13_areAlike (35, L, st, M) x = Rr C mX13_areAlike (36, L, qi 2 :: st, M) x := g_pl (show decode cX13_areAlike 35 = .ok (.iconst 2, 1) by decide +kernel) rfl
set_option maxRecDepth 20000 in
theorem kX13_areAlike_36 {C : QC} {x : QP} {M : QM} {st : List CV} {L : QL} {a b : Int} : Rr C mX13_areAlike (36, L, qi b :: qi a :: st, M) x = Rr C mX13_areAlike (37, L, qi (a + b) :: st, M) x := g_pl (show decode cX13_areAlike 36 = .ok (.iadd, 1) by decide +kernel) rfl
set_option maxRecDepth 20000 in
theorem kX13_areAlike_37 {C : QC} {x : QP} {M : QM} {st : List CV} {L : QL} {a : Nat} {j : Int} (hk : (q_kd M a).1 = 2) (h0 : 0 ≤ j) (h1 : j < ((q_kd M a).2 : Int)) : Rr C mX13_areAlike (37, L, qi j :: qr a :: st, M) x = Rr C mX13_areAlike (38, L, q_fv M a j.toNat :: st, M) x := g_iald (show decode cX13_areAlike 37 = .ok (.iaload, 1) by decide +kernel) hk h0 h1
set_option maxRecDepth 20000 in
theorem kX13_areAlike_38 {C : QC} {x : QP} {M : QM} {st : List CV} {L : QL} {a b : Int} (ha1 : -2147483648 ≤ a) (ha2 : a < 2147483648) (hb1 : -2147483648 ≤ b) (hb2 : b < 2147483648) : Rr C mX13_areAlike (38, L, qi b :: qi a :: st, M) x = (if a < b then Rr C mX13_areAlike (41, L, st, M) x else Rr C mX13_areAlike (82, L, st, M) x) := (g_icmp (show decode cX13_areAlike 38 = .ok (.if_icmp .ge 44, 3) by decide +kernel) rfl ha1 ha2 hb1 hb2).trans (g_itn c_ge)
set_option maxRecDepth 20000 in
theorem kX13_areAlike_41 {C : QC} {x : QP} {M : QM} {st : List CV} {L : QL} {l0 l1 l2 l3 l4 : Option CV} {z : Int} : Rr C mX13_areAlike (41, [l0, l1, l2, some (qi z), l4], st, M) x = Rr C mX13_areAlike (42, [l0, l1, l2, some (qi z), l4], qi z :: st, M) x := g_pl (show decode cX13_areAlike 41 = .ok (.iload_n 3, 1) by decide +kernel) rfl
set_option maxRecDepth 20000 in
theorem kX13_areAlike_42 {C : QC} {x : QP} {M : QM} {st : List CV} {L : QL} {a : Int} (ha1 : -2147483648 ≤ a) (ha2 : a < 2147483648) : Rr C mX13_areAlike (42, L, qi a :: st, M) x = (if a = 0 then Rr C mX13_areAlike (82, L, st, M) x else Rr C mX13_areAlike (45, L, st, M) x) := (g_if (show decode cX13_areAlike 42 = .ok (.ifCond .eq 40, 3) by decide +kernel) rfl ha1 ha2).trans (g_ite c_eq)
set_option maxRecDepth 20000 in
theorem kX13_areAlike_45 {C : QC} {x : QP} {M : QM} {st : List CV} {L : QL} {l0 l1 l2 l3 l4 : Option CV} {r : Option Nat} : Rr C mX13_areAlike (45, [some (.inr (.inr r)), l1, l2, l3, l4], st, M) x = Rr C mX13_areAlike (46, [some (.inr (.inr r)), l1, l2, l3, l4], .inr (.inr r) :: st, M) x := g_pl (show decode cX13_areAlike 45 = .ok (.aload_n 0, 1) by decide +kernel) rfl
set_option maxRecDepth 20000 in
theorem kX13_areAlike_46 {C : QC} {x : QP} {M : QM} {st : List CV} {L : QL} {a : Nat} (hk : q_kd M a = (1, 13)) : Rr C mX13_areAlike (46, L, qr a :: st, M) x = Rr C mX13_areAlike (49, L, q_fv M a 0 :: st, M) x := g_getf (ow := 13) (e := (13, 0, RX13, 1301, 0)) (show decode cX13_areAlike 46 = .ok (.getfield 10, 3) by decide +kernel) rfl hk
set_option maxRecDepth 20000 in
theorem kX13_areAlike_49 {C : QC} {x : QP} {M : QM} {st : List CV} {L : QL} {l0 l1 l2 l3 l4 : Option CV} {z : Int} : Rr C mX13_areAlike (49, [l0, some (qi z), l2, l3, l4], st, M) x = Rr C mX13_areAlike (50, [l0, some (qi z), l2, l3, l4], qi z :: st, M) x := g_pl (show decode cX13_areAlike 49 = .ok (.iload_n 1, 1) by decide +kernel) rfl
set_option maxRecDepth 20000 in
theorem kX13_areAlike_50 {C : QC} {x : QP} {M : QM} {st : List CV} {L : QL} : Rr C mX13_areAlike (50, L, st, M) x = Rr C mX13_areAlike (51, L, qi 3 :: st, M) x := g_pl (show decode cX13_areAlike 50 = .ok (.iconst 3, 1) by decide +kernel) rfl
set_option maxRecDepth 20000 in
theorem kX13_areAlike_51 {C : QC} {x : QP} {M : QM} {st : List CV} {L : QL} {a b : Int} : Rr C mX13_areAlike (51, L, qi b :: qi a :: st, M) x = Rr C mX13_areAlike (52, L, qi (a + b) :: st, M) x := g_pl (show decode cX13_areAlike 51 = .ok (.iadd, 1) by decide +kernel) rfl
set_option maxRecDepth 20000 in
theorem kX13_areAlike_52 {C : QC} {x : QP} {M : QM} {st : List CV} {L : QL} {l0 l1 l2 l3 l4 : Option CV} {z : Int} : Rr C mX13_areAlike (52, [l0, l1, l2, l3, some (qi z)], st, M) x = Rr C mX13_areAlike (54, [l0, l1, l2, l3, some (qi z)], qi z :: st, M) x := g_pl (show decode cX13_areAlike 52 = .ok (.iload 4, 2) by decide +kernel) rfl
set_option maxRecDepth 20000 in
theorem kX13_areAlike_54 {C : QC} {x : QP} {M : QM} {st : List CV} {L : QL} {a b : Int} : Rr C mX13_areAlike (54, L, qi b :: qi a :: st, M) x = Rr C mX13_areAlike (55, L, qi (a + b) :: st, M) x := g_pl (show decode cX13_areAlike 54 = .ok (.iadd, 1) by decide +kernel) rfl
set_option maxRecDepth 20000 in
theorem kX13_areAlike_55 {C : QC} {x : QP} {M : QM} {st : List CV} {L : QL} {a : Nat} {j : Int} (hk : (q_kd M a).1 = 2) (h0 : 0 ≤ j) (h1 : j < ((q_kd M a).2 : Int)) : Rr C mX13_areAlike (55, L, qi j :: qr a :: st, M) x = Rr C mX13_areAlike (56, L, q_fv M a j.toNat :: st, M) x := g_iald (show decode cX13_areAlike 55 = .ok (.iaload, 1) by decide +kernel) hk h0 h1
set_option maxRecDepth 20000 in
theorem kX13_areAlike_56 {C : QC} {x : QP} {M : QM} {st : List CV} {L : QL} {l0 l1 l2 l3 l4 : Option CV} {r : Option Nat} : Rr C mX13_areAlike (56, [some (.inr (.inr r)), l1, l2, l3, l4], st, M) x = Rr C mX13_areAlike (57, [some (.inr (.inr r)), l1, l2, l3, l4], .inr (.inr r) :: st, M) x := g_pl (show decode cX13_areAlike 56 = .ok (.aload_n 0, 1) by decide +kernel) rfl
set_option maxRecDepth 20000 in
theorem kX13_areAlike_57 {C : QC} {x : QP} {M : QM} {st : List CV} {L : QL} {a : Nat} (hk : q_kd M a = (1, 13)) : Rr C mX13_areAlike (57, L, qr a :: st, M) x = Rr C mX13_areAlike (60, L, q_fv M a 0 :: st, M) x := g_getf (ow := 13) (e := (13, 0, RX13, 1301, 0)) (show decode cX13_areAlike 57 = .ok (.getfield 10, 3) by decide +kernel) rfl hk
set_option maxRecDepth 20000 in
theorem kX13_areAlike_60 {C : QC} {x : QP} {M : QM} {st : List CV} {L : QL} {l0 l1 l2 l3 l4 : Option CV} {z : Int} : Rr C mX13_areAlike (60, [l0, l1, some (qi z), l3, l4], st, M) x = Rr C mX13_areAlike (61, [l0, l1, some (qi z), l3, l4], qi z :: st, M) x := g_pl (show decode cX13_areAlike 60 = .ok (.iload_n 2, 1) by decide +kernel) rfl
set_option maxRecDepth 20000 in
theorem kX13_areAlike_61 {C : QC} {x : QP} {M : QM} {st : List CV} {L : QL} : Rr C mX13_areAlike (61, L, st, M) x = Rr C mX13_areAlike (62, L, qi 3 :: st, M) x := g_pl (show decode cX13_areAlike 61 = .ok (.iconst 3, 1) by decide +kernel) rfl
set_option maxRecDepth 20000 in
theorem kX13_areAlike_62 {C : QC} {x : QP} {M : QM} {st : List CV} {L : QL} {a b : Int} : Rr C mX13_areAlike (62, L, qi b :: qi a :: st, M) x = Rr C mX13_areAlike (63, L, qi (a + b) :: st, M) x := g_pl (show decode cX13_areAlike 62 = .ok (.iadd, 1) by decide +kernel) rfl
set_option maxRecDepth 20000 in
theorem kX13_areAlike_63 {C : QC} {x : QP} {M : QM} {st : List CV} {L : QL} {l0 l1 l2 l3 l4 : Option CV} {z : Int} : Rr C mX13_areAlike (63, [l0, l1, l2, l3, some (qi z)], st, M) x = Rr C mX13_areAlike (65, [l0, l1, l2, l3, some (qi z)], qi z :: st, M) x := g_pl (show decode cX13_areAlike 63 = .ok (.iload 4, 2) by decide +kernel) rfl
set_option maxRecDepth 20000 in
theorem kX13_areAlike_65 {C : QC} {x : QP} {M : QM} {st : List CV} {L : QL} {a b : Int} : Rr C mX13_areAlike (65, L, qi b :: qi a :: st, M) x = Rr C mX13_areAlike (66, L, qi (a + b) :: st, M) x := g_pl (show decode cX13_areAlike 65 = .ok (.iadd, 1) by decide +kernel) rfl
set_option maxRecDepth 20000 in
theorem kX13_areAlike_66 {C : QC} {x : QP} {M : QM} {st : List CV} {L : QL} {a : Nat} {j : Int} (hk : (q_kd M a).1 = 2) (h0 : 0 ≤ j) (h1 : j < ((q_kd M a).2 : Int)) : Rr C mX13_areAlike (66, L, qi j :: qr a :: st, M) x = Rr C mX13_areAlike (67, L, q_fv M a j.toNat :: st, M) x := g_iald (show decode cX13_areAlike 66 = .ok (.iaload, 1) by decide +kernel) hk h0 h1
set_option maxRecDepth 20000 in
theorem kX13_areAlike_67 {C : QC} {x : QP} {M : QM} {st : List CV} {L : QL} {a b : Int} (ha1 : -2147483648 ≤ a) (ha2 : a < 2147483648) (hb1 : -2147483648 ≤ b) (hb2 : b < 2147483648) : Rr C mX13_areAlike (67, L, qi b :: qi a :: st, M) x = (if a = b then Rr C mX13_areAlike (70, L, st, M) x else Rr C mX13_areAlike (74, L, st, M) x) := (g_icmp (show decode cX13_areAlike 67 = .ok (.if_icmp .ne 7, 3) by decide +kernel) rfl ha1 ha2 hb1 hb2).trans (g_itn c_ne)
set_option maxRecDepth 20000 in
theorem kX13_areAlike_70 {C : QC} {x : QP} {M : QM} {st : List CV} {L : QL} : Rr C mX13_areAlike (70, L, st, M) x = Rr C mX13_areAlike (71, L, qi 1 :: st, M) x := g_pl (show decode cX13_areAlike 70 = .ok (.iconst 1, 1) by decide +kernel) rfl
set_option maxRecDepth 20000 in
theorem kX13_areAlike_71 {C : QC} {x : QP} {M : QM} {st : List CV} {L : QL} : Rr C mX13_areAlike (71, L, st, M) x = Rr C mX13_areAlike (75, L, st, M) x := g_pl (show decode cX13_areAlike 71 = .ok (.goto 4, 3) by decide +kernel) rfl
set_option maxRecDepth 20000 in
theorem kX13_areAlike_74 {C : QC} {x : QP} {M : QM} {st : List CV} {L : QL} : Rr C mX13_areAlike (74, L, st, M) x = Rr C mX13_areAlike (75, L, qi 0 :: st, M) x := g_pl (show decode cX13_areAlike 74 = .ok (.iconst 0, 1) by decide +kernel) rfl
set_option maxRecDepth 20000 in
theorem kX13_areAlike_75 {C : QC} {x : QP} {M : QM} {st : List CV} {L : QL} {l0 l1 l2 l3 l4 : Option CV} {z : Int} : Rr C mX13_areAlike (75, [l0, l1, l2, l3, l4], qi z :: st, M) x = Rr C mX13_areAlike (76, [l0, l1, q_cut l2, some (qi z), l4], st, M) x := g_pl (show decode cX13_areAlike 75 = .ok (.istore_n 3, 1) by decide +kernel) rfl
set_option maxRecDepth 20000 in
theorem kX13_areAlike_76 {C : QC} {x : QP} {M : QM} {st : List CV} {L : QL} {l0 l1 l2 l3 l4 : Option CV} {z : Int} : Rr C mX13_areAlike (76, [l0, l1, l2, l3, some (qi z)], st, M) x = Rr C mX13_areAlike (79, [l0, l1, l2, q_cut l3, some (qi (z + 1))], st, M) x := g_pl (show decode cX13_areAlike 76 = .ok (.iinc 4 1, 3) by decide +kernel) rfl
set_option maxRecDepth 20000 in
theorem kX13_areAlike_79 {C : QC} {x : QP} {M : QM} {st : List CV} {L : QL} : Rr C mX13_areAlike (79, L, st, M) x = Rr C mX13_areAlike (28, L, st, M) x := g_pl (show decode cX13_areAlike 79 = .ok (.goto (-51), 3) by decide +kernel) rfl
set_option maxRecDepth 20000 in
theorem kX13_areAlike_82 {C : QC} {x : QP} {M : QM} {st : List CV} {L : QL} {l0 l1 l2 l3 l4 : Option CV} {z : Int} : Rr C mX13_areAlike (82, [l0, l1, l2, some (qi z), l4], st, M) x = Rr C mX13_areAlike (83, [l0, l1, l2, some (qi z), l4], qi z :: st, M) x := g_pl (show decode cX13_areAlike 82 = .ok (.iload_n 3, 1) by decide +kernel) rfl
set_option maxRecDepth 20000 in
theorem kX13_areAlike_83 {C : QC} {x : QP} {M : QM} {st : List CV} {L : QL} {z : Int} (hz : z = 0 ∨ z = 1) : Rr C mX13_areAlike (83, L, [qi z], M) x = x (some (qi z)) M := g_iret (show decode cX13_areAlike 83 = .ok (.ireturn, 1) by decide +kernel) (by rcases hz with rfl | rfl <;> rfl)
set_option maxRecDepth 20000 in
theorem eX13_areAlike {d : Nat} {M : QM} {x : QP} {a : Nat} {v0 : Int} {v1 : Int} : q_T (d + 1) iX13_areAlike [qr a, qi v0, qi v1] M x = Rr (q_C d) mX13_areAlike (0, [some (qr a), some (qi v0), some (qi v1), none, none], [], M) x := g_entryT (e := _) rfl (Nat.le_of_ble_eq_true rfl) rfl rfl
def mX13_tellsParent : QI := (13, cX13_tellsParent, false, none)
set_option maxRecDepth 20000 in
theorem kX13_tellsParent_0 {C : QC} {x : QP} {M : QM} {st : List CV} {L : QL} : Rr C mX13_tellsParent (0, L, st, M) x = Rr C mX13_tellsParent (3, L, qi 9275 :: st, M) x := g_pl (show decode cX13_tellsParent 0 = .ok (.sipush 9275, 3) by decide +kernel) rfl
set_option maxRecDepth 20000 in
theorem kX13_tellsParent_3 {C : QC} {x : QP} {M : QM} {st : List CV} {L : QL} : Rr C mX13_tellsParent (3, L, st, M) x = Rr C mX13_tellsParent (4, L, qi 3 :: st, M) x := g_pl (show decode cX13_tellsParent 3 = .ok (.iconst 3, 1) by decide +kernel) rfl
set_option maxRecDepth 20000 in
theorem kX13_tellsParent_4 {C : QC} {x : QP} {M : QM} {st : List CV} {L : QL} {l0 l1 l2 l3 l4 : Option CV} {r : Option Nat} : Rr C mX13_tellsParent (4, [some (.inr (.inr r)), l1, l2, l3, l4], st, M) x = Rr C mX13_tellsParent (5, [some (.inr (.inr r)), l1, l2, l3, l4], .inr (.inr r) :: st, M) x := g_pl (show decode cX13_tellsParent 4 = .ok (.aload_n 0, 1) by decide +kernel) rfl
set_option maxRecDepth 20000 in
theorem kX13_tellsParent_5 {C : QC} {x : QP} {M : QM} {st : List CV} {L : QL} {a : Nat} (hk : q_kd M a = (1, 13)) : Rr C mX13_tellsParent (5, L, qr a :: st, M) x = Rr C mX13_tellsParent (8, L, q_fv M a 0 :: st, M) x := g_getf (ow := 13) (e := (13, 0, RX13, 1301, 0)) (show decode cX13_tellsParent 5 = .ok (.getfield 10, 3) by decide +kernel) rfl hk
set_option maxRecDepth 20000 in
theorem kX13_tellsParent_8 {C : QC} {x : QP} {M : QM} {st : List CV} {L : QL} : Rr C mX13_tellsParent (8, L, st, M) x = Rr C mX13_tellsParent (9, L, qi 2 :: st, M) x := g_pl (show decode cX13_tellsParent 8 = .ok (.iconst 2, 1) by decide +kernel) rfl
set_option maxRecDepth 20000 in
theorem kX13_tellsParent_9 {C : QC} {x : QP} {M : QM} {st : List CV} {L : QL} {a : Nat} {j : Int} (hk : (q_kd M a).1 = 2) (h0 : 0 ≤ j) (h1 : j < ((q_kd M a).2 : Int)) : Rr C mX13_tellsParent (9, L, qi j :: qr a :: st, M) x = Rr C mX13_tellsParent (10, L, q_fv M a j.toNat :: st, M) x := g_iald (show decode cX13_tellsParent 9 = .ok (.iaload, 1) by decide +kernel) hk h0 h1
set_option maxRecDepth 20000 in
theorem kX13_tellsParent_10 {C : QC} {x : QP} {M : QM} {st : List CV} {L : QL} {a b : Int} : Rr C mX13_tellsParent (10, L, qi b :: qi a :: st, M) x = Rr C mX13_tellsParent (11, L, qi (a * b) :: st, M) x := g_pl (show decode cX13_tellsParent 10 = .ok (.imul, 1) by decide +kernel) rfl
set_option maxRecDepth 20000 in
theorem kX13_tellsParent_11 {C : QC} {x : QP} {M : QM} {st : List CV} {L : QL} {a b : Int} : Rr C mX13_tellsParent (11, L, qi b :: qi a :: st, M) x = Rr C mX13_tellsParent (12, L, qi (a + b) :: st, M) x := g_pl (show decode cX13_tellsParent 11 = .ok (.iadd, 1) by decide +kernel) rfl
set_option maxRecDepth 20000 in
theorem kX13_tellsParent_12 {C : QC} {x : QP} {M : QM} {st : List CV} {L : QL} {l0 l1 l2 l3 l4 : Option CV} {z : Int} : Rr C mX13_tellsParent (12, [l0, l1, l2, l3, l4], qi z :: st, M) x = Rr C mX13_tellsParent (14, [l0, l1, l2, q_cut l3, some (qi z)], st, M) x := g_pl (show decode cX13_tellsParent 12 = .ok (.istore 4, 2) by decide +kernel) rfl
set_option maxRecDepth 20000 in
theorem kX13_tellsParent_14 {C : QC} {x : QP} {M : QM} {st : List CV} {L : QL} {l0 l1 l2 l3 l4 : Option CV} {r : Option Nat} : Rr C mX13_tellsParent (14, [some (.inr (.inr r)), l1, l2, l3, l4], st, M) x = Rr C mX13_tellsParent (15, [some (.inr (.inr r)), l1, l2, l3, l4], .inr (.inr r) :: st, M) x := g_pl (show decode cX13_tellsParent 14 = .ok (.aload_n 0, 1) by decide +kernel) rfl
set_option maxRecDepth 20000 in
theorem kX13_tellsParent_15 {C : QC} {x : QP} {M : QM} {st : List CV} {L : QL} {a : Nat} (hk : q_kd M a = (1, 13)) : Rr C mX13_tellsParent (15, L, qr a :: st, M) x = Rr C mX13_tellsParent (18, L, q_fv M a 0 :: st, M) x := g_getf (ow := 13) (e := (13, 0, RX13, 1301, 0)) (show decode cX13_tellsParent 15 = .ok (.getfield 10, 3) by decide +kernel) rfl hk
set_option maxRecDepth 20000 in
theorem kX13_tellsParent_18 {C : QC} {x : QP} {M : QM} {st : List CV} {L : QL} {l0 l1 l2 l3 l4 : Option CV} {z : Int} : Rr C mX13_tellsParent (18, [l0, l1, l2, l3, some (qi z)], st, M) x = Rr C mX13_tellsParent (20, [l0, l1, l2, l3, some (qi z)], qi z :: st, M) x := g_pl (show decode cX13_tellsParent 18 = .ok (.iload 4, 2) by decide +kernel) rfl
set_option maxRecDepth 20000 in
theorem kX13_tellsParent_20 {C : QC} {x : QP} {M : QM} {st : List CV} {L : QL} {l0 l1 l2 l3 l4 : Option CV} {z : Int} : Rr C mX13_tellsParent (20, [l0, some (qi z), l2, l3, l4], st, M) x = Rr C mX13_tellsParent (21, [l0, some (qi z), l2, l3, l4], qi z :: st, M) x := g_pl (show decode cX13_tellsParent 20 = .ok (.iload_n 1, 1) by decide +kernel) rfl
set_option maxRecDepth 20000 in
theorem kX13_tellsParent_21 {C : QC} {x : QP} {M : QM} {st : List CV} {L : QL} {a : Nat} {j v : Int} (hk : (q_kd M a).1 = 2) (h0 : 0 ≤ j) (h1 : j < ((q_kd M a).2 : Int)) : Rr C mX13_tellsParent (21, L, qi v :: qi j :: qr a :: st, M) x = Rr C mX13_tellsParent (22, L, st, q_wr M a j.toNat (qi v)) x := g_iast (show decode cX13_tellsParent 21 = .ok (.iastore, 1) by decide +kernel) hk h0 h1
set_option maxRecDepth 20000 in
theorem kX13_tellsParent_22 {C : QC} {x : QP} {M : QM} {st : List CV} {L : QL} {l0 l1 l2 l3 l4 : Option CV} {r : Option Nat} : Rr C mX13_tellsParent (22, [some (.inr (.inr r)), l1, l2, l3, l4], st, M) x = Rr C mX13_tellsParent (23, [some (.inr (.inr r)), l1, l2, l3, l4], .inr (.inr r) :: st, M) x := g_pl (show decode cX13_tellsParent 22 = .ok (.aload_n 0, 1) by decide +kernel) rfl
set_option maxRecDepth 20000 in
theorem kX13_tellsParent_23 {C : QC} {x : QP} {M : QM} {st : List CV} {L : QL} {a : Nat} (hk : q_kd M a = (1, 13)) : Rr C mX13_tellsParent (23, L, qr a :: st, M) x = Rr C mX13_tellsParent (26, L, q_fv M a 0 :: st, M) x := g_getf (ow := 13) (e := (13, 0, RX13, 1301, 0)) (show decode cX13_tellsParent 23 = .ok (.getfield 10, 3) by decide +kernel) rfl hk
set_option maxRecDepth 20000 in
theorem kX13_tellsParent_26 {C : QC} {x : QP} {M : QM} {st : List CV} {L : QL} {l0 l1 l2 l3 l4 : Option CV} {z : Int} : Rr C mX13_tellsParent (26, [l0, l1, l2, l3, some (qi z)], st, M) x = Rr C mX13_tellsParent (28, [l0, l1, l2, l3, some (qi z)], qi z :: st, M) x := g_pl (show decode cX13_tellsParent 26 = .ok (.iload 4, 2) by decide +kernel) rfl
set_option maxRecDepth 20000 in
theorem kX13_tellsParent_28 {C : QC} {x : QP} {M : QM} {st : List CV} {L : QL} : Rr C mX13_tellsParent (28, L, st, M) x = Rr C mX13_tellsParent (29, L, qi 1 :: st, M) x := g_pl (show decode cX13_tellsParent 28 = .ok (.iconst 1, 1) by decide +kernel) rfl
set_option maxRecDepth 20000 in
theorem kX13_tellsParent_29 {C : QC} {x : QP} {M : QM} {st : List CV} {L : QL} {a b : Int} : Rr C mX13_tellsParent (29, L, qi b :: qi a :: st, M) x = Rr C mX13_tellsParent (30, L, qi (a + b) :: st, M) x := g_pl (show decode cX13_tellsParent 29 = .ok (.iadd, 1) by decide +kernel) rfl
set_option maxRecDepth 20000 in
theorem kX13_tellsParent_30 {C : QC} {x : QP} {M : QM} {st : List CV} {L : QL} {l0 l1 l2 l3 l4 : Option CV} {z : Int} : Rr C mX13_tellsParent (30, [l0, l1, some (qi z), l3, l4], st, M) x = Rr C mX13_tellsParent (31, [l0, l1, some (qi z), l3, l4], qi z :: st, M) x := g_pl (show decode cX13_tellsParent 30 = .ok (.iload_n 2, 1) by decide +kernel) rfl
set_option maxRecDepth 20000 in
theorem kX13_tellsParent_31 {C : QC} {x : QP} {M : QM} {st : List CV} {L : QL} {a : Nat} {j v : Int} (hk : (q_kd M a).1 = 2) (h0 : 0 ≤ j) (h1 : j < ((q_kd M a).2 : Int)) : Rr C mX13_tellsParent (31, L, qi v :: qi j :: qr a :: st, M) x = Rr C mX13_tellsParent (32, L, st, q_wr M a j.toNat (qi v)) x := g_iast (show decode cX13_tellsParent 31 = .ok (.iastore, 1) by decide +kernel) hk h0 h1
set_option maxRecDepth 20000 in
theorem kX13_tellsParent_32 {C : QC} {x : QP} {M : QM} {st : List CV} {L : QL} {l0 l1 l2 l3 l4 : Option CV} {r : Option Nat} : Rr C mX13_tellsParent (32, [some (.inr (.inr r)), l1, l2, l3, l4], st, M) x = Rr C mX13_tellsParent (33, [some (.inr (.inr r)), l1, l2, l3, l4], .inr (.inr r) :: st, M) x := g_pl (show decode cX13_tellsParent 32 = .ok (.aload_n 0, 1) by decide +kernel) rfl
set_option maxRecDepth 20000 in
theorem kX13_tellsParent_33 {C : QC} {x : QP} {M : QM} {st : List CV} {L : QL} {a : Nat} (hk : q_kd M a = (1, 13)) : Rr C mX13_tellsParent (33, L, qr a :: st, M) x = Rr C mX13_tellsParent (36, L, q_fv M a 0 :: st, M) x := g_getf (ow := 13) (e := (13, 0, RX13, 1301, 0)) (show decode cX13_tellsParent 33 = .ok (.getfield 10, 3) by decide +kernel) rfl hk
set_option maxRecDepth 20000 in
theorem kX13_tellsParent_36 {C : QC} {x : QP} {M : QM} {st : List CV} {L : QL} {l0 l1 l2 l3 l4 : Option CV} {z : Int} : Rr C mX13_tellsParent (36, [l0, l1, l2, l3, some (qi z)], st, M) x = Rr C mX13_tellsParent (38, [l0, l1, l2, l3, some (qi z)], qi z :: st, M) x := g_pl (show decode cX13_tellsParent 36 = .ok (.iload 4, 2) by decide +kernel) rfl
set_option maxRecDepth 20000 in
theorem kX13_tellsParent_38 {C : QC} {x : QP} {M : QM} {st : List CV} {L : QL} : Rr C mX13_tellsParent (38, L, st, M) x = Rr C mX13_tellsParent (39, L, qi 2 :: st, M) x := g_pl (show decode cX13_tellsParent 38 = .ok (.iconst 2, 1) by decide +kernel) rfl
set_option maxRecDepth 20000 in
theorem kX13_tellsParent_39 {C : QC} {x : QP} {M : QM} {st : List CV} {L : QL} {a b : Int} : Rr C mX13_tellsParent (39, L, qi b :: qi a :: st, M) x = Rr C mX13_tellsParent (40, L, qi (a + b) :: st, M) x := g_pl (show decode cX13_tellsParent 39 = .ok (.iadd, 1) by decide +kernel) rfl
set_option maxRecDepth 20000 in
theorem kX13_tellsParent_40 {C : QC} {x : QP} {M : QM} {st : List CV} {L : QL} {l0 l1 l2 l3 l4 : Option CV} {z : Int} : Rr C mX13_tellsParent (40, [l0, l1, l2, some (qi z), l4], st, M) x = Rr C mX13_tellsParent (41, [l0, l1, l2, some (qi z), l4], qi z :: st, M) x := g_pl (show decode cX13_tellsParent 40 = .ok (.iload_n 3, 1) by decide +kernel) rfl
set_option maxRecDepth 20000 in
theorem kX13_tellsParent_41 {C : QC} {x : QP} {M : QM} {st : List CV} {L : QL} {a : Nat} {j v : Int} (hk : (q_kd M a).1 = 2) (h0 : 0 ≤ j) (h1 : j < ((q_kd M a).2 : Int)) : Rr C mX13_tellsParent (41, L, qi v :: qi j :: qr a :: st, M) x = Rr C mX13_tellsParent (42, L, st, q_wr M a j.toNat (qi v)) x := g_iast (show decode cX13_tellsParent 41 = .ok (.iastore, 1) by decide +kernel) hk h0 h1
set_option maxRecDepth 20000 in
theorem kX13_tellsParent_42 {C : QC} {x : QP} {M : QM} {st : List CV} {L : QL} {l0 l1 l2 l3 l4 : Option CV} {r : Option Nat} : Rr C mX13_tellsParent (42, [some (.inr (.inr r)), l1, l2, l3, l4], st, M) x = Rr C mX13_tellsParent (43, [some (.inr (.inr r)), l1, l2, l3, l4], .inr (.inr r) :: st, M) x := g_pl (show decode cX13_tellsParent 42 = .ok (.aload_n 0, 1) by decide +kernel) rfl
set_option maxRecDepth 20000 in
theorem kX13_tellsParent_43 {C : QC} {x : QP} {M : QM} {st : List CV} {L : QL} {a : Nat} (hk : q_kd M a = (1, 13)) : Rr C mX13_tellsParent (43, L, qr a :: st, M) x = Rr C mX13_tellsParent (46, L, q_fv M a 0 :: st, M) x := g_getf (ow := 13) (e := (13, 0, RX13, 1301, 0)) (show decode cX13_tellsParent 43 = .ok (.getfield 10, 3) by decide +kernel) rfl hk
set_option maxRecDepth 20000 in
theorem kX13_tellsParent_46 {C : QC} {x : QP} {M : QM} {st : List CV} {L : QL} : Rr C mX13_tellsParent (46, L, st, M) x = Rr C mX13_tellsParent (47, L, qi 2 :: st, M) x := g_pl (show decode cX13_tellsParent 46 = .ok (.iconst 2, 1) by decide +kernel) rfl
set_option maxRecDepth 20000 in
theorem kX13_tellsParent_47 {C : QC} {x : QP} {M : QM} {st : List CV} {L : QL} {a : Int} {b : Option Nat} : Rr C mX13_tellsParent (47, L, qi a :: .inr (.inr b) :: st, M) x = Rr C mX13_tellsParent (48, L, qi a :: .inr (.inr b) :: qi a :: .inr (.inr b) :: st, M) x := g_pl (show decode cX13_tellsParent 47 = .ok (.dup2, 1) by decide +kernel) rfl
set_option maxRecDepth 20000 in
theorem kX13_tellsParent_48 {C : QC} {x : QP} {M : QM} {st : List CV} {L : QL} {a : Nat} {j : Int} (hk : (q_kd M a).1 = 2) (h0 : 0 ≤ j) (h1 : j < ((q_kd M a).2 : Int)) : Rr C mX13_tellsParent (48, L, qi j :: qr a :: st, M) x = Rr C mX13_tellsParent (49, L, q_fv M a j.toNat :: st, M) x := g_iald (show decode cX13_tellsParent 48 = .ok (.iaload, 1) by decide +kernel) hk h0 h1
set_option maxRecDepth 20000 in
theorem kX13_tellsParent_49 {C : QC} {x : QP} {M : QM} {st : List CV} {L : QL} : Rr C mX13_tellsParent (49, L, st, M) x = Rr C mX13_tellsParent (50, L, qi 1 :: st, M) x := g_pl (show decode cX13_tellsParent 49 = .ok (.iconst 1, 1) by decide +kernel) rfl
set_option maxRecDepth 20000 in
theorem kX13_tellsParent_50 {C : QC} {x : QP} {M : QM} {st : List CV} {L : QL} {a b : Int} : Rr C mX13_tellsParent (50, L, qi b :: qi a :: st, M) x = Rr C mX13_tellsParent (51, L, qi (a + b) :: st, M) x := g_pl (show decode cX13_tellsParent 50 = .ok (.iadd, 1) by decide +kernel) rfl
set_option maxRecDepth 20000 in
theorem kX13_tellsParent_51 {C : QC} {x : QP} {M : QM} {st : List CV} {L : QL} {a : Nat} {j v : Int} (hk : (q_kd M a).1 = 2) (h0 : 0 ≤ j) (h1 : j < ((q_kd M a).2 : Int)) : Rr C mX13_tellsParent (51, L, qi v :: qi j :: qr a :: st, M) x = Rr C mX13_tellsParent (52, L, st, q_wr M a j.toNat (qi v)) x := g_iast (show decode cX13_tellsParent 51 = .ok (.iastore, 1) by decide +kernel) hk h0 h1
set_option maxRecDepth 20000 in
theorem kX13_tellsParent_52 {C : QC} {x : QP} {M : QM} {st : List CV} {L : QL} : Rr C mX13_tellsParent (52, L, [], M) x = x none M := g_vret (show decode cX13_tellsParent 52 = .ok (.return_, 1) by decide +kernel)
set_option maxRecDepth 20000 in
theorem eX13_tellsParent {d : Nat} {M : QM} {x : QP} {a : Nat} {v0 : Int} {v1 : Int} {v2 : Int} : q_T (d + 1) iX13_tellsParent [qr a, qi v0, qi v1, qi v2] M x = Rr (q_C d) mX13_tellsParent (0, [some (qr a), some (qi v0), some (qi v1), some (qi v2), none], [], M) x := g_entryT (e := _) rfl (Nat.le_of_ble_eq_true rfl) rfl rfl
def mX13_parentOn : QI := (13, cX13_parentOn, false, some .int)
set_option maxRecDepth 20000 in
theorem kX13_parentOn_0 {C : QC} {x : QP} {M : QM} {st : List CV} {L : QL} : Rr C mX13_parentOn (0, L, st, M) x = Rr C mX13_parentOn (2, L, qi (-5) :: st, M) x := g_pl (show decode cX13_parentOn 0 = .ok (.bipush (-5), 2) by decide +kernel) rfl
set_option maxRecDepth 20000 in
theorem kX13_parentOn_2 {C : QC} {x : QP} {M : QM} {st : List CV} {L : QL} {l0 l1 l2 l3 l4 l5 : Option CV} {z : Int} : Rr C mX13_parentOn (2, [l0, l1, l2, l3, l4, l5], qi z :: st, M) x = Rr C mX13_parentOn (3, [l0, l1, q_cut l2, some (qi z), l4, l5], st, M) x := g_pl (show decode cX13_parentOn 2 = .ok (.istore_n 3, 1) by decide +kernel) rfl
set_option maxRecDepth 20000 in
theorem kX13_parentOn_3 {C : QC} {x : QP} {M : QM} {st : List CV} {L : QL} : Rr C mX13_parentOn (3, L, st, M) x = Rr C mX13_parentOn (4, L, qi 0 :: st, M) x := g_pl (show decode cX13_parentOn 3 = .ok (.iconst 0, 1) by decide +kernel) rfl
set_option maxRecDepth 20000 in
theorem kX13_parentOn_4 {C : QC} {x : QP} {M : QM} {st : List CV} {L : QL} {l0 l1 l2 l3 l4 l5 : Option CV} {z : Int} : Rr C mX13_parentOn (4, [l0, l1, l2, l3, l4, l5], qi z :: st, M) x = Rr C mX13_parentOn (6, [l0, l1, l2, q_cut l3, some (qi z), l5], st, M) x := g_pl (show decode cX13_parentOn 4 = .ok (.istore 4, 2) by decide +kernel) rfl
set_option maxRecDepth 20000 in
theorem kX13_parentOn_6 {C : QC} {x : QP} {M : QM} {st : List CV} {L : QL} {l0 l1 l2 l3 l4 l5 : Option CV} {z : Int} : Rr C mX13_parentOn (6, [l0, l1, l2, l3, some (qi z), l5], st, M) x = Rr C mX13_parentOn (8, [l0, l1, l2, l3, some (qi z), l5], qi z :: st, M) x := g_pl (show decode cX13_parentOn 6 = .ok (.iload 4, 2) by decide +kernel) rfl
set_option maxRecDepth 20000 in
theorem kX13_parentOn_8 {C : QC} {x : QP} {M : QM} {st : List CV} {L : QL} {l0 l1 l2 l3 l4 l5 : Option CV} {r : Option Nat} : Rr C mX13_parentOn (8, [some (.inr (.inr r)), l1, l2, l3, l4, l5], st, M) x = Rr C mX13_parentOn (9, [some (.inr (.inr r)), l1, l2, l3, l4, l5], .inr (.inr r) :: st, M) x := g_pl (show decode cX13_parentOn 8 = .ok (.aload_n 0, 1) by decide +kernel) rfl
set_option maxRecDepth 20000 in
theorem kX13_parentOn_9 {C : QC} {x : QP} {M : QM} {st : List CV} {L : QL} {a : Nat} (hk : q_kd M a = (1, 13)) : Rr C mX13_parentOn (9, L, qr a :: st, M) x = Rr C mX13_parentOn (12, L, q_fv M a 0 :: st, M) x := g_getf (ow := 13) (e := (13, 0, RX13, 1301, 0)) (show decode cX13_parentOn 9 = .ok (.getfield 10, 3) by decide +kernel) rfl hk
set_option maxRecDepth 20000 in
theorem kX13_parentOn_12 {C : QC} {x : QP} {M : QM} {st : List CV} {L : QL} : Rr C mX13_parentOn (12, L, st, M) x = Rr C mX13_parentOn (13, L, qi 2 :: st, M) x := g_pl (show decode cX13_parentOn 12 = .ok (.iconst 2, 1) by decide +kernel) rfl
set_option maxRecDepth 20000 in
theorem kX13_parentOn_13 {C : QC} {x : QP} {M : QM} {st : List CV} {L : QL} {a : Nat} {j : Int} (hk : (q_kd M a).1 = 2) (h0 : 0 ≤ j) (h1 : j < ((q_kd M a).2 : Int)) : Rr C mX13_parentOn (13, L, qi j :: qr a :: st, M) x = Rr C mX13_parentOn (14, L, q_fv M a j.toNat :: st, M) x := g_iald (show decode cX13_parentOn 13 = .ok (.iaload, 1) by decide +kernel) hk h0 h1
set_option maxRecDepth 20000 in
theorem kX13_parentOn_14 {C : QC} {x : QP} {M : QM} {st : List CV} {L : QL} {a b : Int} (ha1 : -2147483648 ≤ a) (ha2 : a < 2147483648) (hb1 : -2147483648 ≤ b) (hb2 : b < 2147483648) : Rr C mX13_parentOn (14, L, qi b :: qi a :: st, M) x = (if a < b then Rr C mX13_parentOn (17, L, st, M) x else Rr C mX13_parentOn (106, L, st, M) x) := (g_icmp (show decode cX13_parentOn 14 = .ok (.if_icmp .ge 92, 3) by decide +kernel) rfl ha1 ha2 hb1 hb2).trans (g_itn c_ge)
set_option maxRecDepth 20000 in
theorem kX13_parentOn_17 {C : QC} {x : QP} {M : QM} {st : List CV} {L : QL} : Rr C mX13_parentOn (17, L, st, M) x = Rr C mX13_parentOn (20, L, qi 9275 :: st, M) x := g_pl (show decode cX13_parentOn 17 = .ok (.sipush 9275, 3) by decide +kernel) rfl
set_option maxRecDepth 20000 in
theorem kX13_parentOn_20 {C : QC} {x : QP} {M : QM} {st : List CV} {L : QL} : Rr C mX13_parentOn (20, L, st, M) x = Rr C mX13_parentOn (21, L, qi 3 :: st, M) x := g_pl (show decode cX13_parentOn 20 = .ok (.iconst 3, 1) by decide +kernel) rfl
set_option maxRecDepth 20000 in
theorem kX13_parentOn_21 {C : QC} {x : QP} {M : QM} {st : List CV} {L : QL} {l0 l1 l2 l3 l4 l5 : Option CV} {z : Int} : Rr C mX13_parentOn (21, [l0, l1, l2, l3, some (qi z), l5], st, M) x = Rr C mX13_parentOn (23, [l0, l1, l2, l3, some (qi z), l5], qi z :: st, M) x := g_pl (show decode cX13_parentOn 21 = .ok (.iload 4, 2) by decide +kernel) rfl
set_option maxRecDepth 20000 in
theorem kX13_parentOn_23 {C : QC} {x : QP} {M : QM} {st : List CV} {L : QL} {a b : Int} : Rr C mX13_parentOn (23, L, qi b :: qi a :: st, M) x = Rr C mX13_parentOn (24, L, qi (a * b) :: st, M) x := g_pl (show decode cX13_parentOn 23 = .ok (.imul, 1) by decide +kernel) rfl
set_option maxRecDepth 20000 in
theorem kX13_parentOn_24 {C : QC} {x : QP} {M : QM} {st : List CV} {L : QL} {a b : Int} : Rr C mX13_parentOn (24, L, qi b :: qi a :: st, M) x = Rr C mX13_parentOn (25, L, qi (a + b) :: st, M) x := g_pl (show decode cX13_parentOn 24 = .ok (.iadd, 1) by decide +kernel) rfl
set_option maxRecDepth 20000 in
theorem kX13_parentOn_25 {C : QC} {x : QP} {M : QM} {st : List CV} {L : QL} {l0 l1 l2 l3 l4 l5 : Option CV} {z : Int} : Rr C mX13_parentOn (25, [l0, l1, l2, l3, l4, l5], qi z :: st, M) x = Rr C mX13_parentOn (27, [l0, l1, l2, l3, q_cut l4, some (qi z)], st, M) x := g_pl (show decode cX13_parentOn 25 = .ok (.istore 5, 2) by decide +kernel) rfl
set_option maxRecDepth 20000 in
theorem kX13_parentOn_27 {C : QC} {x : QP} {M : QM} {st : List CV} {L : QL} {l0 l1 l2 l3 l4 l5 : Option CV} {r : Option Nat} : Rr C mX13_parentOn (27, [some (.inr (.inr r)), l1, l2, l3, l4, l5], st, M) x = Rr C mX13_parentOn (28, [some (.inr (.inr r)), l1, l2, l3, l4, l5], .inr (.inr r) :: st, M) x := g_pl (show decode cX13_parentOn 27 = .ok (.aload_n 0, 1) by decide +kernel) rfl
set_option maxRecDepth 20000 in
theorem kX13_parentOn_28 {C : QC} {x : QP} {M : QM} {st : List CV} {L : QL} {a : Nat} (hk : q_kd M a = (1, 13)) : Rr C mX13_parentOn (28, L, qr a :: st, M) x = Rr C mX13_parentOn (31, L, q_fv M a 0 :: st, M) x := g_getf (ow := 13) (e := (13, 0, RX13, 1301, 0)) (show decode cX13_parentOn 28 = .ok (.getfield 10, 3) by decide +kernel) rfl hk
set_option maxRecDepth 20000 in
theorem kX13_parentOn_31 {C : QC} {x : QP} {M : QM} {st : List CV} {L : QL} {l0 l1 l2 l3 l4 l5 : Option CV} {z : Int} : Rr C mX13_parentOn (31, [l0, l1, l2, l3, l4, some (qi z)], st, M) x = Rr C mX13_parentOn (33, [l0, l1, l2, l3, l4, some (qi z)], qi z :: st, M) x := g_pl (show decode cX13_parentOn 31 = .ok (.iload 5, 2) by decide +kernel) rfl
set_option maxRecDepth 20000 in
theorem kX13_parentOn_33 {C : QC} {x : QP} {M : QM} {st : List CV} {L : QL} : Rr C mX13_parentOn (33, L, st, M) x = Rr C mX13_parentOn (34, L, qi 1 :: st, M) x := g_pl (show decode cX13_parentOn 33 = .ok (.iconst 1, 1) by decide +kernel) rfl
set_option maxRecDepth 20000 in
theorem kX13_parentOn_34 {C : QC} {x : QP} {M : QM} {st : List CV} {L : QL} {a b : Int} : Rr C mX13_parentOn (34, L, qi b :: qi a :: st, M) x = Rr C mX13_parentOn (35, L, qi (a + b) :: st, M) x := g_pl (show decode cX13_parentOn 34 = .ok (.iadd, 1) by decide +kernel) rfl
set_option maxRecDepth 20000 in
theorem kX13_parentOn_35 {C : QC} {x : QP} {M : QM} {st : List CV} {L : QL} {a : Nat} {j : Int} (hk : (q_kd M a).1 = 2) (h0 : 0 ≤ j) (h1 : j < ((q_kd M a).2 : Int)) : Rr C mX13_parentOn (35, L, qi j :: qr a :: st, M) x = Rr C mX13_parentOn (36, L, q_fv M a j.toNat :: st, M) x := g_iald (show decode cX13_parentOn 35 = .ok (.iaload, 1) by decide +kernel) hk h0 h1
set_option maxRecDepth 20000 in
theorem kX13_parentOn_36 {C : QC} {x : QP} {M : QM} {st : List CV} {L : QL} {l0 l1 l2 l3 l4 l5 : Option CV} {z : Int} : Rr C mX13_parentOn (36, [l0, l1, some (qi z), l3, l4, l5], st, M) x = Rr C mX13_parentOn (37, [l0, l1, some (qi z), l3, l4, l5], qi z :: st, M) x := g_pl (show decode cX13_parentOn 36 = .ok (.iload_n 2, 1) by decide +kernel) rfl
set_option maxRecDepth 20000 in
theorem kX13_parentOn_37 {C : QC} {x : QP} {M : QM} {st : List CV} {L : QL} {a b : Int} (ha1 : -2147483648 ≤ a) (ha2 : a < 2147483648) (hb1 : -2147483648 ≤ b) (hb2 : b < 2147483648) : Rr C mX13_parentOn (37, L, qi b :: qi a :: st, M) x = (if b < a then Rr C mX13_parentOn (40, L, st, M) x else Rr C mX13_parentOn (43, L, st, M) x) := (g_icmp (show decode cX13_parentOn 37 = .ok (.if_icmp .le 6, 3) by decide +kernel) rfl ha1 ha2 hb1 hb2).trans (g_itn c_le)
set_option maxRecDepth 20000 in
theorem kX13_parentOn_40 {C : QC} {x : QP} {M : QM} {st : List CV} {L : QL} : Rr C mX13_parentOn (40, L, st, M) x = Rr C mX13_parentOn (100, L, st, M) x := g_pl (show decode cX13_parentOn 40 = .ok (.goto 60, 3) by decide +kernel) rfl
set_option maxRecDepth 20000 in
theorem kX13_parentOn_43 {C : QC} {x : QP} {M : QM} {st : List CV} {L : QL} {l0 l1 l2 l3 l4 l5 : Option CV} {r : Option Nat} : Rr C mX13_parentOn (43, [some (.inr (.inr r)), l1, l2, l3, l4, l5], st, M) x = Rr C mX13_parentOn (44, [some (.inr (.inr r)), l1, l2, l3, l4, l5], .inr (.inr r) :: st, M) x := g_pl (show decode cX13_parentOn 43 = .ok (.aload_n 0, 1) by decide +kernel) rfl
set_option maxRecDepth 20000 in
theorem kX13_parentOn_44 {C : QC} {x : QP} {M : QM} {st : List CV} {L : QL} {a : Nat} (hk : q_kd M a = (1, 13)) : Rr C mX13_parentOn (44, L, qr a :: st, M) x = Rr C mX13_parentOn (47, L, q_fv M a 0 :: st, M) x := g_getf (ow := 13) (e := (13, 0, RX13, 1301, 0)) (show decode cX13_parentOn 44 = .ok (.getfield 10, 3) by decide +kernel) rfl hk
set_option maxRecDepth 20000 in
theorem kX13_parentOn_47 {C : QC} {x : QP} {M : QM} {st : List CV} {L : QL} {l0 l1 l2 l3 l4 l5 : Option CV} {z : Int} : Rr C mX13_parentOn (47, [l0, l1, l2, l3, l4, some (qi z)], st, M) x = Rr C mX13_parentOn (49, [l0, l1, l2, l3, l4, some (qi z)], qi z :: st, M) x := g_pl (show decode cX13_parentOn 47 = .ok (.iload 5, 2) by decide +kernel) rfl
set_option maxRecDepth 20000 in
theorem kX13_parentOn_49 {C : QC} {x : QP} {M : QM} {st : List CV} {L : QL} {a : Nat} {j : Int} (hk : (q_kd M a).1 = 2) (h0 : 0 ≤ j) (h1 : j < ((q_kd M a).2 : Int)) : Rr C mX13_parentOn (49, L, qi j :: qr a :: st, M) x = Rr C mX13_parentOn (50, L, q_fv M a j.toNat :: st, M) x := g_iald (show decode cX13_parentOn 49 = .ok (.iaload, 1) by decide +kernel) hk h0 h1
set_option maxRecDepth 20000 in
theorem kX13_parentOn_50 {C : QC} {x : QP} {M : QM} {st : List CV} {L : QL} {l0 l1 l2 l3 l4 l5 : Option CV} {z : Int} : Rr C mX13_parentOn (50, [l0, some (qi z), l2, l3, l4, l5], st, M) x = Rr C mX13_parentOn (51, [l0, some (qi z), l2, l3, l4, l5], qi z :: st, M) x := g_pl (show decode cX13_parentOn 50 = .ok (.iload_n 1, 1) by decide +kernel) rfl
set_option maxRecDepth 20000 in
theorem kX13_parentOn_51 {C : QC} {x : QP} {M : QM} {st : List CV} {L : QL} {a b : Int} (ha1 : -2147483648 ≤ a) (ha2 : a < 2147483648) (hb1 : -2147483648 ≤ b) (hb2 : b < 2147483648) : Rr C mX13_parentOn (51, L, qi b :: qi a :: st, M) x = (if a = b then Rr C mX13_parentOn (54, L, st, M) x else Rr C mX13_parentOn (67, L, st, M) x) := (g_icmp (show decode cX13_parentOn 51 = .ok (.if_icmp .ne 16, 3) by decide +kernel) rfl ha1 ha2 hb1 hb2).trans (g_itn c_ne)
set_option maxRecDepth 20000 in
theorem kX13_parentOn_54 {C : QC} {x : QP} {M : QM} {st : List CV} {L : QL} {l0 l1 l2 l3 l4 l5 : Option CV} {r : Option Nat} : Rr C mX13_parentOn (54, [some (.inr (.inr r)), l1, l2, l3, l4, l5], st, M) x = Rr C mX13_parentOn (55, [some (.inr (.inr r)), l1, l2, l3, l4, l5], .inr (.inr r) :: st, M) x := g_pl (show decode cX13_parentOn 54 = .ok (.aload_n 0, 1) by decide +kernel) rfl
set_option maxRecDepth 20000 in
theorem kX13_parentOn_55 {C : QC} {x : QP} {M : QM} {st : List CV} {L : QL} {a : Nat} (hk : q_kd M a = (1, 13)) : Rr C mX13_parentOn (55, L, qr a :: st, M) x = Rr C mX13_parentOn (58, L, q_fv M a 0 :: st, M) x := g_getf (ow := 13) (e := (13, 0, RX13, 1301, 0)) (show decode cX13_parentOn 55 = .ok (.getfield 10, 3) by decide +kernel) rfl hk
set_option maxRecDepth 20000 in
theorem kX13_parentOn_58 {C : QC} {x : QP} {M : QM} {st : List CV} {L : QL} {l0 l1 l2 l3 l4 l5 : Option CV} {z : Int} : Rr C mX13_parentOn (58, [l0, l1, l2, l3, l4, some (qi z)], st, M) x = Rr C mX13_parentOn (60, [l0, l1, l2, l3, l4, some (qi z)], qi z :: st, M) x := g_pl (show decode cX13_parentOn 58 = .ok (.iload 5, 2) by decide +kernel) rfl
set_option maxRecDepth 20000 in
theorem kX13_parentOn_60 {C : QC} {x : QP} {M : QM} {st : List CV} {L : QL} : Rr C mX13_parentOn (60, L, st, M) x = Rr C mX13_parentOn (61, L, qi 2 :: st, M) x := g_pl (show decode cX13_parentOn 60 = .ok (.iconst 2, 1) by decide +kernel) rfl
set_option maxRecDepth 20000 in
theorem kX13_parentOn_61 {C : QC} {x : QP} {M : QM} {st : List CV} {L : QL} {a b : Int} : Rr C mX13_parentOn (61, L, qi b :: qi a :: st, M) x = Rr C mX13_parentOn (62, L, qi (a + b) :: st, M) x := g_pl (show decode cX13_parentOn 61 = .ok (.iadd, 1) by decide +kernel) rfl
set_option maxRecDepth 20000 in
theorem kX13_parentOn_62 {C : QC} {x : QP} {M : QM} {st : List CV} {L : QL} {a : Nat} {j : Int} (hk : (q_kd M a).1 = 2) (h0 : 0 ≤ j) (h1 : j < ((q_kd M a).2 : Int)) : Rr C mX13_parentOn (62, L, qi j :: qr a :: st, M) x = Rr C mX13_parentOn (63, L, q_fv M a j.toNat :: st, M) x := g_iald (show decode cX13_parentOn 62 = .ok (.iaload, 1) by decide +kernel) hk h0 h1
set_option maxRecDepth 20000 in
theorem kX13_parentOn_63 {C : QC} {x : QP} {M : QM} {st : List CV} {L : QL} {l0 l1 l2 l3 l4 l5 : Option CV} {z : Int} : Rr C mX13_parentOn (63, [l0, l1, l2, l3, l4, l5], qi z :: st, M) x = Rr C mX13_parentOn (64, [l0, l1, q_cut l2, some (qi z), l4, l5], st, M) x := g_pl (show decode cX13_parentOn 63 = .ok (.istore_n 3, 1) by decide +kernel) rfl
set_option maxRecDepth 20000 in
theorem kX13_parentOn_64 {C : QC} {x : QP} {M : QM} {st : List CV} {L : QL} : Rr C mX13_parentOn (64, L, st, M) x = Rr C mX13_parentOn (100, L, st, M) x := g_pl (show decode cX13_parentOn 64 = .ok (.goto 36, 3) by decide +kernel) rfl
set_option maxRecDepth 20000 in
theorem kX13_parentOn_67 {C : QC} {x : QP} {M : QM} {st : List CV} {L : QL} {l0 l1 l2 l3 l4 l5 : Option CV} {r : Option Nat} : Rr C mX13_parentOn (67, [some (.inr (.inr r)), l1, l2, l3, l4, l5], st, M) x = Rr C mX13_parentOn (68, [some (.inr (.inr r)), l1, l2, l3, l4, l5], .inr (.inr r) :: st, M) x := g_pl (show decode cX13_parentOn 67 = .ok (.aload_n 0, 1) by decide +kernel) rfl
set_option maxRecDepth 20000 in
theorem kX13_parentOn_68 {C : QC} {x : QP} {M : QM} {st : List CV} {L : QL} {a : Nat} (hk : q_kd M a = (1, 13)) : Rr C mX13_parentOn (68, L, qr a :: st, M) x = Rr C mX13_parentOn (71, L, q_fv M a 0 :: st, M) x := g_getf (ow := 13) (e := (13, 0, RX13, 1301, 0)) (show decode cX13_parentOn 68 = .ok (.getfield 10, 3) by decide +kernel) rfl hk
set_option maxRecDepth 20000 in
theorem kX13_parentOn_71 {C : QC} {x : QP} {M : QM} {st : List CV} {L : QL} {l0 l1 l2 l3 l4 l5 : Option CV} {z : Int} : Rr C mX13_parentOn (71, [l0, l1, l2, l3, l4, some (qi z)], st, M) x = Rr C mX13_parentOn (73, [l0, l1, l2, l3, l4, some (qi z)], qi z :: st, M) x := g_pl (show decode cX13_parentOn 71 = .ok (.iload 5, 2) by decide +kernel) rfl
set_option maxRecDepth 20000 in
theorem kX13_parentOn_73 {C : QC} {x : QP} {M : QM} {st : List CV} {L : QL} {a : Nat} {j : Int} (hk : (q_kd M a).1 = 2) (h0 : 0 ≤ j) (h1 : j < ((q_kd M a).2 : Int)) : Rr C mX13_parentOn (73, L, qi j :: qr a :: st, M) x = Rr C mX13_parentOn (74, L, q_fv M a j.toNat :: st, M) x := g_iald (show decode cX13_parentOn 73 = .ok (.iaload, 1) by decide +kernel) hk h0 h1
set_option maxRecDepth 20000 in
theorem kX13_parentOn_74 {C : QC} {x : QP} {M : QM} {st : List CV} {L : QL} {a : Int} (ha1 : -2147483648 ≤ a) (ha2 : a < 2147483648) : Rr C mX13_parentOn (74, L, qi a :: st, M) x = (if a < 0 then Rr C mX13_parentOn (77, L, st, M) x else Rr C mX13_parentOn (100, L, st, M) x) := (g_if (show decode cX13_parentOn 74 = .ok (.ifCond .ge 26, 3) by decide +kernel) rfl ha1 ha2).trans (g_itn c_ge)
set_option maxRecDepth 20000 in
theorem kX13_parentOn_77 {C : QC} {x : QP} {M : QM} {st : List CV} {L : QL} : Rr C mX13_parentOn (77, L, st, M) x = Rr C mX13_parentOn (78, L, qi (-1) :: st, M) x := g_pl (show decode cX13_parentOn 77 = .ok (.iconst (-1), 1) by decide +kernel) rfl
set_option maxRecDepth 20000 in
theorem kX13_parentOn_78 {C : QC} {x : QP} {M : QM} {st : List CV} {L : QL} {l0 l1 l2 l3 l4 l5 : Option CV} {r : Option Nat} : Rr C mX13_parentOn (78, [some (.inr (.inr r)), l1, l2, l3, l4, l5], st, M) x = Rr C mX13_parentOn (79, [some (.inr (.inr r)), l1, l2, l3, l4, l5], .inr (.inr r) :: st, M) x := g_pl (show decode cX13_parentOn 78 = .ok (.aload_n 0, 1) by decide +kernel) rfl
set_option maxRecDepth 20000 in
theorem kX13_parentOn_79 {C : QC} {x : QP} {M : QM} {st : List CV} {L : QL} {a : Nat} (hk : q_kd M a = (1, 13)) : Rr C mX13_parentOn (79, L, qr a :: st, M) x = Rr C mX13_parentOn (82, L, q_fv M a 0 :: st, M) x := g_getf (ow := 13) (e := (13, 0, RX13, 1301, 0)) (show decode cX13_parentOn 79 = .ok (.getfield 10, 3) by decide +kernel) rfl hk
set_option maxRecDepth 20000 in
theorem kX13_parentOn_82 {C : QC} {x : QP} {M : QM} {st : List CV} {L : QL} {l0 l1 l2 l3 l4 l5 : Option CV} {z : Int} : Rr C mX13_parentOn (82, [l0, l1, l2, l3, l4, some (qi z)], st, M) x = Rr C mX13_parentOn (84, [l0, l1, l2, l3, l4, some (qi z)], qi z :: st, M) x := g_pl (show decode cX13_parentOn 82 = .ok (.iload 5, 2) by decide +kernel) rfl
set_option maxRecDepth 20000 in
theorem kX13_parentOn_84 {C : QC} {x : QP} {M : QM} {st : List CV} {L : QL} {a : Nat} {j : Int} (hk : (q_kd M a).1 = 2) (h0 : 0 ≤ j) (h1 : j < ((q_kd M a).2 : Int)) : Rr C mX13_parentOn (84, L, qi j :: qr a :: st, M) x = Rr C mX13_parentOn (85, L, q_fv M a j.toNat :: st, M) x := g_iald (show decode cX13_parentOn 84 = .ok (.iaload, 1) by decide +kernel) hk h0 h1
set_option maxRecDepth 20000 in
theorem kX13_parentOn_85 {C : QC} {x : QP} {M : QM} {st : List CV} {L : QL} {a b : Int} : Rr C mX13_parentOn (85, L, qi b :: qi a :: st, M) x = Rr C mX13_parentOn (86, L, qi (a - b) :: st, M) x := g_pl (show decode cX13_parentOn 85 = .ok (.isub, 1) by decide +kernel) rfl
set_option maxRecDepth 20000 in
theorem kX13_parentOn_86 {C : QC} {x : QP} {M : QM} {st : List CV} {L : QL} {l0 l1 l2 l3 l4 l5 : Option CV} {z : Int} : Rr C mX13_parentOn (86, [l0, l1, l2, some (qi z), l4, l5], st, M) x = Rr C mX13_parentOn (87, [l0, l1, l2, some (qi z), l4, l5], qi z :: st, M) x := g_pl (show decode cX13_parentOn 86 = .ok (.iload_n 3, 1) by decide +kernel) rfl
set_option maxRecDepth 20000 in
theorem kX13_parentOn_87 {C : QC} {x : QP} {M : QM} {st : List CV} {L : QL} {a b : Int} (ha1 : -2147483648 ≤ a) (ha2 : a < 2147483648) (hb1 : -2147483648 ≤ b) (hb2 : b < 2147483648) : Rr C mX13_parentOn (87, L, qi b :: qi a :: st, M) x = (if a = b then Rr C mX13_parentOn (90, L, st, M) x else Rr C mX13_parentOn (100, L, st, M) x) := (g_icmp (show decode cX13_parentOn 87 = .ok (.if_icmp .ne 13, 3) by decide +kernel) rfl ha1 ha2 hb1 hb2).trans (g_itn c_ne)
set_option maxRecDepth 20000 in
theorem kX13_parentOn_90 {C : QC} {x : QP} {M : QM} {st : List CV} {L : QL} {l0 l1 l2 l3 l4 l5 : Option CV} {r : Option Nat} : Rr C mX13_parentOn (90, [some (.inr (.inr r)), l1, l2, l3, l4, l5], st, M) x = Rr C mX13_parentOn (91, [some (.inr (.inr r)), l1, l2, l3, l4, l5], .inr (.inr r) :: st, M) x := g_pl (show decode cX13_parentOn 90 = .ok (.aload_n 0, 1) by decide +kernel) rfl
set_option maxRecDepth 20000 in
theorem kX13_parentOn_91 {C : QC} {x : QP} {M : QM} {st : List CV} {L : QL} {a : Nat} (hk : q_kd M a = (1, 13)) : Rr C mX13_parentOn (91, L, qr a :: st, M) x = Rr C mX13_parentOn (94, L, q_fv M a 0 :: st, M) x := g_getf (ow := 13) (e := (13, 0, RX13, 1301, 0)) (show decode cX13_parentOn 91 = .ok (.getfield 10, 3) by decide +kernel) rfl hk
set_option maxRecDepth 20000 in
theorem kX13_parentOn_94 {C : QC} {x : QP} {M : QM} {st : List CV} {L : QL} {l0 l1 l2 l3 l4 l5 : Option CV} {z : Int} : Rr C mX13_parentOn (94, [l0, l1, l2, l3, l4, some (qi z)], st, M) x = Rr C mX13_parentOn (96, [l0, l1, l2, l3, l4, some (qi z)], qi z :: st, M) x := g_pl (show decode cX13_parentOn 94 = .ok (.iload 5, 2) by decide +kernel) rfl
set_option maxRecDepth 20000 in
theorem kX13_parentOn_96 {C : QC} {x : QP} {M : QM} {st : List CV} {L : QL} : Rr C mX13_parentOn (96, L, st, M) x = Rr C mX13_parentOn (97, L, qi 2 :: st, M) x := g_pl (show decode cX13_parentOn 96 = .ok (.iconst 2, 1) by decide +kernel) rfl
set_option maxRecDepth 20000 in
theorem kX13_parentOn_97 {C : QC} {x : QP} {M : QM} {st : List CV} {L : QL} {a b : Int} : Rr C mX13_parentOn (97, L, qi b :: qi a :: st, M) x = Rr C mX13_parentOn (98, L, qi (a + b) :: st, M) x := g_pl (show decode cX13_parentOn 97 = .ok (.iadd, 1) by decide +kernel) rfl
set_option maxRecDepth 20000 in
theorem kX13_parentOn_98 {C : QC} {x : QP} {M : QM} {st : List CV} {L : QL} {a : Nat} {j : Int} (hk : (q_kd M a).1 = 2) (h0 : 0 ≤ j) (h1 : j < ((q_kd M a).2 : Int)) : Rr C mX13_parentOn (98, L, qi j :: qr a :: st, M) x = Rr C mX13_parentOn (99, L, q_fv M a j.toNat :: st, M) x := g_iald (show decode cX13_parentOn 98 = .ok (.iaload, 1) by decide +kernel) hk h0 h1
set_option maxRecDepth 20000 in
theorem kX13_parentOn_99 {C : QC} {x : QP} {M : QM} {st : List CV} {L : QL} {l0 l1 l2 l3 l4 l5 : Option CV} {z : Int} : Rr C mX13_parentOn (99, [l0, l1, l2, l3, l4, l5], qi z :: st, M) x = Rr C mX13_parentOn (100, [l0, l1, q_cut l2, some (qi z), l4, l5], st, M) x := g_pl (show decode cX13_parentOn 99 = .ok (.istore_n 3, 1) by decide +kernel) rfl
set_option maxRecDepth 20000 in
theorem kX13_parentOn_100 {C : QC} {x : QP} {M : QM} {st : List CV} {L : QL} {l0 l1 l2 l3 l4 l5 : Option CV} {z : Int} : Rr C mX13_parentOn (100, [l0, l1, l2, l3, some (qi z), l5], st, M) x = Rr C mX13_parentOn (103, [l0, l1, l2, q_cut l3, some (qi (z + 1)), l5], st, M) x := g_pl (show decode cX13_parentOn 100 = .ok (.iinc 4 1, 3) by decide +kernel) rfl
set_option maxRecDepth 20000 in
theorem kX13_parentOn_103 {C : QC} {x : QP} {M : QM} {st : List CV} {L : QL} : Rr C mX13_parentOn (103, L, st, M) x = Rr C mX13_parentOn (6, L, st, M) x := g_pl (show decode cX13_parentOn 103 = .ok (.goto (-97), 3) by decide +kernel) rfl
set_option maxRecDepth 20000 in
theorem kX13_parentOn_106 {C : QC} {x : QP} {M : QM} {st : List CV} {L : QL} {l0 l1 l2 l3 l4 l5 : Option CV} {z : Int} : Rr C mX13_parentOn (106, [l0, l1, l2, some (qi z), l4, l5], st, M) x = Rr C mX13_parentOn (107, [l0, l1, l2, some (qi z), l4, l5], qi z :: st, M) x := g_pl (show decode cX13_parentOn 106 = .ok (.iload_n 3, 1) by decide +kernel) rfl
set_option maxRecDepth 20000 in
theorem kX13_parentOn_107 {C : QC} {x : QP} {M : QM} {st : List CV} {L : QL} {z : Int} : Rr C mX13_parentOn (107, L, [qi z], M) x = x (some (qi z)) M := g_iret (show decode cX13_parentOn 107 = .ok (.ireturn, 1) by decide +kernel) rfl
set_option maxRecDepth 20000 in
theorem eX13_parentOn {d : Nat} {M : QM} {x : QP} {a : Nat} {v0 : Int} {v1 : Int} : q_T (d + 1) iX13_parentOn [qr a, qi v0, qi v1] M x = Rr (q_C d) mX13_parentOn (0, [some (qr a), some (qi v0), some (qi v1), none, none, none], [], M) x := g_entryT (e := _) rfl (Nat.le_of_ble_eq_true rfl) rfl rfl
def mX13_firstDay : QI := (13, cX13_firstDay, false, some .int)
set_option maxRecDepth 20000 in
theorem kX13_firstDay_0 {C : QC} {x : QP} {M : QM} {st : List CV} {L : QL} {l0 l1 l2 l3 l4 l5 l6 l7 : Option CV} {z : Int} : Rr C mX13_firstDay (0, [l0, l1, l2, some (qi z), l4, l5, l6, l7], st, M) x = Rr C mX13_firstDay (1, [l0, l1, l2, some (qi z), l4, l5, l6, l7], qi z :: st, M) x := g_pl (show decode cX13_firstDay 0 = .ok (.iload_n 3, 1) by decide +kernel) rfl
set_option maxRecDepth 20000 in
theorem kX13_firstDay_1 {C : QC} {x : QP} {M : QM} {st : List CV} {L : QL} {l0 l1 l2 l3 l4 l5 l6 l7 : Option CV} {r : Option Nat} : Rr C mX13_firstDay (1, [some (.inr (.inr r)), l1, l2, l3, l4, l5, l6, l7], st, M) x = Rr C mX13_firstDay (2, [some (.inr (.inr r)), l1, l2, l3, l4, l5, l6, l7], .inr (.inr r) :: st, M) x := g_pl (show decode cX13_firstDay 1 = .ok (.aload_n 0, 1) by decide +kernel) rfl
set_option maxRecDepth 20000 in
theorem kX13_firstDay_2 {C : QC} {x : QP} {M : QM} {st : List CV} {L : QL} {l0 l1 l2 l3 l4 l5 l6 l7 : Option CV} {z : Int} : Rr C mX13_firstDay (2, [l0, some (qi z), l2, l3, l4, l5, l6, l7], st, M) x = Rr C mX13_firstDay (3, [l0, some (qi z), l2, l3, l4, l5, l6, l7], qi z :: st, M) x := g_pl (show decode cX13_firstDay 2 = .ok (.iload_n 1, 1) by decide +kernel) rfl
set_option maxRecDepth 20000 in
theorem kX13_firstDay_3 {C : QC} {x : QP} {M : QM} {st : List CV} {L : QL} : Rr C mX13_firstDay (3, L, st, M) x = Rr C mX13_firstDay (4, L, qi 1 :: st, M) x := g_pl (show decode cX13_firstDay 3 = .ok (.iconst 1, 1) by decide +kernel) rfl
set_option maxRecDepth 20000 in
theorem kX13_firstDay_4 {C : QC} {x : QP} {M : QM} {L : QL} {rest : List CV} {a0 a1 : CV} {v : CV} {M1 : QM} {b : Nat} (hb : q_kd M b = (1, 13)) (hC : C iX13_has [qr b, a0, a1] M (some v) M1) (hw : (rest.map q_wd).sum ≤ 8) (k : Rr C mX13_firstDay (7, L, v :: rest, M1) x) : Rr C mX13_firstDay (4, L, a1 :: a0 :: qr b :: rest, M) x := g_cv (ow := 13) (e := (0, 207, 13, [1391, 1393, 32, 94])) (as := [a0, a1]) (show decode cX13_firstDay 4 = .ok (.invokevirtual 47, 3) by decide +kernel) rfl rfl rfl (Or.inl rfl) rfl hb hC hw k
set_option maxRecDepth 20000 in
theorem kX13_firstDay_7 {C : QC} {x : QP} {M : QM} {st : List CV} {L : QL} {a b : Int} (ha1 : -2147483648 ≤ a) (ha2 : a < 2147483648) (hb1 : -2147483648 ≤ b) (hb2 : b < 2147483648) : Rr C mX13_firstDay (7, L, qi b :: qi a :: st, M) x = (if b < a then Rr C mX13_firstDay (10, L, st, M) x else Rr C mX13_firstDay (14, L, st, M) x) := (g_icmp (show decode cX13_firstDay 7 = .ok (.if_icmp .le 7, 3) by decide +kernel) rfl ha1 ha2 hb1 hb2).trans (g_itn c_le)
set_option maxRecDepth 20000 in
theorem kX13_firstDay_10 {C : QC} {x : QP} {M : QM} {st : List CV} {L : QL} {l0 l1 l2 l3 l4 l5 l6 l7 : Option CV} {z : Int} : Rr C mX13_firstDay (10, [l0, l1, l2, some (qi z), l4, l5, l6, l7], st, M) x = Rr C mX13_firstDay (11, [l0, l1, l2, some (qi z), l4, l5, l6, l7], qi z :: st, M) x := g_pl (show decode cX13_firstDay 10 = .ok (.iload_n 3, 1) by decide +kernel) rfl
set_option maxRecDepth 20000 in
theorem kX13_firstDay_11 {C : QC} {x : QP} {M : QM} {st : List CV} {L : QL} : Rr C mX13_firstDay (11, L, st, M) x = Rr C mX13_firstDay (20, L, st, M) x := g_pl (show decode cX13_firstDay 11 = .ok (.goto 9, 3) by decide +kernel) rfl
set_option maxRecDepth 20000 in
theorem kX13_firstDay_14 {C : QC} {x : QP} {M : QM} {st : List CV} {L : QL} {l0 l1 l2 l3 l4 l5 l6 l7 : Option CV} {r : Option Nat} : Rr C mX13_firstDay (14, [some (.inr (.inr r)), l1, l2, l3, l4, l5, l6, l7], st, M) x = Rr C mX13_firstDay (15, [some (.inr (.inr r)), l1, l2, l3, l4, l5, l6, l7], .inr (.inr r) :: st, M) x := g_pl (show decode cX13_firstDay 14 = .ok (.aload_n 0, 1) by decide +kernel) rfl
set_option maxRecDepth 20000 in
theorem kX13_firstDay_15 {C : QC} {x : QP} {M : QM} {st : List CV} {L : QL} {l0 l1 l2 l3 l4 l5 l6 l7 : Option CV} {z : Int} : Rr C mX13_firstDay (15, [l0, some (qi z), l2, l3, l4, l5, l6, l7], st, M) x = Rr C mX13_firstDay (16, [l0, some (qi z), l2, l3, l4, l5, l6, l7], qi z :: st, M) x := g_pl (show decode cX13_firstDay 15 = .ok (.iload_n 1, 1) by decide +kernel) rfl
set_option maxRecDepth 20000 in
theorem kX13_firstDay_16 {C : QC} {x : QP} {M : QM} {st : List CV} {L : QL} : Rr C mX13_firstDay (16, L, st, M) x = Rr C mX13_firstDay (17, L, qi 1 :: st, M) x := g_pl (show decode cX13_firstDay 16 = .ok (.iconst 1, 1) by decide +kernel) rfl
set_option maxRecDepth 20000 in
theorem kX13_firstDay_17 {C : QC} {x : QP} {M : QM} {L : QL} {rest : List CV} {a0 a1 : CV} {v : CV} {M1 : QM} {b : Nat} (hb : q_kd M b = (1, 13)) (hC : C iX13_has [qr b, a0, a1] M (some v) M1) (hw : (rest.map q_wd).sum ≤ 8) (k : Rr C mX13_firstDay (20, L, v :: rest, M1) x) : Rr C mX13_firstDay (17, L, a1 :: a0 :: qr b :: rest, M) x := g_cv (ow := 13) (e := (0, 207, 13, [1391, 1393, 32, 94])) (as := [a0, a1]) (show decode cX13_firstDay 17 = .ok (.invokevirtual 47, 3) by decide +kernel) rfl rfl rfl (Or.inl rfl) rfl hb hC hw k
set_option maxRecDepth 20000 in
theorem kX13_firstDay_20 {C : QC} {x : QP} {M : QM} {st : List CV} {L : QL} {l0 l1 l2 l3 l4 l5 l6 l7 : Option CV} {z : Int} : Rr C mX13_firstDay (20, [l0, l1, l2, l3, l4, l5, l6, l7], qi z :: st, M) x = Rr C mX13_firstDay (22, [l0, l1, l2, q_cut l3, some (qi z), l5, l6, l7], st, M) x := g_pl (show decode cX13_firstDay 20 = .ok (.istore 4, 2) by decide +kernel) rfl
set_option maxRecDepth 20000 in
theorem kX13_firstDay_22 {C : QC} {x : QP} {M : QM} {st : List CV} {L : QL} {l0 l1 l2 l3 l4 l5 l6 l7 : Option CV} {r : Option Nat} : Rr C mX13_firstDay (22, [some (.inr (.inr r)), l1, l2, l3, l4, l5, l6, l7], st, M) x = Rr C mX13_firstDay (23, [some (.inr (.inr r)), l1, l2, l3, l4, l5, l6, l7], .inr (.inr r) :: st, M) x := g_pl (show decode cX13_firstDay 22 = .ok (.aload_n 0, 1) by decide +kernel) rfl
set_option maxRecDepth 20000 in
theorem kX13_firstDay_23 {C : QC} {x : QP} {M : QM} {st : List CV} {L : QL} {l0 l1 l2 l3 l4 l5 l6 l7 : Option CV} {z : Int} : Rr C mX13_firstDay (23, [l0, some (qi z), l2, l3, l4, l5, l6, l7], st, M) x = Rr C mX13_firstDay (24, [l0, some (qi z), l2, l3, l4, l5, l6, l7], qi z :: st, M) x := g_pl (show decode cX13_firstDay 23 = .ok (.iload_n 1, 1) by decide +kernel) rfl
set_option maxRecDepth 20000 in
theorem kX13_firstDay_24 {C : QC} {x : QP} {M : QM} {st : List CV} {L : QL} {l0 l1 l2 l3 l4 l5 l6 l7 : Option CV} {z : Int} : Rr C mX13_firstDay (24, [l0, l1, l2, l3, some (qi z), l5, l6, l7], st, M) x = Rr C mX13_firstDay (26, [l0, l1, l2, l3, some (qi z), l5, l6, l7], qi z :: st, M) x := g_pl (show decode cX13_firstDay 24 = .ok (.iload 4, 2) by decide +kernel) rfl
set_option maxRecDepth 20000 in
theorem kX13_firstDay_26 {C : QC} {x : QP} {M : QM} {L : QL} {rest : List CV} {a0 a1 : CV} {v : CV} {M1 : QM} {b : Nat} (hb : q_kd M b = (1, 13)) (hC : C iX13_exists [qr b, a0, a1] M (some v) M1) (hw : (rest.map q_wd).sum ≤ 8) (k : Rr C mX13_firstDay (29, L, v :: rest, M1) x) : Rr C mX13_firstDay (26, L, a1 :: a0 :: qr b :: rest, M) x := g_cv (ow := 13) (e := (0, 235, 13, [1503, 1505, 56, 94])) (as := [a0, a1]) (show decode cX13_firstDay 26 = .ok (.invokevirtual 62, 3) by decide +kernel) rfl rfl rfl (Or.inl rfl) rfl hb hC hw k
set_option maxRecDepth 20000 in
theorem kX13_firstDay_29 {C : QC} {x : QP} {M : QM} {st : List CV} {L : QL} {a : Int} (ha1 : -2147483648 ≤ a) (ha2 : a < 2147483648) : Rr C mX13_firstDay (29, L, qi a :: st, M) x = (if a = 0 then Rr C mX13_firstDay (46, L, st, M) x else Rr C mX13_firstDay (32, L, st, M) x) := (g_if (show decode cX13_firstDay 29 = .ok (.ifCond .eq 17, 3) by decide +kernel) rfl ha1 ha2).trans (g_ite c_eq)
set_option maxRecDepth 20000 in
theorem kX13_firstDay_32 {C : QC} {x : QP} {M : QM} {st : List CV} {L : QL} {l0 l1 l2 l3 l4 l5 l6 l7 : Option CV} {r : Option Nat} : Rr C mX13_firstDay (32, [some (.inr (.inr r)), l1, l2, l3, l4, l5, l6, l7], st, M) x = Rr C mX13_firstDay (33, [some (.inr (.inr r)), l1, l2, l3, l4, l5, l6, l7], .inr (.inr r) :: st, M) x := g_pl (show decode cX13_firstDay 32 = .ok (.aload_n 0, 1) by decide +kernel) rfl
set_option maxRecDepth 20000 in
theorem kX13_firstDay_33 {C : QC} {x : QP} {M : QM} {st : List CV} {L : QL} {l0 l1 l2 l3 l4 l5 l6 l7 : Option CV} {z : Int} : Rr C mX13_firstDay (33, [l0, some (qi z), l2, l3, l4, l5, l6, l7], st, M) x = Rr C mX13_firstDay (34, [l0, some (qi z), l2, l3, l4, l5, l6, l7], qi z :: st, M) x := g_pl (show decode cX13_firstDay 33 = .ok (.iload_n 1, 1) by decide +kernel) rfl
set_option maxRecDepth 20000 in
theorem kX13_firstDay_34 {C : QC} {x : QP} {M : QM} {st : List CV} {L : QL} {l0 l1 l2 l3 l4 l5 l6 l7 : Option CV} {z : Int} : Rr C mX13_firstDay (34, [l0, l1, l2, l3, some (qi z), l5, l6, l7], st, M) x = Rr C mX13_firstDay (36, [l0, l1, l2, l3, some (qi z), l5, l6, l7], qi z :: st, M) x := g_pl (show decode cX13_firstDay 34 = .ok (.iload 4, 2) by decide +kernel) rfl
set_option maxRecDepth 20000 in
theorem kX13_firstDay_36 {C : QC} {x : QP} {M : QM} {L : QL} {rest : List CV} {a0 a1 : CV} {v : CV} {M1 : QM} {b : Nat} (hb : q_kd M b = (1, 13)) (hC : C iX13_parentOn [qr b, a0, a1] M (some v) M1) (hw : (rest.map q_wd).sum ≤ 8) (k : Rr C mX13_firstDay (39, L, v :: rest, M1) x) : Rr C mX13_firstDay (36, L, a1 :: a0 :: qr b :: rest, M) x := g_cv (ow := 13) (e := (0, 227, 13, [1471, 1473, 50, 94])) (as := [a0, a1]) (show decode cX13_firstDay 36 = .ok (.invokevirtual 66, 3) by decide +kernel) rfl rfl rfl (Or.inl rfl) rfl hb hC hw k
set_option maxRecDepth 20000 in
theorem kX13_firstDay_39 {C : QC} {x : QP} {M : QM} {st : List CV} {L : QL} {l0 l1 l2 l3 l4 l5 l6 l7 : Option CV} {z : Int} : Rr C mX13_firstDay (39, [l0, l1, some (qi z), l3, l4, l5, l6, l7], st, M) x = Rr C mX13_firstDay (40, [l0, l1, some (qi z), l3, l4, l5, l6, l7], qi z :: st, M) x := g_pl (show decode cX13_firstDay 39 = .ok (.iload_n 2, 1) by decide +kernel) rfl
set_option maxRecDepth 20000 in
theorem kX13_firstDay_40 {C : QC} {x : QP} {M : QM} {st : List CV} {L : QL} {a b : Int} (ha1 : -2147483648 ≤ a) (ha2 : a < 2147483648) (hb1 : -2147483648 ≤ b) (hb2 : b < 2147483648) : Rr C mX13_firstDay (40, L, qi b :: qi a :: st, M) x = (if a = b then Rr C mX13_firstDay (43, L, st, M) x else Rr C mX13_firstDay (46, L, st, M) x) := (g_icmp (show decode cX13_firstDay 40 = .ok (.if_icmp .ne 6, 3) by decide +kernel) rfl ha1 ha2 hb1 hb2).trans (g_itn c_ne)
set_option maxRecDepth 20000 in
theorem kX13_firstDay_43 {C : QC} {x : QP} {M : QM} {st : List CV} {L : QL} {l0 l1 l2 l3 l4 l5 l6 l7 : Option CV} {z : Int} : Rr C mX13_firstDay (43, [l0, l1, l2, l3, some (qi z), l5, l6, l7], st, M) x = Rr C mX13_firstDay (45, [l0, l1, l2, l3, some (qi z), l5, l6, l7], qi z :: st, M) x := g_pl (show decode cX13_firstDay 43 = .ok (.iload 4, 2) by decide +kernel) rfl
set_option maxRecDepth 20000 in
theorem kX13_firstDay_45 {C : QC} {x : QP} {M : QM} {st : List CV} {L : QL} {z : Int} : Rr C mX13_firstDay (45, L, [qi z], M) x = x (some (qi z)) M := g_iret (show decode cX13_firstDay 45 = .ok (.ireturn, 1) by decide +kernel) rfl
set_option maxRecDepth 20000 in
theorem kX13_firstDay_46 {C : QC} {x : QP} {M : QM} {st : List CV} {L : QL} : Rr C mX13_firstDay (46, L, st, M) x = Rr C mX13_firstDay (47, L, qi (-1) :: st, M) x := g_pl (show decode cX13_firstDay 46 = .ok (.iconst (-1), 1) by decide +kernel) rfl
set_option maxRecDepth 20000 in
theorem kX13_firstDay_47 {C : QC} {x : QP} {M : QM} {st : List CV} {L : QL} {l0 l1 l2 l3 l4 l5 l6 l7 : Option CV} {z : Int} : Rr C mX13_firstDay (47, [l0, l1, l2, l3, l4, l5, l6, l7], qi z :: st, M) x = Rr C mX13_firstDay (49, [l0, l1, l2, l3, q_cut l4, some (qi z), l6, l7], st, M) x := g_pl (show decode cX13_firstDay 47 = .ok (.istore 5, 2) by decide +kernel) rfl
set_option maxRecDepth 20000 in
theorem kX13_firstDay_49 {C : QC} {x : QP} {M : QM} {st : List CV} {L : QL} : Rr C mX13_firstDay (49, L, st, M) x = Rr C mX13_firstDay (50, L, qi 0 :: st, M) x := g_pl (show decode cX13_firstDay 49 = .ok (.iconst 0, 1) by decide +kernel) rfl
set_option maxRecDepth 20000 in
theorem kX13_firstDay_50 {C : QC} {x : QP} {M : QM} {st : List CV} {L : QL} {l0 l1 l2 l3 l4 l5 l6 l7 : Option CV} {z : Int} : Rr C mX13_firstDay (50, [l0, l1, l2, l3, l4, l5, l6, l7], qi z :: st, M) x = Rr C mX13_firstDay (52, [l0, l1, l2, l3, l4, q_cut l5, some (qi z), l7], st, M) x := g_pl (show decode cX13_firstDay 50 = .ok (.istore 6, 2) by decide +kernel) rfl
set_option maxRecDepth 20000 in
theorem kX13_firstDay_52 {C : QC} {x : QP} {M : QM} {st : List CV} {L : QL} {l0 l1 l2 l3 l4 l5 l6 l7 : Option CV} {z : Int} : Rr C mX13_firstDay (52, [l0, l1, l2, l3, l4, l5, some (qi z), l7], st, M) x = Rr C mX13_firstDay (54, [l0, l1, l2, l3, l4, l5, some (qi z), l7], qi z :: st, M) x := g_pl (show decode cX13_firstDay 52 = .ok (.iload 6, 2) by decide +kernel) rfl
set_option maxRecDepth 20000 in
theorem kX13_firstDay_54 {C : QC} {x : QP} {M : QM} {st : List CV} {L : QL} {l0 l1 l2 l3 l4 l5 l6 l7 : Option CV} {r : Option Nat} : Rr C mX13_firstDay (54, [some (.inr (.inr r)), l1, l2, l3, l4, l5, l6, l7], st, M) x = Rr C mX13_firstDay (55, [some (.inr (.inr r)), l1, l2, l3, l4, l5, l6, l7], .inr (.inr r) :: st, M) x := g_pl (show decode cX13_firstDay 54 = .ok (.aload_n 0, 1) by decide +kernel) rfl
set_option maxRecDepth 20000 in
theorem kX13_firstDay_55 {C : QC} {x : QP} {M : QM} {st : List CV} {L : QL} {a : Nat} (hk : q_kd M a = (1, 13)) : Rr C mX13_firstDay (55, L, qr a :: st, M) x = Rr C mX13_firstDay (58, L, q_fv M a 0 :: st, M) x := g_getf (ow := 13) (e := (13, 0, RX13, 1301, 0)) (show decode cX13_firstDay 55 = .ok (.getfield 10, 3) by decide +kernel) rfl hk
set_option maxRecDepth 20000 in
theorem kX13_firstDay_58 {C : QC} {x : QP} {M : QM} {st : List CV} {L : QL} : Rr C mX13_firstDay (58, L, st, M) x = Rr C mX13_firstDay (59, L, qi 2 :: st, M) x := g_pl (show decode cX13_firstDay 58 = .ok (.iconst 2, 1) by decide +kernel) rfl
set_option maxRecDepth 20000 in
theorem kX13_firstDay_59 {C : QC} {x : QP} {M : QM} {st : List CV} {L : QL} {a : Nat} {j : Int} (hk : (q_kd M a).1 = 2) (h0 : 0 ≤ j) (h1 : j < ((q_kd M a).2 : Int)) : Rr C mX13_firstDay (59, L, qi j :: qr a :: st, M) x = Rr C mX13_firstDay (60, L, q_fv M a j.toNat :: st, M) x := g_iald (show decode cX13_firstDay 59 = .ok (.iaload, 1) by decide +kernel) hk h0 h1
set_option maxRecDepth 20000 in
theorem kX13_firstDay_60 {C : QC} {x : QP} {M : QM} {st : List CV} {L : QL} {a b : Int} (ha1 : -2147483648 ≤ a) (ha2 : a < 2147483648) (hb1 : -2147483648 ≤ b) (hb2 : b < 2147483648) : Rr C mX13_firstDay (60, L, qi b :: qi a :: st, M) x = (if a < b then Rr C mX13_firstDay (63, L, st, M) x else Rr C mX13_firstDay (134, L, st, M) x) := (g_icmp (show decode cX13_firstDay 60 = .ok (.if_icmp .ge 74, 3) by decide +kernel) rfl ha1 ha2 hb1 hb2).trans (g_itn c_ge)
set_option maxRecDepth 20000 in
theorem kX13_firstDay_63 {C : QC} {x : QP} {M : QM} {st : List CV} {L : QL} {l0 l1 l2 l3 l4 l5 l6 l7 : Option CV} {r : Option Nat} : Rr C mX13_firstDay (63, [some (.inr (.inr r)), l1, l2, l3, l4, l5, l6, l7], st, M) x = Rr C mX13_firstDay (64, [some (.inr (.inr r)), l1, l2, l3, l4, l5, l6, l7], .inr (.inr r) :: st, M) x := g_pl (show decode cX13_firstDay 63 = .ok (.aload_n 0, 1) by decide +kernel) rfl
set_option maxRecDepth 20000 in
theorem kX13_firstDay_64 {C : QC} {x : QP} {M : QM} {st : List CV} {L : QL} {a : Nat} (hk : q_kd M a = (1, 13)) : Rr C mX13_firstDay (64, L, qr a :: st, M) x = Rr C mX13_firstDay (67, L, q_fv M a 0 :: st, M) x := g_getf (ow := 13) (e := (13, 0, RX13, 1301, 0)) (show decode cX13_firstDay 64 = .ok (.getfield 10, 3) by decide +kernel) rfl hk
set_option maxRecDepth 20000 in
theorem kX13_firstDay_67 {C : QC} {x : QP} {M : QM} {st : List CV} {L : QL} : Rr C mX13_firstDay (67, L, st, M) x = Rr C mX13_firstDay (70, L, qi 9275 :: st, M) x := g_pl (show decode cX13_firstDay 67 = .ok (.sipush 9275, 3) by decide +kernel) rfl
set_option maxRecDepth 20000 in
theorem kX13_firstDay_70 {C : QC} {x : QP} {M : QM} {st : List CV} {L : QL} : Rr C mX13_firstDay (70, L, st, M) x = Rr C mX13_firstDay (71, L, qi 3 :: st, M) x := g_pl (show decode cX13_firstDay 70 = .ok (.iconst 3, 1) by decide +kernel) rfl
set_option maxRecDepth 20000 in
theorem kX13_firstDay_71 {C : QC} {x : QP} {M : QM} {st : List CV} {L : QL} {l0 l1 l2 l3 l4 l5 l6 l7 : Option CV} {z : Int} : Rr C mX13_firstDay (71, [l0, l1, l2, l3, l4, l5, some (qi z), l7], st, M) x = Rr C mX13_firstDay (73, [l0, l1, l2, l3, l4, l5, some (qi z), l7], qi z :: st, M) x := g_pl (show decode cX13_firstDay 71 = .ok (.iload 6, 2) by decide +kernel) rfl
set_option maxRecDepth 20000 in
theorem kX13_firstDay_73 {C : QC} {x : QP} {M : QM} {st : List CV} {L : QL} {a b : Int} : Rr C mX13_firstDay (73, L, qi b :: qi a :: st, M) x = Rr C mX13_firstDay (74, L, qi (a * b) :: st, M) x := g_pl (show decode cX13_firstDay 73 = .ok (.imul, 1) by decide +kernel) rfl
set_option maxRecDepth 20000 in
theorem kX13_firstDay_74 {C : QC} {x : QP} {M : QM} {st : List CV} {L : QL} {a b : Int} : Rr C mX13_firstDay (74, L, qi b :: qi a :: st, M) x = Rr C mX13_firstDay (75, L, qi (a + b) :: st, M) x := g_pl (show decode cX13_firstDay 74 = .ok (.iadd, 1) by decide +kernel) rfl
set_option maxRecDepth 20000 in
theorem kX13_firstDay_75 {C : QC} {x : QP} {M : QM} {st : List CV} {L : QL} : Rr C mX13_firstDay (75, L, st, M) x = Rr C mX13_firstDay (76, L, qi 1 :: st, M) x := g_pl (show decode cX13_firstDay 75 = .ok (.iconst 1, 1) by decide +kernel) rfl
set_option maxRecDepth 20000 in
theorem kX13_firstDay_76 {C : QC} {x : QP} {M : QM} {st : List CV} {L : QL} {a b : Int} : Rr C mX13_firstDay (76, L, qi b :: qi a :: st, M) x = Rr C mX13_firstDay (77, L, qi (a + b) :: st, M) x := g_pl (show decode cX13_firstDay 76 = .ok (.iadd, 1) by decide +kernel) rfl
set_option maxRecDepth 20000 in
theorem kX13_firstDay_77 {C : QC} {x : QP} {M : QM} {st : List CV} {L : QL} {a : Nat} {j : Int} (hk : (q_kd M a).1 = 2) (h0 : 0 ≤ j) (h1 : j < ((q_kd M a).2 : Int)) : Rr C mX13_firstDay (77, L, qi j :: qr a :: st, M) x = Rr C mX13_firstDay (78, L, q_fv M a j.toNat :: st, M) x := g_iald (show decode cX13_firstDay 77 = .ok (.iaload, 1) by decide +kernel) hk h0 h1
set_option maxRecDepth 20000 in
theorem kX13_firstDay_78 {C : QC} {x : QP} {M : QM} {st : List CV} {L : QL} {l0 l1 l2 l3 l4 l5 l6 l7 : Option CV} {z : Int} : Rr C mX13_firstDay (78, [l0, l1, l2, l3, l4, l5, l6, l7], qi z :: st, M) x = Rr C mX13_firstDay (80, [l0, l1, l2, l3, l4, l5, q_cut l6, some (qi z)], st, M) x := g_pl (show decode cX13_firstDay 78 = .ok (.istore 7, 2) by decide +kernel) rfl
set_option maxRecDepth 20000 in
theorem kX13_firstDay_80 {C : QC} {x : QP} {M : QM} {st : List CV} {L : QL} {l0 l1 l2 l3 l4 l5 l6 l7 : Option CV} {z : Int} : Rr C mX13_firstDay (80, [l0, l1, l2, l3, l4, l5, l6, some (qi z)], st, M) x = Rr C mX13_firstDay (82, [l0, l1, l2, l3, l4, l5, l6, some (qi z)], qi z :: st, M) x := g_pl (show decode cX13_firstDay 80 = .ok (.iload 7, 2) by decide +kernel) rfl
set_option maxRecDepth 20000 in
theorem kX13_firstDay_82 {C : QC} {x : QP} {M : QM} {st : List CV} {L : QL} {l0 l1 l2 l3 l4 l5 l6 l7 : Option CV} {z : Int} : Rr C mX13_firstDay (82, [l0, l1, l2, l3, some (qi z), l5, l6, l7], st, M) x = Rr C mX13_firstDay (84, [l0, l1, l2, l3, some (qi z), l5, l6, l7], qi z :: st, M) x := g_pl (show decode cX13_firstDay 82 = .ok (.iload 4, 2) by decide +kernel) rfl
set_option maxRecDepth 20000 in
theorem kX13_firstDay_84 {C : QC} {x : QP} {M : QM} {st : List CV} {L : QL} {a b : Int} (ha1 : -2147483648 ≤ a) (ha2 : a < 2147483648) (hb1 : -2147483648 ≤ b) (hb2 : b < 2147483648) : Rr C mX13_firstDay (84, L, qi b :: qi a :: st, M) x = (if b < a then Rr C mX13_firstDay (87, L, st, M) x else Rr C mX13_firstDay (128, L, st, M) x) := (g_icmp (show decode cX13_firstDay 84 = .ok (.if_icmp .le 44, 3) by decide +kernel) rfl ha1 ha2 hb1 hb2).trans (g_itn c_le)
set_option maxRecDepth 20000 in
theorem kX13_firstDay_87 {C : QC} {x : QP} {M : QM} {st : List CV} {L : QL} {l0 l1 l2 l3 l4 l5 l6 l7 : Option CV} {z : Int} : Rr C mX13_firstDay (87, [l0, l1, l2, l3, l4, some (qi z), l6, l7], st, M) x = Rr C mX13_firstDay (89, [l0, l1, l2, l3, l4, some (qi z), l6, l7], qi z :: st, M) x := g_pl (show decode cX13_firstDay 87 = .ok (.iload 5, 2) by decide +kernel) rfl
set_option maxRecDepth 20000 in
theorem kX13_firstDay_89 {C : QC} {x : QP} {M : QM} {st : List CV} {L : QL} : Rr C mX13_firstDay (89, L, st, M) x = Rr C mX13_firstDay (90, L, qi (-1) :: st, M) x := g_pl (show decode cX13_firstDay 89 = .ok (.iconst (-1), 1) by decide +kernel) rfl
set_option maxRecDepth 20000 in
theorem kX13_firstDay_90 {C : QC} {x : QP} {M : QM} {st : List CV} {L : QL} {a b : Int} (ha1 : -2147483648 ≤ a) (ha2 : a < 2147483648) (hb1 : -2147483648 ≤ b) (hb2 : b < 2147483648) : Rr C mX13_firstDay (90, L, qi b :: qi a :: st, M) x = (if a = b then Rr C mX13_firstDay (100, L, st, M) x else Rr C mX13_firstDay (93, L, st, M) x) := (g_icmp (show decode cX13_firstDay 90 = .ok (.if_icmp .eq 10, 3) by decide +kernel) rfl ha1 ha2 hb1 hb2).trans (g_ite c_eq)
set_option maxRecDepth 20000 in
theorem kX13_firstDay_93 {C : QC} {x : QP} {M : QM} {st : List CV} {L : QL} {l0 l1 l2 l3 l4 l5 l6 l7 : Option CV} {z : Int} : Rr C mX13_firstDay (93, [l0, l1, l2, l3, l4, l5, l6, some (qi z)], st, M) x = Rr C mX13_firstDay (95, [l0, l1, l2, l3, l4, l5, l6, some (qi z)], qi z :: st, M) x := g_pl (show decode cX13_firstDay 93 = .ok (.iload 7, 2) by decide +kernel) rfl
set_option maxRecDepth 20000 in
theorem kX13_firstDay_95 {C : QC} {x : QP} {M : QM} {st : List CV} {L : QL} {l0 l1 l2 l3 l4 l5 l6 l7 : Option CV} {z : Int} : Rr C mX13_firstDay (95, [l0, l1, l2, l3, l4, some (qi z), l6, l7], st, M) x = Rr C mX13_firstDay (97, [l0, l1, l2, l3, l4, some (qi z), l6, l7], qi z :: st, M) x := g_pl (show decode cX13_firstDay 95 = .ok (.iload 5, 2) by decide +kernel) rfl
set_option maxRecDepth 20000 in
theorem kX13_firstDay_97 {C : QC} {x : QP} {M : QM} {st : List CV} {L : QL} {a b : Int} (ha1 : -2147483648 ≤ a) (ha2 : a < 2147483648) (hb1 : -2147483648 ≤ b) (hb2 : b < 2147483648) : Rr C mX13_firstDay (97, L, qi b :: qi a :: st, M) x = (if a < b then Rr C mX13_firstDay (100, L, st, M) x else Rr C mX13_firstDay (128, L, st, M) x) := (g_icmp (show decode cX13_firstDay 97 = .ok (.if_icmp .ge 31, 3) by decide +kernel) rfl ha1 ha2 hb1 hb2).trans (g_itn c_ge)
set_option maxRecDepth 20000 in
theorem kX13_firstDay_100 {C : QC} {x : QP} {M : QM} {st : List CV} {L : QL} {l0 l1 l2 l3 l4 l5 l6 l7 : Option CV} {r : Option Nat} : Rr C mX13_firstDay (100, [some (.inr (.inr r)), l1, l2, l3, l4, l5, l6, l7], st, M) x = Rr C mX13_firstDay (101, [some (.inr (.inr r)), l1, l2, l3, l4, l5, l6, l7], .inr (.inr r) :: st, M) x := g_pl (show decode cX13_firstDay 100 = .ok (.aload_n 0, 1) by decide +kernel) rfl
set_option maxRecDepth 20000 in
theorem kX13_firstDay_101 {C : QC} {x : QP} {M : QM} {st : List CV} {L : QL} {l0 l1 l2 l3 l4 l5 l6 l7 : Option CV} {z : Int} : Rr C mX13_firstDay (101, [l0, some (qi z), l2, l3, l4, l5, l6, l7], st, M) x = Rr C mX13_firstDay (102, [l0, some (qi z), l2, l3, l4, l5, l6, l7], qi z :: st, M) x := g_pl (show decode cX13_firstDay 101 = .ok (.iload_n 1, 1) by decide +kernel) rfl
set_option maxRecDepth 20000 in
theorem kX13_firstDay_102 {C : QC} {x : QP} {M : QM} {st : List CV} {L : QL} {l0 l1 l2 l3 l4 l5 l6 l7 : Option CV} {z : Int} : Rr C mX13_firstDay (102, [l0, l1, l2, l3, l4, l5, l6, some (qi z)], st, M) x = Rr C mX13_firstDay (104, [l0, l1, l2, l3, l4, l5, l6, some (qi z)], qi z :: st, M) x := g_pl (show decode cX13_firstDay 102 = .ok (.iload 7, 2) by decide +kernel) rfl
set_option maxRecDepth 20000 in
theorem kX13_firstDay_104 {C : QC} {x : QP} {M : QM} {L : QL} {rest : List CV} {a0 a1 : CV} {v : CV} {M1 : QM} {b : Nat} (hb : q_kd M b = (1, 13)) (hC : C iX13_exists [qr b, a0, a1] M (some v) M1) (hw : (rest.map q_wd).sum ≤ 8) (k : Rr C mX13_firstDay (107, L, v :: rest, M1) x) : Rr C mX13_firstDay (104, L, a1 :: a0 :: qr b :: rest, M) x := g_cv (ow := 13) (e := (0, 235, 13, [1503, 1505, 56, 94])) (as := [a0, a1]) (show decode cX13_firstDay 104 = .ok (.invokevirtual 62, 3) by decide +kernel) rfl rfl rfl (Or.inl rfl) rfl hb hC hw k
set_option maxRecDepth 20000 in
theorem kX13_firstDay_107 {C : QC} {x : QP} {M : QM} {st : List CV} {L : QL} {a : Int} (ha1 : -2147483648 ≤ a) (ha2 : a < 2147483648) : Rr C mX13_firstDay (107, L, qi a :: st, M) x = (if a = 0 then Rr C mX13_firstDay (128, L, st, M) x else Rr C mX13_firstDay (110, L, st, M) x) := (g_if (show decode cX13_firstDay 107 = .ok (.ifCond .eq 21, 3) by decide +kernel) rfl ha1 ha2).trans (g_ite c_eq)
set_option maxRecDepth 20000 in
theorem kX13_firstDay_110 {C : QC} {x : QP} {M : QM} {st : List CV} {L : QL} {l0 l1 l2 l3 l4 l5 l6 l7 : Option CV} {r : Option Nat} : Rr C mX13_firstDay (110, [some (.inr (.inr r)), l1, l2, l3, l4, l5, l6, l7], st, M) x = Rr C mX13_firstDay (111, [some (.inr (.inr r)), l1, l2, l3, l4, l5, l6, l7], .inr (.inr r) :: st, M) x := g_pl (show decode cX13_firstDay 110 = .ok (.aload_n 0, 1) by decide +kernel) rfl
set_option maxRecDepth 20000 in
theorem kX13_firstDay_111 {C : QC} {x : QP} {M : QM} {st : List CV} {L : QL} {l0 l1 l2 l3 l4 l5 l6 l7 : Option CV} {z : Int} : Rr C mX13_firstDay (111, [l0, some (qi z), l2, l3, l4, l5, l6, l7], st, M) x = Rr C mX13_firstDay (112, [l0, some (qi z), l2, l3, l4, l5, l6, l7], qi z :: st, M) x := g_pl (show decode cX13_firstDay 111 = .ok (.iload_n 1, 1) by decide +kernel) rfl
set_option maxRecDepth 20000 in
theorem kX13_firstDay_112 {C : QC} {x : QP} {M : QM} {st : List CV} {L : QL} {l0 l1 l2 l3 l4 l5 l6 l7 : Option CV} {z : Int} : Rr C mX13_firstDay (112, [l0, l1, l2, l3, l4, l5, l6, some (qi z)], st, M) x = Rr C mX13_firstDay (114, [l0, l1, l2, l3, l4, l5, l6, some (qi z)], qi z :: st, M) x := g_pl (show decode cX13_firstDay 112 = .ok (.iload 7, 2) by decide +kernel) rfl
set_option maxRecDepth 20000 in
theorem kX13_firstDay_114 {C : QC} {x : QP} {M : QM} {L : QL} {rest : List CV} {a0 a1 : CV} {v : CV} {M1 : QM} {b : Nat} (hb : q_kd M b = (1, 13)) (hC : C iX13_parentOn [qr b, a0, a1] M (some v) M1) (hw : (rest.map q_wd).sum ≤ 8) (k : Rr C mX13_firstDay (117, L, v :: rest, M1) x) : Rr C mX13_firstDay (114, L, a1 :: a0 :: qr b :: rest, M) x := g_cv (ow := 13) (e := (0, 227, 13, [1471, 1473, 50, 94])) (as := [a0, a1]) (show decode cX13_firstDay 114 = .ok (.invokevirtual 66, 3) by decide +kernel) rfl rfl rfl (Or.inl rfl) rfl hb hC hw k
set_option maxRecDepth 20000 in
theorem kX13_firstDay_117 {C : QC} {x : QP} {M : QM} {st : List CV} {L : QL} {l0 l1 l2 l3 l4 l5 l6 l7 : Option CV} {z : Int} : Rr C mX13_firstDay (117, [l0, l1, some (qi z), l3, l4, l5, l6, l7], st, M) x = Rr C mX13_firstDay (118, [l0, l1, some (qi z), l3, l4, l5, l6, l7], qi z :: st, M) x := g_pl (show decode cX13_firstDay 117 = .ok (.iload_n 2, 1) by decide +kernel) rfl
set_option maxRecDepth 20000 in
theorem kX13_firstDay_118 {C : QC} {x : QP} {M : QM} {st : List CV} {L : QL} {a b : Int} (ha1 : -2147483648 ≤ a) (ha2 : a < 2147483648) (hb1 : -2147483648 ≤ b) (hb2 : b < 2147483648) : Rr C mX13_firstDay (118, L, qi b :: qi a :: st, M) x = (if a = b then Rr C mX13_firstDay (124, L, st, M) x else Rr C mX13_firstDay (121, L, st, M) x) := (g_icmp (show decode cX13_firstDay 118 = .ok (.if_icmp .eq 6, 3) by decide +kernel) rfl ha1 ha2 hb1 hb2).trans (g_ite c_eq)
set_option maxRecDepth 20000 in
theorem kX13_firstDay_121 {C : QC} {x : QP} {M : QM} {st : List CV} {L : QL} : Rr C mX13_firstDay (121, L, st, M) x = Rr C mX13_firstDay (128, L, st, M) x := g_pl (show decode cX13_firstDay 121 = .ok (.goto 7, 3) by decide +kernel) rfl
set_option maxRecDepth 20000 in
theorem kX13_firstDay_124 {C : QC} {x : QP} {M : QM} {st : List CV} {L : QL} {l0 l1 l2 l3 l4 l5 l6 l7 : Option CV} {z : Int} : Rr C mX13_firstDay (124, [l0, l1, l2, l3, l4, l5, l6, some (qi z)], st, M) x = Rr C mX13_firstDay (126, [l0, l1, l2, l3, l4, l5, l6, some (qi z)], qi z :: st, M) x := g_pl (show decode cX13_firstDay 124 = .ok (.iload 7, 2) by decide +kernel) rfl
set_option maxRecDepth 20000 in
theorem kX13_firstDay_126 {C : QC} {x : QP} {M : QM} {st : List CV} {L : QL} {l0 l1 l2 l3 l4 l5 l6 l7 : Option CV} {z : Int} : Rr C mX13_firstDay (126, [l0, l1, l2, l3, l4, l5, l6, l7], qi z :: st, M) x = Rr C mX13_firstDay (128, [l0, l1, l2, l3, q_cut l4, some (qi z), l6, l7], st, M) x := g_pl (show decode cX13_firstDay 126 = .ok (.istore 5, 2) by decide +kernel) rfl
set_option maxRecDepth 20000 in
theorem kX13_firstDay_128 {C : QC} {x : QP} {M : QM} {st : List CV} {L : QL} {l0 l1 l2 l3 l4 l5 l6 l7 : Option CV} {z : Int} : Rr C mX13_firstDay (128, [l0, l1, l2, l3, l4, l5, some (qi z), l7], st, M) x = Rr C mX13_firstDay (131, [l0, l1, l2, l3, l4, q_cut l5, some (qi (z + 1)), l7], st, M) x := g_pl (show decode cX13_firstDay 128 = .ok (.iinc 6 1, 3) by decide +kernel) rfl
set_option maxRecDepth 20000 in
theorem kX13_firstDay_131 {C : QC} {x : QP} {M : QM} {st : List CV} {L : QL} : Rr C mX13_firstDay (131, L, st, M) x = Rr C mX13_firstDay (52, L, st, M) x := g_pl (show decode cX13_firstDay 131 = .ok (.goto (-79), 3) by decide +kernel) rfl
set_option maxRecDepth 20000 in
theorem kX13_firstDay_134 {C : QC} {x : QP} {M : QM} {st : List CV} {L : QL} {l0 l1 l2 l3 l4 l5 l6 l7 : Option CV} {z : Int} : Rr C mX13_firstDay (134, [l0, l1, l2, l3, l4, some (qi z), l6, l7], st, M) x = Rr C mX13_firstDay (136, [l0, l1, l2, l3, l4, some (qi z), l6, l7], qi z :: st, M) x := g_pl (show decode cX13_firstDay 134 = .ok (.iload 5, 2) by decide +kernel) rfl
set_option maxRecDepth 20000 in
theorem kX13_firstDay_136 {C : QC} {x : QP} {M : QM} {st : List CV} {L : QL} {z : Int} : Rr C mX13_firstDay (136, L, [qi z], M) x = x (some (qi z)) M := g_iret (show decode cX13_firstDay 136 = .ok (.ireturn, 1) by decide +kernel) rfl
set_option maxRecDepth 20000 in
theorem eX13_firstDay {d : Nat} {M : QM} {x : QP} {a : Nat} {v0 : Int} {v1 : Int} {v2 : Int} : q_T (d + 1) iX13_firstDay [qr a, qi v0, qi v1, qi v2] M x = Rr (q_C d) mX13_firstDay (0, [some (qr a), some (qi v0), some (qi v1), some (qi v2), none, none, none, none], [], M) x := g_entryT (e := _) rfl (Nat.le_of_ble_eq_true rfl) rfl rfl
def mX13_feed : QI := (13, cX13_feed, false, some .int)
set_option maxRecDepth 20000 in
theorem kX13_feed_0 {C : QC} {x : QP} {M : QM} {st : List CV} {L : QL} {l0 l1 l2 l3 l4 l5 l6 l7 : Option CV} {z : Int} : Rr C mX13_feed (0, [l0, some (qi z), l2, l3, l4, l5, l6, l7], st, M) x = Rr C mX13_feed (1, [l0, some (qi z), l2, l3, l4, l5, l6, l7], qi z :: st, M) x := g_pl (show decode cX13_feed 0 = .ok (.iload_n 1, 1) by decide +kernel) rfl
set_option maxRecDepth 20000 in
theorem kX13_feed_1 {C : QC} {x : QP} {M : QM} {st : List CV} {L : QL} : Rr C mX13_feed (1, L, st, M) x = Rr C mX13_feed (2, L, qi 1 :: st, M) x := g_pl (show decode cX13_feed 1 = .ok (.iconst 1, 1) by decide +kernel) rfl
set_option maxRecDepth 20000 in
theorem kX13_feed_2 {C : QC} {x : QP} {M : QM} {st : List CV} {L : QL} : Rr C mX13_feed (2, L, st, M) x = Rr C mX13_feed (3, L, qi 5 :: st, M) x := g_pl (show decode cX13_feed 2 = .ok (.iconst 5, 1) by decide +kernel) rfl
set_option maxRecDepth 20000 in
theorem kX13_feed_3 {C : QC} {x : QP} {M : QM} {L : QL} {rest : List CV} {a0 a1 a2 : CV} {v : CV} {M1 : QM} (hC : C iX13_in [a0, a1, a2] M (some v) M1) (hw : (rest.map q_wd).sum ≤ 8) (k : Rr C mX13_feed (6, L, v :: rest, M1) x) : Rr C mX13_feed (3, L, a2 :: a1 :: a0 :: rest, M) x := g_cs (ow := 13) (e := (1, 198, 0, [1357, 1358, 94])) (as := [a0, a1, a2]) (show decode cX13_feed 3 = .ok (.invokestatic 43, 3) by decide +kernel) rfl rfl rfl rfl (Or.inl rfl) rfl hC hw k
set_option maxRecDepth 20000 in
theorem kX13_feed_6 {C : QC} {x : QP} {M : QM} {st : List CV} {L : QL} {a : Int} (ha1 : -2147483648 ≤ a) (ha2 : a < 2147483648) : Rr C mX13_feed (6, L, qi a :: st, M) x = (if a = 0 then Rr C mX13_feed (62, L, st, M) x else Rr C mX13_feed (9, L, st, M) x) := (g_if (show decode cX13_feed 6 = .ok (.ifCond .eq 56, 3) by decide +kernel) rfl ha1 ha2).trans (g_ite c_eq)
set_option maxRecDepth 20000 in
theorem kX13_feed_9 {C : QC} {x : QP} {M : QM} {st : List CV} {L : QL} {l0 l1 l2 l3 l4 l5 l6 l7 : Option CV} {z : Int} : Rr C mX13_feed (9, [l0, l1, some (qi z), l3, l4, l5, l6, l7], st, M) x = Rr C mX13_feed (10, [l0, l1, some (qi z), l3, l4, l5, l6, l7], qi z :: st, M) x := g_pl (show decode cX13_feed 9 = .ok (.iload_n 2, 1) by decide +kernel) rfl
set_option maxRecDepth 20000 in
theorem kX13_feed_10 {C : QC} {x : QP} {M : QM} {st : List CV} {L : QL} : Rr C mX13_feed (10, L, st, M) x = Rr C mX13_feed (11, L, qi 0 :: st, M) x := g_pl (show decode cX13_feed 10 = .ok (.iconst 0, 1) by decide +kernel) rfl
set_option maxRecDepth 20000 in
theorem kX13_feed_11 {C : QC} {x : QP} {M : QM} {st : List CV} {L : QL} : Rr C mX13_feed (11, L, st, M) x = Rr C mX13_feed (13, L, qi 127 :: st, M) x := g_pl (show decode cX13_feed 11 = .ok (.bipush 127, 2) by decide +kernel) rfl
set_option maxRecDepth 20000 in
theorem kX13_feed_13 {C : QC} {x : QP} {M : QM} {L : QL} {rest : List CV} {a0 a1 a2 : CV} {v : CV} {M1 : QM} (hC : C iX13_in [a0, a1, a2] M (some v) M1) (hw : (rest.map q_wd).sum ≤ 8) (k : Rr C mX13_feed (16, L, v :: rest, M1) x) : Rr C mX13_feed (13, L, a2 :: a1 :: a0 :: rest, M) x := g_cs (ow := 13) (e := (1, 198, 0, [1357, 1358, 94])) (as := [a0, a1, a2]) (show decode cX13_feed 13 = .ok (.invokestatic 43, 3) by decide +kernel) rfl rfl rfl rfl (Or.inl rfl) rfl hC hw k
set_option maxRecDepth 20000 in
theorem kX13_feed_16 {C : QC} {x : QP} {M : QM} {st : List CV} {L : QL} {a : Int} (ha1 : -2147483648 ≤ a) (ha2 : a < 2147483648) : Rr C mX13_feed (16, L, qi a :: st, M) x = (if a = 0 then Rr C mX13_feed (62, L, st, M) x else Rr C mX13_feed (19, L, st, M) x) := (g_if (show decode cX13_feed 16 = .ok (.ifCond .eq 46, 3) by decide +kernel) rfl ha1 ha2).trans (g_ite c_eq)
set_option maxRecDepth 20000 in
theorem kX13_feed_19 {C : QC} {x : QP} {M : QM} {st : List CV} {L : QL} {l0 l1 l2 l3 l4 l5 l6 l7 : Option CV} {z : Int} : Rr C mX13_feed (19, [l0, l1, l2, some (qi z), l4, l5, l6, l7], st, M) x = Rr C mX13_feed (20, [l0, l1, l2, some (qi z), l4, l5, l6, l7], qi z :: st, M) x := g_pl (show decode cX13_feed 19 = .ok (.iload_n 3, 1) by decide +kernel) rfl
set_option maxRecDepth 20000 in
theorem kX13_feed_20 {C : QC} {x : QP} {M : QM} {st : List CV} {L : QL} : Rr C mX13_feed (20, L, st, M) x = Rr C mX13_feed (21, L, qi 0 :: st, M) x := g_pl (show decode cX13_feed 20 = .ok (.iconst 0, 1) by decide +kernel) rfl
set_option maxRecDepth 20000 in
theorem kX13_feed_21 {C : QC} {x : QP} {M : QM} {st : List CV} {L : QL} : Rr C mX13_feed (21, L, st, M) x = Rr C mX13_feed (23, L, qi 127 :: st, M) x := g_pl (show decode cX13_feed 21 = .ok (.bipush 127, 2) by decide +kernel) rfl
set_option maxRecDepth 20000 in
theorem kX13_feed_23 {C : QC} {x : QP} {M : QM} {L : QL} {rest : List CV} {a0 a1 a2 : CV} {v : CV} {M1 : QM} (hC : C iX13_in [a0, a1, a2] M (some v) M1) (hw : (rest.map q_wd).sum ≤ 8) (k : Rr C mX13_feed (26, L, v :: rest, M1) x) : Rr C mX13_feed (23, L, a2 :: a1 :: a0 :: rest, M) x := g_cs (ow := 13) (e := (1, 198, 0, [1357, 1358, 94])) (as := [a0, a1, a2]) (show decode cX13_feed 23 = .ok (.invokestatic 43, 3) by decide +kernel) rfl rfl rfl rfl (Or.inl rfl) rfl hC hw k
set_option maxRecDepth 20000 in
theorem kX13_feed_26 {C : QC} {x : QP} {M : QM} {st : List CV} {L : QL} {a : Int} (ha1 : -2147483648 ≤ a) (ha2 : a < 2147483648) : Rr C mX13_feed (26, L, qi a :: st, M) x = (if a = 0 then Rr C mX13_feed (62, L, st, M) x else Rr C mX13_feed (29, L, st, M) x) := (g_if (show decode cX13_feed 26 = .ok (.ifCond .eq 36, 3) by decide +kernel) rfl ha1 ha2).trans (g_ite c_eq)
set_option maxRecDepth 20000 in
theorem kX13_feed_29 {C : QC} {x : QP} {M : QM} {st : List CV} {L : QL} {l0 l1 l2 l3 l4 l5 l6 l7 : Option CV} {z : Int} : Rr C mX13_feed (29, [l0, l1, l2, l3, some (qi z), l5, l6, l7], st, M) x = Rr C mX13_feed (31, [l0, l1, l2, l3, some (qi z), l5, l6, l7], qi z :: st, M) x := g_pl (show decode cX13_feed 29 = .ok (.iload 4, 2) by decide +kernel) rfl
set_option maxRecDepth 20000 in
theorem kX13_feed_31 {C : QC} {x : QP} {M : QM} {st : List CV} {L : QL} : Rr C mX13_feed (31, L, st, M) x = Rr C mX13_feed (32, L, qi 0 :: st, M) x := g_pl (show decode cX13_feed 31 = .ok (.iconst 0, 1) by decide +kernel) rfl
set_option maxRecDepth 20000 in
theorem kX13_feed_32 {C : QC} {x : QP} {M : QM} {st : List CV} {L : QL} : Rr C mX13_feed (32, L, st, M) x = Rr C mX13_feed (34, L, qi 127 :: st, M) x := g_pl (show decode cX13_feed 32 = .ok (.bipush 127, 2) by decide +kernel) rfl
set_option maxRecDepth 20000 in
theorem kX13_feed_34 {C : QC} {x : QP} {M : QM} {L : QL} {rest : List CV} {a0 a1 a2 : CV} {v : CV} {M1 : QM} (hC : C iX13_in [a0, a1, a2] M (some v) M1) (hw : (rest.map q_wd).sum ≤ 8) (k : Rr C mX13_feed (37, L, v :: rest, M1) x) : Rr C mX13_feed (34, L, a2 :: a1 :: a0 :: rest, M) x := g_cs (ow := 13) (e := (1, 198, 0, [1357, 1358, 94])) (as := [a0, a1, a2]) (show decode cX13_feed 34 = .ok (.invokestatic 43, 3) by decide +kernel) rfl rfl rfl rfl (Or.inl rfl) rfl hC hw k
set_option maxRecDepth 20000 in
theorem kX13_feed_37 {C : QC} {x : QP} {M : QM} {st : List CV} {L : QL} {a : Int} (ha1 : -2147483648 ≤ a) (ha2 : a < 2147483648) : Rr C mX13_feed (37, L, qi a :: st, M) x = (if a = 0 then Rr C mX13_feed (62, L, st, M) x else Rr C mX13_feed (40, L, st, M) x) := (g_if (show decode cX13_feed 37 = .ok (.ifCond .eq 25, 3) by decide +kernel) rfl ha1 ha2).trans (g_ite c_eq)
set_option maxRecDepth 20000 in
theorem kX13_feed_40 {C : QC} {x : QP} {M : QM} {st : List CV} {L : QL} {l0 l1 l2 l3 l4 l5 l6 l7 : Option CV} {z : Int} : Rr C mX13_feed (40, [l0, l1, l2, l3, l4, some (qi z), l6, l7], st, M) x = Rr C mX13_feed (42, [l0, l1, l2, l3, l4, some (qi z), l6, l7], qi z :: st, M) x := g_pl (show decode cX13_feed 40 = .ok (.iload 5, 2) by decide +kernel) rfl
set_option maxRecDepth 20000 in
theorem kX13_feed_42 {C : QC} {x : QP} {M : QM} {st : List CV} {L : QL} : Rr C mX13_feed (42, L, st, M) x = Rr C mX13_feed (43, L, qi 0 :: st, M) x := g_pl (show decode cX13_feed 42 = .ok (.iconst 0, 1) by decide +kernel) rfl
set_option maxRecDepth 20000 in
theorem kX13_feed_43 {C : QC} {x : QP} {M : QM} {st : List CV} {L : QL} : Rr C mX13_feed (43, L, st, M) x = Rr C mX13_feed (45, L, qi 127 :: st, M) x := g_pl (show decode cX13_feed 43 = .ok (.bipush 127, 2) by decide +kernel) rfl
set_option maxRecDepth 20000 in
theorem kX13_feed_45 {C : QC} {x : QP} {M : QM} {L : QL} {rest : List CV} {a0 a1 a2 : CV} {v : CV} {M1 : QM} (hC : C iX13_in [a0, a1, a2] M (some v) M1) (hw : (rest.map q_wd).sum ≤ 8) (k : Rr C mX13_feed (48, L, v :: rest, M1) x) : Rr C mX13_feed (45, L, a2 :: a1 :: a0 :: rest, M) x := g_cs (ow := 13) (e := (1, 198, 0, [1357, 1358, 94])) (as := [a0, a1, a2]) (show decode cX13_feed 45 = .ok (.invokestatic 43, 3) by decide +kernel) rfl rfl rfl rfl (Or.inl rfl) rfl hC hw k
set_option maxRecDepth 20000 in
theorem kX13_feed_48 {C : QC} {x : QP} {M : QM} {st : List CV} {L : QL} {a : Int} (ha1 : -2147483648 ≤ a) (ha2 : a < 2147483648) : Rr C mX13_feed (48, L, qi a :: st, M) x = (if a = 0 then Rr C mX13_feed (62, L, st, M) x else Rr C mX13_feed (51, L, st, M) x) := (g_if (show decode cX13_feed 48 = .ok (.ifCond .eq 14, 3) by decide +kernel) rfl ha1 ha2).trans (g_ite c_eq)
set_option maxRecDepth 20000 in
theorem kX13_feed_51 {C : QC} {x : QP} {M : QM} {st : List CV} {L : QL} {l0 l1 l2 l3 l4 l5 l6 l7 : Option CV} {z : Int} : Rr C mX13_feed (51, [l0, l1, l2, l3, l4, l5, some (qi z), l7], st, M) x = Rr C mX13_feed (53, [l0, l1, l2, l3, l4, l5, some (qi z), l7], qi z :: st, M) x := g_pl (show decode cX13_feed 51 = .ok (.iload 6, 2) by decide +kernel) rfl
set_option maxRecDepth 20000 in
theorem kX13_feed_53 {C : QC} {x : QP} {M : QM} {st : List CV} {L : QL} : Rr C mX13_feed (53, L, st, M) x = Rr C mX13_feed (54, L, qi 0 :: st, M) x := g_pl (show decode cX13_feed 53 = .ok (.iconst 0, 1) by decide +kernel) rfl
set_option maxRecDepth 20000 in
theorem kX13_feed_54 {C : QC} {x : QP} {M : QM} {st : List CV} {L : QL} : Rr C mX13_feed (54, L, st, M) x = Rr C mX13_feed (56, L, qi 127 :: st, M) x := g_pl (show decode cX13_feed 54 = .ok (.bipush 127, 2) by decide +kernel) rfl
set_option maxRecDepth 20000 in
theorem kX13_feed_56 {C : QC} {x : QP} {M : QM} {L : QL} {rest : List CV} {a0 a1 a2 : CV} {v : CV} {M1 : QM} (hC : C iX13_in [a0, a1, a2] M (some v) M1) (hw : (rest.map q_wd).sum ≤ 8) (k : Rr C mX13_feed (59, L, v :: rest, M1) x) : Rr C mX13_feed (56, L, a2 :: a1 :: a0 :: rest, M) x := g_cs (ow := 13) (e := (1, 198, 0, [1357, 1358, 94])) (as := [a0, a1, a2]) (show decode cX13_feed 56 = .ok (.invokestatic 43, 3) by decide +kernel) rfl rfl rfl rfl (Or.inl rfl) rfl hC hw k
set_option maxRecDepth 20000 in
theorem kX13_feed_59 {C : QC} {x : QP} {M : QM} {st : List CV} {L : QL} {a : Int} (ha1 : -2147483648 ≤ a) (ha2 : a < 2147483648) : Rr C mX13_feed (59, L, qi a :: st, M) x = (if a = 0 then Rr C mX13_feed (62, L, st, M) x else Rr C mX13_feed (65, L, st, M) x) := (g_if (show decode cX13_feed 59 = .ok (.ifCond .ne 6, 3) by decide +kernel) rfl ha1 ha2).trans (g_itn c_ne)
set_option maxRecDepth 20000 in
theorem kX13_feed_62 {C : QC} {x : QP} {M : QM} {st : List CV} {L : QL} : Rr C mX13_feed (62, L, st, M) x = Rr C mX13_feed (64, L, qi (-2) :: st, M) x := g_pl (show decode cX13_feed 62 = .ok (.bipush (-2), 2) by decide +kernel) rfl
set_option maxRecDepth 20000 in
theorem kX13_feed_64 {C : QC} {x : QP} {M : QM} {st : List CV} {L : QL} {z : Int} : Rr C mX13_feed (64, L, [qi z], M) x = x (some (qi z)) M := g_iret (show decode cX13_feed 64 = .ok (.ireturn, 1) by decide +kernel) rfl
set_option maxRecDepth 20000 in
theorem kX13_feed_65 {C : QC} {x : QP} {M : QM} {st : List CV} {L : QL} {l0 l1 l2 l3 l4 l5 l6 l7 : Option CV} {r : Option Nat} : Rr C mX13_feed (65, [some (.inr (.inr r)), l1, l2, l3, l4, l5, l6, l7], st, M) x = Rr C mX13_feed (66, [some (.inr (.inr r)), l1, l2, l3, l4, l5, l6, l7], .inr (.inr r) :: st, M) x := g_pl (show decode cX13_feed 65 = .ok (.aload_n 0, 1) by decide +kernel) rfl
set_option maxRecDepth 20000 in
theorem kX13_feed_66 {C : QC} {x : QP} {M : QM} {st : List CV} {L : QL} {a : Nat} (hk : q_kd M a = (1, 13)) : Rr C mX13_feed (66, L, qr a :: st, M) x = Rr C mX13_feed (69, L, q_fv M a 4 :: st, M) x := g_getf (ow := 13) (e := (13, 4, RX13, 1305, 0)) (show decode cX13_feed 66 = .ok (.getfield 69, 3) by decide +kernel) rfl hk
set_option maxRecDepth 20000 in
theorem kX13_feed_69 {C : QC} {x : QP} {M : QM} {st : List CV} {L : QL} {l0 l1 l2 l3 l4 l5 l6 l7 : Option CV} {z : Int} : Rr C mX13_feed (69, [l0, some (qi z), l2, l3, l4, l5, l6, l7], st, M) x = Rr C mX13_feed (70, [l0, some (qi z), l2, l3, l4, l5, l6, l7], qi z :: st, M) x := g_pl (show decode cX13_feed 69 = .ok (.iload_n 1, 1) by decide +kernel) rfl
set_option maxRecDepth 20000 in
theorem kX13_feed_70 {C : QC} {x : QP} {M : QM} {st : List CV} {L : QL} {a b : Int} : Rr C mX13_feed (70, L, qi b :: qi a :: st, M) x = Rr C mX13_feed (71, L, qi (a + b) :: st, M) x := g_pl (show decode cX13_feed 70 = .ok (.iadd, 1) by decide +kernel) rfl
set_option maxRecDepth 20000 in
theorem kX13_feed_71 {C : QC} {x : QP} {M : QM} {st : List CV} {L : QL} : Rr C mX13_feed (71, L, st, M) x = Rr C mX13_feed (73, L, qi 80 :: st, M) x := g_pl (show decode cX13_feed 71 = .ok (.bipush 80, 2) by decide +kernel) rfl
set_option maxRecDepth 20000 in
theorem kX13_feed_73 {C : QC} {x : QP} {M : QM} {st : List CV} {L : QL} {a b : Int} (ha1 : -2147483648 ≤ a) (ha2 : a < 2147483648) (hb1 : -2147483648 ≤ b) (hb2 : b < 2147483648) : Rr C mX13_feed (73, L, qi b :: qi a :: st, M) x = (if b < a then Rr C mX13_feed (76, L, st, M) x else Rr C mX13_feed (79, L, st, M) x) := (g_icmp (show decode cX13_feed 73 = .ok (.if_icmp .le 6, 3) by decide +kernel) rfl ha1 ha2 hb1 hb2).trans (g_itn c_le)
set_option maxRecDepth 20000 in
theorem kX13_feed_76 {C : QC} {x : QP} {M : QM} {st : List CV} {L : QL} : Rr C mX13_feed (76, L, st, M) x = Rr C mX13_feed (78, L, qi (-4) :: st, M) x := g_pl (show decode cX13_feed 76 = .ok (.bipush (-4), 2) by decide +kernel) rfl
set_option maxRecDepth 20000 in
theorem kX13_feed_78 {C : QC} {x : QP} {M : QM} {st : List CV} {L : QL} {z : Int} : Rr C mX13_feed (78, L, [qi z], M) x = x (some (qi z)) M := g_iret (show decode cX13_feed 78 = .ok (.ireturn, 1) by decide +kernel) rfl
set_option maxRecDepth 20000 in
theorem kX13_feed_79 {C : QC} {x : QP} {M : QM} {st : List CV} {L : QL} : Rr C mX13_feed (79, L, st, M) x = Rr C mX13_feed (80, L, qi 0 :: st, M) x := g_pl (show decode cX13_feed 79 = .ok (.iconst 0, 1) by decide +kernel) rfl
set_option maxRecDepth 20000 in
theorem kX13_feed_80 {C : QC} {x : QP} {M : QM} {st : List CV} {L : QL} {l0 l1 l2 l3 l4 l5 l6 l7 : Option CV} {z : Int} : Rr C mX13_feed (80, [l0, l1, l2, l3, l4, l5, l6, l7], qi z :: st, M) x = Rr C mX13_feed (82, [l0, l1, l2, l3, l4, l5, q_cut l6, some (qi z)], st, M) x := g_pl (show decode cX13_feed 80 = .ok (.istore 7, 2) by decide +kernel) rfl
set_option maxRecDepth 20000 in
theorem kX13_feed_82 {C : QC} {x : QP} {M : QM} {st : List CV} {L : QL} {l0 l1 l2 l3 l4 l5 l6 l7 : Option CV} {z : Int} : Rr C mX13_feed (82, [l0, l1, l2, l3, l4, l5, l6, some (qi z)], st, M) x = Rr C mX13_feed (84, [l0, l1, l2, l3, l4, l5, l6, some (qi z)], qi z :: st, M) x := g_pl (show decode cX13_feed 82 = .ok (.iload 7, 2) by decide +kernel) rfl
set_option maxRecDepth 20000 in
theorem kX13_feed_84 {C : QC} {x : QP} {M : QM} {st : List CV} {L : QL} {l0 l1 l2 l3 l4 l5 l6 l7 : Option CV} {z : Int} : Rr C mX13_feed (84, [l0, some (qi z), l2, l3, l4, l5, l6, l7], st, M) x = Rr C mX13_feed (85, [l0, some (qi z), l2, l3, l4, l5, l6, l7], qi z :: st, M) x := g_pl (show decode cX13_feed 84 = .ok (.iload_n 1, 1) by decide +kernel) rfl
set_option maxRecDepth 20000 in
theorem kX13_feed_85 {C : QC} {x : QP} {M : QM} {st : List CV} {L : QL} {a b : Int} (ha1 : -2147483648 ≤ a) (ha2 : a < 2147483648) (hb1 : -2147483648 ≤ b) (hb2 : b < 2147483648) : Rr C mX13_feed (85, L, qi b :: qi a :: st, M) x = (if a < b then Rr C mX13_feed (88, L, st, M) x else Rr C mX13_feed (156, L, st, M) x) := (g_icmp (show decode cX13_feed 85 = .ok (.if_icmp .ge 71, 3) by decide +kernel) rfl ha1 ha2 hb1 hb2).trans (g_itn c_ge)
set_option maxRecDepth 20000 in
theorem kX13_feed_88 {C : QC} {x : QP} {M : QM} {st : List CV} {L : QL} {l0 l1 l2 l3 l4 l5 l6 l7 : Option CV} {r : Option Nat} : Rr C mX13_feed (88, [some (.inr (.inr r)), l1, l2, l3, l4, l5, l6, l7], st, M) x = Rr C mX13_feed (89, [some (.inr (.inr r)), l1, l2, l3, l4, l5, l6, l7], .inr (.inr r) :: st, M) x := g_pl (show decode cX13_feed 88 = .ok (.aload_n 0, 1) by decide +kernel) rfl
set_option maxRecDepth 20000 in
theorem kX13_feed_89 {C : QC} {x : QP} {M : QM} {st : List CV} {L : QL} {a : Nat} (hk : q_kd M a = (1, 13)) : Rr C mX13_feed (89, L, qr a :: st, M) x = Rr C mX13_feed (92, L, q_fv M a 3 :: st, M) x := g_getf (ow := 13) (e := (13, 3, RX13, 1304, 0)) (show decode cX13_feed 89 = .ok (.getfield 14, 3) by decide +kernel) rfl hk
set_option maxRecDepth 20000 in
theorem kX13_feed_92 {C : QC} {x : QP} {M : QM} {st : List CV} {L : QL} {l0 l1 l2 l3 l4 l5 l6 l7 : Option CV} {r : Option Nat} : Rr C mX13_feed (92, [some (.inr (.inr r)), l1, l2, l3, l4, l5, l6, l7], st, M) x = Rr C mX13_feed (93, [some (.inr (.inr r)), l1, l2, l3, l4, l5, l6, l7], .inr (.inr r) :: st, M) x := g_pl (show decode cX13_feed 92 = .ok (.aload_n 0, 1) by decide +kernel) rfl
set_option maxRecDepth 20000 in
theorem kX13_feed_93 {C : QC} {x : QP} {M : QM} {st : List CV} {L : QL} {a : Nat} (hk : q_kd M a = (1, 13)) : Rr C mX13_feed (93, L, qr a :: st, M) x = Rr C mX13_feed (96, L, q_fv M a 4 :: st, M) x := g_getf (ow := 13) (e := (13, 4, RX13, 1305, 0)) (show decode cX13_feed 93 = .ok (.getfield 69, 3) by decide +kernel) rfl hk
set_option maxRecDepth 20000 in
theorem kX13_feed_96 {C : QC} {x : QP} {M : QM} {st : List CV} {L : QL} {l0 l1 l2 l3 l4 l5 l6 l7 : Option CV} {z : Int} : Rr C mX13_feed (96, [l0, l1, l2, l3, l4, l5, l6, some (qi z)], st, M) x = Rr C mX13_feed (98, [l0, l1, l2, l3, l4, l5, l6, some (qi z)], qi z :: st, M) x := g_pl (show decode cX13_feed 96 = .ok (.iload 7, 2) by decide +kernel) rfl
set_option maxRecDepth 20000 in
theorem kX13_feed_98 {C : QC} {x : QP} {M : QM} {st : List CV} {L : QL} {a : Int} (ha1 : -2147483648 ≤ a) (ha2 : a < 2147483648) : Rr C mX13_feed (98, L, qi a :: st, M) x = (if a = 0 then Rr C mX13_feed (101, L, st, M) x else Rr C mX13_feed (105, L, st, M) x) := (g_if (show decode cX13_feed 98 = .ok (.ifCond .ne 7, 3) by decide +kernel) rfl ha1 ha2).trans (g_itn c_ne)
set_option maxRecDepth 20000 in
theorem kX13_feed_101 {C : QC} {x : QP} {M : QM} {st : List CV} {L : QL} {l0 l1 l2 l3 l4 l5 l6 l7 : Option CV} {z : Int} : Rr C mX13_feed (101, [l0, l1, some (qi z), l3, l4, l5, l6, l7], st, M) x = Rr C mX13_feed (102, [l0, l1, some (qi z), l3, l4, l5, l6, l7], qi z :: st, M) x := g_pl (show decode cX13_feed 101 = .ok (.iload_n 2, 1) by decide +kernel) rfl
set_option maxRecDepth 20000 in
theorem kX13_feed_102 {C : QC} {x : QP} {M : QM} {st : List CV} {L : QL} : Rr C mX13_feed (102, L, st, M) x = Rr C mX13_feed (139, L, st, M) x := g_pl (show decode cX13_feed 102 = .ok (.goto 37, 3) by decide +kernel) rfl
set_option maxRecDepth 20000 in
theorem kX13_feed_105 {C : QC} {x : QP} {M : QM} {st : List CV} {L : QL} {l0 l1 l2 l3 l4 l5 l6 l7 : Option CV} {z : Int} : Rr C mX13_feed (105, [l0, l1, l2, l3, l4, l5, l6, some (qi z)], st, M) x = Rr C mX13_feed (107, [l0, l1, l2, l3, l4, l5, l6, some (qi z)], qi z :: st, M) x := g_pl (show decode cX13_feed 105 = .ok (.iload 7, 2) by decide +kernel) rfl
set_option maxRecDepth 20000 in
theorem kX13_feed_107 {C : QC} {x : QP} {M : QM} {st : List CV} {L : QL} : Rr C mX13_feed (107, L, st, M) x = Rr C mX13_feed (108, L, qi 1 :: st, M) x := g_pl (show decode cX13_feed 107 = .ok (.iconst 1, 1) by decide +kernel) rfl
set_option maxRecDepth 20000 in
theorem kX13_feed_108 {C : QC} {x : QP} {M : QM} {st : List CV} {L : QL} {a b : Int} (ha1 : -2147483648 ≤ a) (ha2 : a < 2147483648) (hb1 : -2147483648 ≤ b) (hb2 : b < 2147483648) : Rr C mX13_feed (108, L, qi b :: qi a :: st, M) x = (if a = b then Rr C mX13_feed (111, L, st, M) x else Rr C mX13_feed (115, L, st, M) x) := (g_icmp (show decode cX13_feed 108 = .ok (.if_icmp .ne 7, 3) by decide +kernel) rfl ha1 ha2 hb1 hb2).trans (g_itn c_ne)
set_option maxRecDepth 20000 in
theorem kX13_feed_111 {C : QC} {x : QP} {M : QM} {st : List CV} {L : QL} {l0 l1 l2 l3 l4 l5 l6 l7 : Option CV} {z : Int} : Rr C mX13_feed (111, [l0, l1, l2, some (qi z), l4, l5, l6, l7], st, M) x = Rr C mX13_feed (112, [l0, l1, l2, some (qi z), l4, l5, l6, l7], qi z :: st, M) x := g_pl (show decode cX13_feed 111 = .ok (.iload_n 3, 1) by decide +kernel) rfl
set_option maxRecDepth 20000 in
theorem kX13_feed_112 {C : QC} {x : QP} {M : QM} {st : List CV} {L : QL} : Rr C mX13_feed (112, L, st, M) x = Rr C mX13_feed (139, L, st, M) x := g_pl (show decode cX13_feed 112 = .ok (.goto 27, 3) by decide +kernel) rfl
set_option maxRecDepth 20000 in
theorem kX13_feed_115 {C : QC} {x : QP} {M : QM} {st : List CV} {L : QL} {l0 l1 l2 l3 l4 l5 l6 l7 : Option CV} {z : Int} : Rr C mX13_feed (115, [l0, l1, l2, l3, l4, l5, l6, some (qi z)], st, M) x = Rr C mX13_feed (117, [l0, l1, l2, l3, l4, l5, l6, some (qi z)], qi z :: st, M) x := g_pl (show decode cX13_feed 115 = .ok (.iload 7, 2) by decide +kernel) rfl
set_option maxRecDepth 20000 in
theorem kX13_feed_117 {C : QC} {x : QP} {M : QM} {st : List CV} {L : QL} : Rr C mX13_feed (117, L, st, M) x = Rr C mX13_feed (118, L, qi 2 :: st, M) x := g_pl (show decode cX13_feed 117 = .ok (.iconst 2, 1) by decide +kernel) rfl
set_option maxRecDepth 20000 in
theorem kX13_feed_118 {C : QC} {x : QP} {M : QM} {st : List CV} {L : QL} {a b : Int} (ha1 : -2147483648 ≤ a) (ha2 : a < 2147483648) (hb1 : -2147483648 ≤ b) (hb2 : b < 2147483648) : Rr C mX13_feed (118, L, qi b :: qi a :: st, M) x = (if a = b then Rr C mX13_feed (121, L, st, M) x else Rr C mX13_feed (126, L, st, M) x) := (g_icmp (show decode cX13_feed 118 = .ok (.if_icmp .ne 8, 3) by decide +kernel) rfl ha1 ha2 hb1 hb2).trans (g_itn c_ne)
set_option maxRecDepth 20000 in
theorem kX13_feed_121 {C : QC} {x : QP} {M : QM} {st : List CV} {L : QL} {l0 l1 l2 l3 l4 l5 l6 l7 : Option CV} {z : Int} : Rr C mX13_feed (121, [l0, l1, l2, l3, some (qi z), l5, l6, l7], st, M) x = Rr C mX13_feed (123, [l0, l1, l2, l3, some (qi z), l5, l6, l7], qi z :: st, M) x := g_pl (show decode cX13_feed 121 = .ok (.iload 4, 2) by decide +kernel) rfl
set_option maxRecDepth 20000 in
theorem kX13_feed_123 {C : QC} {x : QP} {M : QM} {st : List CV} {L : QL} : Rr C mX13_feed (123, L, st, M) x = Rr C mX13_feed (139, L, st, M) x := g_pl (show decode cX13_feed 123 = .ok (.goto 16, 3) by decide +kernel) rfl
set_option maxRecDepth 20000 in
theorem kX13_feed_126 {C : QC} {x : QP} {M : QM} {st : List CV} {L : QL} {l0 l1 l2 l3 l4 l5 l6 l7 : Option CV} {z : Int} : Rr C mX13_feed (126, [l0, l1, l2, l3, l4, l5, l6, some (qi z)], st, M) x = Rr C mX13_feed (128, [l0, l1, l2, l3, l4, l5, l6, some (qi z)], qi z :: st, M) x := g_pl (show decode cX13_feed 126 = .ok (.iload 7, 2) by decide +kernel) rfl
set_option maxRecDepth 20000 in
theorem kX13_feed_128 {C : QC} {x : QP} {M : QM} {st : List CV} {L : QL} : Rr C mX13_feed (128, L, st, M) x = Rr C mX13_feed (129, L, qi 3 :: st, M) x := g_pl (show decode cX13_feed 128 = .ok (.iconst 3, 1) by decide +kernel) rfl
set_option maxRecDepth 20000 in
theorem kX13_feed_129 {C : QC} {x : QP} {M : QM} {st : List CV} {L : QL} {a b : Int} (ha1 : -2147483648 ≤ a) (ha2 : a < 2147483648) (hb1 : -2147483648 ≤ b) (hb2 : b < 2147483648) : Rr C mX13_feed (129, L, qi b :: qi a :: st, M) x = (if a = b then Rr C mX13_feed (132, L, st, M) x else Rr C mX13_feed (137, L, st, M) x) := (g_icmp (show decode cX13_feed 129 = .ok (.if_icmp .ne 8, 3) by decide +kernel) rfl ha1 ha2 hb1 hb2).trans (g_itn c_ne)
set_option maxRecDepth 20000 in
theorem kX13_feed_132 {C : QC} {x : QP} {M : QM} {st : List CV} {L : QL} {l0 l1 l2 l3 l4 l5 l6 l7 : Option CV} {z : Int} : Rr C mX13_feed (132, [l0, l1, l2, l3, l4, some (qi z), l6, l7], st, M) x = Rr C mX13_feed (134, [l0, l1, l2, l3, l4, some (qi z), l6, l7], qi z :: st, M) x := g_pl (show decode cX13_feed 132 = .ok (.iload 5, 2) by decide +kernel) rfl
set_option maxRecDepth 20000 in
theorem kX13_feed_134 {C : QC} {x : QP} {M : QM} {st : List CV} {L : QL} : Rr C mX13_feed (134, L, st, M) x = Rr C mX13_feed (139, L, st, M) x := g_pl (show decode cX13_feed 134 = .ok (.goto 5, 3) by decide +kernel) rfl
set_option maxRecDepth 20000 in
theorem kX13_feed_137 {C : QC} {x : QP} {M : QM} {st : List CV} {L : QL} {l0 l1 l2 l3 l4 l5 l6 l7 : Option CV} {z : Int} : Rr C mX13_feed (137, [l0, l1, l2, l3, l4, l5, some (qi z), l7], st, M) x = Rr C mX13_feed (139, [l0, l1, l2, l3, l4, l5, some (qi z), l7], qi z :: st, M) x := g_pl (show decode cX13_feed 137 = .ok (.iload 6, 2) by decide +kernel) rfl
set_option maxRecDepth 20000 in
theorem kX13_feed_139 {C : QC} {x : QP} {M : QM} {st : List CV} {L : QL} {a : Nat} {j v : Int} (hk : (q_kd M a).1 = 2) (h0 : 0 ≤ j) (h1 : j < ((q_kd M a).2 : Int)) : Rr C mX13_feed (139, L, qi v :: qi j :: qr a :: st, M) x = Rr C mX13_feed (140, L, st, q_wr M a j.toNat (qi v)) x := g_iast (show decode cX13_feed 139 = .ok (.iastore, 1) by decide +kernel) hk h0 h1
set_option maxRecDepth 20000 in
theorem kX13_feed_140 {C : QC} {x : QP} {M : QM} {st : List CV} {L : QL} {l0 l1 l2 l3 l4 l5 l6 l7 : Option CV} {r : Option Nat} : Rr C mX13_feed (140, [some (.inr (.inr r)), l1, l2, l3, l4, l5, l6, l7], st, M) x = Rr C mX13_feed (141, [some (.inr (.inr r)), l1, l2, l3, l4, l5, l6, l7], .inr (.inr r) :: st, M) x := g_pl (show decode cX13_feed 140 = .ok (.aload_n 0, 1) by decide +kernel) rfl
set_option maxRecDepth 20000 in
theorem kX13_feed_141i {C : QC} {x : QP} {M : QM} {st : List CV} {L : QL} {a : Int} : Rr C mX13_feed (141, L, qi a :: st, M) x = Rr C mX13_feed (142, L, qi a :: qi a :: st, M) x := g_pl (show decode cX13_feed 141 = .ok (.dup, 1) by decide +kernel) rfl
set_option maxRecDepth 20000 in
theorem kX13_feed_141r {C : QC} {x : QP} {M : QM} {st : List CV} {L : QL} {a : Option Nat} : Rr C mX13_feed (141, L, .inr (.inr a) :: st, M) x = Rr C mX13_feed (142, L, .inr (.inr a) :: .inr (.inr a) :: st, M) x := g_pl (show decode cX13_feed 141 = .ok (.dup, 1) by decide +kernel) rfl
set_option maxRecDepth 20000 in
theorem kX13_feed_142 {C : QC} {x : QP} {M : QM} {st : List CV} {L : QL} {a : Nat} (hk : q_kd M a = (1, 13)) : Rr C mX13_feed (142, L, qr a :: st, M) x = Rr C mX13_feed (145, L, q_fv M a 4 :: st, M) x := g_getf (ow := 13) (e := (13, 4, RX13, 1305, 0)) (show decode cX13_feed 142 = .ok (.getfield 69, 3) by decide +kernel) rfl hk
set_option maxRecDepth 20000 in
theorem kX13_feed_145 {C : QC} {x : QP} {M : QM} {st : List CV} {L : QL} : Rr C mX13_feed (145, L, st, M) x = Rr C mX13_feed (146, L, qi 1 :: st, M) x := g_pl (show decode cX13_feed 145 = .ok (.iconst 1, 1) by decide +kernel) rfl
set_option maxRecDepth 20000 in
theorem kX13_feed_146 {C : QC} {x : QP} {M : QM} {st : List CV} {L : QL} {a b : Int} : Rr C mX13_feed (146, L, qi b :: qi a :: st, M) x = Rr C mX13_feed (147, L, qi (a + b) :: st, M) x := g_pl (show decode cX13_feed 146 = .ok (.iadd, 1) by decide +kernel) rfl
set_option maxRecDepth 20000 in
theorem kX13_feed_147 {C : QC} {x : QP} {M : QM} {st : List CV} {L : QL} {z : Int} {a : Nat} (hk : q_kd M a = (1, 13)) : Rr C mX13_feed (147, L, qi z :: qr a :: st, M) x = Rr C mX13_feed (150, L, st, q_wr M a 4 (qi z)) x := g_putf (ow := 13) (ini := false) (e := (13, 4, RX13, 1305, 0)) (r := (RX13, TX13, 17)) (t := tyX13) (show decode cX13_feed 147 = .ok (.putfield 69, 3) by decide +kernel) rfl rfl rfl rfl (by decide +kernel) hk
set_option maxRecDepth 20000 in
theorem kX13_feed_150 {C : QC} {x : QP} {M : QM} {st : List CV} {L : QL} {l0 l1 l2 l3 l4 l5 l6 l7 : Option CV} {z : Int} : Rr C mX13_feed (150, [l0, l1, l2, l3, l4, l5, l6, some (qi z)], st, M) x = Rr C mX13_feed (153, [l0, l1, l2, l3, l4, l5, q_cut l6, some (qi (z + 1))], st, M) x := g_pl (show decode cX13_feed 150 = .ok (.iinc 7 1, 3) by decide +kernel) rfl
set_option maxRecDepth 20000 in
theorem kX13_feed_153 {C : QC} {x : QP} {M : QM} {st : List CV} {L : QL} : Rr C mX13_feed (153, L, st, M) x = Rr C mX13_feed (82, L, st, M) x := g_pl (show decode cX13_feed 153 = .ok (.goto (-71), 3) by decide +kernel) rfl
set_option maxRecDepth 20000 in
theorem kX13_feed_156 {C : QC} {x : QP} {M : QM} {st : List CV} {L : QL} {l0 l1 l2 l3 l4 l5 l6 l7 : Option CV} {r : Option Nat} : Rr C mX13_feed (156, [some (.inr (.inr r)), l1, l2, l3, l4, l5, l6, l7], st, M) x = Rr C mX13_feed (157, [some (.inr (.inr r)), l1, l2, l3, l4, l5, l6, l7], .inr (.inr r) :: st, M) x := g_pl (show decode cX13_feed 156 = .ok (.aload_n 0, 1) by decide +kernel) rfl
set_option maxRecDepth 20000 in
theorem kX13_feed_157 {C : QC} {x : QP} {M : QM} {st : List CV} {L : QL} {a : Nat} (hk : q_kd M a = (1, 13)) : Rr C mX13_feed (157, L, qr a :: st, M) x = Rr C mX13_feed (160, L, q_fv M a 4 :: st, M) x := g_getf (ow := 13) (e := (13, 4, RX13, 1305, 0)) (show decode cX13_feed 157 = .ok (.getfield 69, 3) by decide +kernel) rfl hk
set_option maxRecDepth 20000 in
theorem kX13_feed_160 {C : QC} {x : QP} {M : QM} {st : List CV} {L : QL} {z : Int} : Rr C mX13_feed (160, L, [qi z], M) x = x (some (qi z)) M := g_iret (show decode cX13_feed 160 = .ok (.ireturn, 1) by decide +kernel) rfl
set_option maxRecDepth 20000 in
theorem eX13_feed {d : Nat} {M : QM} {x : QP} {a : Nat} {v0 : Int} {v1 : Int} {v2 : Int} {v3 : Int} {v4 : Int} {v5 : Int} : q_T (d + 1) iX13_feed [qr a, qi v0, qi v1, qi v2, qi v3, qi v4, qi v5] M x = Rr (q_C d) mX13_feed (0, [some (qr a), some (qi v0), some (qi v1), some (qi v2), some (qi v3), some (qi v4), some (qi v5), none], [], M) x := g_entryT (e := _) rfl (Nat.le_of_ble_eq_true rfl) rfl rfl
def mX13_here : QI := (13, cX13_here, false, some .int)
set_option maxRecDepth 20000 in
theorem kX13_here_0 {C : QC} {x : QP} {M : QM} {st : List CV} {L : QL} {r : Option Nat} : Rr C mX13_here (0, [some (.inr (.inr r))], st, M) x = Rr C mX13_here (1, [some (.inr (.inr r))], .inr (.inr r) :: st, M) x := g_pl (show decode cX13_here 0 = .ok (.aload_n 0, 1) by decide +kernel) rfl
set_option maxRecDepth 20000 in
theorem kX13_here_1 {C : QC} {x : QP} {M : QM} {st : List CV} {L : QL} {a : Nat} (hk : q_kd M a = (1, 13)) : Rr C mX13_here (1, L, qr a :: st, M) x = Rr C mX13_here (4, L, q_fv M a 5 :: st, M) x := g_getf (ow := 13) (e := (13, 5, RX13, 1306, 0)) (show decode cX13_here 1 = .ok (.getfield 72, 3) by decide +kernel) rfl hk
set_option maxRecDepth 20000 in
theorem kX13_here_4 {C : QC} {x : QP} {M : QM} {st : List CV} {L : QL} {r : Option Nat} : Rr C mX13_here (4, [some (.inr (.inr r))], st, M) x = Rr C mX13_here (5, [some (.inr (.inr r))], .inr (.inr r) :: st, M) x := g_pl (show decode cX13_here 4 = .ok (.aload_n 0, 1) by decide +kernel) rfl
set_option maxRecDepth 20000 in
theorem kX13_here_5 {C : QC} {x : QP} {M : QM} {st : List CV} {L : QL} {a : Nat} (hk : q_kd M a = (1, 13)) : Rr C mX13_here (5, L, qr a :: st, M) x = Rr C mX13_here (8, L, q_fv M a 4 :: st, M) x := g_getf (ow := 13) (e := (13, 4, RX13, 1305, 0)) (show decode cX13_here 5 = .ok (.getfield 69, 3) by decide +kernel) rfl hk
set_option maxRecDepth 20000 in
theorem kX13_here_8 {C : QC} {x : QP} {M : QM} {st : List CV} {L : QL} {a b : Int} (ha1 : -2147483648 ≤ a) (ha2 : a < 2147483648) (hb1 : -2147483648 ≤ b) (hb2 : b < 2147483648) : Rr C mX13_here (8, L, qi b :: qi a :: st, M) x = (if a < b then Rr C mX13_here (11, L, st, M) x else Rr C mX13_here (23, L, st, M) x) := (g_icmp (show decode cX13_here 8 = .ok (.if_icmp .ge 15, 3) by decide +kernel) rfl ha1 ha2 hb1 hb2).trans (g_itn c_ge)
set_option maxRecDepth 20000 in
theorem kX13_here_11 {C : QC} {x : QP} {M : QM} {st : List CV} {L : QL} {r : Option Nat} : Rr C mX13_here (11, [some (.inr (.inr r))], st, M) x = Rr C mX13_here (12, [some (.inr (.inr r))], .inr (.inr r) :: st, M) x := g_pl (show decode cX13_here 11 = .ok (.aload_n 0, 1) by decide +kernel) rfl
set_option maxRecDepth 20000 in
theorem kX13_here_12 {C : QC} {x : QP} {M : QM} {st : List CV} {L : QL} {a : Nat} (hk : q_kd M a = (1, 13)) : Rr C mX13_here (12, L, qr a :: st, M) x = Rr C mX13_here (15, L, q_fv M a 3 :: st, M) x := g_getf (ow := 13) (e := (13, 3, RX13, 1304, 0)) (show decode cX13_here 12 = .ok (.getfield 14, 3) by decide +kernel) rfl hk
set_option maxRecDepth 20000 in
theorem kX13_here_15 {C : QC} {x : QP} {M : QM} {st : List CV} {L : QL} {r : Option Nat} : Rr C mX13_here (15, [some (.inr (.inr r))], st, M) x = Rr C mX13_here (16, [some (.inr (.inr r))], .inr (.inr r) :: st, M) x := g_pl (show decode cX13_here 15 = .ok (.aload_n 0, 1) by decide +kernel) rfl
set_option maxRecDepth 20000 in
theorem kX13_here_16 {C : QC} {x : QP} {M : QM} {st : List CV} {L : QL} {a : Nat} (hk : q_kd M a = (1, 13)) : Rr C mX13_here (16, L, qr a :: st, M) x = Rr C mX13_here (19, L, q_fv M a 5 :: st, M) x := g_getf (ow := 13) (e := (13, 5, RX13, 1306, 0)) (show decode cX13_here 16 = .ok (.getfield 72, 3) by decide +kernel) rfl hk
set_option maxRecDepth 20000 in
theorem kX13_here_19 {C : QC} {x : QP} {M : QM} {st : List CV} {L : QL} {a : Nat} {j : Int} (hk : (q_kd M a).1 = 2) (h0 : 0 ≤ j) (h1 : j < ((q_kd M a).2 : Int)) : Rr C mX13_here (19, L, qi j :: qr a :: st, M) x = Rr C mX13_here (20, L, q_fv M a j.toNat :: st, M) x := g_iald (show decode cX13_here 19 = .ok (.iaload, 1) by decide +kernel) hk h0 h1
set_option maxRecDepth 20000 in
theorem kX13_here_20 {C : QC} {x : QP} {M : QM} {st : List CV} {L : QL} : Rr C mX13_here (20, L, st, M) x = Rr C mX13_here (24, L, st, M) x := g_pl (show decode cX13_here 20 = .ok (.goto 4, 3) by decide +kernel) rfl
set_option maxRecDepth 20000 in
theorem kX13_here_23 {C : QC} {x : QP} {M : QM} {st : List CV} {L : QL} : Rr C mX13_here (23, L, st, M) x = Rr C mX13_here (24, L, qi (-1) :: st, M) x := g_pl (show decode cX13_here 23 = .ok (.iconst (-1), 1) by decide +kernel) rfl
set_option maxRecDepth 20000 in
theorem kX13_here_24 {C : QC} {x : QP} {M : QM} {st : List CV} {L : QL} {z : Int} : Rr C mX13_here (24, L, [qi z], M) x = x (some (qi z)) M := g_iret (show decode cX13_here 24 = .ok (.ireturn, 1) by decide +kernel) rfl
set_option maxRecDepth 20000 in
theorem eX13_here {d : Nat} {M : QM} {x : QP} {a : Nat} : q_T (d + 1) iX13_here [qr a] M x = Rr (q_C d) mX13_here (0, [some (qr a)], [], M) x := g_entryT (e := _) rfl (Nat.le_of_ble_eq_true rfl) rfl rfl
def mX13_fails : QI := (13, cX13_fails, false, none)
set_option maxRecDepth 20000 in
theorem kX13_fails_0 {C : QC} {x : QP} {M : QM} {st : List CV} {L : QL} {r : Option Nat} : Rr C mX13_fails (0, [some (.inr (.inr r))], st, M) x = Rr C mX13_fails (1, [some (.inr (.inr r))], .inr (.inr r) :: st, M) x := g_pl (show decode cX13_fails 0 = .ok (.aload_n 0, 1) by decide +kernel) rfl
set_option maxRecDepth 20000 in
theorem kX13_fails_1 {C : QC} {x : QP} {M : QM} {st : List CV} {L : QL} {r : Option Nat} : Rr C mX13_fails (1, [some (.inr (.inr r))], st, M) x = Rr C mX13_fails (2, [some (.inr (.inr r))], .inr (.inr r) :: st, M) x := g_pl (show decode cX13_fails 1 = .ok (.aload_n 0, 1) by decide +kernel) rfl
set_option maxRecDepth 20000 in
theorem kX13_fails_2 {C : QC} {x : QP} {M : QM} {st : List CV} {L : QL} {a : Nat} (hk : q_kd M a = (1, 13)) : Rr C mX13_fails (2, L, qr a :: st, M) x = Rr C mX13_fails (5, L, q_fv M a 6 :: st, M) x := g_getf (ow := 13) (e := (13, 6, RX13, 1307, 0)) (show decode cX13_fails 2 = .ok (.getfield 75, 3) by decide +kernel) rfl hk
set_option maxRecDepth 20000 in
theorem kX13_fails_5 {C : QC} {x : QP} {M : QM} {st : List CV} {L : QL} {a : Int} (ha1 : -2147483648 ≤ a) (ha2 : a < 2147483648) : Rr C mX13_fails (5, L, qi a :: st, M) x = (if a < 0 then Rr C mX13_fails (8, L, st, M) x else Rr C mX13_fails (15, L, st, M) x) := (g_if (show decode cX13_fails 5 = .ok (.ifCond .ge 10, 3) by decide +kernel) rfl ha1 ha2).trans (g_itn c_ge)
set_option maxRecDepth 20000 in
theorem kX13_fails_8 {C : QC} {x : QP} {M : QM} {st : List CV} {L : QL} {r : Option Nat} : Rr C mX13_fails (8, [some (.inr (.inr r))], st, M) x = Rr C mX13_fails (9, [some (.inr (.inr r))], .inr (.inr r) :: st, M) x := g_pl (show decode cX13_fails 8 = .ok (.aload_n 0, 1) by decide +kernel) rfl
set_option maxRecDepth 20000 in
theorem kX13_fails_9 {C : QC} {x : QP} {M : QM} {st : List CV} {L : QL} {a : Nat} (hk : q_kd M a = (1, 13)) : Rr C mX13_fails (9, L, qr a :: st, M) x = Rr C mX13_fails (12, L, q_fv M a 5 :: st, M) x := g_getf (ow := 13) (e := (13, 5, RX13, 1306, 0)) (show decode cX13_fails 9 = .ok (.getfield 72, 3) by decide +kernel) rfl hk
set_option maxRecDepth 20000 in
theorem kX13_fails_12 {C : QC} {x : QP} {M : QM} {st : List CV} {L : QL} : Rr C mX13_fails (12, L, st, M) x = Rr C mX13_fails (19, L, st, M) x := g_pl (show decode cX13_fails 12 = .ok (.goto 7, 3) by decide +kernel) rfl
set_option maxRecDepth 20000 in
theorem kX13_fails_15 {C : QC} {x : QP} {M : QM} {st : List CV} {L : QL} {r : Option Nat} : Rr C mX13_fails (15, [some (.inr (.inr r))], st, M) x = Rr C mX13_fails (16, [some (.inr (.inr r))], .inr (.inr r) :: st, M) x := g_pl (show decode cX13_fails 15 = .ok (.aload_n 0, 1) by decide +kernel) rfl
set_option maxRecDepth 20000 in
theorem kX13_fails_16 {C : QC} {x : QP} {M : QM} {st : List CV} {L : QL} {a : Nat} (hk : q_kd M a = (1, 13)) : Rr C mX13_fails (16, L, qr a :: st, M) x = Rr C mX13_fails (19, L, q_fv M a 6 :: st, M) x := g_getf (ow := 13) (e := (13, 6, RX13, 1307, 0)) (show decode cX13_fails 16 = .ok (.getfield 75, 3) by decide +kernel) rfl hk
set_option maxRecDepth 20000 in
theorem kX13_fails_19 {C : QC} {x : QP} {M : QM} {st : List CV} {L : QL} {z : Int} {a : Nat} (hk : q_kd M a = (1, 13)) : Rr C mX13_fails (19, L, qi z :: qr a :: st, M) x = Rr C mX13_fails (22, L, st, q_wr M a 6 (qi z)) x := g_putf (ow := 13) (ini := false) (e := (13, 6, RX13, 1307, 0)) (r := (RX13, TX13, 17)) (t := tyX13) (show decode cX13_fails 19 = .ok (.putfield 75, 3) by decide +kernel) rfl rfl rfl rfl (by decide +kernel) hk
set_option maxRecDepth 20000 in
theorem kX13_fails_22 {C : QC} {x : QP} {M : QM} {st : List CV} {L : QL} : Rr C mX13_fails (22, L, [], M) x = x none M := g_vret (show decode cX13_fails 22 = .ok (.return_, 1) by decide +kernel)
set_option maxRecDepth 20000 in
theorem eX13_fails {d : Nat} {M : QM} {x : QP} {a : Nat} : q_T (d + 1) iX13_fails [qr a] M x = Rr (q_C d) mX13_fails (0, [some (qr a)], [], M) x := g_entryT (e := _) rfl (Nat.le_of_ble_eq_true rfl) rfl rfl
def mX13_sign : QI := (13, cX13_sign, false, some .int)
set_option maxRecDepth 20000 in
theorem kX13_sign_0 {C : QC} {x : QP} {M : QM} {st : List CV} {L : QL} {l0 l1 l2 : Option CV} {r : Option Nat} : Rr C mX13_sign (0, [some (.inr (.inr r)), l1, l2], st, M) x = Rr C mX13_sign (1, [some (.inr (.inr r)), l1, l2], .inr (.inr r) :: st, M) x := g_pl (show decode cX13_sign 0 = .ok (.aload_n 0, 1) by decide +kernel) rfl
set_option maxRecDepth 20000 in
theorem kX13_sign_1 {C : QC} {x : QP} {M : QM} {st : List CV} {L : QL} {a : Nat} (hk : q_kd M a = (1, 13)) : Rr C mX13_sign (1, L, qr a :: st, M) x = Rr C mX13_sign (4, L, q_fv M a 6 :: st, M) x := g_getf (ow := 13) (e := (13, 6, RX13, 1307, 0)) (show decode cX13_sign 1 = .ok (.getfield 75, 3) by decide +kernel) rfl hk
set_option maxRecDepth 20000 in
theorem kX13_sign_4 {C : QC} {x : QP} {M : QM} {st : List CV} {L : QL} {a : Int} (ha1 : -2147483648 ≤ a) (ha2 : a < 2147483648) : Rr C mX13_sign (4, L, qi a :: st, M) x = (if a < 0 then Rr C mX13_sign (9, L, st, M) x else Rr C mX13_sign (7, L, st, M) x) := (g_if (show decode cX13_sign 4 = .ok (.ifCond .lt 5, 3) by decide +kernel) rfl ha1 ha2).trans (g_ite c_lt)
set_option maxRecDepth 20000 in
theorem kX13_sign_7 {C : QC} {x : QP} {M : QM} {st : List CV} {L : QL} : Rr C mX13_sign (7, L, st, M) x = Rr C mX13_sign (8, L, qi 0 :: st, M) x := g_pl (show decode cX13_sign 7 = .ok (.iconst 0, 1) by decide +kernel) rfl
set_option maxRecDepth 20000 in
theorem kX13_sign_8 {C : QC} {x : QP} {M : QM} {st : List CV} {L : QL} {z : Int} : Rr C mX13_sign (8, L, [qi z], M) x = x (some (qi z)) M := g_iret (show decode cX13_sign 8 = .ok (.ireturn, 1) by decide +kernel) rfl
set_option maxRecDepth 20000 in
theorem kX13_sign_9 {C : QC} {x : QP} {M : QM} {st : List CV} {L : QL} {l0 l1 l2 : Option CV} {r : Option Nat} : Rr C mX13_sign (9, [some (.inr (.inr r)), l1, l2], st, M) x = Rr C mX13_sign (10, [some (.inr (.inr r)), l1, l2], .inr (.inr r) :: st, M) x := g_pl (show decode cX13_sign 9 = .ok (.aload_n 0, 1) by decide +kernel) rfl
set_option maxRecDepth 20000 in
theorem kX13_sign_10 {C : QC} {x : QP} {M : QM} {L : QL} {rest : List CV} {v : CV} {M1 : QM} {b : Nat} (hb : q_kd M b = (1, 13)) (hC : C iX13_here [qr b] M (some v) M1) (hw : (rest.map q_wd).sum ≤ 8) (k : Rr C mX13_sign (13, L, v :: rest, M1) x) : Rr C mX13_sign (10, L, qr b :: rest, M) x := g_cv (ow := 13) (e := (0, 202, 13, [1372, 1374, 28, 94])) (as := []) (show decode cX13_sign 10 = .ok (.invokevirtual 78, 3) by decide +kernel) rfl rfl rfl (Or.inl rfl) rfl hb hC hw k
set_option maxRecDepth 20000 in
theorem kX13_sign_13 {C : QC} {x : QP} {M : QM} {st : List CV} {L : QL} {l0 l1 l2 : Option CV} {z : Int} : Rr C mX13_sign (13, [l0, some (qi z), l2], st, M) x = Rr C mX13_sign (14, [l0, some (qi z), l2], qi z :: st, M) x := g_pl (show decode cX13_sign 13 = .ok (.iload_n 1, 1) by decide +kernel) rfl
set_option maxRecDepth 20000 in
theorem kX13_sign_14 {C : QC} {x : QP} {M : QM} {st : List CV} {L : QL} {l0 l1 l2 : Option CV} {z : Int} : Rr C mX13_sign (14, [l0, l1, some (qi z)], st, M) x = Rr C mX13_sign (15, [l0, l1, some (qi z)], qi z :: st, M) x := g_pl (show decode cX13_sign 14 = .ok (.iload_n 2, 1) by decide +kernel) rfl
set_option maxRecDepth 20000 in
theorem kX13_sign_15 {C : QC} {x : QP} {M : QM} {L : QL} {rest : List CV} {a0 a1 a2 : CV} {v : CV} {M1 : QM} (hC : C iX13_in [a0, a1, a2] M (some v) M1) (hw : (rest.map q_wd).sum ≤ 8) (k : Rr C mX13_sign (18, L, v :: rest, M1) x) : Rr C mX13_sign (15, L, a2 :: a1 :: a0 :: rest, M) x := g_cs (ow := 13) (e := (1, 198, 0, [1357, 1358, 94])) (as := [a0, a1, a2]) (show decode cX13_sign 15 = .ok (.invokestatic 43, 3) by decide +kernel) rfl rfl rfl rfl (Or.inl rfl) rfl hC hw k
set_option maxRecDepth 20000 in
theorem kX13_sign_18 {C : QC} {x : QP} {M : QM} {st : List CV} {L : QL} {a : Int} (ha1 : -2147483648 ≤ a) (ha2 : a < 2147483648) : Rr C mX13_sign (18, L, qi a :: st, M) x = (if a = 0 then Rr C mX13_sign (21, L, st, M) x else Rr C mX13_sign (27, L, st, M) x) := (g_if (show decode cX13_sign 18 = .ok (.ifCond .ne 9, 3) by decide +kernel) rfl ha1 ha2).trans (g_itn c_ne)
set_option maxRecDepth 20000 in
theorem kX13_sign_21 {C : QC} {x : QP} {M : QM} {st : List CV} {L : QL} {l0 l1 l2 : Option CV} {r : Option Nat} : Rr C mX13_sign (21, [some (.inr (.inr r)), l1, l2], st, M) x = Rr C mX13_sign (22, [some (.inr (.inr r)), l1, l2], .inr (.inr r) :: st, M) x := g_pl (show decode cX13_sign 21 = .ok (.aload_n 0, 1) by decide +kernel) rfl
set_option maxRecDepth 20000 in
theorem kX13_sign_22 {C : QC} {x : QP} {M : QM} {L : QL} {rest : List CV} {M1 : QM} {b : Nat} (hb : q_kd M b = (1, 13)) (hC : C iX13_fails [qr b] M none M1) (hw : (rest.map q_wd).sum ≤ 8) (k : Rr C mX13_sign (25, L, rest, M1) x) : Rr C mX13_sign (22, L, qr b :: rest, M) x := g_cv (ow := 13) (e := (0, 203, 13, [1376, 1378, 29, 94])) (as := []) (show decode cX13_sign 22 = .ok (.invokevirtual 82, 3) by decide +kernel) rfl rfl rfl (Or.inl rfl) rfl hb hC hw k
set_option maxRecDepth 20000 in
theorem kX13_sign_25 {C : QC} {x : QP} {M : QM} {st : List CV} {L : QL} : Rr C mX13_sign (25, L, st, M) x = Rr C mX13_sign (26, L, qi 0 :: st, M) x := g_pl (show decode cX13_sign 25 = .ok (.iconst 0, 1) by decide +kernel) rfl
set_option maxRecDepth 20000 in
theorem kX13_sign_26 {C : QC} {x : QP} {M : QM} {st : List CV} {L : QL} {z : Int} : Rr C mX13_sign (26, L, [qi z], M) x = x (some (qi z)) M := g_iret (show decode cX13_sign 26 = .ok (.ireturn, 1) by decide +kernel) rfl
set_option maxRecDepth 20000 in
theorem kX13_sign_27 {C : QC} {x : QP} {M : QM} {st : List CV} {L : QL} {l0 l1 l2 : Option CV} {r : Option Nat} : Rr C mX13_sign (27, [some (.inr (.inr r)), l1, l2], st, M) x = Rr C mX13_sign (28, [some (.inr (.inr r)), l1, l2], .inr (.inr r) :: st, M) x := g_pl (show decode cX13_sign 27 = .ok (.aload_n 0, 1) by decide +kernel) rfl
set_option maxRecDepth 20000 in
theorem kX13_sign_28i {C : QC} {x : QP} {M : QM} {st : List CV} {L : QL} {a : Int} : Rr C mX13_sign (28, L, qi a :: st, M) x = Rr C mX13_sign (29, L, qi a :: qi a :: st, M) x := g_pl (show decode cX13_sign 28 = .ok (.dup, 1) by decide +kernel) rfl
set_option maxRecDepth 20000 in
theorem kX13_sign_28r {C : QC} {x : QP} {M : QM} {st : List CV} {L : QL} {a : Option Nat} : Rr C mX13_sign (28, L, .inr (.inr a) :: st, M) x = Rr C mX13_sign (29, L, .inr (.inr a) :: .inr (.inr a) :: st, M) x := g_pl (show decode cX13_sign 28 = .ok (.dup, 1) by decide +kernel) rfl
set_option maxRecDepth 20000 in
theorem kX13_sign_29 {C : QC} {x : QP} {M : QM} {st : List CV} {L : QL} {a : Nat} (hk : q_kd M a = (1, 13)) : Rr C mX13_sign (29, L, qr a :: st, M) x = Rr C mX13_sign (32, L, q_fv M a 5 :: st, M) x := g_getf (ow := 13) (e := (13, 5, RX13, 1306, 0)) (show decode cX13_sign 29 = .ok (.getfield 72, 3) by decide +kernel) rfl hk
set_option maxRecDepth 20000 in
theorem kX13_sign_32 {C : QC} {x : QP} {M : QM} {st : List CV} {L : QL} : Rr C mX13_sign (32, L, st, M) x = Rr C mX13_sign (33, L, qi 1 :: st, M) x := g_pl (show decode cX13_sign 32 = .ok (.iconst 1, 1) by decide +kernel) rfl
set_option maxRecDepth 20000 in
theorem kX13_sign_33 {C : QC} {x : QP} {M : QM} {st : List CV} {L : QL} {a b : Int} : Rr C mX13_sign (33, L, qi b :: qi a :: st, M) x = Rr C mX13_sign (34, L, qi (a + b) :: st, M) x := g_pl (show decode cX13_sign 33 = .ok (.iadd, 1) by decide +kernel) rfl
set_option maxRecDepth 20000 in
theorem kX13_sign_34 {C : QC} {x : QP} {M : QM} {st : List CV} {L : QL} {z : Int} {a : Nat} (hk : q_kd M a = (1, 13)) : Rr C mX13_sign (34, L, qi z :: qr a :: st, M) x = Rr C mX13_sign (37, L, st, q_wr M a 5 (qi z)) x := g_putf (ow := 13) (ini := false) (e := (13, 5, RX13, 1306, 0)) (r := (RX13, TX13, 17)) (t := tyX13) (show decode cX13_sign 34 = .ok (.putfield 72, 3) by decide +kernel) rfl rfl rfl rfl (by decide +kernel) hk
set_option maxRecDepth 20000 in
theorem kX13_sign_37 {C : QC} {x : QP} {M : QM} {st : List CV} {L : QL} {l0 l1 l2 : Option CV} {r : Option Nat} : Rr C mX13_sign (37, [some (.inr (.inr r)), l1, l2], st, M) x = Rr C mX13_sign (38, [some (.inr (.inr r)), l1, l2], .inr (.inr r) :: st, M) x := g_pl (show decode cX13_sign 37 = .ok (.aload_n 0, 1) by decide +kernel) rfl
set_option maxRecDepth 20000 in
theorem kX13_sign_38 {C : QC} {x : QP} {M : QM} {st : List CV} {L : QL} {a : Nat} (hk : q_kd M a = (1, 13)) : Rr C mX13_sign (38, L, qr a :: st, M) x = Rr C mX13_sign (41, L, q_fv M a 3 :: st, M) x := g_getf (ow := 13) (e := (13, 3, RX13, 1304, 0)) (show decode cX13_sign 38 = .ok (.getfield 14, 3) by decide +kernel) rfl hk
set_option maxRecDepth 20000 in
theorem kX13_sign_41 {C : QC} {x : QP} {M : QM} {st : List CV} {L : QL} {l0 l1 l2 : Option CV} {r : Option Nat} : Rr C mX13_sign (41, [some (.inr (.inr r)), l1, l2], st, M) x = Rr C mX13_sign (42, [some (.inr (.inr r)), l1, l2], .inr (.inr r) :: st, M) x := g_pl (show decode cX13_sign 41 = .ok (.aload_n 0, 1) by decide +kernel) rfl
set_option maxRecDepth 20000 in
theorem kX13_sign_42 {C : QC} {x : QP} {M : QM} {st : List CV} {L : QL} {a : Nat} (hk : q_kd M a = (1, 13)) : Rr C mX13_sign (42, L, qr a :: st, M) x = Rr C mX13_sign (45, L, q_fv M a 5 :: st, M) x := g_getf (ow := 13) (e := (13, 5, RX13, 1306, 0)) (show decode cX13_sign 42 = .ok (.getfield 72, 3) by decide +kernel) rfl hk
set_option maxRecDepth 20000 in
theorem kX13_sign_45 {C : QC} {x : QP} {M : QM} {st : List CV} {L : QL} : Rr C mX13_sign (45, L, st, M) x = Rr C mX13_sign (46, L, qi 1 :: st, M) x := g_pl (show decode cX13_sign 45 = .ok (.iconst 1, 1) by decide +kernel) rfl
set_option maxRecDepth 20000 in
theorem kX13_sign_46 {C : QC} {x : QP} {M : QM} {st : List CV} {L : QL} {a b : Int} : Rr C mX13_sign (46, L, qi b :: qi a :: st, M) x = Rr C mX13_sign (47, L, qi (a - b) :: st, M) x := g_pl (show decode cX13_sign 46 = .ok (.isub, 1) by decide +kernel) rfl
set_option maxRecDepth 20000 in
theorem kX13_sign_47 {C : QC} {x : QP} {M : QM} {st : List CV} {L : QL} {a : Nat} {j : Int} (hk : (q_kd M a).1 = 2) (h0 : 0 ≤ j) (h1 : j < ((q_kd M a).2 : Int)) : Rr C mX13_sign (47, L, qi j :: qr a :: st, M) x = Rr C mX13_sign (48, L, q_fv M a j.toNat :: st, M) x := g_iald (show decode cX13_sign 47 = .ok (.iaload, 1) by decide +kernel) hk h0 h1
set_option maxRecDepth 20000 in
theorem kX13_sign_48 {C : QC} {x : QP} {M : QM} {st : List CV} {L : QL} {z : Int} : Rr C mX13_sign (48, L, [qi z], M) x = x (some (qi z)) M := g_iret (show decode cX13_sign 48 = .ok (.ireturn, 1) by decide +kernel) rfl
set_option maxRecDepth 20000 in
theorem eX13_sign {d : Nat} {M : QM} {x : QP} {a : Nat} {v0 : Int} {v1 : Int} : q_T (d + 1) iX13_sign [qr a, qi v0, qi v1] M x = Rr (q_C d) mX13_sign (0, [some (qr a), some (qi v0), some (qi v1)], [], M) x := g_entryT (e := _) rfl (Nat.le_of_ble_eq_true rfl) rfl rfl
def mX13_must : QI := (13, cX13_must, false, none)
set_option maxRecDepth 20000 in
theorem kX13_must_0 {C : QC} {x : QP} {M : QM} {st : List CV} {L : QL} {l0 l1 l2 : Option CV} {r : Option Nat} : Rr C mX13_must (0, [some (.inr (.inr r)), l1, l2], st, M) x = Rr C mX13_must (1, [some (.inr (.inr r)), l1, l2], .inr (.inr r) :: st, M) x := g_pl (show decode cX13_must 0 = .ok (.aload_n 0, 1) by decide +kernel) rfl
set_option maxRecDepth 20000 in
theorem kX13_must_1 {C : QC} {x : QP} {M : QM} {st : List CV} {L : QL} {l0 l1 l2 : Option CV} {z : Int} : Rr C mX13_must (1, [l0, some (qi z), l2], st, M) x = Rr C mX13_must (2, [l0, some (qi z), l2], qi z :: st, M) x := g_pl (show decode cX13_must 1 = .ok (.iload_n 1, 1) by decide +kernel) rfl
set_option maxRecDepth 20000 in
theorem kX13_must_2 {C : QC} {x : QP} {M : QM} {st : List CV} {L : QL} {l0 l1 l2 : Option CV} {z : Int} : Rr C mX13_must (2, [l0, some (qi z), l2], st, M) x = Rr C mX13_must (3, [l0, some (qi z), l2], qi z :: st, M) x := g_pl (show decode cX13_must 2 = .ok (.iload_n 1, 1) by decide +kernel) rfl
set_option maxRecDepth 20000 in
theorem kX13_must_3 {C : QC} {x : QP} {M : QM} {L : QL} {rest : List CV} {a0 a1 : CV} {v : CV} {M1 : QM} {b : Nat} (hb : q_kd M b = (1, 13)) (hC : C iX13_sign [qr b, a0, a1] M (some v) M1) (hw : (rest.map q_wd).sum ≤ 8) (k : Rr C mX13_must (6, L, v :: rest, M1) x) : Rr C mX13_must (3, L, a1 :: a0 :: qr b :: rest, M) x := g_cv (ow := 13) (e := (0, 241, 13, [1527, 1529, 60, 94])) (as := [a0, a1]) (show decode cX13_must 3 = .ok (.invokevirtual 85, 3) by decide +kernel) rfl rfl rfl (Or.inl rfl) rfl hb hC hw k
set_option maxRecDepth 20000 in
theorem kX13_must_6 {C : QC} {x : QP} {M : QM} {st : List CV} {L : QL} {l0 l1 l2 : Option CV} {z : Int} : Rr C mX13_must (6, [l0, l1, l2], qi z :: st, M) x = Rr C mX13_must (7, [l0, q_cut l1, some (qi z)], st, M) x := g_pl (show decode cX13_must 6 = .ok (.istore_n 2, 1) by decide +kernel) rfl
set_option maxRecDepth 20000 in
theorem kX13_must_7 {C : QC} {x : QP} {M : QM} {st : List CV} {L : QL} : Rr C mX13_must (7, L, [], M) x = x none M := g_vret (show decode cX13_must 7 = .ok (.return_, 1) by decide +kernel)
set_option maxRecDepth 20000 in
theorem eX13_must {d : Nat} {M : QM} {x : QP} {a : Nat} {v0 : Int} : q_T (d + 1) iX13_must [qr a, qi v0] M x = Rr (q_C d) mX13_must (0, [some (qr a), some (qi v0), none], [], M) x := g_entryT (e := _) rfl (Nat.le_of_ble_eq_true rfl) rfl rfl
def mX13_number : QI := (13, cX13_number, false, some .int)
set_option maxRecDepth 20000 in
theorem kX13_number_0 {C : QC} {x : QP} {M : QM} {st : List CV} {L : QL} {l0 l1 l2 : Option CV} {r : Option Nat} : Rr C mX13_number (0, [some (.inr (.inr r)), l1, l2], st, M) x = Rr C mX13_number (1, [some (.inr (.inr r)), l1, l2], .inr (.inr r) :: st, M) x := g_pl (show decode cX13_number 0 = .ok (.aload_n 0, 1) by decide +kernel) rfl
set_option maxRecDepth 20000 in
theorem kX13_number_1 {C : QC} {x : QP} {M : QM} {st : List CV} {L : QL} : Rr C mX13_number (1, L, st, M) x = Rr C mX13_number (3, L, qi 48 :: st, M) x := g_pl (show decode cX13_number 1 = .ok (.bipush 48, 2) by decide +kernel) rfl
set_option maxRecDepth 20000 in
theorem kX13_number_3 {C : QC} {x : QP} {M : QM} {st : List CV} {L : QL} : Rr C mX13_number (3, L, st, M) x = Rr C mX13_number (5, L, qi 57 :: st, M) x := g_pl (show decode cX13_number 3 = .ok (.bipush 57, 2) by decide +kernel) rfl
set_option maxRecDepth 20000 in
theorem kX13_number_5 {C : QC} {x : QP} {M : QM} {L : QL} {rest : List CV} {a0 a1 : CV} {v : CV} {M1 : QM} {b : Nat} (hb : q_kd M b = (1, 13)) (hC : C iX13_sign [qr b, a0, a1] M (some v) M1) (hw : (rest.map q_wd).sum ≤ 8) (k : Rr C mX13_number (8, L, v :: rest, M1) x) : Rr C mX13_number (5, L, a1 :: a0 :: qr b :: rest, M) x := g_cv (ow := 13) (e := (0, 241, 13, [1527, 1529, 60, 94])) (as := [a0, a1]) (show decode cX13_number 5 = .ok (.invokevirtual 85, 3) by decide +kernel) rfl rfl rfl (Or.inl rfl) rfl hb hC hw k
set_option maxRecDepth 20000 in
theorem kX13_number_8 {C : QC} {x : QP} {M : QM} {st : List CV} {L : QL} : Rr C mX13_number (8, L, st, M) x = Rr C mX13_number (10, L, qi 48 :: st, M) x := g_pl (show decode cX13_number 8 = .ok (.bipush 48, 2) by decide +kernel) rfl
set_option maxRecDepth 20000 in
theorem kX13_number_10 {C : QC} {x : QP} {M : QM} {st : List CV} {L : QL} {a b : Int} : Rr C mX13_number (10, L, qi b :: qi a :: st, M) x = Rr C mX13_number (11, L, qi (a - b) :: st, M) x := g_pl (show decode cX13_number 10 = .ok (.isub, 1) by decide +kernel) rfl
set_option maxRecDepth 20000 in
theorem kX13_number_11 {C : QC} {x : QP} {M : QM} {st : List CV} {L : QL} {l0 l1 l2 : Option CV} {z : Int} : Rr C mX13_number (11, [l0, l1, l2], qi z :: st, M) x = Rr C mX13_number (12, [q_cut l0, some (qi z), l2], st, M) x := g_pl (show decode cX13_number 11 = .ok (.istore_n 1, 1) by decide +kernel) rfl
set_option maxRecDepth 20000 in
theorem kX13_number_12 {C : QC} {x : QP} {M : QM} {st : List CV} {L : QL} : Rr C mX13_number (12, L, st, M) x = Rr C mX13_number (13, L, qi 0 :: st, M) x := g_pl (show decode cX13_number 12 = .ok (.iconst 0, 1) by decide +kernel) rfl
set_option maxRecDepth 20000 in
theorem kX13_number_13 {C : QC} {x : QP} {M : QM} {st : List CV} {L : QL} {l0 l1 l2 : Option CV} {z : Int} : Rr C mX13_number (13, [l0, l1, l2], qi z :: st, M) x = Rr C mX13_number (14, [l0, q_cut l1, some (qi z)], st, M) x := g_pl (show decode cX13_number 13 = .ok (.istore_n 2, 1) by decide +kernel) rfl
set_option maxRecDepth 20000 in
theorem kX13_number_14 {C : QC} {x : QP} {M : QM} {st : List CV} {L : QL} {l0 l1 l2 : Option CV} {z : Int} : Rr C mX13_number (14, [l0, l1, some (qi z)], st, M) x = Rr C mX13_number (15, [l0, l1, some (qi z)], qi z :: st, M) x := g_pl (show decode cX13_number 14 = .ok (.iload_n 2, 1) by decide +kernel) rfl
set_option maxRecDepth 20000 in
theorem kX13_number_15 {C : QC} {x : QP} {M : QM} {st : List CV} {L : QL} : Rr C mX13_number (15, L, st, M) x = Rr C mX13_number (16, L, qi 3 :: st, M) x := g_pl (show decode cX13_number 15 = .ok (.iconst 3, 1) by decide +kernel) rfl
set_option maxRecDepth 20000 in
theorem kX13_number_16 {C : QC} {x : QP} {M : QM} {st : List CV} {L : QL} {a b : Int} (ha1 : -2147483648 ≤ a) (ha2 : a < 2147483648) (hb1 : -2147483648 ≤ b) (hb2 : b < 2147483648) : Rr C mX13_number (16, L, qi b :: qi a :: st, M) x = (if a < b then Rr C mX13_number (19, L, st, M) x else Rr C mX13_number (63, L, st, M) x) := (g_icmp (show decode cX13_number 16 = .ok (.if_icmp .ge 47, 3) by decide +kernel) rfl ha1 ha2 hb1 hb2).trans (g_itn c_ge)
set_option maxRecDepth 20000 in
theorem kX13_number_19 {C : QC} {x : QP} {M : QM} {st : List CV} {L : QL} {l0 l1 l2 : Option CV} {r : Option Nat} : Rr C mX13_number (19, [some (.inr (.inr r)), l1, l2], st, M) x = Rr C mX13_number (20, [some (.inr (.inr r)), l1, l2], .inr (.inr r) :: st, M) x := g_pl (show decode cX13_number 19 = .ok (.aload_n 0, 1) by decide +kernel) rfl
set_option maxRecDepth 20000 in
theorem kX13_number_20 {C : QC} {x : QP} {M : QM} {st : List CV} {L : QL} {a : Nat} (hk : q_kd M a = (1, 13)) : Rr C mX13_number (20, L, qr a :: st, M) x = Rr C mX13_number (23, L, q_fv M a 6 :: st, M) x := g_getf (ow := 13) (e := (13, 6, RX13, 1307, 0)) (show decode cX13_number 20 = .ok (.getfield 75, 3) by decide +kernel) rfl hk
set_option maxRecDepth 20000 in
theorem kX13_number_23 {C : QC} {x : QP} {M : QM} {st : List CV} {L : QL} {a : Int} (ha1 : -2147483648 ≤ a) (ha2 : a < 2147483648) : Rr C mX13_number (23, L, qi a :: st, M) x = (if a < 0 then Rr C mX13_number (26, L, st, M) x else Rr C mX13_number (63, L, st, M) x) := (g_if (show decode cX13_number 23 = .ok (.ifCond .ge 40, 3) by decide +kernel) rfl ha1 ha2).trans (g_itn c_ge)
set_option maxRecDepth 20000 in
theorem kX13_number_26 {C : QC} {x : QP} {M : QM} {st : List CV} {L : QL} {l0 l1 l2 : Option CV} {r : Option Nat} : Rr C mX13_number (26, [some (.inr (.inr r)), l1, l2], st, M) x = Rr C mX13_number (27, [some (.inr (.inr r)), l1, l2], .inr (.inr r) :: st, M) x := g_pl (show decode cX13_number 26 = .ok (.aload_n 0, 1) by decide +kernel) rfl
set_option maxRecDepth 20000 in
theorem kX13_number_27 {C : QC} {x : QP} {M : QM} {L : QL} {rest : List CV} {v : CV} {M1 : QM} {b : Nat} (hb : q_kd M b = (1, 13)) (hC : C iX13_here [qr b] M (some v) M1) (hw : (rest.map q_wd).sum ≤ 8) (k : Rr C mX13_number (30, L, v :: rest, M1) x) : Rr C mX13_number (27, L, qr b :: rest, M) x := g_cv (ow := 13) (e := (0, 202, 13, [1372, 1374, 28, 94])) (as := []) (show decode cX13_number 27 = .ok (.invokevirtual 78, 3) by decide +kernel) rfl rfl rfl (Or.inl rfl) rfl hb hC hw k
set_option maxRecDepth 20000 in
theorem kX13_number_30 {C : QC} {x : QP} {M : QM} {st : List CV} {L : QL} : Rr C mX13_number (30, L, st, M) x = Rr C mX13_number (32, L, qi 48 :: st, M) x := g_pl (show decode cX13_number 30 = .ok (.bipush 48, 2) by decide +kernel) rfl
set_option maxRecDepth 20000 in
theorem kX13_number_32 {C : QC} {x : QP} {M : QM} {st : List CV} {L : QL} : Rr C mX13_number (32, L, st, M) x = Rr C mX13_number (34, L, qi 57 :: st, M) x := g_pl (show decode cX13_number 32 = .ok (.bipush 57, 2) by decide +kernel) rfl
set_option maxRecDepth 20000 in
theorem kX13_number_34 {C : QC} {x : QP} {M : QM} {L : QL} {rest : List CV} {a0 a1 a2 : CV} {v : CV} {M1 : QM} (hC : C iX13_in [a0, a1, a2] M (some v) M1) (hw : (rest.map q_wd).sum ≤ 8) (k : Rr C mX13_number (37, L, v :: rest, M1) x) : Rr C mX13_number (34, L, a2 :: a1 :: a0 :: rest, M) x := g_cs (ow := 13) (e := (1, 198, 0, [1357, 1358, 94])) (as := [a0, a1, a2]) (show decode cX13_number 34 = .ok (.invokestatic 43, 3) by decide +kernel) rfl rfl rfl rfl (Or.inl rfl) rfl hC hw k
set_option maxRecDepth 20000 in
theorem kX13_number_37 {C : QC} {x : QP} {M : QM} {st : List CV} {L : QL} {a : Int} (ha1 : -2147483648 ≤ a) (ha2 : a < 2147483648) : Rr C mX13_number (37, L, qi a :: st, M) x = (if a = 0 then Rr C mX13_number (63, L, st, M) x else Rr C mX13_number (40, L, st, M) x) := (g_if (show decode cX13_number 37 = .ok (.ifCond .eq 26, 3) by decide +kernel) rfl ha1 ha2).trans (g_ite c_eq)
set_option maxRecDepth 20000 in
theorem kX13_number_40 {C : QC} {x : QP} {M : QM} {st : List CV} {L : QL} : Rr C mX13_number (40, L, st, M) x = Rr C mX13_number (42, L, qi 10 :: st, M) x := g_pl (show decode cX13_number 40 = .ok (.bipush 10, 2) by decide +kernel) rfl
set_option maxRecDepth 20000 in
theorem kX13_number_42 {C : QC} {x : QP} {M : QM} {st : List CV} {L : QL} {l0 l1 l2 : Option CV} {z : Int} : Rr C mX13_number (42, [l0, some (qi z), l2], st, M) x = Rr C mX13_number (43, [l0, some (qi z), l2], qi z :: st, M) x := g_pl (show decode cX13_number 42 = .ok (.iload_n 1, 1) by decide +kernel) rfl
set_option maxRecDepth 20000 in
theorem kX13_number_43 {C : QC} {x : QP} {M : QM} {st : List CV} {L : QL} {a b : Int} : Rr C mX13_number (43, L, qi b :: qi a :: st, M) x = Rr C mX13_number (44, L, qi (a * b) :: st, M) x := g_pl (show decode cX13_number 43 = .ok (.imul, 1) by decide +kernel) rfl
set_option maxRecDepth 20000 in
theorem kX13_number_44 {C : QC} {x : QP} {M : QM} {st : List CV} {L : QL} {l0 l1 l2 : Option CV} {r : Option Nat} : Rr C mX13_number (44, [some (.inr (.inr r)), l1, l2], st, M) x = Rr C mX13_number (45, [some (.inr (.inr r)), l1, l2], .inr (.inr r) :: st, M) x := g_pl (show decode cX13_number 44 = .ok (.aload_n 0, 1) by decide +kernel) rfl
set_option maxRecDepth 20000 in
theorem kX13_number_45 {C : QC} {x : QP} {M : QM} {st : List CV} {L : QL} : Rr C mX13_number (45, L, st, M) x = Rr C mX13_number (47, L, qi 48 :: st, M) x := g_pl (show decode cX13_number 45 = .ok (.bipush 48, 2) by decide +kernel) rfl
set_option maxRecDepth 20000 in
theorem kX13_number_47 {C : QC} {x : QP} {M : QM} {st : List CV} {L : QL} : Rr C mX13_number (47, L, st, M) x = Rr C mX13_number (49, L, qi 57 :: st, M) x := g_pl (show decode cX13_number 47 = .ok (.bipush 57, 2) by decide +kernel) rfl
set_option maxRecDepth 20000 in
theorem kX13_number_49 {C : QC} {x : QP} {M : QM} {L : QL} {rest : List CV} {a0 a1 : CV} {v : CV} {M1 : QM} {b : Nat} (hb : q_kd M b = (1, 13)) (hC : C iX13_sign [qr b, a0, a1] M (some v) M1) (hw : (rest.map q_wd).sum ≤ 8) (k : Rr C mX13_number (52, L, v :: rest, M1) x) : Rr C mX13_number (49, L, a1 :: a0 :: qr b :: rest, M) x := g_cv (ow := 13) (e := (0, 241, 13, [1527, 1529, 60, 94])) (as := [a0, a1]) (show decode cX13_number 49 = .ok (.invokevirtual 85, 3) by decide +kernel) rfl rfl rfl (Or.inl rfl) rfl hb hC hw k
set_option maxRecDepth 20000 in
theorem kX13_number_52 {C : QC} {x : QP} {M : QM} {st : List CV} {L : QL} {a b : Int} : Rr C mX13_number (52, L, qi b :: qi a :: st, M) x = Rr C mX13_number (53, L, qi (a + b) :: st, M) x := g_pl (show decode cX13_number 52 = .ok (.iadd, 1) by decide +kernel) rfl
set_option maxRecDepth 20000 in
theorem kX13_number_53 {C : QC} {x : QP} {M : QM} {st : List CV} {L : QL} : Rr C mX13_number (53, L, st, M) x = Rr C mX13_number (55, L, qi 48 :: st, M) x := g_pl (show decode cX13_number 53 = .ok (.bipush 48, 2) by decide +kernel) rfl
set_option maxRecDepth 20000 in
theorem kX13_number_55 {C : QC} {x : QP} {M : QM} {st : List CV} {L : QL} {a b : Int} : Rr C mX13_number (55, L, qi b :: qi a :: st, M) x = Rr C mX13_number (56, L, qi (a - b) :: st, M) x := g_pl (show decode cX13_number 55 = .ok (.isub, 1) by decide +kernel) rfl
set_option maxRecDepth 20000 in
theorem kX13_number_56 {C : QC} {x : QP} {M : QM} {st : List CV} {L : QL} {l0 l1 l2 : Option CV} {z : Int} : Rr C mX13_number (56, [l0, l1, l2], qi z :: st, M) x = Rr C mX13_number (57, [q_cut l0, some (qi z), l2], st, M) x := g_pl (show decode cX13_number 56 = .ok (.istore_n 1, 1) by decide +kernel) rfl
set_option maxRecDepth 20000 in
theorem kX13_number_57 {C : QC} {x : QP} {M : QM} {st : List CV} {L : QL} {l0 l1 l2 : Option CV} {z : Int} : Rr C mX13_number (57, [l0, l1, some (qi z)], st, M) x = Rr C mX13_number (60, [l0, q_cut l1, some (qi (z + 1))], st, M) x := g_pl (show decode cX13_number 57 = .ok (.iinc 2 1, 3) by decide +kernel) rfl
set_option maxRecDepth 20000 in
theorem kX13_number_60 {C : QC} {x : QP} {M : QM} {st : List CV} {L : QL} : Rr C mX13_number (60, L, st, M) x = Rr C mX13_number (14, L, st, M) x := g_pl (show decode cX13_number 60 = .ok (.goto (-46), 3) by decide +kernel) rfl
set_option maxRecDepth 20000 in
theorem kX13_number_63 {C : QC} {x : QP} {M : QM} {st : List CV} {L : QL} {l0 l1 l2 : Option CV} {z : Int} : Rr C mX13_number (63, [l0, some (qi z), l2], st, M) x = Rr C mX13_number (64, [l0, some (qi z), l2], qi z :: st, M) x := g_pl (show decode cX13_number 63 = .ok (.iload_n 1, 1) by decide +kernel) rfl
set_option maxRecDepth 20000 in
theorem kX13_number_64 {C : QC} {x : QP} {M : QM} {st : List CV} {L : QL} {z : Int} : Rr C mX13_number (64, L, [qi z], M) x = x (some (qi z)) M := g_iret (show decode cX13_number 64 = .ok (.ireturn, 1) by decide +kernel) rfl
set_option maxRecDepth 20000 in
theorem eX13_number {d : Nat} {M : QM} {x : QP} {a : Nat} : q_T (d + 1) iX13_number [qr a] M x = Rr (q_C d) mX13_number (0, [some (qr a), none, none], [], M) x := g_entryT (e := _) rfl (Nat.le_of_ble_eq_true rfl) rfl rfl
def mX13_readsWord : QI := (13, cX13_readsWord, false, none)
set_option maxRecDepth 20000 in
theorem kX13_readsWord_0 {C : QC} {x : QP} {M : QM} {st : List CV} {L : QL} {r : Option Nat} : Rr C mX13_readsWord (0, [some (.inr (.inr r))], st, M) x = Rr C mX13_readsWord (1, [some (.inr (.inr r))], .inr (.inr r) :: st, M) x := g_pl (show decode cX13_readsWord 0 = .ok (.aload_n 0, 1) by decide +kernel) rfl
set_option maxRecDepth 20000 in
theorem kX13_readsWord_1 {C : QC} {x : QP} {M : QM} {st : List CV} {L : QL} : Rr C mX13_readsWord (1, L, st, M) x = Rr C mX13_readsWord (2, L, qi 0 :: st, M) x := g_pl (show decode cX13_readsWord 1 = .ok (.iconst 0, 1) by decide +kernel) rfl
set_option maxRecDepth 20000 in
theorem kX13_readsWord_2 {C : QC} {x : QP} {M : QM} {st : List CV} {L : QL} {z : Int} {a : Nat} (hk : q_kd M a = (1, 13)) : Rr C mX13_readsWord (2, L, qi z :: qr a :: st, M) x = Rr C mX13_readsWord (5, L, st, q_wr M a 9 (qi z)) x := g_putf (ow := 13) (ini := false) (e := (13, 9, RX13, 1310, 0)) (r := (RX13, TX13, 17)) (t := tyX13) (show decode cX13_readsWord 2 = .ok (.putfield 88, 3) by decide +kernel) rfl rfl rfl rfl (by decide +kernel) hk
set_option maxRecDepth 20000 in
theorem kX13_readsWord_5 {C : QC} {x : QP} {M : QM} {st : List CV} {L : QL} {r : Option Nat} : Rr C mX13_readsWord (5, [some (.inr (.inr r))], st, M) x = Rr C mX13_readsWord (6, [some (.inr (.inr r))], .inr (.inr r) :: st, M) x := g_pl (show decode cX13_readsWord 5 = .ok (.aload_n 0, 1) by decide +kernel) rfl
set_option maxRecDepth 20000 in
theorem kX13_readsWord_6 {C : QC} {x : QP} {M : QM} {st : List CV} {L : QL} {a : Nat} (hk : q_kd M a = (1, 13)) : Rr C mX13_readsWord (6, L, qr a :: st, M) x = Rr C mX13_readsWord (9, L, q_fv M a 6 :: st, M) x := g_getf (ow := 13) (e := (13, 6, RX13, 1307, 0)) (show decode cX13_readsWord 6 = .ok (.getfield 75, 3) by decide +kernel) rfl hk
set_option maxRecDepth 20000 in
theorem kX13_readsWord_9 {C : QC} {x : QP} {M : QM} {st : List CV} {L : QL} {a : Int} (ha1 : -2147483648 ≤ a) (ha2 : a < 2147483648) : Rr C mX13_readsWord (9, L, qi a :: st, M) x = (if a < 0 then Rr C mX13_readsWord (12, L, st, M) x else Rr C mX13_readsWord (30, L, st, M) x) := (g_if (show decode cX13_readsWord 9 = .ok (.ifCond .ge 21, 3) by decide +kernel) rfl ha1 ha2).trans (g_itn c_ge)
set_option maxRecDepth 20000 in
theorem kX13_readsWord_12 {C : QC} {x : QP} {M : QM} {st : List CV} {L : QL} {r : Option Nat} : Rr C mX13_readsWord (12, [some (.inr (.inr r))], st, M) x = Rr C mX13_readsWord (13, [some (.inr (.inr r))], .inr (.inr r) :: st, M) x := g_pl (show decode cX13_readsWord 12 = .ok (.aload_n 0, 1) by decide +kernel) rfl
set_option maxRecDepth 20000 in
theorem kX13_readsWord_13 {C : QC} {x : QP} {M : QM} {L : QL} {rest : List CV} {v : CV} {M1 : QM} {b : Nat} (hb : q_kd M b = (1, 13)) (hC : C iX13_here [qr b] M (some v) M1) (hw : (rest.map q_wd).sum ≤ 8) (k : Rr C mX13_readsWord (16, L, v :: rest, M1) x) : Rr C mX13_readsWord (13, L, qr b :: rest, M) x := g_cv (ow := 13) (e := (0, 202, 13, [1372, 1374, 28, 94])) (as := []) (show decode cX13_readsWord 13 = .ok (.invokevirtual 78, 3) by decide +kernel) rfl rfl rfl (Or.inl rfl) rfl hb hC hw k
set_option maxRecDepth 20000 in
theorem kX13_readsWord_16 {C : QC} {x : QP} {M : QM} {st : List CV} {L : QL} : Rr C mX13_readsWord (16, L, st, M) x = Rr C mX13_readsWord (18, L, qi 97 :: st, M) x := g_pl (show decode cX13_readsWord 16 = .ok (.bipush 97, 2) by decide +kernel) rfl
set_option maxRecDepth 20000 in
theorem kX13_readsWord_18 {C : QC} {x : QP} {M : QM} {st : List CV} {L : QL} : Rr C mX13_readsWord (18, L, st, M) x = Rr C mX13_readsWord (20, L, qi 122 :: st, M) x := g_pl (show decode cX13_readsWord 18 = .ok (.bipush 122, 2) by decide +kernel) rfl
set_option maxRecDepth 20000 in
theorem kX13_readsWord_20 {C : QC} {x : QP} {M : QM} {L : QL} {rest : List CV} {a0 a1 a2 : CV} {v : CV} {M1 : QM} (hC : C iX13_in [a0, a1, a2] M (some v) M1) (hw : (rest.map q_wd).sum ≤ 8) (k : Rr C mX13_readsWord (23, L, v :: rest, M1) x) : Rr C mX13_readsWord (20, L, a2 :: a1 :: a0 :: rest, M) x := g_cs (ow := 13) (e := (1, 198, 0, [1357, 1358, 94])) (as := [a0, a1, a2]) (show decode cX13_readsWord 20 = .ok (.invokestatic 43, 3) by decide +kernel) rfl rfl rfl rfl (Or.inl rfl) rfl hC hw k
set_option maxRecDepth 20000 in
theorem kX13_readsWord_23 {C : QC} {x : QP} {M : QM} {st : List CV} {L : QL} {a : Int} (ha1 : -2147483648 ≤ a) (ha2 : a < 2147483648) : Rr C mX13_readsWord (23, L, qi a :: st, M) x = (if a = 0 then Rr C mX13_readsWord (26, L, st, M) x else Rr C mX13_readsWord (30, L, st, M) x) := (g_if (show decode cX13_readsWord 23 = .ok (.ifCond .ne 7, 3) by decide +kernel) rfl ha1 ha2).trans (g_itn c_ne)
set_option maxRecDepth 20000 in
theorem kX13_readsWord_26 {C : QC} {x : QP} {M : QM} {st : List CV} {L : QL} {r : Option Nat} : Rr C mX13_readsWord (26, [some (.inr (.inr r))], st, M) x = Rr C mX13_readsWord (27, [some (.inr (.inr r))], .inr (.inr r) :: st, M) x := g_pl (show decode cX13_readsWord 26 = .ok (.aload_n 0, 1) by decide +kernel) rfl
set_option maxRecDepth 20000 in
theorem kX13_readsWord_27 {C : QC} {x : QP} {M : QM} {L : QL} {rest : List CV} {M1 : QM} {b : Nat} (hb : q_kd M b = (1, 13)) (hC : C iX13_fails [qr b] M none M1) (hw : (rest.map q_wd).sum ≤ 8) (k : Rr C mX13_readsWord (30, L, rest, M1) x) : Rr C mX13_readsWord (27, L, qr b :: rest, M) x := g_cv (ow := 13) (e := (0, 203, 13, [1376, 1378, 29, 94])) (as := []) (show decode cX13_readsWord 27 = .ok (.invokevirtual 82, 3) by decide +kernel) rfl rfl rfl (Or.inl rfl) rfl hb hC hw k
set_option maxRecDepth 20000 in
theorem kX13_readsWord_30 {C : QC} {x : QP} {M : QM} {st : List CV} {L : QL} {r : Option Nat} : Rr C mX13_readsWord (30, [some (.inr (.inr r))], st, M) x = Rr C mX13_readsWord (31, [some (.inr (.inr r))], .inr (.inr r) :: st, M) x := g_pl (show decode cX13_readsWord 30 = .ok (.aload_n 0, 1) by decide +kernel) rfl
set_option maxRecDepth 20000 in
theorem kX13_readsWord_31 {C : QC} {x : QP} {M : QM} {st : List CV} {L : QL} {a : Nat} (hk : q_kd M a = (1, 13)) : Rr C mX13_readsWord (31, L, qr a :: st, M) x = Rr C mX13_readsWord (34, L, q_fv M a 6 :: st, M) x := g_getf (ow := 13) (e := (13, 6, RX13, 1307, 0)) (show decode cX13_readsWord 31 = .ok (.getfield 75, 3) by decide +kernel) rfl hk
set_option maxRecDepth 20000 in
theorem kX13_readsWord_34 {C : QC} {x : QP} {M : QM} {st : List CV} {L : QL} {a : Int} (ha1 : -2147483648 ≤ a) (ha2 : a < 2147483648) : Rr C mX13_readsWord (34, L, qi a :: st, M) x = (if a < 0 then Rr C mX13_readsWord (37, L, st, M) x else Rr C mX13_readsWord (101, L, st, M) x) := (g_if (show decode cX13_readsWord 34 = .ok (.ifCond .ge 67, 3) by decide +kernel) rfl ha1 ha2).trans (g_itn c_ge)
set_option maxRecDepth 20000 in
theorem kX13_readsWord_37 {C : QC} {x : QP} {M : QM} {st : List CV} {L : QL} {r : Option Nat} : Rr C mX13_readsWord (37, [some (.inr (.inr r))], st, M) x = Rr C mX13_readsWord (38, [some (.inr (.inr r))], .inr (.inr r) :: st, M) x := g_pl (show decode cX13_readsWord 37 = .ok (.aload_n 0, 1) by decide +kernel) rfl
set_option maxRecDepth 20000 in
theorem kX13_readsWord_38 {C : QC} {x : QP} {M : QM} {L : QL} {rest : List CV} {v : CV} {M1 : QM} {b : Nat} (hb : q_kd M b = (1, 13)) (hC : C iX13_here [qr b] M (some v) M1) (hw : (rest.map q_wd).sum ≤ 8) (k : Rr C mX13_readsWord (41, L, v :: rest, M1) x) : Rr C mX13_readsWord (38, L, qr b :: rest, M) x := g_cv (ow := 13) (e := (0, 202, 13, [1372, 1374, 28, 94])) (as := []) (show decode cX13_readsWord 38 = .ok (.invokevirtual 78, 3) by decide +kernel) rfl rfl rfl (Or.inl rfl) rfl hb hC hw k
set_option maxRecDepth 20000 in
theorem kX13_readsWord_41 {C : QC} {x : QP} {M : QM} {st : List CV} {L : QL} : Rr C mX13_readsWord (41, L, st, M) x = Rr C mX13_readsWord (43, L, qi 97 :: st, M) x := g_pl (show decode cX13_readsWord 41 = .ok (.bipush 97, 2) by decide +kernel) rfl
set_option maxRecDepth 20000 in
theorem kX13_readsWord_43 {C : QC} {x : QP} {M : QM} {st : List CV} {L : QL} : Rr C mX13_readsWord (43, L, st, M) x = Rr C mX13_readsWord (45, L, qi 122 :: st, M) x := g_pl (show decode cX13_readsWord 43 = .ok (.bipush 122, 2) by decide +kernel) rfl
set_option maxRecDepth 20000 in
theorem kX13_readsWord_45 {C : QC} {x : QP} {M : QM} {L : QL} {rest : List CV} {a0 a1 a2 : CV} {v : CV} {M1 : QM} (hC : C iX13_in [a0, a1, a2] M (some v) M1) (hw : (rest.map q_wd).sum ≤ 8) (k : Rr C mX13_readsWord (48, L, v :: rest, M1) x) : Rr C mX13_readsWord (45, L, a2 :: a1 :: a0 :: rest, M) x := g_cs (ow := 13) (e := (1, 198, 0, [1357, 1358, 94])) (as := [a0, a1, a2]) (show decode cX13_readsWord 45 = .ok (.invokestatic 43, 3) by decide +kernel) rfl rfl rfl rfl (Or.inl rfl) rfl hC hw k
set_option maxRecDepth 20000 in
theorem kX13_readsWord_48 {C : QC} {x : QP} {M : QM} {st : List CV} {L : QL} {a : Int} (ha1 : -2147483648 ≤ a) (ha2 : a < 2147483648) : Rr C mX13_readsWord (48, L, qi a :: st, M) x = (if a = 0 then Rr C mX13_readsWord (101, L, st, M) x else Rr C mX13_readsWord (51, L, st, M) x) := (g_if (show decode cX13_readsWord 48 = .ok (.ifCond .eq 53, 3) by decide +kernel) rfl ha1 ha2).trans (g_ite c_eq)
set_option maxRecDepth 20000 in
theorem kX13_readsWord_51 {C : QC} {x : QP} {M : QM} {st : List CV} {L : QL} {r : Option Nat} : Rr C mX13_readsWord (51, [some (.inr (.inr r))], st, M) x = Rr C mX13_readsWord (52, [some (.inr (.inr r))], .inr (.inr r) :: st, M) x := g_pl (show decode cX13_readsWord 51 = .ok (.aload_n 0, 1) by decide +kernel) rfl
set_option maxRecDepth 20000 in
theorem kX13_readsWord_52 {C : QC} {x : QP} {M : QM} {st : List CV} {L : QL} {a : Nat} (hk : q_kd M a = (1, 13)) : Rr C mX13_readsWord (52, L, qr a :: st, M) x = Rr C mX13_readsWord (55, L, q_fv M a 9 :: st, M) x := g_getf (ow := 13) (e := (13, 9, RX13, 1310, 0)) (show decode cX13_readsWord 52 = .ok (.getfield 88, 3) by decide +kernel) rfl hk
set_option maxRecDepth 20000 in
theorem kX13_readsWord_55 {C : QC} {x : QP} {M : QM} {st : List CV} {L : QL} : Rr C mX13_readsWord (55, L, st, M) x = Rr C mX13_readsWord (57, L, qi 8 :: st, M) x := g_pl (show decode cX13_readsWord 55 = .ok (.bipush 8, 2) by decide +kernel) rfl
set_option maxRecDepth 20000 in
theorem kX13_readsWord_57 {C : QC} {x : QP} {M : QM} {st : List CV} {L : QL} {a b : Int} (ha1 : -2147483648 ≤ a) (ha2 : a < 2147483648) (hb1 : -2147483648 ≤ b) (hb2 : b < 2147483648) : Rr C mX13_readsWord (57, L, qi b :: qi a :: st, M) x = (if a = b then Rr C mX13_readsWord (60, L, st, M) x else Rr C mX13_readsWord (65, L, st, M) x) := (g_icmp (show decode cX13_readsWord 57 = .ok (.if_icmp .ne 8, 3) by decide +kernel) rfl ha1 ha2 hb1 hb2).trans (g_itn c_ne)
set_option maxRecDepth 20000 in
theorem kX13_readsWord_60 {C : QC} {x : QP} {M : QM} {st : List CV} {L : QL} {r : Option Nat} : Rr C mX13_readsWord (60, [some (.inr (.inr r))], st, M) x = Rr C mX13_readsWord (61, [some (.inr (.inr r))], .inr (.inr r) :: st, M) x := g_pl (show decode cX13_readsWord 60 = .ok (.aload_n 0, 1) by decide +kernel) rfl
set_option maxRecDepth 20000 in
theorem kX13_readsWord_61 {C : QC} {x : QP} {M : QM} {L : QL} {rest : List CV} {M1 : QM} {b : Nat} (hb : q_kd M b = (1, 13)) (hC : C iX13_fails [qr b] M none M1) (hw : (rest.map q_wd).sum ≤ 8) (k : Rr C mX13_readsWord (64, L, rest, M1) x) : Rr C mX13_readsWord (61, L, qr b :: rest, M) x := g_cv (ow := 13) (e := (0, 203, 13, [1376, 1378, 29, 94])) (as := []) (show decode cX13_readsWord 61 = .ok (.invokevirtual 82, 3) by decide +kernel) rfl rfl rfl (Or.inl rfl) rfl hb hC hw k
set_option maxRecDepth 20000 in
theorem kX13_readsWord_64 {C : QC} {x : QP} {M : QM} {st : List CV} {L : QL} : Rr C mX13_readsWord (64, L, [], M) x = x none M := g_vret (show decode cX13_readsWord 64 = .ok (.return_, 1) by decide +kernel)
set_option maxRecDepth 20000 in
theorem kX13_readsWord_65 {C : QC} {x : QP} {M : QM} {st : List CV} {L : QL} {r : Option Nat} : Rr C mX13_readsWord (65, [some (.inr (.inr r))], st, M) x = Rr C mX13_readsWord (66, [some (.inr (.inr r))], .inr (.inr r) :: st, M) x := g_pl (show decode cX13_readsWord 65 = .ok (.aload_n 0, 1) by decide +kernel) rfl
set_option maxRecDepth 20000 in
theorem kX13_readsWord_66 {C : QC} {x : QP} {M : QM} {st : List CV} {L : QL} {a : Nat} (hk : q_kd M a = (1, 13)) : Rr C mX13_readsWord (66, L, qr a :: st, M) x = Rr C mX13_readsWord (69, L, q_fv M a 8 :: st, M) x := g_getf (ow := 13) (e := (13, 8, RX13, 1309, 0)) (show decode cX13_readsWord 66 = .ok (.getfield 21, 3) by decide +kernel) rfl hk
set_option maxRecDepth 20000 in
theorem kX13_readsWord_69 {C : QC} {x : QP} {M : QM} {st : List CV} {L : QL} {r : Option Nat} : Rr C mX13_readsWord (69, [some (.inr (.inr r))], st, M) x = Rr C mX13_readsWord (70, [some (.inr (.inr r))], .inr (.inr r) :: st, M) x := g_pl (show decode cX13_readsWord 69 = .ok (.aload_n 0, 1) by decide +kernel) rfl
set_option maxRecDepth 20000 in
theorem kX13_readsWord_70 {C : QC} {x : QP} {M : QM} {st : List CV} {L : QL} {a : Nat} (hk : q_kd M a = (1, 13)) : Rr C mX13_readsWord (70, L, qr a :: st, M) x = Rr C mX13_readsWord (73, L, q_fv M a 9 :: st, M) x := g_getf (ow := 13) (e := (13, 9, RX13, 1310, 0)) (show decode cX13_readsWord 70 = .ok (.getfield 88, 3) by decide +kernel) rfl hk
set_option maxRecDepth 20000 in
theorem kX13_readsWord_73 {C : QC} {x : QP} {M : QM} {st : List CV} {L : QL} {r : Option Nat} : Rr C mX13_readsWord (73, [some (.inr (.inr r))], st, M) x = Rr C mX13_readsWord (74, [some (.inr (.inr r))], .inr (.inr r) :: st, M) x := g_pl (show decode cX13_readsWord 73 = .ok (.aload_n 0, 1) by decide +kernel) rfl
set_option maxRecDepth 20000 in
theorem kX13_readsWord_74 {C : QC} {x : QP} {M : QM} {L : QL} {rest : List CV} {v : CV} {M1 : QM} {b : Nat} (hb : q_kd M b = (1, 13)) (hC : C iX13_here [qr b] M (some v) M1) (hw : (rest.map q_wd).sum ≤ 8) (k : Rr C mX13_readsWord (77, L, v :: rest, M1) x) : Rr C mX13_readsWord (74, L, qr b :: rest, M) x := g_cv (ow := 13) (e := (0, 202, 13, [1372, 1374, 28, 94])) (as := []) (show decode cX13_readsWord 74 = .ok (.invokevirtual 78, 3) by decide +kernel) rfl rfl rfl (Or.inl rfl) rfl hb hC hw k
set_option maxRecDepth 20000 in
theorem kX13_readsWord_77 {C : QC} {x : QP} {M : QM} {st : List CV} {L : QL} {a : Nat} {j v : Int} (hk : (q_kd M a).1 = 2) (h0 : 0 ≤ j) (h1 : j < ((q_kd M a).2 : Int)) : Rr C mX13_readsWord (77, L, qi v :: qi j :: qr a :: st, M) x = Rr C mX13_readsWord (78, L, st, q_wr M a j.toNat (qi v)) x := g_iast (show decode cX13_readsWord 77 = .ok (.iastore, 1) by decide +kernel) hk h0 h1
set_option maxRecDepth 20000 in
theorem kX13_readsWord_78 {C : QC} {x : QP} {M : QM} {st : List CV} {L : QL} {r : Option Nat} : Rr C mX13_readsWord (78, [some (.inr (.inr r))], st, M) x = Rr C mX13_readsWord (79, [some (.inr (.inr r))], .inr (.inr r) :: st, M) x := g_pl (show decode cX13_readsWord 78 = .ok (.aload_n 0, 1) by decide +kernel) rfl
set_option maxRecDepth 20000 in
theorem kX13_readsWord_79i {C : QC} {x : QP} {M : QM} {st : List CV} {L : QL} {a : Int} : Rr C mX13_readsWord (79, L, qi a :: st, M) x = Rr C mX13_readsWord (80, L, qi a :: qi a :: st, M) x := g_pl (show decode cX13_readsWord 79 = .ok (.dup, 1) by decide +kernel) rfl
set_option maxRecDepth 20000 in
theorem kX13_readsWord_79r {C : QC} {x : QP} {M : QM} {st : List CV} {L : QL} {a : Option Nat} : Rr C mX13_readsWord (79, L, .inr (.inr a) :: st, M) x = Rr C mX13_readsWord (80, L, .inr (.inr a) :: .inr (.inr a) :: st, M) x := g_pl (show decode cX13_readsWord 79 = .ok (.dup, 1) by decide +kernel) rfl
set_option maxRecDepth 20000 in
theorem kX13_readsWord_80 {C : QC} {x : QP} {M : QM} {st : List CV} {L : QL} {a : Nat} (hk : q_kd M a = (1, 13)) : Rr C mX13_readsWord (80, L, qr a :: st, M) x = Rr C mX13_readsWord (83, L, q_fv M a 9 :: st, M) x := g_getf (ow := 13) (e := (13, 9, RX13, 1310, 0)) (show decode cX13_readsWord 80 = .ok (.getfield 88, 3) by decide +kernel) rfl hk
set_option maxRecDepth 20000 in
theorem kX13_readsWord_83 {C : QC} {x : QP} {M : QM} {st : List CV} {L : QL} : Rr C mX13_readsWord (83, L, st, M) x = Rr C mX13_readsWord (84, L, qi 1 :: st, M) x := g_pl (show decode cX13_readsWord 83 = .ok (.iconst 1, 1) by decide +kernel) rfl
set_option maxRecDepth 20000 in
theorem kX13_readsWord_84 {C : QC} {x : QP} {M : QM} {st : List CV} {L : QL} {a b : Int} : Rr C mX13_readsWord (84, L, qi b :: qi a :: st, M) x = Rr C mX13_readsWord (85, L, qi (a + b) :: st, M) x := g_pl (show decode cX13_readsWord 84 = .ok (.iadd, 1) by decide +kernel) rfl
set_option maxRecDepth 20000 in
theorem kX13_readsWord_85 {C : QC} {x : QP} {M : QM} {st : List CV} {L : QL} {z : Int} {a : Nat} (hk : q_kd M a = (1, 13)) : Rr C mX13_readsWord (85, L, qi z :: qr a :: st, M) x = Rr C mX13_readsWord (88, L, st, q_wr M a 9 (qi z)) x := g_putf (ow := 13) (ini := false) (e := (13, 9, RX13, 1310, 0)) (r := (RX13, TX13, 17)) (t := tyX13) (show decode cX13_readsWord 85 = .ok (.putfield 88, 3) by decide +kernel) rfl rfl rfl rfl (by decide +kernel) hk
set_option maxRecDepth 20000 in
theorem kX13_readsWord_88 {C : QC} {x : QP} {M : QM} {st : List CV} {L : QL} {r : Option Nat} : Rr C mX13_readsWord (88, [some (.inr (.inr r))], st, M) x = Rr C mX13_readsWord (89, [some (.inr (.inr r))], .inr (.inr r) :: st, M) x := g_pl (show decode cX13_readsWord 88 = .ok (.aload_n 0, 1) by decide +kernel) rfl
set_option maxRecDepth 20000 in
theorem kX13_readsWord_89i {C : QC} {x : QP} {M : QM} {st : List CV} {L : QL} {a : Int} : Rr C mX13_readsWord (89, L, qi a :: st, M) x = Rr C mX13_readsWord (90, L, qi a :: qi a :: st, M) x := g_pl (show decode cX13_readsWord 89 = .ok (.dup, 1) by decide +kernel) rfl
set_option maxRecDepth 20000 in
theorem kX13_readsWord_89r {C : QC} {x : QP} {M : QM} {st : List CV} {L : QL} {a : Option Nat} : Rr C mX13_readsWord (89, L, .inr (.inr a) :: st, M) x = Rr C mX13_readsWord (90, L, .inr (.inr a) :: .inr (.inr a) :: st, M) x := g_pl (show decode cX13_readsWord 89 = .ok (.dup, 1) by decide +kernel) rfl
set_option maxRecDepth 20000 in
theorem kX13_readsWord_90 {C : QC} {x : QP} {M : QM} {st : List CV} {L : QL} {a : Nat} (hk : q_kd M a = (1, 13)) : Rr C mX13_readsWord (90, L, qr a :: st, M) x = Rr C mX13_readsWord (93, L, q_fv M a 5 :: st, M) x := g_getf (ow := 13) (e := (13, 5, RX13, 1306, 0)) (show decode cX13_readsWord 90 = .ok (.getfield 72, 3) by decide +kernel) rfl hk
set_option maxRecDepth 20000 in
theorem kX13_readsWord_93 {C : QC} {x : QP} {M : QM} {st : List CV} {L : QL} : Rr C mX13_readsWord (93, L, st, M) x = Rr C mX13_readsWord (94, L, qi 1 :: st, M) x := g_pl (show decode cX13_readsWord 93 = .ok (.iconst 1, 1) by decide +kernel) rfl
set_option maxRecDepth 20000 in
theorem kX13_readsWord_94 {C : QC} {x : QP} {M : QM} {st : List CV} {L : QL} {a b : Int} : Rr C mX13_readsWord (94, L, qi b :: qi a :: st, M) x = Rr C mX13_readsWord (95, L, qi (a + b) :: st, M) x := g_pl (show decode cX13_readsWord 94 = .ok (.iadd, 1) by decide +kernel) rfl
set_option maxRecDepth 20000 in
theorem kX13_readsWord_95 {C : QC} {x : QP} {M : QM} {st : List CV} {L : QL} {z : Int} {a : Nat} (hk : q_kd M a = (1, 13)) : Rr C mX13_readsWord (95, L, qi z :: qr a :: st, M) x = Rr C mX13_readsWord (98, L, st, q_wr M a 5 (qi z)) x := g_putf (ow := 13) (ini := false) (e := (13, 5, RX13, 1306, 0)) (r := (RX13, TX13, 17)) (t := tyX13) (show decode cX13_readsWord 95 = .ok (.putfield 72, 3) by decide +kernel) rfl rfl rfl rfl (by decide +kernel) hk
set_option maxRecDepth 20000 in
theorem kX13_readsWord_98 {C : QC} {x : QP} {M : QM} {st : List CV} {L : QL} : Rr C mX13_readsWord (98, L, st, M) x = Rr C mX13_readsWord (30, L, st, M) x := g_pl (show decode cX13_readsWord 98 = .ok (.goto (-68), 3) by decide +kernel) rfl
set_option maxRecDepth 20000 in
theorem kX13_readsWord_101 {C : QC} {x : QP} {M : QM} {st : List CV} {L : QL} : Rr C mX13_readsWord (101, L, [], M) x = x none M := g_vret (show decode cX13_readsWord 101 = .ok (.return_, 1) by decide +kernel)
set_option maxRecDepth 20000 in
theorem eX13_readsWord {d : Nat} {M : QM} {x : QP} {a : Nat} : q_T (d + 1) iX13_readsWord [qr a] M x = Rr (q_C d) mX13_readsWord (0, [some (qr a)], [], M) x := g_entryT (e := _) rfl (Nat.le_of_ble_eq_true rfl) rfl rfl
def mX13_isOneWord : QI := (13, cX13_isOneWord, false, some .boolean)
set_option maxRecDepth 20000 in
theorem kX13_isOneWord_0 {C : QC} {x : QP} {M : QM} {st : List CV} {L : QL} {l0 l1 : Option CV} {r : Option Nat} : Rr C mX13_isOneWord (0, [some (.inr (.inr r)), l1], st, M) x = Rr C mX13_isOneWord (1, [some (.inr (.inr r)), l1], .inr (.inr r) :: st, M) x := g_pl (show decode cX13_isOneWord 0 = .ok (.aload_n 0, 1) by decide +kernel) rfl
set_option maxRecDepth 20000 in
theorem kX13_isOneWord_1 {C : QC} {x : QP} {M : QM} {st : List CV} {L : QL} : Rr C mX13_isOneWord (1, L, st, M) x = Rr C mX13_isOneWord (2, L, qi 0 :: st, M) x := g_pl (show decode cX13_isOneWord 1 = .ok (.iconst 0, 1) by decide +kernel) rfl
set_option maxRecDepth 20000 in
theorem kX13_isOneWord_2 {C : QC} {x : QP} {M : QM} {st : List CV} {L : QL} {z : Int} {a : Nat} (hk : q_kd M a = (1, 13)) : Rr C mX13_isOneWord (2, L, qi z :: qr a :: st, M) x = Rr C mX13_isOneWord (5, L, st, q_wr M a 5 (qi z)) x := g_putf (ow := 13) (ini := false) (e := (13, 5, RX13, 1306, 0)) (r := (RX13, TX13, 17)) (t := tyX13) (show decode cX13_isOneWord 2 = .ok (.putfield 72, 3) by decide +kernel) rfl rfl rfl rfl (by decide +kernel) hk
set_option maxRecDepth 20000 in
theorem kX13_isOneWord_5 {C : QC} {x : QP} {M : QM} {st : List CV} {L : QL} {l0 l1 : Option CV} {r : Option Nat} : Rr C mX13_isOneWord (5, [some (.inr (.inr r)), l1], st, M) x = Rr C mX13_isOneWord (6, [some (.inr (.inr r)), l1], .inr (.inr r) :: st, M) x := g_pl (show decode cX13_isOneWord 5 = .ok (.aload_n 0, 1) by decide +kernel) rfl
set_option maxRecDepth 20000 in
theorem kX13_isOneWord_6 {C : QC} {x : QP} {M : QM} {st : List CV} {L : QL} : Rr C mX13_isOneWord (6, L, st, M) x = Rr C mX13_isOneWord (7, L, qi (-1) :: st, M) x := g_pl (show decode cX13_isOneWord 6 = .ok (.iconst (-1), 1) by decide +kernel) rfl
set_option maxRecDepth 20000 in
theorem kX13_isOneWord_7 {C : QC} {x : QP} {M : QM} {st : List CV} {L : QL} {z : Int} {a : Nat} (hk : q_kd M a = (1, 13)) : Rr C mX13_isOneWord (7, L, qi z :: qr a :: st, M) x = Rr C mX13_isOneWord (10, L, st, q_wr M a 6 (qi z)) x := g_putf (ow := 13) (ini := false) (e := (13, 6, RX13, 1307, 0)) (r := (RX13, TX13, 17)) (t := tyX13) (show decode cX13_isOneWord 7 = .ok (.putfield 75, 3) by decide +kernel) rfl rfl rfl rfl (by decide +kernel) hk
set_option maxRecDepth 20000 in
theorem kX13_isOneWord_10 {C : QC} {x : QP} {M : QM} {st : List CV} {L : QL} {l0 l1 : Option CV} {r : Option Nat} : Rr C mX13_isOneWord (10, [some (.inr (.inr r)), l1], st, M) x = Rr C mX13_isOneWord (11, [some (.inr (.inr r)), l1], .inr (.inr r) :: st, M) x := g_pl (show decode cX13_isOneWord 10 = .ok (.aload_n 0, 1) by decide +kernel) rfl
set_option maxRecDepth 20000 in
theorem kX13_isOneWord_11 {C : QC} {x : QP} {M : QM} {L : QL} {rest : List CV} {M1 : QM} {b : Nat} (hb : q_kd M b = (1, 13)) (hC : C iX13_readsWord [qr b] M none M1) (hw : (rest.map q_wd).sum ≤ 8) (k : Rr C mX13_isOneWord (14, L, rest, M1) x) : Rr C mX13_isOneWord (11, L, qr b :: rest, M) x := g_cv (ow := 13) (e := (0, 201, 13, [1368, 1370, 27, 94])) (as := []) (show decode cX13_isOneWord 11 = .ok (.invokevirtual 91, 3) by decide +kernel) rfl rfl rfl (Or.inl rfl) rfl hb hC hw k
set_option maxRecDepth 20000 in
theorem kX13_isOneWord_14 {C : QC} {x : QP} {M : QM} {st : List CV} {L : QL} {l0 l1 : Option CV} {r : Option Nat} : Rr C mX13_isOneWord (14, [some (.inr (.inr r)), l1], st, M) x = Rr C mX13_isOneWord (15, [some (.inr (.inr r)), l1], .inr (.inr r) :: st, M) x := g_pl (show decode cX13_isOneWord 14 = .ok (.aload_n 0, 1) by decide +kernel) rfl
set_option maxRecDepth 20000 in
theorem kX13_isOneWord_15 {C : QC} {x : QP} {M : QM} {st : List CV} {L : QL} {a : Nat} (hk : q_kd M a = (1, 13)) : Rr C mX13_isOneWord (15, L, qr a :: st, M) x = Rr C mX13_isOneWord (18, L, q_fv M a 6 :: st, M) x := g_getf (ow := 13) (e := (13, 6, RX13, 1307, 0)) (show decode cX13_isOneWord 15 = .ok (.getfield 75, 3) by decide +kernel) rfl hk
set_option maxRecDepth 20000 in
theorem kX13_isOneWord_18 {C : QC} {x : QP} {M : QM} {st : List CV} {L : QL} {a : Int} (ha1 : -2147483648 ≤ a) (ha2 : a < 2147483648) : Rr C mX13_isOneWord (18, L, qi a :: st, M) x = (if a < 0 then Rr C mX13_isOneWord (21, L, st, M) x else Rr C mX13_isOneWord (36, L, st, M) x) := (g_if (show decode cX13_isOneWord 18 = .ok (.ifCond .ge 18, 3) by decide +kernel) rfl ha1 ha2).trans (g_itn c_ge)
set_option maxRecDepth 20000 in
theorem kX13_isOneWord_21 {C : QC} {x : QP} {M : QM} {st : List CV} {L : QL} {l0 l1 : Option CV} {r : Option Nat} : Rr C mX13_isOneWord (21, [some (.inr (.inr r)), l1], st, M) x = Rr C mX13_isOneWord (22, [some (.inr (.inr r)), l1], .inr (.inr r) :: st, M) x := g_pl (show decode cX13_isOneWord 21 = .ok (.aload_n 0, 1) by decide +kernel) rfl
set_option maxRecDepth 20000 in
theorem kX13_isOneWord_22 {C : QC} {x : QP} {M : QM} {st : List CV} {L : QL} {a : Nat} (hk : q_kd M a = (1, 13)) : Rr C mX13_isOneWord (22, L, qr a :: st, M) x = Rr C mX13_isOneWord (25, L, q_fv M a 5 :: st, M) x := g_getf (ow := 13) (e := (13, 5, RX13, 1306, 0)) (show decode cX13_isOneWord 22 = .ok (.getfield 72, 3) by decide +kernel) rfl hk
set_option maxRecDepth 20000 in
theorem kX13_isOneWord_25 {C : QC} {x : QP} {M : QM} {st : List CV} {L : QL} {l0 l1 : Option CV} {r : Option Nat} : Rr C mX13_isOneWord (25, [some (.inr (.inr r)), l1], st, M) x = Rr C mX13_isOneWord (26, [some (.inr (.inr r)), l1], .inr (.inr r) :: st, M) x := g_pl (show decode cX13_isOneWord 25 = .ok (.aload_n 0, 1) by decide +kernel) rfl
set_option maxRecDepth 20000 in
theorem kX13_isOneWord_26 {C : QC} {x : QP} {M : QM} {st : List CV} {L : QL} {a : Nat} (hk : q_kd M a = (1, 13)) : Rr C mX13_isOneWord (26, L, qr a :: st, M) x = Rr C mX13_isOneWord (29, L, q_fv M a 4 :: st, M) x := g_getf (ow := 13) (e := (13, 4, RX13, 1305, 0)) (show decode cX13_isOneWord 26 = .ok (.getfield 69, 3) by decide +kernel) rfl hk
set_option maxRecDepth 20000 in
theorem kX13_isOneWord_29 {C : QC} {x : QP} {M : QM} {st : List CV} {L : QL} {a b : Int} (ha1 : -2147483648 ≤ a) (ha2 : a < 2147483648) (hb1 : -2147483648 ≤ b) (hb2 : b < 2147483648) : Rr C mX13_isOneWord (29, L, qi b :: qi a :: st, M) x = (if a = b then Rr C mX13_isOneWord (32, L, st, M) x else Rr C mX13_isOneWord (36, L, st, M) x) := (g_icmp (show decode cX13_isOneWord 29 = .ok (.if_icmp .ne 7, 3) by decide +kernel) rfl ha1 ha2 hb1 hb2).trans (g_itn c_ne)
set_option maxRecDepth 20000 in
theorem kX13_isOneWord_32 {C : QC} {x : QP} {M : QM} {st : List CV} {L : QL} : Rr C mX13_isOneWord (32, L, st, M) x = Rr C mX13_isOneWord (33, L, qi 1 :: st, M) x := g_pl (show decode cX13_isOneWord 32 = .ok (.iconst 1, 1) by decide +kernel) rfl
set_option maxRecDepth 20000 in
theorem kX13_isOneWord_33 {C : QC} {x : QP} {M : QM} {st : List CV} {L : QL} : Rr C mX13_isOneWord (33, L, st, M) x = Rr C mX13_isOneWord (37, L, st, M) x := g_pl (show decode cX13_isOneWord 33 = .ok (.goto 4, 3) by decide +kernel) rfl
set_option maxRecDepth 20000 in
theorem kX13_isOneWord_36 {C : QC} {x : QP} {M : QM} {st : List CV} {L : QL} : Rr C mX13_isOneWord (36, L, st, M) x = Rr C mX13_isOneWord (37, L, qi 0 :: st, M) x := g_pl (show decode cX13_isOneWord 36 = .ok (.iconst 0, 1) by decide +kernel) rfl
set_option maxRecDepth 20000 in
theorem kX13_isOneWord_37 {C : QC} {x : QP} {M : QM} {st : List CV} {L : QL} {l0 l1 : Option CV} {z : Int} : Rr C mX13_isOneWord (37, [l0, l1], qi z :: st, M) x = Rr C mX13_isOneWord (38, [q_cut l0, some (qi z)], st, M) x := g_pl (show decode cX13_isOneWord 37 = .ok (.istore_n 1, 1) by decide +kernel) rfl
set_option maxRecDepth 20000 in
theorem kX13_isOneWord_38 {C : QC} {x : QP} {M : QM} {st : List CV} {L : QL} {l0 l1 : Option CV} {r : Option Nat} : Rr C mX13_isOneWord (38, [some (.inr (.inr r)), l1], st, M) x = Rr C mX13_isOneWord (39, [some (.inr (.inr r)), l1], .inr (.inr r) :: st, M) x := g_pl (show decode cX13_isOneWord 38 = .ok (.aload_n 0, 1) by decide +kernel) rfl
set_option maxRecDepth 20000 in
theorem kX13_isOneWord_39 {C : QC} {x : QP} {M : QM} {st : List CV} {L : QL} : Rr C mX13_isOneWord (39, L, st, M) x = Rr C mX13_isOneWord (40, L, qi 0 :: st, M) x := g_pl (show decode cX13_isOneWord 39 = .ok (.iconst 0, 1) by decide +kernel) rfl
set_option maxRecDepth 20000 in
theorem kX13_isOneWord_40 {C : QC} {x : QP} {M : QM} {st : List CV} {L : QL} {z : Int} {a : Nat} (hk : q_kd M a = (1, 13)) : Rr C mX13_isOneWord (40, L, qi z :: qr a :: st, M) x = Rr C mX13_isOneWord (43, L, st, q_wr M a 4 (qi z)) x := g_putf (ow := 13) (ini := false) (e := (13, 4, RX13, 1305, 0)) (r := (RX13, TX13, 17)) (t := tyX13) (show decode cX13_isOneWord 40 = .ok (.putfield 69, 3) by decide +kernel) rfl rfl rfl rfl (by decide +kernel) hk
set_option maxRecDepth 20000 in
theorem kX13_isOneWord_43 {C : QC} {x : QP} {M : QM} {st : List CV} {L : QL} {l0 l1 : Option CV} {z : Int} : Rr C mX13_isOneWord (43, [l0, some (qi z)], st, M) x = Rr C mX13_isOneWord (44, [l0, some (qi z)], qi z :: st, M) x := g_pl (show decode cX13_isOneWord 43 = .ok (.iload_n 1, 1) by decide +kernel) rfl
set_option maxRecDepth 20000 in
theorem kX13_isOneWord_44 {C : QC} {x : QP} {M : QM} {st : List CV} {L : QL} {z : Int} (hz : z = 0 ∨ z = 1) : Rr C mX13_isOneWord (44, L, [qi z], M) x = x (some (qi z)) M := g_iret (show decode cX13_isOneWord 44 = .ok (.ireturn, 1) by decide +kernel) (by rcases hz with rfl | rfl <;> rfl)
set_option maxRecDepth 20000 in
theorem eX13_isOneWord {d : Nat} {M : QM} {x : QP} {a : Nat} : q_T (d + 1) iX13_isOneWord [qr a] M x = Rr (q_C d) mX13_isOneWord (0, [some (qr a), none], [], M) x := g_entryT (e := _) rfl (Nat.le_of_ble_eq_true rfl) rfl rfl
def mX13_refuse : QI := (13, cX13_refuse, false, some .int)
set_option maxRecDepth 20000 in
theorem kX13_refuse_0 {C : QC} {x : QP} {M : QM} {st : List CV} {L : QL} {l0 l1 : Option CV} {r : Option Nat} : Rr C mX13_refuse (0, [some (.inr (.inr r)), l1], st, M) x = Rr C mX13_refuse (1, [some (.inr (.inr r)), l1], .inr (.inr r) :: st, M) x := g_pl (show decode cX13_refuse 0 = .ok (.aload_n 0, 1) by decide +kernel) rfl
set_option maxRecDepth 20000 in
theorem kX13_refuse_1 {C : QC} {x : QP} {M : QM} {st : List CV} {L : QL} {l0 l1 : Option CV} {z : Int} : Rr C mX13_refuse (1, [l0, some (qi z)], st, M) x = Rr C mX13_refuse (2, [l0, some (qi z)], qi z :: st, M) x := g_pl (show decode cX13_refuse 1 = .ok (.iload_n 1, 1) by decide +kernel) rfl
set_option maxRecDepth 20000 in
theorem kX13_refuse_2 {C : QC} {x : QP} {M : QM} {st : List CV} {L : QL} {z : Int} {a : Nat} (hk : q_kd M a = (1, 13)) : Rr C mX13_refuse (2, L, qi z :: qr a :: st, M) x = Rr C mX13_refuse (5, L, st, q_wr M a 7 (qi z)) x := g_putf (ow := 13) (ini := false) (e := (13, 7, RX13, 1308, 0)) (r := (RX13, TX13, 17)) (t := tyX13) (show decode cX13_refuse 2 = .ok (.putfield 17, 3) by decide +kernel) rfl rfl rfl rfl (by decide +kernel) hk
set_option maxRecDepth 20000 in
theorem kX13_refuse_5 {C : QC} {x : QP} {M : QM} {st : List CV} {L : QL} : Rr C mX13_refuse (5, L, st, M) x = Rr C mX13_refuse (7, L, qi (-3) :: st, M) x := g_pl (show decode cX13_refuse 5 = .ok (.bipush (-3), 2) by decide +kernel) rfl
set_option maxRecDepth 20000 in
theorem kX13_refuse_7 {C : QC} {x : QP} {M : QM} {st : List CV} {L : QL} {z : Int} : Rr C mX13_refuse (7, L, [qi z], M) x = x (some (qi z)) M := g_iret (show decode cX13_refuse 7 = .ok (.ireturn, 1) by decide +kernel) rfl
set_option maxRecDepth 20000 in
theorem eX13_refuse {d : Nat} {M : QM} {x : QP} {a : Nat} {v0 : Int} : q_T (d + 1) iX13_refuse [qr a, qi v0] M x = Rr (q_C d) mX13_refuse (0, [some (qr a), some (qi v0)], [], M) x := g_entryT (e := _) rfl (Nat.le_of_ble_eq_true rfl) rfl rfl
def mX13_canBeParent : QI := (13, cX13_canBeParent, false, some .boolean)
set_option maxRecDepth 20000 in
theorem kX13_canBeParent_0 {C : QC} {x : QP} {M : QM} {st : List CV} {L : QL} {l0 l1 l2 : Option CV} {r : Option Nat} : Rr C mX13_canBeParent (0, [some (.inr (.inr r)), l1, l2], st, M) x = Rr C mX13_canBeParent (1, [some (.inr (.inr r)), l1, l2], .inr (.inr r) :: st, M) x := g_pl (show decode cX13_canBeParent 0 = .ok (.aload_n 0, 1) by decide +kernel) rfl
set_option maxRecDepth 20000 in
theorem kX13_canBeParent_1 {C : QC} {x : QP} {M : QM} {st : List CV} {L : QL} {l0 l1 l2 : Option CV} {z : Int} : Rr C mX13_canBeParent (1, [l0, some (qi z), l2], st, M) x = Rr C mX13_canBeParent (2, [l0, some (qi z), l2], qi z :: st, M) x := g_pl (show decode cX13_canBeParent 1 = .ok (.iload_n 1, 1) by decide +kernel) rfl
set_option maxRecDepth 20000 in
theorem kX13_canBeParent_2 {C : QC} {x : QP} {M : QM} {st : List CV} {L : QL} : Rr C mX13_canBeParent (2, L, st, M) x = Rr C mX13_canBeParent (3, L, qi 1 :: st, M) x := g_pl (show decode cX13_canBeParent 2 = .ok (.iconst 1, 1) by decide +kernel) rfl
set_option maxRecDepth 20000 in
theorem kX13_canBeParent_3 {C : QC} {x : QP} {M : QM} {L : QL} {rest : List CV} {a0 a1 : CV} {v : CV} {M1 : QM} {b : Nat} (hb : q_kd M b = (1, 13)) (hC : C iX13_has [qr b, a0, a1] M (some v) M1) (hw : (rest.map q_wd).sum ≤ 8) (k : Rr C mX13_canBeParent (6, L, v :: rest, M1) x) : Rr C mX13_canBeParent (3, L, a1 :: a0 :: qr b :: rest, M) x := g_cv (ow := 13) (e := (0, 207, 13, [1391, 1393, 32, 94])) (as := [a0, a1]) (show decode cX13_canBeParent 3 = .ok (.invokevirtual 47, 3) by decide +kernel) rfl rfl rfl (Or.inl rfl) rfl hb hC hw k
set_option maxRecDepth 20000 in
theorem kX13_canBeParent_6 {C : QC} {x : QP} {M : QM} {st : List CV} {L : QL} {l0 l1 l2 : Option CV} {z : Int} : Rr C mX13_canBeParent (6, [l0, l1, some (qi z)], st, M) x = Rr C mX13_canBeParent (7, [l0, l1, some (qi z)], qi z :: st, M) x := g_pl (show decode cX13_canBeParent 6 = .ok (.iload_n 2, 1) by decide +kernel) rfl
set_option maxRecDepth 20000 in
theorem kX13_canBeParent_7 {C : QC} {x : QP} {M : QM} {st : List CV} {L : QL} {a b : Int} (ha1 : -2147483648 ≤ a) (ha2 : a < 2147483648) (hb1 : -2147483648 ≤ b) (hb2 : b < 2147483648) : Rr C mX13_canBeParent (7, L, qi b :: qi a :: st, M) x = (if b < a then Rr C mX13_canBeParent (22, L, st, M) x else Rr C mX13_canBeParent (10, L, st, M) x) := (g_icmp (show decode cX13_canBeParent 7 = .ok (.if_icmp .gt 15, 3) by decide +kernel) rfl ha1 ha2 hb1 hb2).trans (g_ite c_gt)
set_option maxRecDepth 20000 in
theorem kX13_canBeParent_10 {C : QC} {x : QP} {M : QM} {st : List CV} {L : QL} {l0 l1 l2 : Option CV} {r : Option Nat} : Rr C mX13_canBeParent (10, [some (.inr (.inr r)), l1, l2], st, M) x = Rr C mX13_canBeParent (11, [some (.inr (.inr r)), l1, l2], .inr (.inr r) :: st, M) x := g_pl (show decode cX13_canBeParent 10 = .ok (.aload_n 0, 1) by decide +kernel) rfl
set_option maxRecDepth 20000 in
theorem kX13_canBeParent_11 {C : QC} {x : QP} {M : QM} {st : List CV} {L : QL} {l0 l1 l2 : Option CV} {z : Int} : Rr C mX13_canBeParent (11, [l0, some (qi z), l2], st, M) x = Rr C mX13_canBeParent (12, [l0, some (qi z), l2], qi z :: st, M) x := g_pl (show decode cX13_canBeParent 11 = .ok (.iload_n 1, 1) by decide +kernel) rfl
set_option maxRecDepth 20000 in
theorem kX13_canBeParent_12 {C : QC} {x : QP} {M : QM} {L : QL} {rest : List CV} {a0 : CV} {v : CV} {M1 : QM} {b : Nat} (hb : q_kd M b = (1, 13)) (hC : C iX13_hasEnded [qr b, a0] M (some v) M1) (hw : (rest.map q_wd).sum ≤ 8) (k : Rr C mX13_canBeParent (15, L, v :: rest, M1) x) : Rr C mX13_canBeParent (12, L, a0 :: qr b :: rest, M) x := g_cv (ow := 13) (e := (0, 209, 13, [1399, 1401, 34, 94])) (as := [a0]) (show decode cX13_canBeParent 12 = .ok (.invokevirtual 51, 3) by decide +kernel) rfl rfl rfl (Or.inl rfl) rfl hb hC hw k
set_option maxRecDepth 20000 in
theorem kX13_canBeParent_15 {C : QC} {x : QP} {M : QM} {st : List CV} {L : QL} {a : Int} (ha1 : -2147483648 ≤ a) (ha2 : a < 2147483648) : Rr C mX13_canBeParent (15, L, qi a :: st, M) x = (if a = 0 then Rr C mX13_canBeParent (18, L, st, M) x else Rr C mX13_canBeParent (22, L, st, M) x) := (g_if (show decode cX13_canBeParent 15 = .ok (.ifCond .ne 7, 3) by decide +kernel) rfl ha1 ha2).trans (g_itn c_ne)
set_option maxRecDepth 20000 in
theorem kX13_canBeParent_18 {C : QC} {x : QP} {M : QM} {st : List CV} {L : QL} : Rr C mX13_canBeParent (18, L, st, M) x = Rr C mX13_canBeParent (19, L, qi 1 :: st, M) x := g_pl (show decode cX13_canBeParent 18 = .ok (.iconst 1, 1) by decide +kernel) rfl
set_option maxRecDepth 20000 in
theorem kX13_canBeParent_19 {C : QC} {x : QP} {M : QM} {st : List CV} {L : QL} : Rr C mX13_canBeParent (19, L, st, M) x = Rr C mX13_canBeParent (23, L, st, M) x := g_pl (show decode cX13_canBeParent 19 = .ok (.goto 4, 3) by decide +kernel) rfl
set_option maxRecDepth 20000 in
theorem kX13_canBeParent_22 {C : QC} {x : QP} {M : QM} {st : List CV} {L : QL} : Rr C mX13_canBeParent (22, L, st, M) x = Rr C mX13_canBeParent (23, L, qi 0 :: st, M) x := g_pl (show decode cX13_canBeParent 22 = .ok (.iconst 0, 1) by decide +kernel) rfl
set_option maxRecDepth 20000 in
theorem kX13_canBeParent_23 {C : QC} {x : QP} {M : QM} {st : List CV} {L : QL} {z : Int} (hz : z = 0 ∨ z = 1) : Rr C mX13_canBeParent (23, L, [qi z], M) x = x (some (qi z)) M := g_iret (show decode cX13_canBeParent 23 = .ok (.ireturn, 1) by decide +kernel) (by rcases hz with rfl | rfl <;> rfl)
set_option maxRecDepth 20000 in
theorem eX13_canBeParent {d : Nat} {M : QM} {x : QP} {a : Nat} {v0 : Int} {v1 : Int} : q_T (d + 1) iX13_canBeParent [qr a, qi v0, qi v1] M x = Rr (q_C d) mX13_canBeParent (0, [some (qr a), some (qi v0), some (qi v1)], [], M) x := g_entryT (e := _) rfl (Nat.le_of_ble_eq_true rfl) rfl rfl
def mX13_isWrongDay : QI := (13, cX13_isWrongDay, false, some .boolean)
set_option maxRecDepth 20000 in
theorem kX13_isWrongDay_0 {C : QC} {x : QP} {M : QM} {st : List CV} {L : QL} {l0 l1 l2 : Option CV} {z : Int} : Rr C mX13_isWrongDay (0, [l0, l1, some (qi z)], st, M) x = Rr C mX13_isWrongDay (1, [l0, l1, some (qi z)], qi z :: st, M) x := g_pl (show decode cX13_isWrongDay 0 = .ok (.iload_n 2, 1) by decide +kernel) rfl
set_option maxRecDepth 20000 in
theorem kX13_isWrongDay_1 {C : QC} {x : QP} {M : QM} {st : List CV} {L : QL} {l0 l1 l2 : Option CV} {r : Option Nat} : Rr C mX13_isWrongDay (1, [some (.inr (.inr r)), l1, l2], st, M) x = Rr C mX13_isWrongDay (2, [some (.inr (.inr r)), l1, l2], .inr (.inr r) :: st, M) x := g_pl (show decode cX13_isWrongDay 1 = .ok (.aload_n 0, 1) by decide +kernel) rfl
set_option maxRecDepth 20000 in
theorem kX13_isWrongDay_2 {C : QC} {x : QP} {M : QM} {st : List CV} {L : QL} {l0 l1 l2 : Option CV} {z : Int} : Rr C mX13_isWrongDay (2, [l0, some (qi z), l2], st, M) x = Rr C mX13_isWrongDay (3, [l0, some (qi z), l2], qi z :: st, M) x := g_pl (show decode cX13_isWrongDay 2 = .ok (.iload_n 1, 1) by decide +kernel) rfl
set_option maxRecDepth 20000 in
theorem kX13_isWrongDay_3 {C : QC} {x : QP} {M : QM} {st : List CV} {L : QL} : Rr C mX13_isWrongDay (3, L, st, M) x = Rr C mX13_isWrongDay (4, L, qi 4 :: st, M) x := g_pl (show decode cX13_isWrongDay 3 = .ok (.iconst 4, 1) by decide +kernel) rfl
set_option maxRecDepth 20000 in
theorem kX13_isWrongDay_4 {C : QC} {x : QP} {M : QM} {L : QL} {rest : List CV} {a0 a1 : CV} {v : CV} {M1 : QM} {b : Nat} (hb : q_kd M b = (1, 13)) (hC : C iX13_has [qr b, a0, a1] M (some v) M1) (hw : (rest.map q_wd).sum ≤ 8) (k : Rr C mX13_isWrongDay (7, L, v :: rest, M1) x) : Rr C mX13_isWrongDay (4, L, a1 :: a0 :: qr b :: rest, M) x := g_cv (ow := 13) (e := (0, 207, 13, [1391, 1393, 32, 94])) (as := [a0, a1]) (show decode cX13_isWrongDay 4 = .ok (.invokevirtual 47, 3) by decide +kernel) rfl rfl rfl (Or.inl rfl) rfl hb hC hw k
set_option maxRecDepth 20000 in
theorem kX13_isWrongDay_7 {C : QC} {x : QP} {M : QM} {st : List CV} {L : QL} {a b : Int} (ha1 : -2147483648 ≤ a) (ha2 : a < 2147483648) (hb1 : -2147483648 ≤ b) (hb2 : b < 2147483648) : Rr C mX13_isWrongDay (7, L, qi b :: qi a :: st, M) x = (if a < b then Rr C mX13_isWrongDay (17, L, st, M) x else Rr C mX13_isWrongDay (10, L, st, M) x) := (g_icmp (show decode cX13_isWrongDay 7 = .ok (.if_icmp .lt 10, 3) by decide +kernel) rfl ha1 ha2 hb1 hb2).trans (g_ite c_lt)
set_option maxRecDepth 20000 in
theorem kX13_isWrongDay_10 {C : QC} {x : QP} {M : QM} {st : List CV} {L : QL} {l0 l1 l2 : Option CV} {z : Int} : Rr C mX13_isWrongDay (10, [l0, l1, some (qi z)], st, M) x = Rr C mX13_isWrongDay (11, [l0, l1, some (qi z)], qi z :: st, M) x := g_pl (show decode cX13_isWrongDay 10 = .ok (.iload_n 2, 1) by decide +kernel) rfl
set_option maxRecDepth 20000 in
theorem kX13_isWrongDay_11 {C : QC} {x : QP} {M : QM} {st : List CV} {L : QL} : Rr C mX13_isWrongDay (11, L, st, M) x = Rr C mX13_isWrongDay (14, L, qi 9999 :: st, M) x := g_pl (show decode cX13_isWrongDay 11 = .ok (.sipush 9999, 3) by decide +kernel) rfl
set_option maxRecDepth 20000 in
theorem kX13_isWrongDay_14 {C : QC} {x : QP} {M : QM} {st : List CV} {L : QL} {a b : Int} (ha1 : -2147483648 ≤ a) (ha2 : a < 2147483648) (hb1 : -2147483648 ≤ b) (hb2 : b < 2147483648) : Rr C mX13_isWrongDay (14, L, qi b :: qi a :: st, M) x = (if b < a then Rr C mX13_isWrongDay (17, L, st, M) x else Rr C mX13_isWrongDay (21, L, st, M) x) := (g_icmp (show decode cX13_isWrongDay 14 = .ok (.if_icmp .le 7, 3) by decide +kernel) rfl ha1 ha2 hb1 hb2).trans (g_itn c_le)
set_option maxRecDepth 20000 in
theorem kX13_isWrongDay_17 {C : QC} {x : QP} {M : QM} {st : List CV} {L : QL} : Rr C mX13_isWrongDay (17, L, st, M) x = Rr C mX13_isWrongDay (18, L, qi 1 :: st, M) x := g_pl (show decode cX13_isWrongDay 17 = .ok (.iconst 1, 1) by decide +kernel) rfl
set_option maxRecDepth 20000 in
theorem kX13_isWrongDay_18 {C : QC} {x : QP} {M : QM} {st : List CV} {L : QL} : Rr C mX13_isWrongDay (18, L, st, M) x = Rr C mX13_isWrongDay (22, L, st, M) x := g_pl (show decode cX13_isWrongDay 18 = .ok (.goto 4, 3) by decide +kernel) rfl
set_option maxRecDepth 20000 in
theorem kX13_isWrongDay_21 {C : QC} {x : QP} {M : QM} {st : List CV} {L : QL} : Rr C mX13_isWrongDay (21, L, st, M) x = Rr C mX13_isWrongDay (22, L, qi 0 :: st, M) x := g_pl (show decode cX13_isWrongDay 21 = .ok (.iconst 0, 1) by decide +kernel) rfl
set_option maxRecDepth 20000 in
theorem kX13_isWrongDay_22 {C : QC} {x : QP} {M : QM} {st : List CV} {L : QL} {z : Int} (hz : z = 0 ∨ z = 1) : Rr C mX13_isWrongDay (22, L, [qi z], M) x = x (some (qi z)) M := g_iret (show decode cX13_isWrongDay 22 = .ok (.ireturn, 1) by decide +kernel) (by rcases hz with rfl | rfl <;> rfl)
set_option maxRecDepth 20000 in
theorem eX13_isWrongDay {d : Nat} {M : QM} {x : QP} {a : Nat} {v0 : Int} {v1 : Int} : q_T (d + 1) iX13_isWrongDay [qr a, qi v0, qi v1] M x = Rr (q_C d) mX13_isWrongDay (0, [some (qr a), some (qi v0), some (qi v1)], [], M) x := g_entryT (e := _) rfl (Nat.le_of_ble_eq_true rfl) rfl rfl
def mX13_noFounding : QI := (13, cX13_noFounding, false, some .int)
set_option maxRecDepth 20000 in
theorem kX13_noFounding_0 {C : QC} {x : QP} {M : QM} {st : List CV} {L : QL} {l0 l1 l2 l3 : Option CV} {z : Int} : Rr C mX13_noFounding (0, [l0, some (qi z), l2, l3], st, M) x = Rr C mX13_noFounding (1, [l0, some (qi z), l2, l3], qi z :: st, M) x := g_pl (show decode cX13_noFounding 0 = .ok (.iload_n 1, 1) by decide +kernel) rfl
set_option maxRecDepth 20000 in
theorem kX13_noFounding_1 {C : QC} {x : QP} {M : QM} {st : List CV} {L : QL} {a : Int} (ha1 : -2147483648 ≤ a) (ha2 : a < 2147483648) : Rr C mX13_noFounding (1, L, qi a :: st, M) x = (if 0 < a then Rr C mX13_noFounding (4, L, st, M) x else Rr C mX13_noFounding (14, L, st, M) x) := (g_if (show decode cX13_noFounding 1 = .ok (.ifCond .le 13, 3) by decide +kernel) rfl ha1 ha2).trans (g_itn c_le)
set_option maxRecDepth 20000 in
theorem kX13_noFounding_4 {C : QC} {x : QP} {M : QM} {st : List CV} {L : QL} {l0 l1 l2 l3 : Option CV} {r : Option Nat} : Rr C mX13_noFounding (4, [some (.inr (.inr r)), l1, l2, l3], st, M) x = Rr C mX13_noFounding (5, [some (.inr (.inr r)), l1, l2, l3], .inr (.inr r) :: st, M) x := g_pl (show decode cX13_noFounding 4 = .ok (.aload_n 0, 1) by decide +kernel) rfl
set_option maxRecDepth 20000 in
theorem kX13_noFounding_5 {C : QC} {x : QP} {M : QM} {st : List CV} {L : QL} {l0 l1 l2 l3 : Option CV} {z : Int} : Rr C mX13_noFounding (5, [l0, l1, some (qi z), l3], st, M) x = Rr C mX13_noFounding (6, [l0, l1, some (qi z), l3], qi z :: st, M) x := g_pl (show decode cX13_noFounding 5 = .ok (.iload_n 2, 1) by decide +kernel) rfl
set_option maxRecDepth 20000 in
theorem kX13_noFounding_6 {C : QC} {x : QP} {M : QM} {L : QL} {rest : List CV} {a0 : CV} {v : CV} {M1 : QM} {b : Nat} (hb : q_kd M b = (1, 13)) (hC : C iX13_isPlace [qr b, a0] M (some v) M1) (hw : (rest.map q_wd).sum ≤ 8) (k : Rr C mX13_noFounding (9, L, v :: rest, M1) x) : Rr C mX13_noFounding (6, L, a0 :: qr b :: rest, M) x := g_cv (ow := 13) (e := (0, 205, 13, [1384, 1386, 31, 94])) (as := [a0]) (show decode cX13_noFounding 6 = .ok (.invokevirtual 94, 3) by decide +kernel) rfl rfl rfl (Or.inl rfl) rfl hb hC hw k
set_option maxRecDepth 20000 in
theorem kX13_noFounding_9 {C : QC} {x : QP} {M : QM} {st : List CV} {L : QL} {a : Int} (ha1 : -2147483648 ≤ a) (ha2 : a < 2147483648) : Rr C mX13_noFounding (9, L, qi a :: st, M) x = (if a = 0 then Rr C mX13_noFounding (12, L, st, M) x else Rr C mX13_noFounding (14, L, st, M) x) := (g_if (show decode cX13_noFounding 9 = .ok (.ifCond .ne 5, 3) by decide +kernel) rfl ha1 ha2).trans (g_itn c_ne)
set_option maxRecDepth 20000 in
theorem kX13_noFounding_12 {C : QC} {x : QP} {M : QM} {st : List CV} {L : QL} : Rr C mX13_noFounding (12, L, st, M) x = Rr C mX13_noFounding (13, L, qi 1 :: st, M) x := g_pl (show decode cX13_noFounding 12 = .ok (.iconst 1, 1) by decide +kernel) rfl
set_option maxRecDepth 20000 in
theorem kX13_noFounding_13 {C : QC} {x : QP} {M : QM} {st : List CV} {L : QL} {z : Int} : Rr C mX13_noFounding (13, L, [qi z], M) x = x (some (qi z)) M := g_iret (show decode cX13_noFounding 13 = .ok (.ireturn, 1) by decide +kernel) rfl
set_option maxRecDepth 20000 in
theorem kX13_noFounding_14 {C : QC} {x : QP} {M : QM} {st : List CV} {L : QL} {l0 l1 l2 l3 : Option CV} {z : Int} : Rr C mX13_noFounding (14, [l0, l1, l2, some (qi z)], st, M) x = Rr C mX13_noFounding (15, [l0, l1, l2, some (qi z)], qi z :: st, M) x := g_pl (show decode cX13_noFounding 14 = .ok (.iload_n 3, 1) by decide +kernel) rfl
set_option maxRecDepth 20000 in
theorem kX13_noFounding_15 {C : QC} {x : QP} {M : QM} {L : QL} {rest : List CV} {a0 : CV} {v : CV} {M1 : QM} (hC : C iX13_isDay [a0] M (some v) M1) (hw : (rest.map q_wd).sum ≤ 8) (k : Rr C mX13_noFounding (18, L, v :: rest, M1) x) : Rr C mX13_noFounding (15, L, a0 :: rest, M) x := g_cs (ow := 13) (e := (1, 206, 0, [1388, 1389, 94])) (as := [a0]) (show decode cX13_noFounding 15 = .ok (.invokestatic 97, 3) by decide +kernel) rfl rfl rfl rfl (Or.inl rfl) rfl hC hw k
set_option maxRecDepth 20000 in
theorem kX13_noFounding_18 {C : QC} {x : QP} {M : QM} {st : List CV} {L : QL} {a : Int} (ha1 : -2147483648 ≤ a) (ha2 : a < 2147483648) : Rr C mX13_noFounding (18, L, qi a :: st, M) x = (if a = 0 then Rr C mX13_noFounding (21, L, st, M) x else Rr C mX13_noFounding (23, L, st, M) x) := (g_if (show decode cX13_noFounding 18 = .ok (.ifCond .ne 5, 3) by decide +kernel) rfl ha1 ha2).trans (g_itn c_ne)
set_option maxRecDepth 20000 in
theorem kX13_noFounding_21 {C : QC} {x : QP} {M : QM} {st : List CV} {L : QL} : Rr C mX13_noFounding (21, L, st, M) x = Rr C mX13_noFounding (22, L, qi 2 :: st, M) x := g_pl (show decode cX13_noFounding 21 = .ok (.iconst 2, 1) by decide +kernel) rfl
set_option maxRecDepth 20000 in
theorem kX13_noFounding_22 {C : QC} {x : QP} {M : QM} {st : List CV} {L : QL} {z : Int} : Rr C mX13_noFounding (22, L, [qi z], M) x = x (some (qi z)) M := g_iret (show decode cX13_noFounding 22 = .ok (.ireturn, 1) by decide +kernel) rfl
set_option maxRecDepth 20000 in
theorem kX13_noFounding_23 {C : QC} {x : QP} {M : QM} {st : List CV} {L : QL} {l0 l1 l2 l3 : Option CV} {z : Int} : Rr C mX13_noFounding (23, [l0, some (qi z), l2, l3], st, M) x = Rr C mX13_noFounding (24, [l0, some (qi z), l2, l3], qi z :: st, M) x := g_pl (show decode cX13_noFounding 23 = .ok (.iload_n 1, 1) by decide +kernel) rfl
set_option maxRecDepth 20000 in
theorem kX13_noFounding_24 {C : QC} {x : QP} {M : QM} {st : List CV} {L : QL} {a : Int} (ha1 : -2147483648 ≤ a) (ha2 : a < 2147483648) : Rr C mX13_noFounding (24, L, qi a :: st, M) x = (if 0 < a then Rr C mX13_noFounding (27, L, st, M) x else Rr C mX13_noFounding (39, L, st, M) x) := (g_if (show decode cX13_noFounding 24 = .ok (.ifCond .le 15, 3) by decide +kernel) rfl ha1 ha2).trans (g_itn c_le)
set_option maxRecDepth 20000 in
theorem kX13_noFounding_27 {C : QC} {x : QP} {M : QM} {st : List CV} {L : QL} {l0 l1 l2 l3 : Option CV} {r : Option Nat} : Rr C mX13_noFounding (27, [some (.inr (.inr r)), l1, l2, l3], st, M) x = Rr C mX13_noFounding (28, [some (.inr (.inr r)), l1, l2, l3], .inr (.inr r) :: st, M) x := g_pl (show decode cX13_noFounding 27 = .ok (.aload_n 0, 1) by decide +kernel) rfl
set_option maxRecDepth 20000 in
theorem kX13_noFounding_28 {C : QC} {x : QP} {M : QM} {st : List CV} {L : QL} {l0 l1 l2 l3 : Option CV} {z : Int} : Rr C mX13_noFounding (28, [l0, l1, some (qi z), l3], st, M) x = Rr C mX13_noFounding (29, [l0, l1, some (qi z), l3], qi z :: st, M) x := g_pl (show decode cX13_noFounding 28 = .ok (.iload_n 2, 1) by decide +kernel) rfl
set_option maxRecDepth 20000 in
theorem kX13_noFounding_29 {C : QC} {x : QP} {M : QM} {st : List CV} {L : QL} : Rr C mX13_noFounding (29, L, st, M) x = Rr C mX13_noFounding (30, L, qi 0 :: st, M) x := g_pl (show decode cX13_noFounding 29 = .ok (.iconst 0, 1) by decide +kernel) rfl
set_option maxRecDepth 20000 in
theorem kX13_noFounding_30 {C : QC} {x : QP} {M : QM} {L : QL} {rest : List CV} {a0 a1 : CV} {v : CV} {M1 : QM} {b : Nat} (hb : q_kd M b = (1, 13)) (hC : C iX13_has [qr b, a0, a1] M (some v) M1) (hw : (rest.map q_wd).sum ≤ 8) (k : Rr C mX13_noFounding (33, L, v :: rest, M1) x) : Rr C mX13_noFounding (30, L, a1 :: a0 :: qr b :: rest, M) x := g_cv (ow := 13) (e := (0, 207, 13, [1391, 1393, 32, 94])) (as := [a0, a1]) (show decode cX13_noFounding 30 = .ok (.invokevirtual 47, 3) by decide +kernel) rfl rfl rfl (Or.inl rfl) rfl hb hC hw k
set_option maxRecDepth 20000 in
theorem kX13_noFounding_33 {C : QC} {x : QP} {M : QM} {st : List CV} {L : QL} {l0 l1 l2 l3 : Option CV} {z : Int} : Rr C mX13_noFounding (33, [l0, some (qi z), l2, l3], st, M) x = Rr C mX13_noFounding (34, [l0, some (qi z), l2, l3], qi z :: st, M) x := g_pl (show decode cX13_noFounding 33 = .ok (.iload_n 1, 1) by decide +kernel) rfl
set_option maxRecDepth 20000 in
theorem kX13_noFounding_34 {C : QC} {x : QP} {M : QM} {st : List CV} {L : QL} {a b : Int} (ha1 : -2147483648 ≤ a) (ha2 : a < 2147483648) (hb1 : -2147483648 ≤ b) (hb2 : b < 2147483648) : Rr C mX13_noFounding (34, L, qi b :: qi a :: st, M) x = (if a < b then Rr C mX13_noFounding (39, L, st, M) x else Rr C mX13_noFounding (37, L, st, M) x) := (g_icmp (show decode cX13_noFounding 34 = .ok (.if_icmp .lt 5, 3) by decide +kernel) rfl ha1 ha2 hb1 hb2).trans (g_ite c_lt)
set_option maxRecDepth 20000 in
theorem kX13_noFounding_37 {C : QC} {x : QP} {M : QM} {st : List CV} {L : QL} : Rr C mX13_noFounding (37, L, st, M) x = Rr C mX13_noFounding (38, L, qi 4 :: st, M) x := g_pl (show decode cX13_noFounding 37 = .ok (.iconst 4, 1) by decide +kernel) rfl
set_option maxRecDepth 20000 in
theorem kX13_noFounding_38 {C : QC} {x : QP} {M : QM} {st : List CV} {L : QL} {z : Int} : Rr C mX13_noFounding (38, L, [qi z], M) x = x (some (qi z)) M := g_iret (show decode cX13_noFounding 38 = .ok (.ireturn, 1) by decide +kernel) rfl
set_option maxRecDepth 20000 in
theorem kX13_noFounding_39 {C : QC} {x : QP} {M : QM} {st : List CV} {L : QL} {l0 l1 l2 l3 : Option CV} {z : Int} : Rr C mX13_noFounding (39, [l0, some (qi z), l2, l3], st, M) x = Rr C mX13_noFounding (40, [l0, some (qi z), l2, l3], qi z :: st, M) x := g_pl (show decode cX13_noFounding 39 = .ok (.iload_n 1, 1) by decide +kernel) rfl
set_option maxRecDepth 20000 in
theorem kX13_noFounding_40 {C : QC} {x : QP} {M : QM} {st : List CV} {L : QL} {a : Int} (ha1 : -2147483648 ≤ a) (ha2 : a < 2147483648) : Rr C mX13_noFounding (40, L, qi a :: st, M) x = (if 0 < a then Rr C mX13_noFounding (43, L, st, M) x else Rr C mX13_noFounding (54, L, st, M) x) := (g_if (show decode cX13_noFounding 40 = .ok (.ifCond .le 14, 3) by decide +kernel) rfl ha1 ha2).trans (g_itn c_le)
set_option maxRecDepth 20000 in
theorem kX13_noFounding_43 {C : QC} {x : QP} {M : QM} {st : List CV} {L : QL} {l0 l1 l2 l3 : Option CV} {r : Option Nat} : Rr C mX13_noFounding (43, [some (.inr (.inr r)), l1, l2, l3], st, M) x = Rr C mX13_noFounding (44, [some (.inr (.inr r)), l1, l2, l3], .inr (.inr r) :: st, M) x := g_pl (show decode cX13_noFounding 43 = .ok (.aload_n 0, 1) by decide +kernel) rfl
set_option maxRecDepth 20000 in
theorem kX13_noFounding_44 {C : QC} {x : QP} {M : QM} {st : List CV} {L : QL} {l0 l1 l2 l3 : Option CV} {z : Int} : Rr C mX13_noFounding (44, [l0, l1, some (qi z), l3], st, M) x = Rr C mX13_noFounding (45, [l0, l1, some (qi z), l3], qi z :: st, M) x := g_pl (show decode cX13_noFounding 44 = .ok (.iload_n 2, 1) by decide +kernel) rfl
set_option maxRecDepth 20000 in
theorem kX13_noFounding_45 {C : QC} {x : QP} {M : QM} {st : List CV} {L : QL} {l0 l1 l2 l3 : Option CV} {z : Int} : Rr C mX13_noFounding (45, [l0, l1, l2, some (qi z)], st, M) x = Rr C mX13_noFounding (46, [l0, l1, l2, some (qi z)], qi z :: st, M) x := g_pl (show decode cX13_noFounding 45 = .ok (.iload_n 3, 1) by decide +kernel) rfl
set_option maxRecDepth 20000 in
theorem kX13_noFounding_46 {C : QC} {x : QP} {M : QM} {L : QL} {rest : List CV} {a0 a1 : CV} {v : CV} {M1 : QM} {b : Nat} (hb : q_kd M b = (1, 13)) (hC : C iX13_canBeParent [qr b, a0, a1] M (some v) M1) (hw : (rest.map q_wd).sum ≤ 8) (k : Rr C mX13_noFounding (49, L, v :: rest, M1) x) : Rr C mX13_noFounding (46, L, a1 :: a0 :: qr b :: rest, M) x := g_cv (ow := 13) (e := (0, 208, 13, [1395, 1397, 33, 94])) (as := [a0, a1]) (show decode cX13_noFounding 46 = .ok (.invokevirtual 100, 3) by decide +kernel) rfl rfl rfl (Or.inl rfl) rfl hb hC hw k
set_option maxRecDepth 20000 in
theorem kX13_noFounding_49 {C : QC} {x : QP} {M : QM} {st : List CV} {L : QL} {a : Int} (ha1 : -2147483648 ≤ a) (ha2 : a < 2147483648) : Rr C mX13_noFounding (49, L, qi a :: st, M) x = (if a = 0 then Rr C mX13_noFounding (52, L, st, M) x else Rr C mX13_noFounding (54, L, st, M) x) := (g_if (show decode cX13_noFounding 49 = .ok (.ifCond .ne 5, 3) by decide +kernel) rfl ha1 ha2).trans (g_itn c_ne)
set_option maxRecDepth 20000 in
theorem kX13_noFounding_52 {C : QC} {x : QP} {M : QM} {st : List CV} {L : QL} : Rr C mX13_noFounding (52, L, st, M) x = Rr C mX13_noFounding (53, L, qi 5 :: st, M) x := g_pl (show decode cX13_noFounding 52 = .ok (.iconst 5, 1) by decide +kernel) rfl
set_option maxRecDepth 20000 in
theorem kX13_noFounding_53 {C : QC} {x : QP} {M : QM} {st : List CV} {L : QL} {z : Int} : Rr C mX13_noFounding (53, L, [qi z], M) x = x (some (qi z)) M := g_iret (show decode cX13_noFounding 53 = .ok (.ireturn, 1) by decide +kernel) rfl
set_option maxRecDepth 20000 in
theorem kX13_noFounding_54 {C : QC} {x : QP} {M : QM} {st : List CV} {L : QL} {l0 l1 l2 l3 : Option CV} {r : Option Nat} : Rr C mX13_noFounding (54, [some (.inr (.inr r)), l1, l2, l3], st, M) x = Rr C mX13_noFounding (55, [some (.inr (.inr r)), l1, l2, l3], .inr (.inr r) :: st, M) x := g_pl (show decode cX13_noFounding 54 = .ok (.aload_n 0, 1) by decide +kernel) rfl
set_option maxRecDepth 20000 in
theorem kX13_noFounding_55 {C : QC} {x : QP} {M : QM} {st : List CV} {L : QL} {a : Nat} (hk : q_kd M a = (1, 13)) : Rr C mX13_noFounding (55, L, qr a :: st, M) x = Rr C mX13_noFounding (58, L, q_fv M a 0 :: st, M) x := g_getf (ow := 13) (e := (13, 0, RX13, 1301, 0)) (show decode cX13_noFounding 55 = .ok (.getfield 10, 3) by decide +kernel) rfl hk
set_option maxRecDepth 20000 in
theorem kX13_noFounding_58 {C : QC} {x : QP} {M : QM} {st : List CV} {L : QL} : Rr C mX13_noFounding (58, L, st, M) x = Rr C mX13_noFounding (59, L, qi 0 :: st, M) x := g_pl (show decode cX13_noFounding 58 = .ok (.iconst 0, 1) by decide +kernel) rfl
set_option maxRecDepth 20000 in
theorem kX13_noFounding_59 {C : QC} {x : QP} {M : QM} {st : List CV} {L : QL} {a : Nat} {j : Int} (hk : (q_kd M a).1 = 2) (h0 : 0 ≤ j) (h1 : j < ((q_kd M a).2 : Int)) : Rr C mX13_noFounding (59, L, qi j :: qr a :: st, M) x = Rr C mX13_noFounding (60, L, q_fv M a j.toNat :: st, M) x := g_iald (show decode cX13_noFounding 59 = .ok (.iaload, 1) by decide +kernel) hk h0 h1
set_option maxRecDepth 20000 in
theorem kX13_noFounding_60 {C : QC} {x : QP} {M : QM} {st : List CV} {L : QL} : Rr C mX13_noFounding (60, L, st, M) x = Rr C mX13_noFounding (62, L, qi 20 :: st, M) x := g_pl (show decode cX13_noFounding 60 = .ok (.bipush 20, 2) by decide +kernel) rfl
set_option maxRecDepth 20000 in
theorem kX13_noFounding_62 {C : QC} {x : QP} {M : QM} {st : List CV} {L : QL} {a b : Int} (ha1 : -2147483648 ≤ a) (ha2 : a < 2147483648) (hb1 : -2147483648 ≤ b) (hb2 : b < 2147483648) : Rr C mX13_noFounding (62, L, qi b :: qi a :: st, M) x = (if a = b then Rr C mX13_noFounding (65, L, st, M) x else Rr C mX13_noFounding (70, L, st, M) x) := (g_icmp (show decode cX13_noFounding 62 = .ok (.if_icmp .ne 8, 3) by decide +kernel) rfl ha1 ha2 hb1 hb2).trans (g_itn c_ne)
set_option maxRecDepth 20000 in
theorem kX13_noFounding_65 {C : QC} {x : QP} {M : QM} {st : List CV} {L : QL} : Rr C mX13_noFounding (65, L, st, M) x = Rr C mX13_noFounding (67, L, qi 6 :: st, M) x := g_pl (show decode cX13_noFounding 65 = .ok (.bipush 6, 2) by decide +kernel) rfl
set_option maxRecDepth 20000 in
theorem kX13_noFounding_67 {C : QC} {x : QP} {M : QM} {st : List CV} {L : QL} : Rr C mX13_noFounding (67, L, st, M) x = Rr C mX13_noFounding (71, L, st, M) x := g_pl (show decode cX13_noFounding 67 = .ok (.goto 4, 3) by decide +kernel) rfl
set_option maxRecDepth 20000 in
theorem kX13_noFounding_70 {C : QC} {x : QP} {M : QM} {st : List CV} {L : QL} : Rr C mX13_noFounding (70, L, st, M) x = Rr C mX13_noFounding (71, L, qi 0 :: st, M) x := g_pl (show decode cX13_noFounding 70 = .ok (.iconst 0, 1) by decide +kernel) rfl
set_option maxRecDepth 20000 in
theorem kX13_noFounding_71 {C : QC} {x : QP} {M : QM} {st : List CV} {L : QL} {z : Int} : Rr C mX13_noFounding (71, L, [qi z], M) x = x (some (qi z)) M := g_iret (show decode cX13_noFounding 71 = .ok (.ireturn, 1) by decide +kernel) rfl
set_option maxRecDepth 20000 in
theorem eX13_noFounding {d : Nat} {M : QM} {x : QP} {a : Nat} {v0 : Int} {v1 : Int} {v2 : Int} : q_T (d + 1) iX13_noFounding [qr a, qi v0, qi v1, qi v2] M x = Rr (q_C d) mX13_noFounding (0, [some (qr a), some (qi v0), some (qi v1), some (qi v2)], [], M) x := g_entryT (e := _) rfl (Nat.le_of_ble_eq_true rfl) rfl rfl
def mX13_noEvent : QI := (13, cX13_noEvent, false, some .int)
set_option maxRecDepth 20000 in
theorem kX13_noEvent_0 {C : QC} {x : QP} {M : QM} {st : List CV} {L : QL} {l0 l1 l2 : Option CV} {r : Option Nat} : Rr C mX13_noEvent (0, [some (.inr (.inr r)), l1, l2], st, M) x = Rr C mX13_noEvent (1, [some (.inr (.inr r)), l1, l2], .inr (.inr r) :: st, M) x := g_pl (show decode cX13_noEvent 0 = .ok (.aload_n 0, 1) by decide +kernel) rfl
set_option maxRecDepth 20000 in
theorem kX13_noEvent_1 {C : QC} {x : QP} {M : QM} {st : List CV} {L : QL} {l0 l1 l2 : Option CV} {z : Int} : Rr C mX13_noEvent (1, [l0, some (qi z), l2], st, M) x = Rr C mX13_noEvent (2, [l0, some (qi z), l2], qi z :: st, M) x := g_pl (show decode cX13_noEvent 1 = .ok (.iload_n 1, 1) by decide +kernel) rfl
set_option maxRecDepth 20000 in
theorem kX13_noEvent_2 {C : QC} {x : QP} {M : QM} {L : QL} {rest : List CV} {a0 : CV} {v : CV} {M1 : QM} {b : Nat} (hb : q_kd M b = (1, 13)) (hC : C iX13_isPlace [qr b, a0] M (some v) M1) (hw : (rest.map q_wd).sum ≤ 8) (k : Rr C mX13_noEvent (5, L, v :: rest, M1) x) : Rr C mX13_noEvent (2, L, a0 :: qr b :: rest, M) x := g_cv (ow := 13) (e := (0, 205, 13, [1384, 1386, 31, 94])) (as := [a0]) (show decode cX13_noEvent 2 = .ok (.invokevirtual 94, 3) by decide +kernel) rfl rfl rfl (Or.inl rfl) rfl hb hC hw k
set_option maxRecDepth 20000 in
theorem kX13_noEvent_5 {C : QC} {x : QP} {M : QM} {st : List CV} {L : QL} {a : Int} (ha1 : -2147483648 ≤ a) (ha2 : a < 2147483648) : Rr C mX13_noEvent (5, L, qi a :: st, M) x = (if a = 0 then Rr C mX13_noEvent (8, L, st, M) x else Rr C mX13_noEvent (12, L, st, M) x) := (g_if (show decode cX13_noEvent 5 = .ok (.ifCond .ne 7, 3) by decide +kernel) rfl ha1 ha2).trans (g_itn c_ne)
set_option maxRecDepth 20000 in
theorem kX13_noEvent_8 {C : QC} {x : QP} {M : QM} {st : List CV} {L : QL} : Rr C mX13_noEvent (8, L, st, M) x = Rr C mX13_noEvent (9, L, qi 1 :: st, M) x := g_pl (show decode cX13_noEvent 8 = .ok (.iconst 1, 1) by decide +kernel) rfl
set_option maxRecDepth 20000 in
theorem kX13_noEvent_9 {C : QC} {x : QP} {M : QM} {st : List CV} {L : QL} : Rr C mX13_noEvent (9, L, st, M) x = Rr C mX13_noEvent (38, L, st, M) x := g_pl (show decode cX13_noEvent 9 = .ok (.goto 29, 3) by decide +kernel) rfl
set_option maxRecDepth 20000 in
theorem kX13_noEvent_12 {C : QC} {x : QP} {M : QM} {st : List CV} {L : QL} {l0 l1 l2 : Option CV} {r : Option Nat} : Rr C mX13_noEvent (12, [some (.inr (.inr r)), l1, l2], st, M) x = Rr C mX13_noEvent (13, [some (.inr (.inr r)), l1, l2], .inr (.inr r) :: st, M) x := g_pl (show decode cX13_noEvent 12 = .ok (.aload_n 0, 1) by decide +kernel) rfl
set_option maxRecDepth 20000 in
theorem kX13_noEvent_13 {C : QC} {x : QP} {M : QM} {st : List CV} {L : QL} {l0 l1 l2 : Option CV} {z : Int} : Rr C mX13_noEvent (13, [l0, some (qi z), l2], st, M) x = Rr C mX13_noEvent (14, [l0, some (qi z), l2], qi z :: st, M) x := g_pl (show decode cX13_noEvent 13 = .ok (.iload_n 1, 1) by decide +kernel) rfl
set_option maxRecDepth 20000 in
theorem kX13_noEvent_14 {C : QC} {x : QP} {M : QM} {L : QL} {rest : List CV} {a0 : CV} {v : CV} {M1 : QM} {b : Nat} (hb : q_kd M b = (1, 13)) (hC : C iX13_hasEnded [qr b, a0] M (some v) M1) (hw : (rest.map q_wd).sum ≤ 8) (k : Rr C mX13_noEvent (17, L, v :: rest, M1) x) : Rr C mX13_noEvent (14, L, a0 :: qr b :: rest, M) x := g_cv (ow := 13) (e := (0, 209, 13, [1399, 1401, 34, 94])) (as := [a0]) (show decode cX13_noEvent 14 = .ok (.invokevirtual 51, 3) by decide +kernel) rfl rfl rfl (Or.inl rfl) rfl hb hC hw k
set_option maxRecDepth 20000 in
theorem kX13_noEvent_17 {C : QC} {x : QP} {M : QM} {st : List CV} {L : QL} {a : Int} (ha1 : -2147483648 ≤ a) (ha2 : a < 2147483648) : Rr C mX13_noEvent (17, L, qi a :: st, M) x = (if a = 0 then Rr C mX13_noEvent (24, L, st, M) x else Rr C mX13_noEvent (20, L, st, M) x) := (g_if (show decode cX13_noEvent 17 = .ok (.ifCond .eq 7, 3) by decide +kernel) rfl ha1 ha2).trans (g_ite c_eq)
set_option maxRecDepth 20000 in
theorem kX13_noEvent_20 {C : QC} {x : QP} {M : QM} {st : List CV} {L : QL} : Rr C mX13_noEvent (20, L, st, M) x = Rr C mX13_noEvent (21, L, qi 3 :: st, M) x := g_pl (show decode cX13_noEvent 20 = .ok (.iconst 3, 1) by decide +kernel) rfl
set_option maxRecDepth 20000 in
theorem kX13_noEvent_21 {C : QC} {x : QP} {M : QM} {st : List CV} {L : QL} : Rr C mX13_noEvent (21, L, st, M) x = Rr C mX13_noEvent (38, L, st, M) x := g_pl (show decode cX13_noEvent 21 = .ok (.goto 17, 3) by decide +kernel) rfl
set_option maxRecDepth 20000 in
theorem kX13_noEvent_24 {C : QC} {x : QP} {M : QM} {st : List CV} {L : QL} {l0 l1 l2 : Option CV} {r : Option Nat} : Rr C mX13_noEvent (24, [some (.inr (.inr r)), l1, l2], st, M) x = Rr C mX13_noEvent (25, [some (.inr (.inr r)), l1, l2], .inr (.inr r) :: st, M) x := g_pl (show decode cX13_noEvent 24 = .ok (.aload_n 0, 1) by decide +kernel) rfl
set_option maxRecDepth 20000 in
theorem kX13_noEvent_25 {C : QC} {x : QP} {M : QM} {st : List CV} {L : QL} {l0 l1 l2 : Option CV} {z : Int} : Rr C mX13_noEvent (25, [l0, some (qi z), l2], st, M) x = Rr C mX13_noEvent (26, [l0, some (qi z), l2], qi z :: st, M) x := g_pl (show decode cX13_noEvent 25 = .ok (.iload_n 1, 1) by decide +kernel) rfl
set_option maxRecDepth 20000 in
theorem kX13_noEvent_26 {C : QC} {x : QP} {M : QM} {st : List CV} {L : QL} {l0 l1 l2 : Option CV} {z : Int} : Rr C mX13_noEvent (26, [l0, l1, some (qi z)], st, M) x = Rr C mX13_noEvent (27, [l0, l1, some (qi z)], qi z :: st, M) x := g_pl (show decode cX13_noEvent 26 = .ok (.iload_n 2, 1) by decide +kernel) rfl
set_option maxRecDepth 20000 in
theorem kX13_noEvent_27 {C : QC} {x : QP} {M : QM} {L : QL} {rest : List CV} {a0 a1 : CV} {v : CV} {M1 : QM} {b : Nat} (hb : q_kd M b = (1, 13)) (hC : C iX13_isWrongDay [qr b, a0, a1] M (some v) M1) (hw : (rest.map q_wd).sum ≤ 8) (k : Rr C mX13_noEvent (30, L, v :: rest, M1) x) : Rr C mX13_noEvent (27, L, a1 :: a0 :: qr b :: rest, M) x := g_cv (ow := 13) (e := (0, 220, 13, [1443, 1445, 44, 94])) (as := [a0, a1]) (show decode cX13_noEvent 27 = .ok (.invokevirtual 103, 3) by decide +kernel) rfl rfl rfl (Or.inl rfl) rfl hb hC hw k
set_option maxRecDepth 20000 in
theorem kX13_noEvent_30 {C : QC} {x : QP} {M : QM} {st : List CV} {L : QL} {a : Int} (ha1 : -2147483648 ≤ a) (ha2 : a < 2147483648) : Rr C mX13_noEvent (30, L, qi a :: st, M) x = (if a = 0 then Rr C mX13_noEvent (37, L, st, M) x else Rr C mX13_noEvent (33, L, st, M) x) := (g_if (show decode cX13_noEvent 30 = .ok (.ifCond .eq 7, 3) by decide +kernel) rfl ha1 ha2).trans (g_ite c_eq)
set_option maxRecDepth 20000 in
theorem kX13_noEvent_33 {C : QC} {x : QP} {M : QM} {st : List CV} {L : QL} : Rr C mX13_noEvent (33, L, st, M) x = Rr C mX13_noEvent (34, L, qi 2 :: st, M) x := g_pl (show decode cX13_noEvent 33 = .ok (.iconst 2, 1) by decide +kernel) rfl
set_option maxRecDepth 20000 in
theorem kX13_noEvent_34 {C : QC} {x : QP} {M : QM} {st : List CV} {L : QL} : Rr C mX13_noEvent (34, L, st, M) x = Rr C mX13_noEvent (38, L, st, M) x := g_pl (show decode cX13_noEvent 34 = .ok (.goto 4, 3) by decide +kernel) rfl
set_option maxRecDepth 20000 in
theorem kX13_noEvent_37 {C : QC} {x : QP} {M : QM} {st : List CV} {L : QL} : Rr C mX13_noEvent (37, L, st, M) x = Rr C mX13_noEvent (38, L, qi 0 :: st, M) x := g_pl (show decode cX13_noEvent 37 = .ok (.iconst 0, 1) by decide +kernel) rfl
set_option maxRecDepth 20000 in
theorem kX13_noEvent_38 {C : QC} {x : QP} {M : QM} {st : List CV} {L : QL} {z : Int} : Rr C mX13_noEvent (38, L, [qi z], M) x = x (some (qi z)) M := g_iret (show decode cX13_noEvent 38 = .ok (.ireturn, 1) by decide +kernel) rfl
set_option maxRecDepth 20000 in
theorem eX13_noEvent {d : Nat} {M : QM} {x : QP} {a : Nat} {v0 : Int} {v1 : Int} : q_T (d + 1) iX13_noEvent [qr a, qi v0, qi v1] M x = Rr (q_C d) mX13_noEvent (0, [some (qr a), some (qi v0), some (qi v1)], [], M) x := g_entryT (e := _) rfl (Nat.le_of_ble_eq_true rfl) rfl rfl
def mX13_noMove : QI := (13, cX13_noMove, false, some .int)
set_option maxRecDepth 20000 in
theorem kX13_noMove_0 {C : QC} {x : QP} {M : QM} {st : List CV} {L : QL} {l0 l1 l2 l3 l4 : Option CV} {r : Option Nat} : Rr C mX13_noMove (0, [some (.inr (.inr r)), l1, l2, l3, l4], st, M) x = Rr C mX13_noMove (1, [some (.inr (.inr r)), l1, l2, l3, l4], .inr (.inr r) :: st, M) x := g_pl (show decode cX13_noMove 0 = .ok (.aload_n 0, 1) by decide +kernel) rfl
set_option maxRecDepth 20000 in
theorem kX13_noMove_1 {C : QC} {x : QP} {M : QM} {st : List CV} {L : QL} {l0 l1 l2 l3 l4 : Option CV} {z : Int} : Rr C mX13_noMove (1, [l0, some (qi z), l2, l3, l4], st, M) x = Rr C mX13_noMove (2, [l0, some (qi z), l2, l3, l4], qi z :: st, M) x := g_pl (show decode cX13_noMove 1 = .ok (.iload_n 1, 1) by decide +kernel) rfl
set_option maxRecDepth 20000 in
theorem kX13_noMove_2 {C : QC} {x : QP} {M : QM} {L : QL} {rest : List CV} {a0 : CV} {v : CV} {M1 : QM} {b : Nat} (hb : q_kd M b = (1, 13)) (hC : C iX13_isPlace [qr b, a0] M (some v) M1) (hw : (rest.map q_wd).sum ≤ 8) (k : Rr C mX13_noMove (5, L, v :: rest, M1) x) : Rr C mX13_noMove (2, L, a0 :: qr b :: rest, M) x := g_cv (ow := 13) (e := (0, 205, 13, [1384, 1386, 31, 94])) (as := [a0]) (show decode cX13_noMove 2 = .ok (.invokevirtual 94, 3) by decide +kernel) rfl rfl rfl (Or.inl rfl) rfl hb hC hw k
set_option maxRecDepth 20000 in
theorem kX13_noMove_5 {C : QC} {x : QP} {M : QM} {st : List CV} {L : QL} {a : Int} (ha1 : -2147483648 ≤ a) (ha2 : a < 2147483648) : Rr C mX13_noMove (5, L, qi a :: st, M) x = (if a = 0 then Rr C mX13_noMove (16, L, st, M) x else Rr C mX13_noMove (8, L, st, M) x) := (g_if (show decode cX13_noMove 5 = .ok (.ifCond .eq 11, 3) by decide +kernel) rfl ha1 ha2).trans (g_ite c_eq)
set_option maxRecDepth 20000 in
theorem kX13_noMove_8 {C : QC} {x : QP} {M : QM} {st : List CV} {L : QL} {l0 l1 l2 l3 l4 : Option CV} {r : Option Nat} : Rr C mX13_noMove (8, [some (.inr (.inr r)), l1, l2, l3, l4], st, M) x = Rr C mX13_noMove (9, [some (.inr (.inr r)), l1, l2, l3, l4], .inr (.inr r) :: st, M) x := g_pl (show decode cX13_noMove 8 = .ok (.aload_n 0, 1) by decide +kernel) rfl
set_option maxRecDepth 20000 in
theorem kX13_noMove_9 {C : QC} {x : QP} {M : QM} {st : List CV} {L : QL} {l0 l1 l2 l3 l4 : Option CV} {z : Int} : Rr C mX13_noMove (9, [l0, l1, some (qi z), l3, l4], st, M) x = Rr C mX13_noMove (10, [l0, l1, some (qi z), l3, l4], qi z :: st, M) x := g_pl (show decode cX13_noMove 9 = .ok (.iload_n 2, 1) by decide +kernel) rfl
set_option maxRecDepth 20000 in
theorem kX13_noMove_10 {C : QC} {x : QP} {M : QM} {L : QL} {rest : List CV} {a0 : CV} {v : CV} {M1 : QM} {b : Nat} (hb : q_kd M b = (1, 13)) (hC : C iX13_isPlace [qr b, a0] M (some v) M1) (hw : (rest.map q_wd).sum ≤ 8) (k : Rr C mX13_noMove (13, L, v :: rest, M1) x) : Rr C mX13_noMove (10, L, a0 :: qr b :: rest, M) x := g_cv (ow := 13) (e := (0, 205, 13, [1384, 1386, 31, 94])) (as := [a0]) (show decode cX13_noMove 10 = .ok (.invokevirtual 94, 3) by decide +kernel) rfl rfl rfl (Or.inl rfl) rfl hb hC hw k
set_option maxRecDepth 20000 in
theorem kX13_noMove_13 {C : QC} {x : QP} {M : QM} {st : List CV} {L : QL} {a : Int} (ha1 : -2147483648 ≤ a) (ha2 : a < 2147483648) : Rr C mX13_noMove (13, L, qi a :: st, M) x = (if a = 0 then Rr C mX13_noMove (16, L, st, M) x else Rr C mX13_noMove (18, L, st, M) x) := (g_if (show decode cX13_noMove 13 = .ok (.ifCond .ne 5, 3) by decide +kernel) rfl ha1 ha2).trans (g_itn c_ne)
set_option maxRecDepth 20000 in
theorem kX13_noMove_16 {C : QC} {x : QP} {M : QM} {st : List CV} {L : QL} : Rr C mX13_noMove (16, L, st, M) x = Rr C mX13_noMove (17, L, qi 1 :: st, M) x := g_pl (show decode cX13_noMove 16 = .ok (.iconst 1, 1) by decide +kernel) rfl
set_option maxRecDepth 20000 in
theorem kX13_noMove_17 {C : QC} {x : QP} {M : QM} {st : List CV} {L : QL} {z : Int} : Rr C mX13_noMove (17, L, [qi z], M) x = x (some (qi z)) M := g_iret (show decode cX13_noMove 17 = .ok (.ireturn, 1) by decide +kernel) rfl
set_option maxRecDepth 20000 in
theorem kX13_noMove_18 {C : QC} {x : QP} {M : QM} {st : List CV} {L : QL} {l0 l1 l2 l3 l4 : Option CV} {r : Option Nat} : Rr C mX13_noMove (18, [some (.inr (.inr r)), l1, l2, l3, l4], st, M) x = Rr C mX13_noMove (19, [some (.inr (.inr r)), l1, l2, l3, l4], .inr (.inr r) :: st, M) x := g_pl (show decode cX13_noMove 18 = .ok (.aload_n 0, 1) by decide +kernel) rfl
set_option maxRecDepth 20000 in
theorem kX13_noMove_19 {C : QC} {x : QP} {M : QM} {st : List CV} {L : QL} {l0 l1 l2 l3 l4 : Option CV} {z : Int} : Rr C mX13_noMove (19, [l0, some (qi z), l2, l3, l4], st, M) x = Rr C mX13_noMove (20, [l0, some (qi z), l2, l3, l4], qi z :: st, M) x := g_pl (show decode cX13_noMove 19 = .ok (.iload_n 1, 1) by decide +kernel) rfl
set_option maxRecDepth 20000 in
theorem kX13_noMove_20 {C : QC} {x : QP} {M : QM} {st : List CV} {L : QL} {l0 l1 l2 l3 l4 : Option CV} {z : Int} : Rr C mX13_noMove (20, [l0, l1, l2, some (qi z), l4], st, M) x = Rr C mX13_noMove (21, [l0, l1, l2, some (qi z), l4], qi z :: st, M) x := g_pl (show decode cX13_noMove 20 = .ok (.iload_n 3, 1) by decide +kernel) rfl
set_option maxRecDepth 20000 in
theorem kX13_noMove_21 {C : QC} {x : QP} {M : QM} {L : QL} {rest : List CV} {a0 a1 : CV} {v : CV} {M1 : QM} {b : Nat} (hb : q_kd M b = (1, 13)) (hC : C iX13_noEvent [qr b, a0, a1] M (some v) M1) (hw : (rest.map q_wd).sum ≤ 8) (k : Rr C mX13_noMove (24, L, v :: rest, M1) x) : Rr C mX13_noMove (21, L, a1 :: a0 :: qr b :: rest, M) x := g_cv (ow := 13) (e := (0, 219, 13, [1439, 1441, 43, 94])) (as := [a0, a1]) (show decode cX13_noMove 21 = .ok (.invokevirtual 106, 3) by decide +kernel) rfl rfl rfl (Or.inl rfl) rfl hb hC hw k
set_option maxRecDepth 20000 in
theorem kX13_noMove_24 {C : QC} {x : QP} {M : QM} {st : List CV} {L : QL} {l0 l1 l2 l3 l4 : Option CV} {z : Int} : Rr C mX13_noMove (24, [l0, l1, l2, l3, l4], qi z :: st, M) x = Rr C mX13_noMove (26, [l0, l1, l2, q_cut l3, some (qi z)], st, M) x := g_pl (show decode cX13_noMove 24 = .ok (.istore 4, 2) by decide +kernel) rfl
set_option maxRecDepth 20000 in
theorem kX13_noMove_26 {C : QC} {x : QP} {M : QM} {st : List CV} {L : QL} {l0 l1 l2 l3 l4 : Option CV} {z : Int} : Rr C mX13_noMove (26, [l0, l1, l2, l3, some (qi z)], st, M) x = Rr C mX13_noMove (28, [l0, l1, l2, l3, some (qi z)], qi z :: st, M) x := g_pl (show decode cX13_noMove 26 = .ok (.iload 4, 2) by decide +kernel) rfl
set_option maxRecDepth 20000 in
theorem kX13_noMove_28 {C : QC} {x : QP} {M : QM} {st : List CV} {L : QL} {a : Int} (ha1 : -2147483648 ≤ a) (ha2 : a < 2147483648) : Rr C mX13_noMove (28, L, qi a :: st, M) x = (if a = 0 then Rr C mX13_noMove (34, L, st, M) x else Rr C mX13_noMove (31, L, st, M) x) := (g_if (show decode cX13_noMove 28 = .ok (.ifCond .eq 6, 3) by decide +kernel) rfl ha1 ha2).trans (g_ite c_eq)
set_option maxRecDepth 20000 in
theorem kX13_noMove_31 {C : QC} {x : QP} {M : QM} {st : List CV} {L : QL} {l0 l1 l2 l3 l4 : Option CV} {z : Int} : Rr C mX13_noMove (31, [l0, l1, l2, l3, some (qi z)], st, M) x = Rr C mX13_noMove (33, [l0, l1, l2, l3, some (qi z)], qi z :: st, M) x := g_pl (show decode cX13_noMove 31 = .ok (.iload 4, 2) by decide +kernel) rfl
set_option maxRecDepth 20000 in
theorem kX13_noMove_33 {C : QC} {x : QP} {M : QM} {st : List CV} {L : QL} {z : Int} : Rr C mX13_noMove (33, L, [qi z], M) x = x (some (qi z)) M := g_iret (show decode cX13_noMove 33 = .ok (.ireturn, 1) by decide +kernel) rfl
set_option maxRecDepth 20000 in
theorem kX13_noMove_34 {C : QC} {x : QP} {M : QM} {st : List CV} {L : QL} {l0 l1 l2 l3 l4 : Option CV} {r : Option Nat} : Rr C mX13_noMove (34, [some (.inr (.inr r)), l1, l2, l3, l4], st, M) x = Rr C mX13_noMove (35, [some (.inr (.inr r)), l1, l2, l3, l4], .inr (.inr r) :: st, M) x := g_pl (show decode cX13_noMove 34 = .ok (.aload_n 0, 1) by decide +kernel) rfl
set_option maxRecDepth 20000 in
theorem kX13_noMove_35 {C : QC} {x : QP} {M : QM} {st : List CV} {L : QL} {l0 l1 l2 l3 l4 : Option CV} {z : Int} : Rr C mX13_noMove (35, [l0, l1, some (qi z), l3, l4], st, M) x = Rr C mX13_noMove (36, [l0, l1, some (qi z), l3, l4], qi z :: st, M) x := g_pl (show decode cX13_noMove 35 = .ok (.iload_n 2, 1) by decide +kernel) rfl
set_option maxRecDepth 20000 in
theorem kX13_noMove_36 {C : QC} {x : QP} {M : QM} {st : List CV} {L : QL} : Rr C mX13_noMove (36, L, st, M) x = Rr C mX13_noMove (37, L, qi 0 :: st, M) x := g_pl (show decode cX13_noMove 36 = .ok (.iconst 0, 1) by decide +kernel) rfl
set_option maxRecDepth 20000 in
theorem kX13_noMove_37 {C : QC} {x : QP} {M : QM} {L : QL} {rest : List CV} {a0 a1 : CV} {v : CV} {M1 : QM} {b : Nat} (hb : q_kd M b = (1, 13)) (hC : C iX13_has [qr b, a0, a1] M (some v) M1) (hw : (rest.map q_wd).sum ≤ 8) (k : Rr C mX13_noMove (40, L, v :: rest, M1) x) : Rr C mX13_noMove (37, L, a1 :: a0 :: qr b :: rest, M) x := g_cv (ow := 13) (e := (0, 207, 13, [1391, 1393, 32, 94])) (as := [a0, a1]) (show decode cX13_noMove 37 = .ok (.invokevirtual 47, 3) by decide +kernel) rfl rfl rfl (Or.inl rfl) rfl hb hC hw k
set_option maxRecDepth 20000 in
theorem kX13_noMove_40 {C : QC} {x : QP} {M : QM} {st : List CV} {L : QL} {l0 l1 l2 l3 l4 : Option CV} {r : Option Nat} : Rr C mX13_noMove (40, [some (.inr (.inr r)), l1, l2, l3, l4], st, M) x = Rr C mX13_noMove (41, [some (.inr (.inr r)), l1, l2, l3, l4], .inr (.inr r) :: st, M) x := g_pl (show decode cX13_noMove 40 = .ok (.aload_n 0, 1) by decide +kernel) rfl
set_option maxRecDepth 20000 in
theorem kX13_noMove_41 {C : QC} {x : QP} {M : QM} {st : List CV} {L : QL} {l0 l1 l2 l3 l4 : Option CV} {z : Int} : Rr C mX13_noMove (41, [l0, some (qi z), l2, l3, l4], st, M) x = Rr C mX13_noMove (42, [l0, some (qi z), l2, l3, l4], qi z :: st, M) x := g_pl (show decode cX13_noMove 41 = .ok (.iload_n 1, 1) by decide +kernel) rfl
set_option maxRecDepth 20000 in
theorem kX13_noMove_42 {C : QC} {x : QP} {M : QM} {st : List CV} {L : QL} : Rr C mX13_noMove (42, L, st, M) x = Rr C mX13_noMove (43, L, qi 0 :: st, M) x := g_pl (show decode cX13_noMove 42 = .ok (.iconst 0, 1) by decide +kernel) rfl
set_option maxRecDepth 20000 in
theorem kX13_noMove_43 {C : QC} {x : QP} {M : QM} {L : QL} {rest : List CV} {a0 a1 : CV} {v : CV} {M1 : QM} {b : Nat} (hb : q_kd M b = (1, 13)) (hC : C iX13_has [qr b, a0, a1] M (some v) M1) (hw : (rest.map q_wd).sum ≤ 8) (k : Rr C mX13_noMove (46, L, v :: rest, M1) x) : Rr C mX13_noMove (43, L, a1 :: a0 :: qr b :: rest, M) x := g_cv (ow := 13) (e := (0, 207, 13, [1391, 1393, 32, 94])) (as := [a0, a1]) (show decode cX13_noMove 43 = .ok (.invokevirtual 47, 3) by decide +kernel) rfl rfl rfl (Or.inl rfl) rfl hb hC hw k
set_option maxRecDepth 20000 in
theorem kX13_noMove_46 {C : QC} {x : QP} {M : QM} {st : List CV} {L : QL} {a b : Int} (ha1 : -2147483648 ≤ a) (ha2 : a < 2147483648) (hb1 : -2147483648 ≤ b) (hb2 : b < 2147483648) : Rr C mX13_noMove (46, L, qi b :: qi a :: st, M) x = (if a < b then Rr C mX13_noMove (53, L, st, M) x else Rr C mX13_noMove (49, L, st, M) x) := (g_icmp (show decode cX13_noMove 46 = .ok (.if_icmp .lt 7, 3) by decide +kernel) rfl ha1 ha2 hb1 hb2).trans (g_ite c_lt)
set_option maxRecDepth 20000 in
theorem kX13_noMove_49 {C : QC} {x : QP} {M : QM} {st : List CV} {L : QL} : Rr C mX13_noMove (49, L, st, M) x = Rr C mX13_noMove (50, L, qi 4 :: st, M) x := g_pl (show decode cX13_noMove 49 = .ok (.iconst 4, 1) by decide +kernel) rfl
set_option maxRecDepth 20000 in
theorem kX13_noMove_50 {C : QC} {x : QP} {M : QM} {st : List CV} {L : QL} : Rr C mX13_noMove (50, L, st, M) x = Rr C mX13_noMove (67, L, st, M) x := g_pl (show decode cX13_noMove 50 = .ok (.goto 17, 3) by decide +kernel) rfl
set_option maxRecDepth 20000 in
theorem kX13_noMove_53 {C : QC} {x : QP} {M : QM} {st : List CV} {L : QL} {l0 l1 l2 l3 l4 : Option CV} {r : Option Nat} : Rr C mX13_noMove (53, [some (.inr (.inr r)), l1, l2, l3, l4], st, M) x = Rr C mX13_noMove (54, [some (.inr (.inr r)), l1, l2, l3, l4], .inr (.inr r) :: st, M) x := g_pl (show decode cX13_noMove 53 = .ok (.aload_n 0, 1) by decide +kernel) rfl
set_option maxRecDepth 20000 in
theorem kX13_noMove_54 {C : QC} {x : QP} {M : QM} {st : List CV} {L : QL} {l0 l1 l2 l3 l4 : Option CV} {z : Int} : Rr C mX13_noMove (54, [l0, l1, some (qi z), l3, l4], st, M) x = Rr C mX13_noMove (55, [l0, l1, some (qi z), l3, l4], qi z :: st, M) x := g_pl (show decode cX13_noMove 54 = .ok (.iload_n 2, 1) by decide +kernel) rfl
set_option maxRecDepth 20000 in
theorem kX13_noMove_55 {C : QC} {x : QP} {M : QM} {st : List CV} {L : QL} {l0 l1 l2 l3 l4 : Option CV} {z : Int} : Rr C mX13_noMove (55, [l0, l1, l2, some (qi z), l4], st, M) x = Rr C mX13_noMove (56, [l0, l1, l2, some (qi z), l4], qi z :: st, M) x := g_pl (show decode cX13_noMove 55 = .ok (.iload_n 3, 1) by decide +kernel) rfl
set_option maxRecDepth 20000 in
theorem kX13_noMove_56 {C : QC} {x : QP} {M : QM} {L : QL} {rest : List CV} {a0 a1 : CV} {v : CV} {M1 : QM} {b : Nat} (hb : q_kd M b = (1, 13)) (hC : C iX13_canBeParent [qr b, a0, a1] M (some v) M1) (hw : (rest.map q_wd).sum ≤ 8) (k : Rr C mX13_noMove (59, L, v :: rest, M1) x) : Rr C mX13_noMove (56, L, a1 :: a0 :: qr b :: rest, M) x := g_cv (ow := 13) (e := (0, 208, 13, [1395, 1397, 33, 94])) (as := [a0, a1]) (show decode cX13_noMove 56 = .ok (.invokevirtual 100, 3) by decide +kernel) rfl rfl rfl (Or.inl rfl) rfl hb hC hw k
set_option maxRecDepth 20000 in
theorem kX13_noMove_59 {C : QC} {x : QP} {M : QM} {st : List CV} {L : QL} {a : Int} (ha1 : -2147483648 ≤ a) (ha2 : a < 2147483648) : Rr C mX13_noMove (59, L, qi a :: st, M) x = (if a = 0 then Rr C mX13_noMove (66, L, st, M) x else Rr C mX13_noMove (62, L, st, M) x) := (g_if (show decode cX13_noMove 59 = .ok (.ifCond .eq 7, 3) by decide +kernel) rfl ha1 ha2).trans (g_ite c_eq)
set_option maxRecDepth 20000 in
theorem kX13_noMove_62 {C : QC} {x : QP} {M : QM} {st : List CV} {L : QL} : Rr C mX13_noMove (62, L, st, M) x = Rr C mX13_noMove (63, L, qi 0 :: st, M) x := g_pl (show decode cX13_noMove 62 = .ok (.iconst 0, 1) by decide +kernel) rfl
set_option maxRecDepth 20000 in
theorem kX13_noMove_63 {C : QC} {x : QP} {M : QM} {st : List CV} {L : QL} : Rr C mX13_noMove (63, L, st, M) x = Rr C mX13_noMove (67, L, st, M) x := g_pl (show decode cX13_noMove 63 = .ok (.goto 4, 3) by decide +kernel) rfl
set_option maxRecDepth 20000 in
theorem kX13_noMove_66 {C : QC} {x : QP} {M : QM} {st : List CV} {L : QL} : Rr C mX13_noMove (66, L, st, M) x = Rr C mX13_noMove (67, L, qi 5 :: st, M) x := g_pl (show decode cX13_noMove 66 = .ok (.iconst 5, 1) by decide +kernel) rfl
set_option maxRecDepth 20000 in
theorem kX13_noMove_67 {C : QC} {x : QP} {M : QM} {st : List CV} {L : QL} {z : Int} : Rr C mX13_noMove (67, L, [qi z], M) x = x (some (qi z)) M := g_iret (show decode cX13_noMove 67 = .ok (.ireturn, 1) by decide +kernel) rfl
set_option maxRecDepth 20000 in
theorem eX13_noMove {d : Nat} {M : QM} {x : QP} {a : Nat} {v0 : Int} {v1 : Int} {v2 : Int} : q_T (d + 1) iX13_noMove [qr a, qi v0, qi v1, qi v2] M x = Rr (q_C d) mX13_noMove (0, [some (qr a), some (qi v0), some (qi v1), some (qi v2), none], [], M) x := g_entryT (e := _) rfl (Nat.le_of_ble_eq_true rfl) rfl rfl
def mX13_noSplit : QI := (13, cX13_noSplit, false, some .int)
set_option maxRecDepth 20000 in
theorem kX13_noSplit_0 {C : QC} {x : QP} {M : QM} {st : List CV} {L : QL} {l0 l1 l2 l3 : Option CV} {r : Option Nat} : Rr C mX13_noSplit (0, [some (.inr (.inr r)), l1, l2, l3], st, M) x = Rr C mX13_noSplit (1, [some (.inr (.inr r)), l1, l2, l3], .inr (.inr r) :: st, M) x := g_pl (show decode cX13_noSplit 0 = .ok (.aload_n 0, 1) by decide +kernel) rfl
set_option maxRecDepth 20000 in
theorem kX13_noSplit_1 {C : QC} {x : QP} {M : QM} {st : List CV} {L : QL} {l0 l1 l2 l3 : Option CV} {z : Int} : Rr C mX13_noSplit (1, [l0, some (qi z), l2, l3], st, M) x = Rr C mX13_noSplit (2, [l0, some (qi z), l2, l3], qi z :: st, M) x := g_pl (show decode cX13_noSplit 1 = .ok (.iload_n 1, 1) by decide +kernel) rfl
set_option maxRecDepth 20000 in
theorem kX13_noSplit_2 {C : QC} {x : QP} {M : QM} {st : List CV} {L : QL} {l0 l1 l2 l3 : Option CV} {z : Int} : Rr C mX13_noSplit (2, [l0, l1, some (qi z), l3], st, M) x = Rr C mX13_noSplit (3, [l0, l1, some (qi z), l3], qi z :: st, M) x := g_pl (show decode cX13_noSplit 2 = .ok (.iload_n 2, 1) by decide +kernel) rfl
set_option maxRecDepth 20000 in
theorem kX13_noSplit_3 {C : QC} {x : QP} {M : QM} {L : QL} {rest : List CV} {a0 a1 : CV} {v : CV} {M1 : QM} {b : Nat} (hb : q_kd M b = (1, 13)) (hC : C iX13_noEvent [qr b, a0, a1] M (some v) M1) (hw : (rest.map q_wd).sum ≤ 8) (k : Rr C mX13_noSplit (6, L, v :: rest, M1) x) : Rr C mX13_noSplit (3, L, a1 :: a0 :: qr b :: rest, M) x := g_cv (ow := 13) (e := (0, 219, 13, [1439, 1441, 43, 94])) (as := [a0, a1]) (show decode cX13_noSplit 3 = .ok (.invokevirtual 106, 3) by decide +kernel) rfl rfl rfl (Or.inl rfl) rfl hb hC hw k
set_option maxRecDepth 20000 in
theorem kX13_noSplit_6 {C : QC} {x : QP} {M : QM} {st : List CV} {L : QL} {l0 l1 l2 l3 : Option CV} {z : Int} : Rr C mX13_noSplit (6, [l0, l1, l2, l3], qi z :: st, M) x = Rr C mX13_noSplit (7, [l0, l1, q_cut l2, some (qi z)], st, M) x := g_pl (show decode cX13_noSplit 6 = .ok (.istore_n 3, 1) by decide +kernel) rfl
set_option maxRecDepth 20000 in
theorem kX13_noSplit_7 {C : QC} {x : QP} {M : QM} {st : List CV} {L : QL} {l0 l1 l2 l3 : Option CV} {z : Int} : Rr C mX13_noSplit (7, [l0, l1, l2, some (qi z)], st, M) x = Rr C mX13_noSplit (8, [l0, l1, l2, some (qi z)], qi z :: st, M) x := g_pl (show decode cX13_noSplit 7 = .ok (.iload_n 3, 1) by decide +kernel) rfl
set_option maxRecDepth 20000 in
theorem kX13_noSplit_8 {C : QC} {x : QP} {M : QM} {st : List CV} {L : QL} {a : Int} (ha1 : -2147483648 ≤ a) (ha2 : a < 2147483648) : Rr C mX13_noSplit (8, L, qi a :: st, M) x = (if a = 0 then Rr C mX13_noSplit (13, L, st, M) x else Rr C mX13_noSplit (11, L, st, M) x) := (g_if (show decode cX13_noSplit 8 = .ok (.ifCond .eq 5, 3) by decide +kernel) rfl ha1 ha2).trans (g_ite c_eq)
set_option maxRecDepth 20000 in
theorem kX13_noSplit_11 {C : QC} {x : QP} {M : QM} {st : List CV} {L : QL} {l0 l1 l2 l3 : Option CV} {z : Int} : Rr C mX13_noSplit (11, [l0, l1, l2, some (qi z)], st, M) x = Rr C mX13_noSplit (12, [l0, l1, l2, some (qi z)], qi z :: st, M) x := g_pl (show decode cX13_noSplit 11 = .ok (.iload_n 3, 1) by decide +kernel) rfl
set_option maxRecDepth 20000 in
theorem kX13_noSplit_12 {C : QC} {x : QP} {M : QM} {st : List CV} {L : QL} {z : Int} : Rr C mX13_noSplit (12, L, [qi z], M) x = x (some (qi z)) M := g_iret (show decode cX13_noSplit 12 = .ok (.ireturn, 1) by decide +kernel) rfl
set_option maxRecDepth 20000 in
theorem kX13_noSplit_13 {C : QC} {x : QP} {M : QM} {st : List CV} {L : QL} {l0 l1 l2 l3 : Option CV} {r : Option Nat} : Rr C mX13_noSplit (13, [some (.inr (.inr r)), l1, l2, l3], st, M) x = Rr C mX13_noSplit (14, [some (.inr (.inr r)), l1, l2, l3], .inr (.inr r) :: st, M) x := g_pl (show decode cX13_noSplit 13 = .ok (.aload_n 0, 1) by decide +kernel) rfl
set_option maxRecDepth 20000 in
theorem kX13_noSplit_14 {C : QC} {x : QP} {M : QM} {st : List CV} {L : QL} {l0 l1 l2 l3 : Option CV} {z : Int} : Rr C mX13_noSplit (14, [l0, some (qi z), l2, l3], st, M) x = Rr C mX13_noSplit (15, [l0, some (qi z), l2, l3], qi z :: st, M) x := g_pl (show decode cX13_noSplit 14 = .ok (.iload_n 1, 1) by decide +kernel) rfl
set_option maxRecDepth 20000 in
theorem kX13_noSplit_15 {C : QC} {x : QP} {M : QM} {st : List CV} {L : QL} : Rr C mX13_noSplit (15, L, st, M) x = Rr C mX13_noSplit (16, L, qi 0 :: st, M) x := g_pl (show decode cX13_noSplit 15 = .ok (.iconst 0, 1) by decide +kernel) rfl
set_option maxRecDepth 20000 in
theorem kX13_noSplit_16 {C : QC} {x : QP} {M : QM} {L : QL} {rest : List CV} {a0 a1 : CV} {v : CV} {M1 : QM} {b : Nat} (hb : q_kd M b = (1, 13)) (hC : C iX13_has [qr b, a0, a1] M (some v) M1) (hw : (rest.map q_wd).sum ≤ 8) (k : Rr C mX13_noSplit (19, L, v :: rest, M1) x) : Rr C mX13_noSplit (16, L, a1 :: a0 :: qr b :: rest, M) x := g_cv (ow := 13) (e := (0, 207, 13, [1391, 1393, 32, 94])) (as := [a0, a1]) (show decode cX13_noSplit 16 = .ok (.invokevirtual 47, 3) by decide +kernel) rfl rfl rfl (Or.inl rfl) rfl hb hC hw k
set_option maxRecDepth 20000 in
theorem kX13_noSplit_19 {C : QC} {x : QP} {M : QM} {st : List CV} {L : QL} {a : Int} (ha1 : -2147483648 ≤ a) (ha2 : a < 2147483648) : Rr C mX13_noSplit (19, L, qi a :: st, M) x = (if 0 < a then Rr C mX13_noSplit (22, L, st, M) x else Rr C mX13_noSplit (38, L, st, M) x) := (g_if (show decode cX13_noSplit 19 = .ok (.ifCond .le 19, 3) by decide +kernel) rfl ha1 ha2).trans (g_itn c_le)
set_option maxRecDepth 20000 in
theorem kX13_noSplit_22 {C : QC} {x : QP} {M : QM} {st : List CV} {L : QL} {l0 l1 l2 l3 : Option CV} {r : Option Nat} : Rr C mX13_noSplit (22, [some (.inr (.inr r)), l1, l2, l3], st, M) x = Rr C mX13_noSplit (23, [some (.inr (.inr r)), l1, l2, l3], .inr (.inr r) :: st, M) x := g_pl (show decode cX13_noSplit 22 = .ok (.aload_n 0, 1) by decide +kernel) rfl
set_option maxRecDepth 20000 in
theorem kX13_noSplit_23 {C : QC} {x : QP} {M : QM} {st : List CV} {L : QL} {l0 l1 l2 l3 : Option CV} {r : Option Nat} : Rr C mX13_noSplit (23, [some (.inr (.inr r)), l1, l2, l3], st, M) x = Rr C mX13_noSplit (24, [some (.inr (.inr r)), l1, l2, l3], .inr (.inr r) :: st, M) x := g_pl (show decode cX13_noSplit 23 = .ok (.aload_n 0, 1) by decide +kernel) rfl
set_option maxRecDepth 20000 in
theorem kX13_noSplit_24 {C : QC} {x : QP} {M : QM} {st : List CV} {L : QL} {l0 l1 l2 l3 : Option CV} {z : Int} : Rr C mX13_noSplit (24, [l0, some (qi z), l2, l3], st, M) x = Rr C mX13_noSplit (25, [l0, some (qi z), l2, l3], qi z :: st, M) x := g_pl (show decode cX13_noSplit 24 = .ok (.iload_n 1, 1) by decide +kernel) rfl
set_option maxRecDepth 20000 in
theorem kX13_noSplit_25 {C : QC} {x : QP} {M : QM} {st : List CV} {L : QL} {l0 l1 l2 l3 : Option CV} {z : Int} : Rr C mX13_noSplit (25, [l0, l1, some (qi z), l3], st, M) x = Rr C mX13_noSplit (26, [l0, l1, some (qi z), l3], qi z :: st, M) x := g_pl (show decode cX13_noSplit 25 = .ok (.iload_n 2, 1) by decide +kernel) rfl
set_option maxRecDepth 20000 in
theorem kX13_noSplit_26 {C : QC} {x : QP} {M : QM} {L : QL} {rest : List CV} {a0 a1 : CV} {v : CV} {M1 : QM} {b : Nat} (hb : q_kd M b = (1, 13)) (hC : C iX13_parentOn [qr b, a0, a1] M (some v) M1) (hw : (rest.map q_wd).sum ≤ 8) (k : Rr C mX13_noSplit (29, L, v :: rest, M1) x) : Rr C mX13_noSplit (26, L, a1 :: a0 :: qr b :: rest, M) x := g_cv (ow := 13) (e := (0, 227, 13, [1471, 1473, 50, 94])) (as := [a0, a1]) (show decode cX13_noSplit 26 = .ok (.invokevirtual 66, 3) by decide +kernel) rfl rfl rfl (Or.inl rfl) rfl hb hC hw k
set_option maxRecDepth 20000 in
theorem kX13_noSplit_29 {C : QC} {x : QP} {M : QM} {st : List CV} {L : QL} {l0 l1 l2 l3 : Option CV} {z : Int} : Rr C mX13_noSplit (29, [l0, l1, some (qi z), l3], st, M) x = Rr C mX13_noSplit (30, [l0, l1, some (qi z), l3], qi z :: st, M) x := g_pl (show decode cX13_noSplit 29 = .ok (.iload_n 2, 1) by decide +kernel) rfl
set_option maxRecDepth 20000 in
theorem kX13_noSplit_30 {C : QC} {x : QP} {M : QM} {L : QL} {rest : List CV} {a0 a1 : CV} {v : CV} {M1 : QM} {b : Nat} (hb : q_kd M b = (1, 13)) (hC : C iX13_canBeParent [qr b, a0, a1] M (some v) M1) (hw : (rest.map q_wd).sum ≤ 8) (k : Rr C mX13_noSplit (33, L, v :: rest, M1) x) : Rr C mX13_noSplit (30, L, a1 :: a0 :: qr b :: rest, M) x := g_cv (ow := 13) (e := (0, 208, 13, [1395, 1397, 33, 94])) (as := [a0, a1]) (show decode cX13_noSplit 30 = .ok (.invokevirtual 100, 3) by decide +kernel) rfl rfl rfl (Or.inl rfl) rfl hb hC hw k
set_option maxRecDepth 20000 in
theorem kX13_noSplit_33 {C : QC} {x : QP} {M : QM} {st : List CV} {L : QL} {a : Int} (ha1 : -2147483648 ≤ a) (ha2 : a < 2147483648) : Rr C mX13_noSplit (33, L, qi a :: st, M) x = (if a = 0 then Rr C mX13_noSplit (36, L, st, M) x else Rr C mX13_noSplit (38, L, st, M) x) := (g_if (show decode cX13_noSplit 33 = .ok (.ifCond .ne 5, 3) by decide +kernel) rfl ha1 ha2).trans (g_itn c_ne)
set_option maxRecDepth 20000 in
theorem kX13_noSplit_36 {C : QC} {x : QP} {M : QM} {st : List CV} {L : QL} : Rr C mX13_noSplit (36, L, st, M) x = Rr C mX13_noSplit (37, L, qi 5 :: st, M) x := g_pl (show decode cX13_noSplit 36 = .ok (.iconst 5, 1) by decide +kernel) rfl
set_option maxRecDepth 20000 in
theorem kX13_noSplit_37 {C : QC} {x : QP} {M : QM} {st : List CV} {L : QL} {z : Int} : Rr C mX13_noSplit (37, L, [qi z], M) x = x (some (qi z)) M := g_iret (show decode cX13_noSplit 37 = .ok (.ireturn, 1) by decide +kernel) rfl
set_option maxRecDepth 20000 in
theorem kX13_noSplit_38 {C : QC} {x : QP} {M : QM} {st : List CV} {L : QL} {l0 l1 l2 l3 : Option CV} {r : Option Nat} : Rr C mX13_noSplit (38, [some (.inr (.inr r)), l1, l2, l3], st, M) x = Rr C mX13_noSplit (39, [some (.inr (.inr r)), l1, l2, l3], .inr (.inr r) :: st, M) x := g_pl (show decode cX13_noSplit 38 = .ok (.aload_n 0, 1) by decide +kernel) rfl
set_option maxRecDepth 20000 in
theorem kX13_noSplit_39 {C : QC} {x : QP} {M : QM} {st : List CV} {L : QL} {a : Nat} (hk : q_kd M a = (1, 13)) : Rr C mX13_noSplit (39, L, qr a :: st, M) x = Rr C mX13_noSplit (42, L, q_fv M a 0 :: st, M) x := g_getf (ow := 13) (e := (13, 0, RX13, 1301, 0)) (show decode cX13_noSplit 39 = .ok (.getfield 10, 3) by decide +kernel) rfl hk
set_option maxRecDepth 20000 in
theorem kX13_noSplit_42 {C : QC} {x : QP} {M : QM} {st : List CV} {L : QL} : Rr C mX13_noSplit (42, L, st, M) x = Rr C mX13_noSplit (43, L, qi 0 :: st, M) x := g_pl (show decode cX13_noSplit 42 = .ok (.iconst 0, 1) by decide +kernel) rfl
set_option maxRecDepth 20000 in
theorem kX13_noSplit_43 {C : QC} {x : QP} {M : QM} {st : List CV} {L : QL} {a : Nat} {j : Int} (hk : (q_kd M a).1 = 2) (h0 : 0 ≤ j) (h1 : j < ((q_kd M a).2 : Int)) : Rr C mX13_noSplit (43, L, qi j :: qr a :: st, M) x = Rr C mX13_noSplit (44, L, q_fv M a j.toNat :: st, M) x := g_iald (show decode cX13_noSplit 43 = .ok (.iaload, 1) by decide +kernel) hk h0 h1
set_option maxRecDepth 20000 in
theorem kX13_noSplit_44 {C : QC} {x : QP} {M : QM} {st : List CV} {L : QL} : Rr C mX13_noSplit (44, L, st, M) x = Rr C mX13_noSplit (46, L, qi 20 :: st, M) x := g_pl (show decode cX13_noSplit 44 = .ok (.bipush 20, 2) by decide +kernel) rfl
set_option maxRecDepth 20000 in
theorem kX13_noSplit_46 {C : QC} {x : QP} {M : QM} {st : List CV} {L : QL} {a b : Int} (ha1 : -2147483648 ≤ a) (ha2 : a < 2147483648) (hb1 : -2147483648 ≤ b) (hb2 : b < 2147483648) : Rr C mX13_noSplit (46, L, qi b :: qi a :: st, M) x = (if a = b then Rr C mX13_noSplit (49, L, st, M) x else Rr C mX13_noSplit (54, L, st, M) x) := (g_icmp (show decode cX13_noSplit 46 = .ok (.if_icmp .ne 8, 3) by decide +kernel) rfl ha1 ha2 hb1 hb2).trans (g_itn c_ne)
set_option maxRecDepth 20000 in
theorem kX13_noSplit_49 {C : QC} {x : QP} {M : QM} {st : List CV} {L : QL} : Rr C mX13_noSplit (49, L, st, M) x = Rr C mX13_noSplit (51, L, qi 6 :: st, M) x := g_pl (show decode cX13_noSplit 49 = .ok (.bipush 6, 2) by decide +kernel) rfl
set_option maxRecDepth 20000 in
theorem kX13_noSplit_51 {C : QC} {x : QP} {M : QM} {st : List CV} {L : QL} : Rr C mX13_noSplit (51, L, st, M) x = Rr C mX13_noSplit (55, L, st, M) x := g_pl (show decode cX13_noSplit 51 = .ok (.goto 4, 3) by decide +kernel) rfl
set_option maxRecDepth 20000 in
theorem kX13_noSplit_54 {C : QC} {x : QP} {M : QM} {st : List CV} {L : QL} : Rr C mX13_noSplit (54, L, st, M) x = Rr C mX13_noSplit (55, L, qi 0 :: st, M) x := g_pl (show decode cX13_noSplit 54 = .ok (.iconst 0, 1) by decide +kernel) rfl
set_option maxRecDepth 20000 in
theorem kX13_noSplit_55 {C : QC} {x : QP} {M : QM} {st : List CV} {L : QL} {z : Int} : Rr C mX13_noSplit (55, L, [qi z], M) x = x (some (qi z)) M := g_iret (show decode cX13_noSplit 55 = .ok (.ireturn, 1) by decide +kernel) rfl
set_option maxRecDepth 20000 in
theorem eX13_noSplit {d : Nat} {M : QM} {x : QP} {a : Nat} {v0 : Int} {v1 : Int} : q_T (d + 1) iX13_noSplit [qr a, qi v0, qi v1] M x = Rr (q_C d) mX13_noSplit (0, [some (qr a), some (qi v0), some (qi v1), none], [], M) x := g_entryT (e := _) rfl (Nat.le_of_ble_eq_true rfl) rfl rfl
def mX13_noMerge : QI := (13, cX13_noMerge, false, some .int)
set_option maxRecDepth 20000 in
theorem kX13_noMerge_0 {C : QC} {x : QP} {M : QM} {st : List CV} {L : QL} {l0 l1 l2 l3 l4 : Option CV} {r : Option Nat} : Rr C mX13_noMerge (0, [some (.inr (.inr r)), l1, l2, l3, l4], st, M) x = Rr C mX13_noMerge (1, [some (.inr (.inr r)), l1, l2, l3, l4], .inr (.inr r) :: st, M) x := g_pl (show decode cX13_noMerge 0 = .ok (.aload_n 0, 1) by decide +kernel) rfl
set_option maxRecDepth 20000 in
theorem kX13_noMerge_1 {C : QC} {x : QP} {M : QM} {st : List CV} {L : QL} {l0 l1 l2 l3 l4 : Option CV} {z : Int} : Rr C mX13_noMerge (1, [l0, some (qi z), l2, l3, l4], st, M) x = Rr C mX13_noMerge (2, [l0, some (qi z), l2, l3, l4], qi z :: st, M) x := g_pl (show decode cX13_noMerge 1 = .ok (.iload_n 1, 1) by decide +kernel) rfl
set_option maxRecDepth 20000 in
theorem kX13_noMerge_2 {C : QC} {x : QP} {M : QM} {L : QL} {rest : List CV} {a0 : CV} {v : CV} {M1 : QM} {b : Nat} (hb : q_kd M b = (1, 13)) (hC : C iX13_isPlace [qr b, a0] M (some v) M1) (hw : (rest.map q_wd).sum ≤ 8) (k : Rr C mX13_noMerge (5, L, v :: rest, M1) x) : Rr C mX13_noMerge (2, L, a0 :: qr b :: rest, M) x := g_cv (ow := 13) (e := (0, 205, 13, [1384, 1386, 31, 94])) (as := [a0]) (show decode cX13_noMerge 2 = .ok (.invokevirtual 94, 3) by decide +kernel) rfl rfl rfl (Or.inl rfl) rfl hb hC hw k
set_option maxRecDepth 20000 in
theorem kX13_noMerge_5 {C : QC} {x : QP} {M : QM} {st : List CV} {L : QL} {a : Int} (ha1 : -2147483648 ≤ a) (ha2 : a < 2147483648) : Rr C mX13_noMerge (5, L, qi a :: st, M) x = (if a = 0 then Rr C mX13_noMerge (16, L, st, M) x else Rr C mX13_noMerge (8, L, st, M) x) := (g_if (show decode cX13_noMerge 5 = .ok (.ifCond .eq 11, 3) by decide +kernel) rfl ha1 ha2).trans (g_ite c_eq)
set_option maxRecDepth 20000 in
theorem kX13_noMerge_8 {C : QC} {x : QP} {M : QM} {st : List CV} {L : QL} {l0 l1 l2 l3 l4 : Option CV} {r : Option Nat} : Rr C mX13_noMerge (8, [some (.inr (.inr r)), l1, l2, l3, l4], st, M) x = Rr C mX13_noMerge (9, [some (.inr (.inr r)), l1, l2, l3, l4], .inr (.inr r) :: st, M) x := g_pl (show decode cX13_noMerge 8 = .ok (.aload_n 0, 1) by decide +kernel) rfl
set_option maxRecDepth 20000 in
theorem kX13_noMerge_9 {C : QC} {x : QP} {M : QM} {st : List CV} {L : QL} {l0 l1 l2 l3 l4 : Option CV} {z : Int} : Rr C mX13_noMerge (9, [l0, l1, some (qi z), l3, l4], st, M) x = Rr C mX13_noMerge (10, [l0, l1, some (qi z), l3, l4], qi z :: st, M) x := g_pl (show decode cX13_noMerge 9 = .ok (.iload_n 2, 1) by decide +kernel) rfl
set_option maxRecDepth 20000 in
theorem kX13_noMerge_10 {C : QC} {x : QP} {M : QM} {L : QL} {rest : List CV} {a0 : CV} {v : CV} {M1 : QM} {b : Nat} (hb : q_kd M b = (1, 13)) (hC : C iX13_isPlace [qr b, a0] M (some v) M1) (hw : (rest.map q_wd).sum ≤ 8) (k : Rr C mX13_noMerge (13, L, v :: rest, M1) x) : Rr C mX13_noMerge (10, L, a0 :: qr b :: rest, M) x := g_cv (ow := 13) (e := (0, 205, 13, [1384, 1386, 31, 94])) (as := [a0]) (show decode cX13_noMerge 10 = .ok (.invokevirtual 94, 3) by decide +kernel) rfl rfl rfl (Or.inl rfl) rfl hb hC hw k
set_option maxRecDepth 20000 in
theorem kX13_noMerge_13 {C : QC} {x : QP} {M : QM} {st : List CV} {L : QL} {a : Int} (ha1 : -2147483648 ≤ a) (ha2 : a < 2147483648) : Rr C mX13_noMerge (13, L, qi a :: st, M) x = (if a = 0 then Rr C mX13_noMerge (16, L, st, M) x else Rr C mX13_noMerge (18, L, st, M) x) := (g_if (show decode cX13_noMerge 13 = .ok (.ifCond .ne 5, 3) by decide +kernel) rfl ha1 ha2).trans (g_itn c_ne)
set_option maxRecDepth 20000 in
theorem kX13_noMerge_16 {C : QC} {x : QP} {M : QM} {st : List CV} {L : QL} : Rr C mX13_noMerge (16, L, st, M) x = Rr C mX13_noMerge (17, L, qi 1 :: st, M) x := g_pl (show decode cX13_noMerge 16 = .ok (.iconst 1, 1) by decide +kernel) rfl
set_option maxRecDepth 20000 in
theorem kX13_noMerge_17 {C : QC} {x : QP} {M : QM} {st : List CV} {L : QL} {z : Int} : Rr C mX13_noMerge (17, L, [qi z], M) x = x (some (qi z)) M := g_iret (show decode cX13_noMerge 17 = .ok (.ireturn, 1) by decide +kernel) rfl
set_option maxRecDepth 20000 in
theorem kX13_noMerge_18 {C : QC} {x : QP} {M : QM} {st : List CV} {L : QL} {l0 l1 l2 l3 l4 : Option CV} {z : Int} : Rr C mX13_noMerge (18, [l0, some (qi z), l2, l3, l4], st, M) x = Rr C mX13_noMerge (19, [l0, some (qi z), l2, l3, l4], qi z :: st, M) x := g_pl (show decode cX13_noMerge 18 = .ok (.iload_n 1, 1) by decide +kernel) rfl
set_option maxRecDepth 20000 in
theorem kX13_noMerge_19 {C : QC} {x : QP} {M : QM} {st : List CV} {L : QL} {l0 l1 l2 l3 l4 : Option CV} {z : Int} : Rr C mX13_noMerge (19, [l0, l1, some (qi z), l3, l4], st, M) x = Rr C mX13_noMerge (20, [l0, l1, some (qi z), l3, l4], qi z :: st, M) x := g_pl (show decode cX13_noMerge 19 = .ok (.iload_n 2, 1) by decide +kernel) rfl
set_option maxRecDepth 20000 in
theorem kX13_noMerge_20 {C : QC} {x : QP} {M : QM} {st : List CV} {L : QL} {a b : Int} (ha1 : -2147483648 ≤ a) (ha2 : a < 2147483648) (hb1 : -2147483648 ≤ b) (hb2 : b < 2147483648) : Rr C mX13_noMerge (20, L, qi b :: qi a :: st, M) x = (if a = b then Rr C mX13_noMerge (23, L, st, M) x else Rr C mX13_noMerge (26, L, st, M) x) := (g_icmp (show decode cX13_noMerge 20 = .ok (.if_icmp .ne 6, 3) by decide +kernel) rfl ha1 ha2 hb1 hb2).trans (g_itn c_ne)
set_option maxRecDepth 20000 in
theorem kX13_noMerge_23 {C : QC} {x : QP} {M : QM} {st : List CV} {L : QL} : Rr C mX13_noMerge (23, L, st, M) x = Rr C mX13_noMerge (25, L, qi 8 :: st, M) x := g_pl (show decode cX13_noMerge 23 = .ok (.bipush 8, 2) by decide +kernel) rfl
set_option maxRecDepth 20000 in
theorem kX13_noMerge_25 {C : QC} {x : QP} {M : QM} {st : List CV} {L : QL} {z : Int} : Rr C mX13_noMerge (25, L, [qi z], M) x = x (some (qi z)) M := g_iret (show decode cX13_noMerge 25 = .ok (.ireturn, 1) by decide +kernel) rfl
set_option maxRecDepth 20000 in
theorem kX13_noMerge_26 {C : QC} {x : QP} {M : QM} {st : List CV} {L : QL} {l0 l1 l2 l3 l4 : Option CV} {r : Option Nat} : Rr C mX13_noMerge (26, [some (.inr (.inr r)), l1, l2, l3, l4], st, M) x = Rr C mX13_noMerge (27, [some (.inr (.inr r)), l1, l2, l3, l4], .inr (.inr r) :: st, M) x := g_pl (show decode cX13_noMerge 26 = .ok (.aload_n 0, 1) by decide +kernel) rfl
set_option maxRecDepth 20000 in
theorem kX13_noMerge_27 {C : QC} {x : QP} {M : QM} {st : List CV} {L : QL} {l0 l1 l2 l3 l4 : Option CV} {z : Int} : Rr C mX13_noMerge (27, [l0, some (qi z), l2, l3, l4], st, M) x = Rr C mX13_noMerge (28, [l0, some (qi z), l2, l3, l4], qi z :: st, M) x := g_pl (show decode cX13_noMerge 27 = .ok (.iload_n 1, 1) by decide +kernel) rfl
set_option maxRecDepth 20000 in
theorem kX13_noMerge_28 {C : QC} {x : QP} {M : QM} {st : List CV} {L : QL} {l0 l1 l2 l3 l4 : Option CV} {z : Int} : Rr C mX13_noMerge (28, [l0, l1, l2, some (qi z), l4], st, M) x = Rr C mX13_noMerge (29, [l0, l1, l2, some (qi z), l4], qi z :: st, M) x := g_pl (show decode cX13_noMerge 28 = .ok (.iload_n 3, 1) by decide +kernel) rfl
set_option maxRecDepth 20000 in
theorem kX13_noMerge_29 {C : QC} {x : QP} {M : QM} {L : QL} {rest : List CV} {a0 a1 : CV} {v : CV} {M1 : QM} {b : Nat} (hb : q_kd M b = (1, 13)) (hC : C iX13_noEvent [qr b, a0, a1] M (some v) M1) (hw : (rest.map q_wd).sum ≤ 8) (k : Rr C mX13_noMerge (32, L, v :: rest, M1) x) : Rr C mX13_noMerge (29, L, a1 :: a0 :: qr b :: rest, M) x := g_cv (ow := 13) (e := (0, 219, 13, [1439, 1441, 43, 94])) (as := [a0, a1]) (show decode cX13_noMerge 29 = .ok (.invokevirtual 106, 3) by decide +kernel) rfl rfl rfl (Or.inl rfl) rfl hb hC hw k
set_option maxRecDepth 20000 in
theorem kX13_noMerge_32 {C : QC} {x : QP} {M : QM} {st : List CV} {L : QL} {l0 l1 l2 l3 l4 : Option CV} {z : Int} : Rr C mX13_noMerge (32, [l0, l1, l2, l3, l4], qi z :: st, M) x = Rr C mX13_noMerge (34, [l0, l1, l2, q_cut l3, some (qi z)], st, M) x := g_pl (show decode cX13_noMerge 32 = .ok (.istore 4, 2) by decide +kernel) rfl
set_option maxRecDepth 20000 in
theorem kX13_noMerge_34 {C : QC} {x : QP} {M : QM} {st : List CV} {L : QL} {l0 l1 l2 l3 l4 : Option CV} {z : Int} : Rr C mX13_noMerge (34, [l0, l1, l2, l3, some (qi z)], st, M) x = Rr C mX13_noMerge (36, [l0, l1, l2, l3, some (qi z)], qi z :: st, M) x := g_pl (show decode cX13_noMerge 34 = .ok (.iload 4, 2) by decide +kernel) rfl
set_option maxRecDepth 20000 in
theorem kX13_noMerge_36 {C : QC} {x : QP} {M : QM} {st : List CV} {L : QL} {a : Int} (ha1 : -2147483648 ≤ a) (ha2 : a < 2147483648) : Rr C mX13_noMerge (36, L, qi a :: st, M) x = (if a = 0 then Rr C mX13_noMerge (42, L, st, M) x else Rr C mX13_noMerge (39, L, st, M) x) := (g_if (show decode cX13_noMerge 36 = .ok (.ifCond .eq 6, 3) by decide +kernel) rfl ha1 ha2).trans (g_ite c_eq)
set_option maxRecDepth 20000 in
theorem kX13_noMerge_39 {C : QC} {x : QP} {M : QM} {st : List CV} {L : QL} {l0 l1 l2 l3 l4 : Option CV} {z : Int} : Rr C mX13_noMerge (39, [l0, l1, l2, l3, some (qi z)], st, M) x = Rr C mX13_noMerge (41, [l0, l1, l2, l3, some (qi z)], qi z :: st, M) x := g_pl (show decode cX13_noMerge 39 = .ok (.iload 4, 2) by decide +kernel) rfl
set_option maxRecDepth 20000 in
theorem kX13_noMerge_41 {C : QC} {x : QP} {M : QM} {st : List CV} {L : QL} {z : Int} : Rr C mX13_noMerge (41, L, [qi z], M) x = x (some (qi z)) M := g_iret (show decode cX13_noMerge 41 = .ok (.ireturn, 1) by decide +kernel) rfl
set_option maxRecDepth 20000 in
theorem kX13_noMerge_42 {C : QC} {x : QP} {M : QM} {st : List CV} {L : QL} {l0 l1 l2 l3 l4 : Option CV} {r : Option Nat} : Rr C mX13_noMerge (42, [some (.inr (.inr r)), l1, l2, l3, l4], st, M) x = Rr C mX13_noMerge (43, [some (.inr (.inr r)), l1, l2, l3, l4], .inr (.inr r) :: st, M) x := g_pl (show decode cX13_noMerge 42 = .ok (.aload_n 0, 1) by decide +kernel) rfl
set_option maxRecDepth 20000 in
theorem kX13_noMerge_43 {C : QC} {x : QP} {M : QM} {st : List CV} {L : QL} {l0 l1 l2 l3 l4 : Option CV} {z : Int} : Rr C mX13_noMerge (43, [l0, some (qi z), l2, l3, l4], st, M) x = Rr C mX13_noMerge (44, [l0, some (qi z), l2, l3, l4], qi z :: st, M) x := g_pl (show decode cX13_noMerge 43 = .ok (.iload_n 1, 1) by decide +kernel) rfl
set_option maxRecDepth 20000 in
theorem kX13_noMerge_44 {C : QC} {x : QP} {M : QM} {st : List CV} {L : QL} : Rr C mX13_noMerge (44, L, st, M) x = Rr C mX13_noMerge (45, L, qi 0 :: st, M) x := g_pl (show decode cX13_noMerge 44 = .ok (.iconst 0, 1) by decide +kernel) rfl
set_option maxRecDepth 20000 in
theorem kX13_noMerge_45 {C : QC} {x : QP} {M : QM} {L : QL} {rest : List CV} {a0 a1 : CV} {v : CV} {M1 : QM} {b : Nat} (hb : q_kd M b = (1, 13)) (hC : C iX13_has [qr b, a0, a1] M (some v) M1) (hw : (rest.map q_wd).sum ≤ 8) (k : Rr C mX13_noMerge (48, L, v :: rest, M1) x) : Rr C mX13_noMerge (45, L, a1 :: a0 :: qr b :: rest, M) x := g_cv (ow := 13) (e := (0, 207, 13, [1391, 1393, 32, 94])) (as := [a0, a1]) (show decode cX13_noMerge 45 = .ok (.invokevirtual 47, 3) by decide +kernel) rfl rfl rfl (Or.inl rfl) rfl hb hC hw k
set_option maxRecDepth 20000 in
theorem kX13_noMerge_48 {C : QC} {x : QP} {M : QM} {st : List CV} {L : QL} {l0 l1 l2 l3 l4 : Option CV} {r : Option Nat} : Rr C mX13_noMerge (48, [some (.inr (.inr r)), l1, l2, l3, l4], st, M) x = Rr C mX13_noMerge (49, [some (.inr (.inr r)), l1, l2, l3, l4], .inr (.inr r) :: st, M) x := g_pl (show decode cX13_noMerge 48 = .ok (.aload_n 0, 1) by decide +kernel) rfl
set_option maxRecDepth 20000 in
theorem kX13_noMerge_49 {C : QC} {x : QP} {M : QM} {st : List CV} {L : QL} {l0 l1 l2 l3 l4 : Option CV} {z : Int} : Rr C mX13_noMerge (49, [l0, l1, some (qi z), l3, l4], st, M) x = Rr C mX13_noMerge (50, [l0, l1, some (qi z), l3, l4], qi z :: st, M) x := g_pl (show decode cX13_noMerge 49 = .ok (.iload_n 2, 1) by decide +kernel) rfl
set_option maxRecDepth 20000 in
theorem kX13_noMerge_50 {C : QC} {x : QP} {M : QM} {st : List CV} {L : QL} : Rr C mX13_noMerge (50, L, st, M) x = Rr C mX13_noMerge (51, L, qi 0 :: st, M) x := g_pl (show decode cX13_noMerge 50 = .ok (.iconst 0, 1) by decide +kernel) rfl
set_option maxRecDepth 20000 in
theorem kX13_noMerge_51 {C : QC} {x : QP} {M : QM} {L : QL} {rest : List CV} {a0 a1 : CV} {v : CV} {M1 : QM} {b : Nat} (hb : q_kd M b = (1, 13)) (hC : C iX13_has [qr b, a0, a1] M (some v) M1) (hw : (rest.map q_wd).sum ≤ 8) (k : Rr C mX13_noMerge (54, L, v :: rest, M1) x) : Rr C mX13_noMerge (51, L, a1 :: a0 :: qr b :: rest, M) x := g_cv (ow := 13) (e := (0, 207, 13, [1391, 1393, 32, 94])) (as := [a0, a1]) (show decode cX13_noMerge 51 = .ok (.invokevirtual 47, 3) by decide +kernel) rfl rfl rfl (Or.inl rfl) rfl hb hC hw k
set_option maxRecDepth 20000 in
theorem kX13_noMerge_54 {C : QC} {x : QP} {M : QM} {st : List CV} {L : QL} {a b : Int} (ha1 : -2147483648 ≤ a) (ha2 : a < 2147483648) (hb1 : -2147483648 ≤ b) (hb2 : b < 2147483648) : Rr C mX13_noMerge (54, L, qi b :: qi a :: st, M) x = (if a = b then Rr C mX13_noMerge (61, L, st, M) x else Rr C mX13_noMerge (57, L, st, M) x) := (g_icmp (show decode cX13_noMerge 54 = .ok (.if_icmp .eq 7, 3) by decide +kernel) rfl ha1 ha2 hb1 hb2).trans (g_ite c_eq)
set_option maxRecDepth 20000 in
theorem kX13_noMerge_57 {C : QC} {x : QP} {M : QM} {st : List CV} {L : QL} : Rr C mX13_noMerge (57, L, st, M) x = Rr C mX13_noMerge (58, L, qi 4 :: st, M) x := g_pl (show decode cX13_noMerge 57 = .ok (.iconst 4, 1) by decide +kernel) rfl
set_option maxRecDepth 20000 in
theorem kX13_noMerge_58 {C : QC} {x : QP} {M : QM} {st : List CV} {L : QL} : Rr C mX13_noMerge (58, L, st, M) x = Rr C mX13_noMerge (75, L, st, M) x := g_pl (show decode cX13_noMerge 58 = .ok (.goto 17, 3) by decide +kernel) rfl
set_option maxRecDepth 20000 in
theorem kX13_noMerge_61 {C : QC} {x : QP} {M : QM} {st : List CV} {L : QL} {l0 l1 l2 l3 l4 : Option CV} {r : Option Nat} : Rr C mX13_noMerge (61, [some (.inr (.inr r)), l1, l2, l3, l4], st, M) x = Rr C mX13_noMerge (62, [some (.inr (.inr r)), l1, l2, l3, l4], .inr (.inr r) :: st, M) x := g_pl (show decode cX13_noMerge 61 = .ok (.aload_n 0, 1) by decide +kernel) rfl
set_option maxRecDepth 20000 in
theorem kX13_noMerge_62 {C : QC} {x : QP} {M : QM} {st : List CV} {L : QL} {l0 l1 l2 l3 l4 : Option CV} {z : Int} : Rr C mX13_noMerge (62, [l0, l1, some (qi z), l3, l4], st, M) x = Rr C mX13_noMerge (63, [l0, l1, some (qi z), l3, l4], qi z :: st, M) x := g_pl (show decode cX13_noMerge 62 = .ok (.iload_n 2, 1) by decide +kernel) rfl
set_option maxRecDepth 20000 in
theorem kX13_noMerge_63 {C : QC} {x : QP} {M : QM} {st : List CV} {L : QL} {l0 l1 l2 l3 l4 : Option CV} {z : Int} : Rr C mX13_noMerge (63, [l0, l1, l2, some (qi z), l4], st, M) x = Rr C mX13_noMerge (64, [l0, l1, l2, some (qi z), l4], qi z :: st, M) x := g_pl (show decode cX13_noMerge 63 = .ok (.iload_n 3, 1) by decide +kernel) rfl
set_option maxRecDepth 20000 in
theorem kX13_noMerge_64 {C : QC} {x : QP} {M : QM} {L : QL} {rest : List CV} {a0 a1 : CV} {v : CV} {M1 : QM} {b : Nat} (hb : q_kd M b = (1, 13)) (hC : C iX13_canBeParent [qr b, a0, a1] M (some v) M1) (hw : (rest.map q_wd).sum ≤ 8) (k : Rr C mX13_noMerge (67, L, v :: rest, M1) x) : Rr C mX13_noMerge (64, L, a1 :: a0 :: qr b :: rest, M) x := g_cv (ow := 13) (e := (0, 208, 13, [1395, 1397, 33, 94])) (as := [a0, a1]) (show decode cX13_noMerge 64 = .ok (.invokevirtual 100, 3) by decide +kernel) rfl rfl rfl (Or.inl rfl) rfl hb hC hw k
set_option maxRecDepth 20000 in
theorem kX13_noMerge_67 {C : QC} {x : QP} {M : QM} {st : List CV} {L : QL} {a : Int} (ha1 : -2147483648 ≤ a) (ha2 : a < 2147483648) : Rr C mX13_noMerge (67, L, qi a :: st, M) x = (if a = 0 then Rr C mX13_noMerge (74, L, st, M) x else Rr C mX13_noMerge (70, L, st, M) x) := (g_if (show decode cX13_noMerge 67 = .ok (.ifCond .eq 7, 3) by decide +kernel) rfl ha1 ha2).trans (g_ite c_eq)
set_option maxRecDepth 20000 in
theorem kX13_noMerge_70 {C : QC} {x : QP} {M : QM} {st : List CV} {L : QL} : Rr C mX13_noMerge (70, L, st, M) x = Rr C mX13_noMerge (71, L, qi 0 :: st, M) x := g_pl (show decode cX13_noMerge 70 = .ok (.iconst 0, 1) by decide +kernel) rfl
set_option maxRecDepth 20000 in
theorem kX13_noMerge_71 {C : QC} {x : QP} {M : QM} {st : List CV} {L : QL} : Rr C mX13_noMerge (71, L, st, M) x = Rr C mX13_noMerge (75, L, st, M) x := g_pl (show decode cX13_noMerge 71 = .ok (.goto 4, 3) by decide +kernel) rfl
set_option maxRecDepth 20000 in
theorem kX13_noMerge_74 {C : QC} {x : QP} {M : QM} {st : List CV} {L : QL} : Rr C mX13_noMerge (74, L, st, M) x = Rr C mX13_noMerge (75, L, qi 5 :: st, M) x := g_pl (show decode cX13_noMerge 74 = .ok (.iconst 5, 1) by decide +kernel) rfl
set_option maxRecDepth 20000 in
theorem kX13_noMerge_75 {C : QC} {x : QP} {M : QM} {st : List CV} {L : QL} {z : Int} : Rr C mX13_noMerge (75, L, [qi z], M) x = x (some (qi z)) M := g_iret (show decode cX13_noMerge 75 = .ok (.ireturn, 1) by decide +kernel) rfl
set_option maxRecDepth 20000 in
theorem eX13_noMerge {d : Nat} {M : QM} {x : QP} {a : Nat} {v0 : Int} {v1 : Int} {v2 : Int} : q_T (d + 1) iX13_noMerge [qr a, qi v0, qi v1, qi v2] M x = Rr (q_C d) mX13_noMerge (0, [some (qr a), some (qi v0), some (qi v1), some (qi v2), none], [], M) x := g_entryT (e := _) rfl (Nat.le_of_ble_eq_true rfl) rfl rfl
def mX13_noClosing : QI := (13, cX13_noClosing, false, some .int)
set_option maxRecDepth 20000 in
theorem kX13_noClosing_0 {C : QC} {x : QP} {M : QM} {st : List CV} {L : QL} {l0 l1 l2 l3 l4 : Option CV} {r : Option Nat} : Rr C mX13_noClosing (0, [some (.inr (.inr r)), l1, l2, l3, l4], st, M) x = Rr C mX13_noClosing (1, [some (.inr (.inr r)), l1, l2, l3, l4], .inr (.inr r) :: st, M) x := g_pl (show decode cX13_noClosing 0 = .ok (.aload_n 0, 1) by decide +kernel) rfl
set_option maxRecDepth 20000 in
theorem kX13_noClosing_1 {C : QC} {x : QP} {M : QM} {st : List CV} {L : QL} {l0 l1 l2 l3 l4 : Option CV} {z : Int} : Rr C mX13_noClosing (1, [l0, some (qi z), l2, l3, l4], st, M) x = Rr C mX13_noClosing (2, [l0, some (qi z), l2, l3, l4], qi z :: st, M) x := g_pl (show decode cX13_noClosing 1 = .ok (.iload_n 1, 1) by decide +kernel) rfl
set_option maxRecDepth 20000 in
theorem kX13_noClosing_2 {C : QC} {x : QP} {M : QM} {st : List CV} {L : QL} {l0 l1 l2 l3 l4 : Option CV} {z : Int} : Rr C mX13_noClosing (2, [l0, l1, some (qi z), l3, l4], st, M) x = Rr C mX13_noClosing (3, [l0, l1, some (qi z), l3, l4], qi z :: st, M) x := g_pl (show decode cX13_noClosing 2 = .ok (.iload_n 2, 1) by decide +kernel) rfl
set_option maxRecDepth 20000 in
theorem kX13_noClosing_3 {C : QC} {x : QP} {M : QM} {L : QL} {rest : List CV} {a0 a1 : CV} {v : CV} {M1 : QM} {b : Nat} (hb : q_kd M b = (1, 13)) (hC : C iX13_noEvent [qr b, a0, a1] M (some v) M1) (hw : (rest.map q_wd).sum ≤ 8) (k : Rr C mX13_noClosing (6, L, v :: rest, M1) x) : Rr C mX13_noClosing (3, L, a1 :: a0 :: qr b :: rest, M) x := g_cv (ow := 13) (e := (0, 219, 13, [1439, 1441, 43, 94])) (as := [a0, a1]) (show decode cX13_noClosing 3 = .ok (.invokevirtual 106, 3) by decide +kernel) rfl rfl rfl (Or.inl rfl) rfl hb hC hw k
set_option maxRecDepth 20000 in
theorem kX13_noClosing_6 {C : QC} {x : QP} {M : QM} {st : List CV} {L : QL} {l0 l1 l2 l3 l4 : Option CV} {z : Int} : Rr C mX13_noClosing (6, [l0, l1, l2, l3, l4], qi z :: st, M) x = Rr C mX13_noClosing (7, [l0, l1, q_cut l2, some (qi z), l4], st, M) x := g_pl (show decode cX13_noClosing 6 = .ok (.istore_n 3, 1) by decide +kernel) rfl
set_option maxRecDepth 20000 in
theorem kX13_noClosing_7 {C : QC} {x : QP} {M : QM} {st : List CV} {L : QL} {l0 l1 l2 l3 l4 : Option CV} {z : Int} : Rr C mX13_noClosing (7, [l0, l1, l2, some (qi z), l4], st, M) x = Rr C mX13_noClosing (8, [l0, l1, l2, some (qi z), l4], qi z :: st, M) x := g_pl (show decode cX13_noClosing 7 = .ok (.iload_n 3, 1) by decide +kernel) rfl
set_option maxRecDepth 20000 in
theorem kX13_noClosing_8 {C : QC} {x : QP} {M : QM} {st : List CV} {L : QL} {a : Int} (ha1 : -2147483648 ≤ a) (ha2 : a < 2147483648) : Rr C mX13_noClosing (8, L, qi a :: st, M) x = (if a = 0 then Rr C mX13_noClosing (13, L, st, M) x else Rr C mX13_noClosing (11, L, st, M) x) := (g_if (show decode cX13_noClosing 8 = .ok (.ifCond .eq 5, 3) by decide +kernel) rfl ha1 ha2).trans (g_ite c_eq)
set_option maxRecDepth 20000 in
theorem kX13_noClosing_11 {C : QC} {x : QP} {M : QM} {st : List CV} {L : QL} {l0 l1 l2 l3 l4 : Option CV} {z : Int} : Rr C mX13_noClosing (11, [l0, l1, l2, some (qi z), l4], st, M) x = Rr C mX13_noClosing (12, [l0, l1, l2, some (qi z), l4], qi z :: st, M) x := g_pl (show decode cX13_noClosing 11 = .ok (.iload_n 3, 1) by decide +kernel) rfl
set_option maxRecDepth 20000 in
theorem kX13_noClosing_12 {C : QC} {x : QP} {M : QM} {st : List CV} {L : QL} {z : Int} : Rr C mX13_noClosing (12, L, [qi z], M) x = x (some (qi z)) M := g_iret (show decode cX13_noClosing 12 = .ok (.ireturn, 1) by decide +kernel) rfl
set_option maxRecDepth 20000 in
theorem kX13_noClosing_13 {C : QC} {x : QP} {M : QM} {st : List CV} {L : QL} : Rr C mX13_noClosing (13, L, st, M) x = Rr C mX13_noClosing (14, L, qi 0 :: st, M) x := g_pl (show decode cX13_noClosing 13 = .ok (.iconst 0, 1) by decide +kernel) rfl
set_option maxRecDepth 20000 in
theorem kX13_noClosing_14 {C : QC} {x : QP} {M : QM} {st : List CV} {L : QL} {l0 l1 l2 l3 l4 : Option CV} {z : Int} : Rr C mX13_noClosing (14, [l0, l1, l2, l3, l4], qi z :: st, M) x = Rr C mX13_noClosing (16, [l0, l1, l2, q_cut l3, some (qi z)], st, M) x := g_pl (show decode cX13_noClosing 14 = .ok (.istore 4, 2) by decide +kernel) rfl
set_option maxRecDepth 20000 in
theorem kX13_noClosing_16 {C : QC} {x : QP} {M : QM} {st : List CV} {L : QL} {l0 l1 l2 l3 l4 : Option CV} {z : Int} : Rr C mX13_noClosing (16, [l0, l1, l2, l3, some (qi z)], st, M) x = Rr C mX13_noClosing (18, [l0, l1, l2, l3, some (qi z)], qi z :: st, M) x := g_pl (show decode cX13_noClosing 16 = .ok (.iload 4, 2) by decide +kernel) rfl
set_option maxRecDepth 20000 in
theorem kX13_noClosing_18 {C : QC} {x : QP} {M : QM} {st : List CV} {L : QL} {l0 l1 l2 l3 l4 : Option CV} {r : Option Nat} : Rr C mX13_noClosing (18, [some (.inr (.inr r)), l1, l2, l3, l4], st, M) x = Rr C mX13_noClosing (19, [some (.inr (.inr r)), l1, l2, l3, l4], .inr (.inr r) :: st, M) x := g_pl (show decode cX13_noClosing 18 = .ok (.aload_n 0, 1) by decide +kernel) rfl
set_option maxRecDepth 20000 in
theorem kX13_noClosing_19 {C : QC} {x : QP} {M : QM} {st : List CV} {L : QL} {a : Nat} (hk : q_kd M a = (1, 13)) : Rr C mX13_noClosing (19, L, qr a :: st, M) x = Rr C mX13_noClosing (22, L, q_fv M a 0 :: st, M) x := g_getf (ow := 13) (e := (13, 0, RX13, 1301, 0)) (show decode cX13_noClosing 19 = .ok (.getfield 10, 3) by decide +kernel) rfl hk
set_option maxRecDepth 20000 in
theorem kX13_noClosing_22 {C : QC} {x : QP} {M : QM} {st : List CV} {L : QL} : Rr C mX13_noClosing (22, L, st, M) x = Rr C mX13_noClosing (23, L, qi 0 :: st, M) x := g_pl (show decode cX13_noClosing 22 = .ok (.iconst 0, 1) by decide +kernel) rfl
set_option maxRecDepth 20000 in
theorem kX13_noClosing_23 {C : QC} {x : QP} {M : QM} {st : List CV} {L : QL} {a : Nat} {j : Int} (hk : (q_kd M a).1 = 2) (h0 : 0 ≤ j) (h1 : j < ((q_kd M a).2 : Int)) : Rr C mX13_noClosing (23, L, qi j :: qr a :: st, M) x = Rr C mX13_noClosing (24, L, q_fv M a j.toNat :: st, M) x := g_iald (show decode cX13_noClosing 23 = .ok (.iaload, 1) by decide +kernel) hk h0 h1
set_option maxRecDepth 20000 in
theorem kX13_noClosing_24 {C : QC} {x : QP} {M : QM} {st : List CV} {L : QL} {a b : Int} (ha1 : -2147483648 ≤ a) (ha2 : a < 2147483648) (hb1 : -2147483648 ≤ b) (hb2 : b < 2147483648) : Rr C mX13_noClosing (24, L, qi b :: qi a :: st, M) x = (if a < b then Rr C mX13_noClosing (27, L, st, M) x else Rr C mX13_noClosing (48, L, st, M) x) := (g_icmp (show decode cX13_noClosing 24 = .ok (.if_icmp .ge 24, 3) by decide +kernel) rfl ha1 ha2 hb1 hb2).trans (g_itn c_ge)
set_option maxRecDepth 20000 in
theorem kX13_noClosing_27 {C : QC} {x : QP} {M : QM} {st : List CV} {L : QL} {l0 l1 l2 l3 l4 : Option CV} {r : Option Nat} : Rr C mX13_noClosing (27, [some (.inr (.inr r)), l1, l2, l3, l4], st, M) x = Rr C mX13_noClosing (28, [some (.inr (.inr r)), l1, l2, l3, l4], .inr (.inr r) :: st, M) x := g_pl (show decode cX13_noClosing 27 = .ok (.aload_n 0, 1) by decide +kernel) rfl
set_option maxRecDepth 20000 in
theorem kX13_noClosing_28 {C : QC} {x : QP} {M : QM} {st : List CV} {L : QL} {l0 l1 l2 l3 l4 : Option CV} {z : Int} : Rr C mX13_noClosing (28, [l0, l1, l2, l3, some (qi z)], st, M) x = Rr C mX13_noClosing (30, [l0, l1, l2, l3, some (qi z)], qi z :: st, M) x := g_pl (show decode cX13_noClosing 28 = .ok (.iload 4, 2) by decide +kernel) rfl
set_option maxRecDepth 20000 in
theorem kX13_noClosing_30 {C : QC} {x : QP} {M : QM} {st : List CV} {L : QL} {l0 l1 l2 l3 l4 : Option CV} {z : Int} : Rr C mX13_noClosing (30, [l0, some (qi z), l2, l3, l4], st, M) x = Rr C mX13_noClosing (31, [l0, some (qi z), l2, l3, l4], qi z :: st, M) x := g_pl (show decode cX13_noClosing 30 = .ok (.iload_n 1, 1) by decide +kernel) rfl
set_option maxRecDepth 20000 in
theorem kX13_noClosing_31 {C : QC} {x : QP} {M : QM} {st : List CV} {L : QL} {l0 l1 l2 l3 l4 : Option CV} {z : Int} : Rr C mX13_noClosing (31, [l0, l1, some (qi z), l3, l4], st, M) x = Rr C mX13_noClosing (32, [l0, l1, some (qi z), l3, l4], qi z :: st, M) x := g_pl (show decode cX13_noClosing 31 = .ok (.iload_n 2, 1) by decide +kernel) rfl
set_option maxRecDepth 20000 in
theorem kX13_noClosing_32 {C : QC} {x : QP} {M : QM} {L : QL} {rest : List CV} {a0 a1 a2 : CV} {v : CV} {M1 : QM} {b : Nat} (hb : q_kd M b = (1, 13)) (hC : C iX13_firstDay [qr b, a0, a1, a2] M (some v) M1) (hw : (rest.map q_wd).sum ≤ 8) (k : Rr C mX13_noClosing (35, L, v :: rest, M1) x) : Rr C mX13_noClosing (32, L, a2 :: a1 :: a0 :: qr b :: rest, M) x := g_cv (ow := 13) (e := (0, 234, 13, [1499, 1501, 55, 94])) (as := [a0, a1, a2]) (show decode cX13_noClosing 32 = .ok (.invokevirtual 109, 3) by decide +kernel) rfl rfl rfl (Or.inl rfl) rfl hb hC hw k
set_option maxRecDepth 20000 in
theorem kX13_noClosing_35 {C : QC} {x : QP} {M : QM} {st : List CV} {L : QL} : Rr C mX13_noClosing (35, L, st, M) x = Rr C mX13_noClosing (36, L, qi (-1) :: st, M) x := g_pl (show decode cX13_noClosing 35 = .ok (.iconst (-1), 1) by decide +kernel) rfl
set_option maxRecDepth 20000 in
theorem kX13_noClosing_36 {C : QC} {x : QP} {M : QM} {st : List CV} {L : QL} {a b : Int} (ha1 : -2147483648 ≤ a) (ha2 : a < 2147483648) (hb1 : -2147483648 ≤ b) (hb2 : b < 2147483648) : Rr C mX13_noClosing (36, L, qi b :: qi a :: st, M) x = (if a = b then Rr C mX13_noClosing (42, L, st, M) x else Rr C mX13_noClosing (39, L, st, M) x) := (g_icmp (show decode cX13_noClosing 36 = .ok (.if_icmp .eq 6, 3) by decide +kernel) rfl ha1 ha2 hb1 hb2).trans (g_ite c_eq)
set_option maxRecDepth 20000 in
theorem kX13_noClosing_39 {C : QC} {x : QP} {M : QM} {st : List CV} {L : QL} : Rr C mX13_noClosing (39, L, st, M) x = Rr C mX13_noClosing (41, L, qi 7 :: st, M) x := g_pl (show decode cX13_noClosing 39 = .ok (.bipush 7, 2) by decide +kernel) rfl
set_option maxRecDepth 20000 in
theorem kX13_noClosing_41 {C : QC} {x : QP} {M : QM} {st : List CV} {L : QL} {z : Int} : Rr C mX13_noClosing (41, L, [qi z], M) x = x (some (qi z)) M := g_iret (show decode cX13_noClosing 41 = .ok (.ireturn, 1) by decide +kernel) rfl
set_option maxRecDepth 20000 in
theorem kX13_noClosing_42 {C : QC} {x : QP} {M : QM} {st : List CV} {L : QL} {l0 l1 l2 l3 l4 : Option CV} {z : Int} : Rr C mX13_noClosing (42, [l0, l1, l2, l3, some (qi z)], st, M) x = Rr C mX13_noClosing (45, [l0, l1, l2, q_cut l3, some (qi (z + 1))], st, M) x := g_pl (show decode cX13_noClosing 42 = .ok (.iinc 4 1, 3) by decide +kernel) rfl
set_option maxRecDepth 20000 in
theorem kX13_noClosing_45 {C : QC} {x : QP} {M : QM} {st : List CV} {L : QL} : Rr C mX13_noClosing (45, L, st, M) x = Rr C mX13_noClosing (16, L, st, M) x := g_pl (show decode cX13_noClosing 45 = .ok (.goto (-29), 3) by decide +kernel) rfl
set_option maxRecDepth 20000 in
theorem kX13_noClosing_48 {C : QC} {x : QP} {M : QM} {st : List CV} {L : QL} : Rr C mX13_noClosing (48, L, st, M) x = Rr C mX13_noClosing (49, L, qi 0 :: st, M) x := g_pl (show decode cX13_noClosing 48 = .ok (.iconst 0, 1) by decide +kernel) rfl
set_option maxRecDepth 20000 in
theorem kX13_noClosing_49 {C : QC} {x : QP} {M : QM} {st : List CV} {L : QL} {z : Int} : Rr C mX13_noClosing (49, L, [qi z], M) x = x (some (qi z)) M := g_iret (show decode cX13_noClosing 49 = .ok (.ireturn, 1) by decide +kernel) rfl
set_option maxRecDepth 20000 in
theorem eX13_noClosing {d : Nat} {M : QM} {x : QP} {a : Nat} {v0 : Int} {v1 : Int} : q_T (d + 1) iX13_noClosing [qr a, qi v0, qi v1] M x = Rr (q_C d) mX13_noClosing (0, [some (qr a), some (qi v0), some (qi v1), none, none], [], M) x := g_entryT (e := _) rfl (Nat.le_of_ble_eq_true rfl) rfl rfl
def mX13_names : QI := (13, cX13_names, false, none)
set_option maxRecDepth 20000 in
theorem kX13_names_0 {C : QC} {x : QP} {M : QM} {st : List CV} {L : QL} : Rr C mX13_names (0, L, st, M) x = Rr C mX13_names (3, L, qi 1575 :: st, M) x := g_pl (show decode cX13_names 0 = .ok (.sipush 1575, 3) by decide +kernel) rfl
set_option maxRecDepth 20000 in
theorem kX13_names_3 {C : QC} {x : QP} {M : QM} {st : List CV} {L : QL} : Rr C mX13_names (3, L, st, M) x = Rr C mX13_names (5, L, qi 11 :: st, M) x := g_pl (show decode cX13_names 3 = .ok (.bipush 11, 2) by decide +kernel) rfl
set_option maxRecDepth 20000 in
theorem kX13_names_5 {C : QC} {x : QP} {M : QM} {st : List CV} {L : QL} {l0 l1 l2 l3 l4 : Option CV} {r : Option Nat} : Rr C mX13_names (5, [some (.inr (.inr r)), l1, l2, l3, l4], st, M) x = Rr C mX13_names (6, [some (.inr (.inr r)), l1, l2, l3, l4], .inr (.inr r) :: st, M) x := g_pl (show decode cX13_names 5 = .ok (.aload_n 0, 1) by decide +kernel) rfl
set_option maxRecDepth 20000 in
theorem kX13_names_6 {C : QC} {x : QP} {M : QM} {st : List CV} {L : QL} {a : Nat} (hk : q_kd M a = (1, 13)) : Rr C mX13_names (6, L, qr a :: st, M) x = Rr C mX13_names (9, L, q_fv M a 0 :: st, M) x := g_getf (ow := 13) (e := (13, 0, RX13, 1301, 0)) (show decode cX13_names 6 = .ok (.getfield 10, 3) by decide +kernel) rfl hk
set_option maxRecDepth 20000 in
theorem kX13_names_9 {C : QC} {x : QP} {M : QM} {st : List CV} {L : QL} : Rr C mX13_names (9, L, st, M) x = Rr C mX13_names (10, L, qi 1 :: st, M) x := g_pl (show decode cX13_names 9 = .ok (.iconst 1, 1) by decide +kernel) rfl
set_option maxRecDepth 20000 in
theorem kX13_names_10 {C : QC} {x : QP} {M : QM} {st : List CV} {L : QL} {a : Nat} {j : Int} (hk : (q_kd M a).1 = 2) (h0 : 0 ≤ j) (h1 : j < ((q_kd M a).2 : Int)) : Rr C mX13_names (10, L, qi j :: qr a :: st, M) x = Rr C mX13_names (11, L, q_fv M a j.toNat :: st, M) x := g_iald (show decode cX13_names 10 = .ok (.iaload, 1) by decide +kernel) hk h0 h1
set_option maxRecDepth 20000 in
theorem kX13_names_11 {C : QC} {x : QP} {M : QM} {st : List CV} {L : QL} {a b : Int} : Rr C mX13_names (11, L, qi b :: qi a :: st, M) x = Rr C mX13_names (12, L, qi (a * b) :: st, M) x := g_pl (show decode cX13_names 11 = .ok (.imul, 1) by decide +kernel) rfl
set_option maxRecDepth 20000 in
theorem kX13_names_12 {C : QC} {x : QP} {M : QM} {st : List CV} {L : QL} {a b : Int} : Rr C mX13_names (12, L, qi b :: qi a :: st, M) x = Rr C mX13_names (13, L, qi (a + b) :: st, M) x := g_pl (show decode cX13_names 12 = .ok (.iadd, 1) by decide +kernel) rfl
set_option maxRecDepth 20000 in
theorem kX13_names_13 {C : QC} {x : QP} {M : QM} {st : List CV} {L : QL} {l0 l1 l2 l3 l4 : Option CV} {z : Int} : Rr C mX13_names (13, [l0, l1, l2, l3, l4], qi z :: st, M) x = Rr C mX13_names (14, [l0, l1, q_cut l2, some (qi z), l4], st, M) x := g_pl (show decode cX13_names 13 = .ok (.istore_n 3, 1) by decide +kernel) rfl
set_option maxRecDepth 20000 in
theorem kX13_names_14 {C : QC} {x : QP} {M : QM} {st : List CV} {L : QL} {l0 l1 l2 l3 l4 : Option CV} {r : Option Nat} : Rr C mX13_names (14, [some (.inr (.inr r)), l1, l2, l3, l4], st, M) x = Rr C mX13_names (15, [some (.inr (.inr r)), l1, l2, l3, l4], .inr (.inr r) :: st, M) x := g_pl (show decode cX13_names 14 = .ok (.aload_n 0, 1) by decide +kernel) rfl
set_option maxRecDepth 20000 in
theorem kX13_names_15 {C : QC} {x : QP} {M : QM} {st : List CV} {L : QL} {a : Nat} (hk : q_kd M a = (1, 13)) : Rr C mX13_names (15, L, qr a :: st, M) x = Rr C mX13_names (18, L, q_fv M a 0 :: st, M) x := g_getf (ow := 13) (e := (13, 0, RX13, 1301, 0)) (show decode cX13_names 15 = .ok (.getfield 10, 3) by decide +kernel) rfl hk
set_option maxRecDepth 20000 in
theorem kX13_names_18 {C : QC} {x : QP} {M : QM} {st : List CV} {L : QL} {l0 l1 l2 l3 l4 : Option CV} {z : Int} : Rr C mX13_names (18, [l0, l1, l2, some (qi z), l4], st, M) x = Rr C mX13_names (19, [l0, l1, l2, some (qi z), l4], qi z :: st, M) x := g_pl (show decode cX13_names 18 = .ok (.iload_n 3, 1) by decide +kernel) rfl
set_option maxRecDepth 20000 in
theorem kX13_names_19 {C : QC} {x : QP} {M : QM} {st : List CV} {L : QL} {l0 l1 l2 l3 l4 : Option CV} {z : Int} : Rr C mX13_names (19, [l0, some (qi z), l2, l3, l4], st, M) x = Rr C mX13_names (20, [l0, some (qi z), l2, l3, l4], qi z :: st, M) x := g_pl (show decode cX13_names 19 = .ok (.iload_n 1, 1) by decide +kernel) rfl
set_option maxRecDepth 20000 in
theorem kX13_names_20 {C : QC} {x : QP} {M : QM} {st : List CV} {L : QL} {a : Nat} {j v : Int} (hk : (q_kd M a).1 = 2) (h0 : 0 ≤ j) (h1 : j < ((q_kd M a).2 : Int)) : Rr C mX13_names (20, L, qi v :: qi j :: qr a :: st, M) x = Rr C mX13_names (21, L, st, q_wr M a j.toNat (qi v)) x := g_iast (show decode cX13_names 20 = .ok (.iastore, 1) by decide +kernel) hk h0 h1
set_option maxRecDepth 20000 in
theorem kX13_names_21 {C : QC} {x : QP} {M : QM} {st : List CV} {L : QL} {l0 l1 l2 l3 l4 : Option CV} {r : Option Nat} : Rr C mX13_names (21, [some (.inr (.inr r)), l1, l2, l3, l4], st, M) x = Rr C mX13_names (22, [some (.inr (.inr r)), l1, l2, l3, l4], .inr (.inr r) :: st, M) x := g_pl (show decode cX13_names 21 = .ok (.aload_n 0, 1) by decide +kernel) rfl
set_option maxRecDepth 20000 in
theorem kX13_names_22 {C : QC} {x : QP} {M : QM} {st : List CV} {L : QL} {a : Nat} (hk : q_kd M a = (1, 13)) : Rr C mX13_names (22, L, qr a :: st, M) x = Rr C mX13_names (25, L, q_fv M a 0 :: st, M) x := g_getf (ow := 13) (e := (13, 0, RX13, 1301, 0)) (show decode cX13_names 22 = .ok (.getfield 10, 3) by decide +kernel) rfl hk
set_option maxRecDepth 20000 in
theorem kX13_names_25 {C : QC} {x : QP} {M : QM} {st : List CV} {L : QL} {l0 l1 l2 l3 l4 : Option CV} {z : Int} : Rr C mX13_names (25, [l0, l1, l2, some (qi z), l4], st, M) x = Rr C mX13_names (26, [l0, l1, l2, some (qi z), l4], qi z :: st, M) x := g_pl (show decode cX13_names 25 = .ok (.iload_n 3, 1) by decide +kernel) rfl
set_option maxRecDepth 20000 in
theorem kX13_names_26 {C : QC} {x : QP} {M : QM} {st : List CV} {L : QL} : Rr C mX13_names (26, L, st, M) x = Rr C mX13_names (27, L, qi 1 :: st, M) x := g_pl (show decode cX13_names 26 = .ok (.iconst 1, 1) by decide +kernel) rfl
set_option maxRecDepth 20000 in
theorem kX13_names_27 {C : QC} {x : QP} {M : QM} {st : List CV} {L : QL} {a b : Int} : Rr C mX13_names (27, L, qi b :: qi a :: st, M) x = Rr C mX13_names (28, L, qi (a + b) :: st, M) x := g_pl (show decode cX13_names 27 = .ok (.iadd, 1) by decide +kernel) rfl
set_option maxRecDepth 20000 in
theorem kX13_names_28 {C : QC} {x : QP} {M : QM} {st : List CV} {L : QL} {l0 l1 l2 l3 l4 : Option CV} {z : Int} : Rr C mX13_names (28, [l0, l1, some (qi z), l3, l4], st, M) x = Rr C mX13_names (29, [l0, l1, some (qi z), l3, l4], qi z :: st, M) x := g_pl (show decode cX13_names 28 = .ok (.iload_n 2, 1) by decide +kernel) rfl
set_option maxRecDepth 20000 in
theorem kX13_names_29 {C : QC} {x : QP} {M : QM} {st : List CV} {L : QL} {a : Nat} {j v : Int} (hk : (q_kd M a).1 = 2) (h0 : 0 ≤ j) (h1 : j < ((q_kd M a).2 : Int)) : Rr C mX13_names (29, L, qi v :: qi j :: qr a :: st, M) x = Rr C mX13_names (30, L, st, q_wr M a j.toNat (qi v)) x := g_iast (show decode cX13_names 29 = .ok (.iastore, 1) by decide +kernel) hk h0 h1
set_option maxRecDepth 20000 in
theorem kX13_names_30 {C : QC} {x : QP} {M : QM} {st : List CV} {L : QL} {l0 l1 l2 l3 l4 : Option CV} {r : Option Nat} : Rr C mX13_names (30, [some (.inr (.inr r)), l1, l2, l3, l4], st, M) x = Rr C mX13_names (31, [some (.inr (.inr r)), l1, l2, l3, l4], .inr (.inr r) :: st, M) x := g_pl (show decode cX13_names 30 = .ok (.aload_n 0, 1) by decide +kernel) rfl
set_option maxRecDepth 20000 in
theorem kX13_names_31 {C : QC} {x : QP} {M : QM} {st : List CV} {L : QL} {a : Nat} (hk : q_kd M a = (1, 13)) : Rr C mX13_names (31, L, qr a :: st, M) x = Rr C mX13_names (34, L, q_fv M a 0 :: st, M) x := g_getf (ow := 13) (e := (13, 0, RX13, 1301, 0)) (show decode cX13_names 31 = .ok (.getfield 10, 3) by decide +kernel) rfl hk
set_option maxRecDepth 20000 in
theorem kX13_names_34 {C : QC} {x : QP} {M : QM} {st : List CV} {L : QL} {l0 l1 l2 l3 l4 : Option CV} {z : Int} : Rr C mX13_names (34, [l0, l1, l2, some (qi z), l4], st, M) x = Rr C mX13_names (35, [l0, l1, l2, some (qi z), l4], qi z :: st, M) x := g_pl (show decode cX13_names 34 = .ok (.iload_n 3, 1) by decide +kernel) rfl
set_option maxRecDepth 20000 in
theorem kX13_names_35 {C : QC} {x : QP} {M : QM} {st : List CV} {L : QL} : Rr C mX13_names (35, L, st, M) x = Rr C mX13_names (36, L, qi 2 :: st, M) x := g_pl (show decode cX13_names 35 = .ok (.iconst 2, 1) by decide +kernel) rfl
set_option maxRecDepth 20000 in
theorem kX13_names_36 {C : QC} {x : QP} {M : QM} {st : List CV} {L : QL} {a b : Int} : Rr C mX13_names (36, L, qi b :: qi a :: st, M) x = Rr C mX13_names (37, L, qi (a + b) :: st, M) x := g_pl (show decode cX13_names 36 = .ok (.iadd, 1) by decide +kernel) rfl
set_option maxRecDepth 20000 in
theorem kX13_names_37 {C : QC} {x : QP} {M : QM} {st : List CV} {L : QL} {l0 l1 l2 l3 l4 : Option CV} {r : Option Nat} : Rr C mX13_names (37, [some (.inr (.inr r)), l1, l2, l3, l4], st, M) x = Rr C mX13_names (38, [some (.inr (.inr r)), l1, l2, l3, l4], .inr (.inr r) :: st, M) x := g_pl (show decode cX13_names 37 = .ok (.aload_n 0, 1) by decide +kernel) rfl
set_option maxRecDepth 20000 in
theorem kX13_names_38 {C : QC} {x : QP} {M : QM} {st : List CV} {L : QL} {a : Nat} (hk : q_kd M a = (1, 13)) : Rr C mX13_names (38, L, qr a :: st, M) x = Rr C mX13_names (41, L, q_fv M a 9 :: st, M) x := g_getf (ow := 13) (e := (13, 9, RX13, 1310, 0)) (show decode cX13_names 38 = .ok (.getfield 88, 3) by decide +kernel) rfl hk
set_option maxRecDepth 20000 in
theorem kX13_names_41 {C : QC} {x : QP} {M : QM} {st : List CV} {L : QL} {a : Nat} {j v : Int} (hk : (q_kd M a).1 = 2) (h0 : 0 ≤ j) (h1 : j < ((q_kd M a).2 : Int)) : Rr C mX13_names (41, L, qi v :: qi j :: qr a :: st, M) x = Rr C mX13_names (42, L, st, q_wr M a j.toNat (qi v)) x := g_iast (show decode cX13_names 41 = .ok (.iastore, 1) by decide +kernel) hk h0 h1
set_option maxRecDepth 20000 in
theorem kX13_names_42 {C : QC} {x : QP} {M : QM} {st : List CV} {L : QL} : Rr C mX13_names (42, L, st, M) x = Rr C mX13_names (43, L, qi 0 :: st, M) x := g_pl (show decode cX13_names 42 = .ok (.iconst 0, 1) by decide +kernel) rfl
set_option maxRecDepth 20000 in
theorem kX13_names_43 {C : QC} {x : QP} {M : QM} {st : List CV} {L : QL} {l0 l1 l2 l3 l4 : Option CV} {z : Int} : Rr C mX13_names (43, [l0, l1, l2, l3, l4], qi z :: st, M) x = Rr C mX13_names (45, [l0, l1, l2, q_cut l3, some (qi z)], st, M) x := g_pl (show decode cX13_names 43 = .ok (.istore 4, 2) by decide +kernel) rfl
set_option maxRecDepth 20000 in
theorem kX13_names_45 {C : QC} {x : QP} {M : QM} {st : List CV} {L : QL} {l0 l1 l2 l3 l4 : Option CV} {z : Int} : Rr C mX13_names (45, [l0, l1, l2, l3, some (qi z)], st, M) x = Rr C mX13_names (47, [l0, l1, l2, l3, some (qi z)], qi z :: st, M) x := g_pl (show decode cX13_names 45 = .ok (.iload 4, 2) by decide +kernel) rfl
set_option maxRecDepth 20000 in
theorem kX13_names_47 {C : QC} {x : QP} {M : QM} {st : List CV} {L : QL} {l0 l1 l2 l3 l4 : Option CV} {r : Option Nat} : Rr C mX13_names (47, [some (.inr (.inr r)), l1, l2, l3, l4], st, M) x = Rr C mX13_names (48, [some (.inr (.inr r)), l1, l2, l3, l4], .inr (.inr r) :: st, M) x := g_pl (show decode cX13_names 47 = .ok (.aload_n 0, 1) by decide +kernel) rfl
set_option maxRecDepth 20000 in
theorem kX13_names_48 {C : QC} {x : QP} {M : QM} {st : List CV} {L : QL} {a : Nat} (hk : q_kd M a = (1, 13)) : Rr C mX13_names (48, L, qr a :: st, M) x = Rr C mX13_names (51, L, q_fv M a 9 :: st, M) x := g_getf (ow := 13) (e := (13, 9, RX13, 1310, 0)) (show decode cX13_names 48 = .ok (.getfield 88, 3) by decide +kernel) rfl hk
set_option maxRecDepth 20000 in
theorem kX13_names_51 {C : QC} {x : QP} {M : QM} {st : List CV} {L : QL} {a b : Int} (ha1 : -2147483648 ≤ a) (ha2 : a < 2147483648) (hb1 : -2147483648 ≤ b) (hb2 : b < 2147483648) : Rr C mX13_names (51, L, qi b :: qi a :: st, M) x = (if a < b then Rr C mX13_names (54, L, st, M) x else Rr C mX13_names (78, L, st, M) x) := (g_icmp (show decode cX13_names 51 = .ok (.if_icmp .ge 27, 3) by decide +kernel) rfl ha1 ha2 hb1 hb2).trans (g_itn c_ge)
set_option maxRecDepth 20000 in
theorem kX13_names_54 {C : QC} {x : QP} {M : QM} {st : List CV} {L : QL} {l0 l1 l2 l3 l4 : Option CV} {r : Option Nat} : Rr C mX13_names (54, [some (.inr (.inr r)), l1, l2, l3, l4], st, M) x = Rr C mX13_names (55, [some (.inr (.inr r)), l1, l2, l3, l4], .inr (.inr r) :: st, M) x := g_pl (show decode cX13_names 54 = .ok (.aload_n 0, 1) by decide +kernel) rfl
set_option maxRecDepth 20000 in
theorem kX13_names_55 {C : QC} {x : QP} {M : QM} {st : List CV} {L : QL} {a : Nat} (hk : q_kd M a = (1, 13)) : Rr C mX13_names (55, L, qr a :: st, M) x = Rr C mX13_names (58, L, q_fv M a 0 :: st, M) x := g_getf (ow := 13) (e := (13, 0, RX13, 1301, 0)) (show decode cX13_names 55 = .ok (.getfield 10, 3) by decide +kernel) rfl hk
set_option maxRecDepth 20000 in
theorem kX13_names_58 {C : QC} {x : QP} {M : QM} {st : List CV} {L : QL} {l0 l1 l2 l3 l4 : Option CV} {z : Int} : Rr C mX13_names (58, [l0, l1, l2, some (qi z), l4], st, M) x = Rr C mX13_names (59, [l0, l1, l2, some (qi z), l4], qi z :: st, M) x := g_pl (show decode cX13_names 58 = .ok (.iload_n 3, 1) by decide +kernel) rfl
set_option maxRecDepth 20000 in
theorem kX13_names_59 {C : QC} {x : QP} {M : QM} {st : List CV} {L : QL} : Rr C mX13_names (59, L, st, M) x = Rr C mX13_names (60, L, qi 3 :: st, M) x := g_pl (show decode cX13_names 59 = .ok (.iconst 3, 1) by decide +kernel) rfl
set_option maxRecDepth 20000 in
theorem kX13_names_60 {C : QC} {x : QP} {M : QM} {st : List CV} {L : QL} {a b : Int} : Rr C mX13_names (60, L, qi b :: qi a :: st, M) x = Rr C mX13_names (61, L, qi (a + b) :: st, M) x := g_pl (show decode cX13_names 60 = .ok (.iadd, 1) by decide +kernel) rfl
set_option maxRecDepth 20000 in
theorem kX13_names_61 {C : QC} {x : QP} {M : QM} {st : List CV} {L : QL} {l0 l1 l2 l3 l4 : Option CV} {z : Int} : Rr C mX13_names (61, [l0, l1, l2, l3, some (qi z)], st, M) x = Rr C mX13_names (63, [l0, l1, l2, l3, some (qi z)], qi z :: st, M) x := g_pl (show decode cX13_names 61 = .ok (.iload 4, 2) by decide +kernel) rfl
set_option maxRecDepth 20000 in
theorem kX13_names_63 {C : QC} {x : QP} {M : QM} {st : List CV} {L : QL} {a b : Int} : Rr C mX13_names (63, L, qi b :: qi a :: st, M) x = Rr C mX13_names (64, L, qi (a + b) :: st, M) x := g_pl (show decode cX13_names 63 = .ok (.iadd, 1) by decide +kernel) rfl
set_option maxRecDepth 20000 in
theorem kX13_names_64 {C : QC} {x : QP} {M : QM} {st : List CV} {L : QL} {l0 l1 l2 l3 l4 : Option CV} {r : Option Nat} : Rr C mX13_names (64, [some (.inr (.inr r)), l1, l2, l3, l4], st, M) x = Rr C mX13_names (65, [some (.inr (.inr r)), l1, l2, l3, l4], .inr (.inr r) :: st, M) x := g_pl (show decode cX13_names 64 = .ok (.aload_n 0, 1) by decide +kernel) rfl
set_option maxRecDepth 20000 in
theorem kX13_names_65 {C : QC} {x : QP} {M : QM} {st : List CV} {L : QL} {a : Nat} (hk : q_kd M a = (1, 13)) : Rr C mX13_names (65, L, qr a :: st, M) x = Rr C mX13_names (68, L, q_fv M a 8 :: st, M) x := g_getf (ow := 13) (e := (13, 8, RX13, 1309, 0)) (show decode cX13_names 65 = .ok (.getfield 21, 3) by decide +kernel) rfl hk
set_option maxRecDepth 20000 in
theorem kX13_names_68 {C : QC} {x : QP} {M : QM} {st : List CV} {L : QL} {l0 l1 l2 l3 l4 : Option CV} {z : Int} : Rr C mX13_names (68, [l0, l1, l2, l3, some (qi z)], st, M) x = Rr C mX13_names (70, [l0, l1, l2, l3, some (qi z)], qi z :: st, M) x := g_pl (show decode cX13_names 68 = .ok (.iload 4, 2) by decide +kernel) rfl
set_option maxRecDepth 20000 in
theorem kX13_names_70 {C : QC} {x : QP} {M : QM} {st : List CV} {L : QL} {a : Nat} {j : Int} (hk : (q_kd M a).1 = 2) (h0 : 0 ≤ j) (h1 : j < ((q_kd M a).2 : Int)) : Rr C mX13_names (70, L, qi j :: qr a :: st, M) x = Rr C mX13_names (71, L, q_fv M a j.toNat :: st, M) x := g_iald (show decode cX13_names 70 = .ok (.iaload, 1) by decide +kernel) hk h0 h1
set_option maxRecDepth 20000 in
theorem kX13_names_71 {C : QC} {x : QP} {M : QM} {st : List CV} {L : QL} {a : Nat} {j v : Int} (hk : (q_kd M a).1 = 2) (h0 : 0 ≤ j) (h1 : j < ((q_kd M a).2 : Int)) : Rr C mX13_names (71, L, qi v :: qi j :: qr a :: st, M) x = Rr C mX13_names (72, L, st, q_wr M a j.toNat (qi v)) x := g_iast (show decode cX13_names 71 = .ok (.iastore, 1) by decide +kernel) hk h0 h1
set_option maxRecDepth 20000 in
theorem kX13_names_72 {C : QC} {x : QP} {M : QM} {st : List CV} {L : QL} {l0 l1 l2 l3 l4 : Option CV} {z : Int} : Rr C mX13_names (72, [l0, l1, l2, l3, some (qi z)], st, M) x = Rr C mX13_names (75, [l0, l1, l2, q_cut l3, some (qi (z + 1))], st, M) x := g_pl (show decode cX13_names 72 = .ok (.iinc 4 1, 3) by decide +kernel) rfl
set_option maxRecDepth 20000 in
theorem kX13_names_75 {C : QC} {x : QP} {M : QM} {st : List CV} {L : QL} : Rr C mX13_names (75, L, st, M) x = Rr C mX13_names (45, L, st, M) x := g_pl (show decode cX13_names 75 = .ok (.goto (-30), 3) by decide +kernel) rfl
set_option maxRecDepth 20000 in
theorem kX13_names_78 {C : QC} {x : QP} {M : QM} {st : List CV} {L : QL} {l0 l1 l2 l3 l4 : Option CV} {r : Option Nat} : Rr C mX13_names (78, [some (.inr (.inr r)), l1, l2, l3, l4], st, M) x = Rr C mX13_names (79, [some (.inr (.inr r)), l1, l2, l3, l4], .inr (.inr r) :: st, M) x := g_pl (show decode cX13_names 78 = .ok (.aload_n 0, 1) by decide +kernel) rfl
set_option maxRecDepth 20000 in
theorem kX13_names_79 {C : QC} {x : QP} {M : QM} {st : List CV} {L : QL} {a : Nat} (hk : q_kd M a = (1, 13)) : Rr C mX13_names (79, L, qr a :: st, M) x = Rr C mX13_names (82, L, q_fv M a 0 :: st, M) x := g_getf (ow := 13) (e := (13, 0, RX13, 1301, 0)) (show decode cX13_names 79 = .ok (.getfield 10, 3) by decide +kernel) rfl hk
set_option maxRecDepth 20000 in
theorem kX13_names_82 {C : QC} {x : QP} {M : QM} {st : List CV} {L : QL} : Rr C mX13_names (82, L, st, M) x = Rr C mX13_names (83, L, qi 1 :: st, M) x := g_pl (show decode cX13_names 82 = .ok (.iconst 1, 1) by decide +kernel) rfl
set_option maxRecDepth 20000 in
theorem kX13_names_83 {C : QC} {x : QP} {M : QM} {st : List CV} {L : QL} {a : Int} {b : Option Nat} : Rr C mX13_names (83, L, qi a :: .inr (.inr b) :: st, M) x = Rr C mX13_names (84, L, qi a :: .inr (.inr b) :: qi a :: .inr (.inr b) :: st, M) x := g_pl (show decode cX13_names 83 = .ok (.dup2, 1) by decide +kernel) rfl
set_option maxRecDepth 20000 in
theorem kX13_names_84 {C : QC} {x : QP} {M : QM} {st : List CV} {L : QL} {a : Nat} {j : Int} (hk : (q_kd M a).1 = 2) (h0 : 0 ≤ j) (h1 : j < ((q_kd M a).2 : Int)) : Rr C mX13_names (84, L, qi j :: qr a :: st, M) x = Rr C mX13_names (85, L, q_fv M a j.toNat :: st, M) x := g_iald (show decode cX13_names 84 = .ok (.iaload, 1) by decide +kernel) hk h0 h1
set_option maxRecDepth 20000 in
theorem kX13_names_85 {C : QC} {x : QP} {M : QM} {st : List CV} {L : QL} : Rr C mX13_names (85, L, st, M) x = Rr C mX13_names (86, L, qi 1 :: st, M) x := g_pl (show decode cX13_names 85 = .ok (.iconst 1, 1) by decide +kernel) rfl
set_option maxRecDepth 20000 in
theorem kX13_names_86 {C : QC} {x : QP} {M : QM} {st : List CV} {L : QL} {a b : Int} : Rr C mX13_names (86, L, qi b :: qi a :: st, M) x = Rr C mX13_names (87, L, qi (a + b) :: st, M) x := g_pl (show decode cX13_names 86 = .ok (.iadd, 1) by decide +kernel) rfl
set_option maxRecDepth 20000 in
theorem kX13_names_87 {C : QC} {x : QP} {M : QM} {st : List CV} {L : QL} {a : Nat} {j v : Int} (hk : (q_kd M a).1 = 2) (h0 : 0 ≤ j) (h1 : j < ((q_kd M a).2 : Int)) : Rr C mX13_names (87, L, qi v :: qi j :: qr a :: st, M) x = Rr C mX13_names (88, L, st, q_wr M a j.toNat (qi v)) x := g_iast (show decode cX13_names 87 = .ok (.iastore, 1) by decide +kernel) hk h0 h1
set_option maxRecDepth 20000 in
theorem kX13_names_88 {C : QC} {x : QP} {M : QM} {st : List CV} {L : QL} : Rr C mX13_names (88, L, [], M) x = x none M := g_vret (show decode cX13_names 88 = .ok (.return_, 1) by decide +kernel)
set_option maxRecDepth 20000 in
theorem eX13_names {d : Nat} {M : QM} {x : QP} {a : Nat} {v0 : Int} {v1 : Int} : q_T (d + 1) iX13_names [qr a, qi v0, qi v1] M x = Rr (q_C d) mX13_names (0, [some (qr a), some (qi v0), some (qi v1), none, none], [], M) x := g_entryT (e := _) rfl (Nat.le_of_ble_eq_true rfl) rfl rfl
def mX13_founds : QI := (13, cX13_founds, false, some .int)
set_option maxRecDepth 20000 in
theorem kX13_founds_0 {C : QC} {x : QP} {M : QM} {st : List CV} {L : QL} {l0 l1 l2 l3 l4 l5 : Option CV} {r : Option Nat} : Rr C mX13_founds (0, [some (.inr (.inr r)), l1, l2, l3, l4, l5], st, M) x = Rr C mX13_founds (1, [some (.inr (.inr r)), l1, l2, l3, l4, l5], .inr (.inr r) :: st, M) x := g_pl (show decode cX13_founds 0 = .ok (.aload_n 0, 1) by decide +kernel) rfl
set_option maxRecDepth 20000 in
theorem kX13_founds_1 {C : QC} {x : QP} {M : QM} {st : List CV} {L : QL} {a : Nat} (hk : q_kd M a = (1, 13)) : Rr C mX13_founds (1, L, qr a :: st, M) x = Rr C mX13_founds (4, L, q_fv M a 0 :: st, M) x := g_getf (ow := 13) (e := (13, 0, RX13, 1301, 0)) (show decode cX13_founds 1 = .ok (.getfield 10, 3) by decide +kernel) rfl hk
set_option maxRecDepth 20000 in
theorem kX13_founds_4 {C : QC} {x : QP} {M : QM} {st : List CV} {L : QL} : Rr C mX13_founds (4, L, st, M) x = Rr C mX13_founds (5, L, qi 0 :: st, M) x := g_pl (show decode cX13_founds 4 = .ok (.iconst 0, 1) by decide +kernel) rfl
set_option maxRecDepth 20000 in
theorem kX13_founds_5 {C : QC} {x : QP} {M : QM} {st : List CV} {L : QL} {a : Nat} {j : Int} (hk : (q_kd M a).1 = 2) (h0 : 0 ≤ j) (h1 : j < ((q_kd M a).2 : Int)) : Rr C mX13_founds (5, L, qi j :: qr a :: st, M) x = Rr C mX13_founds (6, L, q_fv M a j.toNat :: st, M) x := g_iald (show decode cX13_founds 5 = .ok (.iaload, 1) by decide +kernel) hk h0 h1
set_option maxRecDepth 20000 in
theorem kX13_founds_6 {C : QC} {x : QP} {M : QM} {st : List CV} {L : QL} {l0 l1 l2 l3 l4 l5 : Option CV} {z : Int} : Rr C mX13_founds (6, [l0, l1, l2, l3, l4, l5], qi z :: st, M) x = Rr C mX13_founds (8, [l0, l1, l2, q_cut l3, some (qi z), l5], st, M) x := g_pl (show decode cX13_founds 6 = .ok (.istore 4, 2) by decide +kernel) rfl
set_option maxRecDepth 20000 in
theorem kX13_founds_8 {C : QC} {x : QP} {M : QM} {st : List CV} {L : QL} {l0 l1 l2 l3 l4 l5 : Option CV} {r : Option Nat} : Rr C mX13_founds (8, [some (.inr (.inr r)), l1, l2, l3, l4, l5], st, M) x = Rr C mX13_founds (9, [some (.inr (.inr r)), l1, l2, l3, l4, l5], .inr (.inr r) :: st, M) x := g_pl (show decode cX13_founds 8 = .ok (.aload_n 0, 1) by decide +kernel) rfl
set_option maxRecDepth 20000 in
theorem kX13_founds_9 {C : QC} {x : QP} {M : QM} {st : List CV} {L : QL} {a : Nat} (hk : q_kd M a = (1, 13)) : Rr C mX13_founds (9, L, qr a :: st, M) x = Rr C mX13_founds (12, L, q_fv M a 0 :: st, M) x := g_getf (ow := 13) (e := (13, 0, RX13, 1301, 0)) (show decode cX13_founds 9 = .ok (.getfield 10, 3) by decide +kernel) rfl hk
set_option maxRecDepth 20000 in
theorem kX13_founds_12 {C : QC} {x : QP} {M : QM} {st : List CV} {L : QL} : Rr C mX13_founds (12, L, st, M) x = Rr C mX13_founds (13, L, qi 0 :: st, M) x := g_pl (show decode cX13_founds 12 = .ok (.iconst 0, 1) by decide +kernel) rfl
set_option maxRecDepth 20000 in
theorem kX13_founds_13 {C : QC} {x : QP} {M : QM} {st : List CV} {L : QL} {a : Int} {b : Option Nat} : Rr C mX13_founds (13, L, qi a :: .inr (.inr b) :: st, M) x = Rr C mX13_founds (14, L, qi a :: .inr (.inr b) :: qi a :: .inr (.inr b) :: st, M) x := g_pl (show decode cX13_founds 13 = .ok (.dup2, 1) by decide +kernel) rfl
set_option maxRecDepth 20000 in
theorem kX13_founds_14 {C : QC} {x : QP} {M : QM} {st : List CV} {L : QL} {a : Nat} {j : Int} (hk : (q_kd M a).1 = 2) (h0 : 0 ≤ j) (h1 : j < ((q_kd M a).2 : Int)) : Rr C mX13_founds (14, L, qi j :: qr a :: st, M) x = Rr C mX13_founds (15, L, q_fv M a j.toNat :: st, M) x := g_iald (show decode cX13_founds 14 = .ok (.iaload, 1) by decide +kernel) hk h0 h1
set_option maxRecDepth 20000 in
theorem kX13_founds_15 {C : QC} {x : QP} {M : QM} {st : List CV} {L : QL} : Rr C mX13_founds (15, L, st, M) x = Rr C mX13_founds (16, L, qi 1 :: st, M) x := g_pl (show decode cX13_founds 15 = .ok (.iconst 1, 1) by decide +kernel) rfl
set_option maxRecDepth 20000 in
theorem kX13_founds_16 {C : QC} {x : QP} {M : QM} {st : List CV} {L : QL} {a b : Int} : Rr C mX13_founds (16, L, qi b :: qi a :: st, M) x = Rr C mX13_founds (17, L, qi (a + b) :: st, M) x := g_pl (show decode cX13_founds 16 = .ok (.iadd, 1) by decide +kernel) rfl
set_option maxRecDepth 20000 in
theorem kX13_founds_17 {C : QC} {x : QP} {M : QM} {st : List CV} {L : QL} {a : Nat} {j v : Int} (hk : (q_kd M a).1 = 2) (h0 : 0 ≤ j) (h1 : j < ((q_kd M a).2 : Int)) : Rr C mX13_founds (17, L, qi v :: qi j :: qr a :: st, M) x = Rr C mX13_founds (18, L, st, q_wr M a j.toNat (qi v)) x := g_iast (show decode cX13_founds 17 = .ok (.iastore, 1) by decide +kernel) hk h0 h1
set_option maxRecDepth 20000 in
theorem kX13_founds_18 {C : QC} {x : QP} {M : QM} {st : List CV} {L : QL} {l0 l1 l2 l3 l4 l5 : Option CV} {r : Option Nat} : Rr C mX13_founds (18, [some (.inr (.inr r)), l1, l2, l3, l4, l5], st, M) x = Rr C mX13_founds (19, [some (.inr (.inr r)), l1, l2, l3, l4, l5], .inr (.inr r) :: st, M) x := g_pl (show decode cX13_founds 18 = .ok (.aload_n 0, 1) by decide +kernel) rfl
set_option maxRecDepth 20000 in
theorem kX13_founds_19 {C : QC} {x : QP} {M : QM} {st : List CV} {L : QL} {l0 l1 l2 l3 l4 l5 : Option CV} {z : Int} : Rr C mX13_founds (19, [l0, l1, l2, l3, some (qi z), l5], st, M) x = Rr C mX13_founds (21, [l0, l1, l2, l3, some (qi z), l5], qi z :: st, M) x := g_pl (show decode cX13_founds 19 = .ok (.iload 4, 2) by decide +kernel) rfl
set_option maxRecDepth 20000 in
theorem kX13_founds_21 {C : QC} {x : QP} {M : QM} {st : List CV} {L : QL} : Rr C mX13_founds (21, L, st, M) x = Rr C mX13_founds (22, L, qi 0 :: st, M) x := g_pl (show decode cX13_founds 21 = .ok (.iconst 0, 1) by decide +kernel) rfl
set_option maxRecDepth 20000 in
theorem kX13_founds_22 {C : QC} {x : QP} {M : QM} {st : List CV} {L : QL} {l0 l1 l2 l3 l4 l5 : Option CV} {z : Int} : Rr C mX13_founds (22, [l0, some (qi z), l2, l3, l4, l5], st, M) x = Rr C mX13_founds (23, [l0, some (qi z), l2, l3, l4, l5], qi z :: st, M) x := g_pl (show decode cX13_founds 22 = .ok (.iload_n 1, 1) by decide +kernel) rfl
set_option maxRecDepth 20000 in
theorem kX13_founds_23 {C : QC} {x : QP} {M : QM} {L : QL} {rest : List CV} {a0 a1 a2 : CV} {M1 : QM} {b : Nat} (hb : q_kd M b = (1, 13)) (hC : C iX13_lays [qr b, a0, a1, a2] M none M1) (hw : (rest.map q_wd).sum ≤ 8) (k : Rr C mX13_founds (26, L, rest, M1) x) : Rr C mX13_founds (23, L, a2 :: a1 :: a0 :: qr b :: rest, M) x := g_cv (ow := 13) (e := (0, 214, 13, [1419, 1421, 39, 94])) (as := [a0, a1, a2]) (show decode cX13_founds 23 = .ok (.invokevirtual 55, 3) by decide +kernel) rfl rfl rfl (Or.inl rfl) rfl hb hC hw k
set_option maxRecDepth 20000 in
theorem kX13_founds_26 {C : QC} {x : QP} {M : QM} {st : List CV} {L : QL} {l0 l1 l2 l3 l4 l5 : Option CV} {r : Option Nat} : Rr C mX13_founds (26, [some (.inr (.inr r)), l1, l2, l3, l4, l5], st, M) x = Rr C mX13_founds (27, [some (.inr (.inr r)), l1, l2, l3, l4, l5], .inr (.inr r) :: st, M) x := g_pl (show decode cX13_founds 26 = .ok (.aload_n 0, 1) by decide +kernel) rfl
set_option maxRecDepth 20000 in
theorem kX13_founds_27 {C : QC} {x : QP} {M : QM} {st : List CV} {L : QL} {l0 l1 l2 l3 l4 l5 : Option CV} {z : Int} : Rr C mX13_founds (27, [l0, l1, l2, l3, some (qi z), l5], st, M) x = Rr C mX13_founds (29, [l0, l1, l2, l3, some (qi z), l5], qi z :: st, M) x := g_pl (show decode cX13_founds 27 = .ok (.iload 4, 2) by decide +kernel) rfl
set_option maxRecDepth 20000 in
theorem kX13_founds_29 {C : QC} {x : QP} {M : QM} {st : List CV} {L : QL} : Rr C mX13_founds (29, L, st, M) x = Rr C mX13_founds (30, L, qi 1 :: st, M) x := g_pl (show decode cX13_founds 29 = .ok (.iconst 1, 1) by decide +kernel) rfl
set_option maxRecDepth 20000 in
theorem kX13_founds_30 {C : QC} {x : QP} {M : QM} {st : List CV} {L : QL} {l0 l1 l2 l3 l4 l5 : Option CV} {z : Int} : Rr C mX13_founds (30, [l0, l1, l2, some (qi z), l4, l5], st, M) x = Rr C mX13_founds (31, [l0, l1, l2, some (qi z), l4, l5], qi z :: st, M) x := g_pl (show decode cX13_founds 30 = .ok (.iload_n 3, 1) by decide +kernel) rfl
set_option maxRecDepth 20000 in
theorem kX13_founds_31 {C : QC} {x : QP} {M : QM} {L : QL} {rest : List CV} {a0 a1 a2 : CV} {M1 : QM} {b : Nat} (hb : q_kd M b = (1, 13)) (hC : C iX13_lays [qr b, a0, a1, a2] M none M1) (hw : (rest.map q_wd).sum ≤ 8) (k : Rr C mX13_founds (34, L, rest, M1) x) : Rr C mX13_founds (31, L, a2 :: a1 :: a0 :: qr b :: rest, M) x := g_cv (ow := 13) (e := (0, 214, 13, [1419, 1421, 39, 94])) (as := [a0, a1, a2]) (show decode cX13_founds 31 = .ok (.invokevirtual 55, 3) by decide +kernel) rfl rfl rfl (Or.inl rfl) rfl hb hC hw k
set_option maxRecDepth 20000 in
theorem kX13_founds_34 {C : QC} {x : QP} {M : QM} {st : List CV} {L : QL} {l0 l1 l2 l3 l4 l5 : Option CV} {r : Option Nat} : Rr C mX13_founds (34, [some (.inr (.inr r)), l1, l2, l3, l4, l5], st, M) x = Rr C mX13_founds (35, [some (.inr (.inr r)), l1, l2, l3, l4, l5], .inr (.inr r) :: st, M) x := g_pl (show decode cX13_founds 34 = .ok (.aload_n 0, 1) by decide +kernel) rfl
set_option maxRecDepth 20000 in
theorem kX13_founds_35 {C : QC} {x : QP} {M : QM} {st : List CV} {L : QL} {l0 l1 l2 l3 l4 l5 : Option CV} {z : Int} : Rr C mX13_founds (35, [l0, l1, l2, l3, some (qi z), l5], st, M) x = Rr C mX13_founds (37, [l0, l1, l2, l3, some (qi z), l5], qi z :: st, M) x := g_pl (show decode cX13_founds 35 = .ok (.iload 4, 2) by decide +kernel) rfl
set_option maxRecDepth 20000 in
theorem kX13_founds_37 {C : QC} {x : QP} {M : QM} {st : List CV} {L : QL} : Rr C mX13_founds (37, L, st, M) x = Rr C mX13_founds (38, L, qi 2 :: st, M) x := g_pl (show decode cX13_founds 37 = .ok (.iconst 2, 1) by decide +kernel) rfl
set_option maxRecDepth 20000 in
theorem kX13_founds_38 {C : QC} {x : QP} {M : QM} {st : List CV} {L : QL} : Rr C mX13_founds (38, L, st, M) x = Rr C mX13_founds (39, L, qi (-1) :: st, M) x := g_pl (show decode cX13_founds 38 = .ok (.iconst (-1), 1) by decide +kernel) rfl
set_option maxRecDepth 20000 in
theorem kX13_founds_39 {C : QC} {x : QP} {M : QM} {L : QL} {rest : List CV} {a0 a1 a2 : CV} {M1 : QM} {b : Nat} (hb : q_kd M b = (1, 13)) (hC : C iX13_lays [qr b, a0, a1, a2] M none M1) (hw : (rest.map q_wd).sum ≤ 8) (k : Rr C mX13_founds (42, L, rest, M1) x) : Rr C mX13_founds (39, L, a2 :: a1 :: a0 :: qr b :: rest, M) x := g_cv (ow := 13) (e := (0, 214, 13, [1419, 1421, 39, 94])) (as := [a0, a1, a2]) (show decode cX13_founds 39 = .ok (.invokevirtual 55, 3) by decide +kernel) rfl rfl rfl (Or.inl rfl) rfl hb hC hw k
set_option maxRecDepth 20000 in
theorem kX13_founds_42 {C : QC} {x : QP} {M : QM} {st : List CV} {L : QL} {l0 l1 l2 l3 l4 l5 : Option CV} {r : Option Nat} : Rr C mX13_founds (42, [some (.inr (.inr r)), l1, l2, l3, l4, l5], st, M) x = Rr C mX13_founds (43, [some (.inr (.inr r)), l1, l2, l3, l4, l5], .inr (.inr r) :: st, M) x := g_pl (show decode cX13_founds 42 = .ok (.aload_n 0, 1) by decide +kernel) rfl
set_option maxRecDepth 20000 in
theorem kX13_founds_43 {C : QC} {x : QP} {M : QM} {st : List CV} {L : QL} {l0 l1 l2 l3 l4 l5 : Option CV} {z : Int} : Rr C mX13_founds (43, [l0, l1, l2, l3, some (qi z), l5], st, M) x = Rr C mX13_founds (45, [l0, l1, l2, l3, some (qi z), l5], qi z :: st, M) x := g_pl (show decode cX13_founds 43 = .ok (.iload 4, 2) by decide +kernel) rfl
set_option maxRecDepth 20000 in
theorem kX13_founds_45 {C : QC} {x : QP} {M : QM} {st : List CV} {L : QL} : Rr C mX13_founds (45, L, st, M) x = Rr C mX13_founds (46, L, qi 3 :: st, M) x := g_pl (show decode cX13_founds 45 = .ok (.iconst 3, 1) by decide +kernel) rfl
set_option maxRecDepth 20000 in
theorem kX13_founds_46 {C : QC} {x : QP} {M : QM} {st : List CV} {L : QL} : Rr C mX13_founds (46, L, st, M) x = Rr C mX13_founds (47, L, qi (-1) :: st, M) x := g_pl (show decode cX13_founds 46 = .ok (.iconst (-1), 1) by decide +kernel) rfl
set_option maxRecDepth 20000 in
theorem kX13_founds_47 {C : QC} {x : QP} {M : QM} {L : QL} {rest : List CV} {a0 a1 a2 : CV} {M1 : QM} {b : Nat} (hb : q_kd M b = (1, 13)) (hC : C iX13_lays [qr b, a0, a1, a2] M none M1) (hw : (rest.map q_wd).sum ≤ 8) (k : Rr C mX13_founds (50, L, rest, M1) x) : Rr C mX13_founds (47, L, a2 :: a1 :: a0 :: qr b :: rest, M) x := g_cv (ow := 13) (e := (0, 214, 13, [1419, 1421, 39, 94])) (as := [a0, a1, a2]) (show decode cX13_founds 47 = .ok (.invokevirtual 55, 3) by decide +kernel) rfl rfl rfl (Or.inl rfl) rfl hb hC hw k
set_option maxRecDepth 20000 in
theorem kX13_founds_50 {C : QC} {x : QP} {M : QM} {st : List CV} {L : QL} {l0 l1 l2 l3 l4 l5 : Option CV} {r : Option Nat} : Rr C mX13_founds (50, [some (.inr (.inr r)), l1, l2, l3, l4, l5], st, M) x = Rr C mX13_founds (51, [some (.inr (.inr r)), l1, l2, l3, l4, l5], .inr (.inr r) :: st, M) x := g_pl (show decode cX13_founds 50 = .ok (.aload_n 0, 1) by decide +kernel) rfl
set_option maxRecDepth 20000 in
theorem kX13_founds_51 {C : QC} {x : QP} {M : QM} {st : List CV} {L : QL} {l0 l1 l2 l3 l4 l5 : Option CV} {z : Int} : Rr C mX13_founds (51, [l0, l1, l2, l3, some (qi z), l5], st, M) x = Rr C mX13_founds (53, [l0, l1, l2, l3, some (qi z), l5], qi z :: st, M) x := g_pl (show decode cX13_founds 51 = .ok (.iload 4, 2) by decide +kernel) rfl
set_option maxRecDepth 20000 in
theorem kX13_founds_53 {C : QC} {x : QP} {M : QM} {st : List CV} {L : QL} : Rr C mX13_founds (53, L, st, M) x = Rr C mX13_founds (54, L, qi 4 :: st, M) x := g_pl (show decode cX13_founds 53 = .ok (.iconst 4, 1) by decide +kernel) rfl
set_option maxRecDepth 20000 in
theorem kX13_founds_54 {C : QC} {x : QP} {M : QM} {st : List CV} {L : QL} {l0 l1 l2 l3 l4 l5 : Option CV} {z : Int} : Rr C mX13_founds (54, [l0, l1, l2, some (qi z), l4, l5], st, M) x = Rr C mX13_founds (55, [l0, l1, l2, some (qi z), l4, l5], qi z :: st, M) x := g_pl (show decode cX13_founds 54 = .ok (.iload_n 3, 1) by decide +kernel) rfl
set_option maxRecDepth 20000 in
theorem kX13_founds_55 {C : QC} {x : QP} {M : QM} {L : QL} {rest : List CV} {a0 a1 a2 : CV} {M1 : QM} {b : Nat} (hb : q_kd M b = (1, 13)) (hC : C iX13_lays [qr b, a0, a1, a2] M none M1) (hw : (rest.map q_wd).sum ≤ 8) (k : Rr C mX13_founds (58, L, rest, M1) x) : Rr C mX13_founds (55, L, a2 :: a1 :: a0 :: qr b :: rest, M) x := g_cv (ow := 13) (e := (0, 214, 13, [1419, 1421, 39, 94])) (as := [a0, a1, a2]) (show decode cX13_founds 55 = .ok (.invokevirtual 55, 3) by decide +kernel) rfl rfl rfl (Or.inl rfl) rfl hb hC hw k
set_option maxRecDepth 20000 in
theorem kX13_founds_58 {C : QC} {x : QP} {M : QM} {st : List CV} {L : QL} {l0 l1 l2 l3 l4 l5 : Option CV} {r : Option Nat} : Rr C mX13_founds (58, [some (.inr (.inr r)), l1, l2, l3, l4, l5], st, M) x = Rr C mX13_founds (59, [some (.inr (.inr r)), l1, l2, l3, l4, l5], .inr (.inr r) :: st, M) x := g_pl (show decode cX13_founds 58 = .ok (.aload_n 0, 1) by decide +kernel) rfl
set_option maxRecDepth 20000 in
theorem kX13_founds_59 {C : QC} {x : QP} {M : QM} {st : List CV} {L : QL} {l0 l1 l2 l3 l4 l5 : Option CV} {z : Int} : Rr C mX13_founds (59, [l0, l1, l2, l3, some (qi z), l5], st, M) x = Rr C mX13_founds (61, [l0, l1, l2, l3, some (qi z), l5], qi z :: st, M) x := g_pl (show decode cX13_founds 59 = .ok (.iload 4, 2) by decide +kernel) rfl
set_option maxRecDepth 20000 in
theorem kX13_founds_61 {C : QC} {x : QP} {M : QM} {st : List CV} {L : QL} : Rr C mX13_founds (61, L, st, M) x = Rr C mX13_founds (62, L, qi 5 :: st, M) x := g_pl (show decode cX13_founds 61 = .ok (.iconst 5, 1) by decide +kernel) rfl
set_option maxRecDepth 20000 in
theorem kX13_founds_62 {C : QC} {x : QP} {M : QM} {st : List CV} {L : QL} : Rr C mX13_founds (62, L, st, M) x = Rr C mX13_founds (63, L, qi 0 :: st, M) x := g_pl (show decode cX13_founds 62 = .ok (.iconst 0, 1) by decide +kernel) rfl
set_option maxRecDepth 20000 in
theorem kX13_founds_63 {C : QC} {x : QP} {M : QM} {L : QL} {rest : List CV} {a0 a1 a2 : CV} {M1 : QM} {b : Nat} (hb : q_kd M b = (1, 13)) (hC : C iX13_lays [qr b, a0, a1, a2] M none M1) (hw : (rest.map q_wd).sum ≤ 8) (k : Rr C mX13_founds (66, L, rest, M1) x) : Rr C mX13_founds (63, L, a2 :: a1 :: a0 :: qr b :: rest, M) x := g_cv (ow := 13) (e := (0, 214, 13, [1419, 1421, 39, 94])) (as := [a0, a1, a2]) (show decode cX13_founds 63 = .ok (.invokevirtual 55, 3) by decide +kernel) rfl rfl rfl (Or.inl rfl) rfl hb hC hw k
set_option maxRecDepth 20000 in
theorem kX13_founds_66 {C : QC} {x : QP} {M : QM} {st : List CV} {L : QL} {l0 l1 l2 l3 l4 l5 : Option CV} {z : Int} : Rr C mX13_founds (66, [l0, some (qi z), l2, l3, l4, l5], st, M) x = Rr C mX13_founds (67, [l0, some (qi z), l2, l3, l4, l5], qi z :: st, M) x := g_pl (show decode cX13_founds 66 = .ok (.iload_n 1, 1) by decide +kernel) rfl
set_option maxRecDepth 20000 in
theorem kX13_founds_67 {C : QC} {x : QP} {M : QM} {st : List CV} {L : QL} {a : Int} (ha1 : -2147483648 ≤ a) (ha2 : a < 2147483648) : Rr C mX13_founds (67, L, qi a :: st, M) x = (if a = 0 then Rr C mX13_founds (70, L, st, M) x else Rr C mX13_founds (75, L, st, M) x) := (g_if (show decode cX13_founds 67 = .ok (.ifCond .ne 8, 3) by decide +kernel) rfl ha1 ha2).trans (g_itn c_ne)
set_option maxRecDepth 20000 in
theorem kX13_founds_70 {C : QC} {x : QP} {M : QM} {st : List CV} {L : QL} : Rr C mX13_founds (70, L, st, M) x = Rr C mX13_founds (72, L, qi (-5) :: st, M) x := g_pl (show decode cX13_founds 70 = .ok (.bipush (-5), 2) by decide +kernel) rfl
set_option maxRecDepth 20000 in
theorem kX13_founds_72 {C : QC} {x : QP} {M : QM} {st : List CV} {L : QL} : Rr C mX13_founds (72, L, st, M) x = Rr C mX13_founds (76, L, st, M) x := g_pl (show decode cX13_founds 72 = .ok (.goto 4, 3) by decide +kernel) rfl
set_option maxRecDepth 20000 in
theorem kX13_founds_75 {C : QC} {x : QP} {M : QM} {st : List CV} {L : QL} {l0 l1 l2 l3 l4 l5 : Option CV} {z : Int} : Rr C mX13_founds (75, [l0, l1, some (qi z), l3, l4, l5], st, M) x = Rr C mX13_founds (76, [l0, l1, some (qi z), l3, l4, l5], qi z :: st, M) x := g_pl (show decode cX13_founds 75 = .ok (.iload_n 2, 1) by decide +kernel) rfl
set_option maxRecDepth 20000 in
theorem kX13_founds_76 {C : QC} {x : QP} {M : QM} {st : List CV} {L : QL} {l0 l1 l2 l3 l4 l5 : Option CV} {z : Int} : Rr C mX13_founds (76, [l0, l1, l2, l3, l4, l5], qi z :: st, M) x = Rr C mX13_founds (78, [l0, l1, l2, l3, q_cut l4, some (qi z)], st, M) x := g_pl (show decode cX13_founds 76 = .ok (.istore 5, 2) by decide +kernel) rfl
set_option maxRecDepth 20000 in
theorem kX13_founds_78 {C : QC} {x : QP} {M : QM} {st : List CV} {L : QL} {l0 l1 l2 l3 l4 l5 : Option CV} {z : Int} : Rr C mX13_founds (78, [l0, some (qi z), l2, l3, l4, l5], st, M) x = Rr C mX13_founds (79, [l0, some (qi z), l2, l3, l4, l5], qi z :: st, M) x := g_pl (show decode cX13_founds 78 = .ok (.iload_n 1, 1) by decide +kernel) rfl
set_option maxRecDepth 20000 in
theorem kX13_founds_79 {C : QC} {x : QP} {M : QM} {st : List CV} {L : QL} {a : Int} (ha1 : -2147483648 ≤ a) (ha2 : a < 2147483648) : Rr C mX13_founds (79, L, qi a :: st, M) x = (if 0 < a then Rr C mX13_founds (82, L, st, M) x else Rr C mX13_founds (90, L, st, M) x) := (g_if (show decode cX13_founds 79 = .ok (.ifCond .le 11, 3) by decide +kernel) rfl ha1 ha2).trans (g_itn c_le)
set_option maxRecDepth 20000 in
theorem kX13_founds_82 {C : QC} {x : QP} {M : QM} {st : List CV} {L : QL} {l0 l1 l2 l3 l4 l5 : Option CV} {r : Option Nat} : Rr C mX13_founds (82, [some (.inr (.inr r)), l1, l2, l3, l4, l5], st, M) x = Rr C mX13_founds (83, [some (.inr (.inr r)), l1, l2, l3, l4, l5], .inr (.inr r) :: st, M) x := g_pl (show decode cX13_founds 82 = .ok (.aload_n 0, 1) by decide +kernel) rfl
set_option maxRecDepth 20000 in
theorem kX13_founds_83 {C : QC} {x : QP} {M : QM} {st : List CV} {L : QL} {l0 l1 l2 l3 l4 l5 : Option CV} {z : Int} : Rr C mX13_founds (83, [l0, l1, l2, l3, some (qi z), l5], st, M) x = Rr C mX13_founds (85, [l0, l1, l2, l3, some (qi z), l5], qi z :: st, M) x := g_pl (show decode cX13_founds 83 = .ok (.iload 4, 2) by decide +kernel) rfl
set_option maxRecDepth 20000 in
theorem kX13_founds_85 {C : QC} {x : QP} {M : QM} {st : List CV} {L : QL} {l0 l1 l2 l3 l4 l5 : Option CV} {z : Int} : Rr C mX13_founds (85, [l0, l1, l2, some (qi z), l4, l5], st, M) x = Rr C mX13_founds (86, [l0, l1, l2, some (qi z), l4, l5], qi z :: st, M) x := g_pl (show decode cX13_founds 85 = .ok (.iload_n 3, 1) by decide +kernel) rfl
set_option maxRecDepth 20000 in
theorem kX13_founds_86 {C : QC} {x : QP} {M : QM} {st : List CV} {L : QL} {l0 l1 l2 l3 l4 l5 : Option CV} {z : Int} : Rr C mX13_founds (86, [l0, l1, some (qi z), l3, l4, l5], st, M) x = Rr C mX13_founds (87, [l0, l1, some (qi z), l3, l4, l5], qi z :: st, M) x := g_pl (show decode cX13_founds 86 = .ok (.iload_n 2, 1) by decide +kernel) rfl
set_option maxRecDepth 20000 in
theorem kX13_founds_87 {C : QC} {x : QP} {M : QM} {L : QL} {rest : List CV} {a0 a1 a2 : CV} {M1 : QM} {b : Nat} (hb : q_kd M b = (1, 13)) (hC : C iX13_tellsParent [qr b, a0, a1, a2] M none M1) (hw : (rest.map q_wd).sum ≤ 8) (k : Rr C mX13_founds (90, L, rest, M1) x) : Rr C mX13_founds (87, L, a2 :: a1 :: a0 :: qr b :: rest, M) x := g_cv (ow := 13) (e := (0, 215, 13, [1423, 1425, 40, 94])) (as := [a0, a1, a2]) (show decode cX13_founds 87 = .ok (.invokevirtual 113, 3) by decide +kernel) rfl rfl rfl (Or.inl rfl) rfl hb hC hw k
set_option maxRecDepth 20000 in
theorem kX13_founds_90 {C : QC} {x : QP} {M : QM} {st : List CV} {L : QL} {l0 l1 l2 l3 l4 l5 : Option CV} {r : Option Nat} : Rr C mX13_founds (90, [some (.inr (.inr r)), l1, l2, l3, l4, l5], st, M) x = Rr C mX13_founds (91, [some (.inr (.inr r)), l1, l2, l3, l4, l5], .inr (.inr r) :: st, M) x := g_pl (show decode cX13_founds 90 = .ok (.aload_n 0, 1) by decide +kernel) rfl
set_option maxRecDepth 20000 in
theorem kX13_founds_91 {C : QC} {x : QP} {M : QM} {st : List CV} {L : QL} {l0 l1 l2 l3 l4 l5 : Option CV} {z : Int} : Rr C mX13_founds (91, [l0, l1, l2, l3, some (qi z), l5], st, M) x = Rr C mX13_founds (93, [l0, l1, l2, l3, some (qi z), l5], qi z :: st, M) x := g_pl (show decode cX13_founds 91 = .ok (.iload 4, 2) by decide +kernel) rfl
set_option maxRecDepth 20000 in
theorem kX13_founds_93 {C : QC} {x : QP} {M : QM} {st : List CV} {L : QL} {l0 l1 l2 l3 l4 l5 : Option CV} {z : Int} : Rr C mX13_founds (93, [l0, l1, l2, some (qi z), l4, l5], st, M) x = Rr C mX13_founds (94, [l0, l1, l2, some (qi z), l4, l5], qi z :: st, M) x := g_pl (show decode cX13_founds 93 = .ok (.iload_n 3, 1) by decide +kernel) rfl
set_option maxRecDepth 20000 in
theorem kX13_founds_94 {C : QC} {x : QP} {M : QM} {L : QL} {rest : List CV} {a0 a1 : CV} {M1 : QM} {b : Nat} (hb : q_kd M b = (1, 13)) (hC : C iX13_names [qr b, a0, a1] M none M1) (hw : (rest.map q_wd).sum ≤ 8) (k : Rr C mX13_founds (97, L, rest, M1) x) : Rr C mX13_founds (94, L, a1 :: a0 :: qr b :: rest, M) x := g_cv (ow := 13) (e := (0, 216, 13, [1427, 1429, 41, 94])) (as := [a0, a1]) (show decode cX13_founds 94 = .ok (.invokevirtual 116, 3) by decide +kernel) rfl rfl rfl (Or.inl rfl) rfl hb hC hw k
set_option maxRecDepth 20000 in
theorem kX13_founds_97 {C : QC} {x : QP} {M : QM} {st : List CV} {L : QL} {l0 l1 l2 l3 l4 l5 : Option CV} {r : Option Nat} : Rr C mX13_founds (97, [some (.inr (.inr r)), l1, l2, l3, l4, l5], st, M) x = Rr C mX13_founds (98, [some (.inr (.inr r)), l1, l2, l3, l4, l5], .inr (.inr r) :: st, M) x := g_pl (show decode cX13_founds 97 = .ok (.aload_n 0, 1) by decide +kernel) rfl
set_option maxRecDepth 20000 in
theorem kX13_founds_98 {C : QC} {x : QP} {M : QM} {st : List CV} {L : QL} {l0 l1 l2 l3 l4 l5 : Option CV} {z : Int} : Rr C mX13_founds (98, [l0, l1, l2, l3, some (qi z), l5], st, M) x = Rr C mX13_founds (100, [l0, l1, l2, l3, some (qi z), l5], qi z :: st, M) x := g_pl (show decode cX13_founds 98 = .ok (.iload 4, 2) by decide +kernel) rfl
set_option maxRecDepth 20000 in
theorem kX13_founds_100 {C : QC} {x : QP} {M : QM} {st : List CV} {L : QL} {l0 l1 l2 l3 l4 l5 : Option CV} {z : Int} : Rr C mX13_founds (100, [l0, l1, l2, some (qi z), l4, l5], st, M) x = Rr C mX13_founds (101, [l0, l1, l2, some (qi z), l4, l5], qi z :: st, M) x := g_pl (show decode cX13_founds 100 = .ok (.iload_n 3, 1) by decide +kernel) rfl
set_option maxRecDepth 20000 in
theorem kX13_founds_101 {C : QC} {x : QP} {M : QM} {st : List CV} {L : QL} : Rr C mX13_founds (101, L, st, M) x = Rr C mX13_founds (102, L, qi 0 :: st, M) x := g_pl (show decode cX13_founds 101 = .ok (.iconst 0, 1) by decide +kernel) rfl
set_option maxRecDepth 20000 in
theorem kX13_founds_102 {C : QC} {x : QP} {M : QM} {st : List CV} {L : QL} {l0 l1 l2 l3 l4 l5 : Option CV} {z : Int} : Rr C mX13_founds (102, [l0, l1, l2, l3, l4, some (qi z)], st, M) x = Rr C mX13_founds (104, [l0, l1, l2, l3, l4, some (qi z)], qi z :: st, M) x := g_pl (show decode cX13_founds 102 = .ok (.iload 5, 2) by decide +kernel) rfl
set_option maxRecDepth 20000 in
theorem kX13_founds_104 {C : QC} {x : QP} {M : QM} {L : QL} {rest : List CV} {a0 a1 a2 a3 : CV} {M1 : QM} {b : Nat} (hb : q_kd M b = (1, 13)) (hC : C iX13_happens [qr b, a0, a1, a2, a3] M none M1) (hw : (rest.map q_wd).sum ≤ 8) (k : Rr C mX13_founds (107, L, rest, M1) x) : Rr C mX13_founds (104, L, a3 :: a2 :: a1 :: a0 :: qr b :: rest, M) x := g_cv (ow := 13) (e := (0, 217, 13, [1431, 1433, 42, 94])) (as := [a0, a1, a2, a3]) (show decode cX13_founds 104 = .ok (.invokevirtual 119, 3) by decide +kernel) rfl rfl rfl (Or.inl rfl) rfl hb hC hw k
set_option maxRecDepth 20000 in
theorem kX13_founds_107 {C : QC} {x : QP} {M : QM} {st : List CV} {L : QL} {l0 l1 l2 l3 l4 l5 : Option CV} {z : Int} : Rr C mX13_founds (107, [l0, l1, l2, l3, some (qi z), l5], st, M) x = Rr C mX13_founds (109, [l0, l1, l2, l3, some (qi z), l5], qi z :: st, M) x := g_pl (show decode cX13_founds 107 = .ok (.iload 4, 2) by decide +kernel) rfl
set_option maxRecDepth 20000 in
theorem kX13_founds_109 {C : QC} {x : QP} {M : QM} {st : List CV} {L : QL} {z : Int} : Rr C mX13_founds (109, L, [qi z], M) x = x (some (qi z)) M := g_iret (show decode cX13_founds 109 = .ok (.ireturn, 1) by decide +kernel) rfl
set_option maxRecDepth 20000 in
theorem eX13_founds {d : Nat} {M : QM} {x : QP} {a : Nat} {v0 : Int} {v1 : Int} {v2 : Int} : q_T (d + 1) iX13_founds [qr a, qi v0, qi v1, qi v2] M x = Rr (q_C d) mX13_founds (0, [some (qr a), some (qi v0), some (qi v1), some (qi v2), none, none], [], M) x := g_entryT (e := _) rfl (Nat.le_of_ble_eq_true rfl) rfl rfl
def mX13_renames : QI := (13, cX13_renames, false, some .int)
set_option maxRecDepth 20000 in
theorem kX13_renames_0 {C : QC} {x : QP} {M : QM} {st : List CV} {L : QL} {l0 l1 l2 l3 : Option CV} {r : Option Nat} : Rr C mX13_renames (0, [some (.inr (.inr r)), l1, l2, l3], st, M) x = Rr C mX13_renames (1, [some (.inr (.inr r)), l1, l2, l3], .inr (.inr r) :: st, M) x := g_pl (show decode cX13_renames 0 = .ok (.aload_n 0, 1) by decide +kernel) rfl
set_option maxRecDepth 20000 in
theorem kX13_renames_1 {C : QC} {x : QP} {M : QM} {st : List CV} {L : QL} {l0 l1 l2 l3 : Option CV} {z : Int} : Rr C mX13_renames (1, [l0, some (qi z), l2, l3], st, M) x = Rr C mX13_renames (2, [l0, some (qi z), l2, l3], qi z :: st, M) x := g_pl (show decode cX13_renames 1 = .ok (.iload_n 1, 1) by decide +kernel) rfl
set_option maxRecDepth 20000 in
theorem kX13_renames_2 {C : QC} {x : QP} {M : QM} {st : List CV} {L : QL} {l0 l1 l2 l3 : Option CV} {z : Int} : Rr C mX13_renames (2, [l0, l1, some (qi z), l3], st, M) x = Rr C mX13_renames (3, [l0, l1, some (qi z), l3], qi z :: st, M) x := g_pl (show decode cX13_renames 2 = .ok (.iload_n 2, 1) by decide +kernel) rfl
set_option maxRecDepth 20000 in
theorem kX13_renames_3 {C : QC} {x : QP} {M : QM} {L : QL} {rest : List CV} {a0 a1 : CV} {v : CV} {M1 : QM} {b : Nat} (hb : q_kd M b = (1, 13)) (hC : C iX13_lengthOn [qr b, a0, a1] M (some v) M1) (hw : (rest.map q_wd).sum ≤ 8) (k : Rr C mX13_renames (6, L, v :: rest, M1) x) : Rr C mX13_renames (3, L, a1 :: a0 :: qr b :: rest, M) x := g_cv (ow := 13) (e := (0, 222, 13, [1451, 1453, 46, 94])) (as := [a0, a1]) (show decode cX13_renames 3 = .ok (.invokevirtual 123, 3) by decide +kernel) rfl rfl rfl (Or.inl rfl) rfl hb hC hw k
set_option maxRecDepth 20000 in
theorem kX13_renames_6 {C : QC} {x : QP} {M : QM} {st : List CV} {L : QL} {l0 l1 l2 l3 : Option CV} {z : Int} : Rr C mX13_renames (6, [l0, l1, l2, l3], qi z :: st, M) x = Rr C mX13_renames (7, [l0, l1, q_cut l2, some (qi z)], st, M) x := g_pl (show decode cX13_renames 6 = .ok (.istore_n 3, 1) by decide +kernel) rfl
set_option maxRecDepth 20000 in
theorem kX13_renames_7 {C : QC} {x : QP} {M : QM} {st : List CV} {L : QL} {l0 l1 l2 l3 : Option CV} {r : Option Nat} : Rr C mX13_renames (7, [some (.inr (.inr r)), l1, l2, l3], st, M) x = Rr C mX13_renames (8, [some (.inr (.inr r)), l1, l2, l3], .inr (.inr r) :: st, M) x := g_pl (show decode cX13_renames 7 = .ok (.aload_n 0, 1) by decide +kernel) rfl
set_option maxRecDepth 20000 in
theorem kX13_renames_8 {C : QC} {x : QP} {M : QM} {st : List CV} {L : QL} {l0 l1 l2 l3 : Option CV} {z : Int} : Rr C mX13_renames (8, [l0, some (qi z), l2, l3], st, M) x = Rr C mX13_renames (9, [l0, some (qi z), l2, l3], qi z :: st, M) x := g_pl (show decode cX13_renames 8 = .ok (.iload_n 1, 1) by decide +kernel) rfl
set_option maxRecDepth 20000 in
theorem kX13_renames_9 {C : QC} {x : QP} {M : QM} {st : List CV} {L : QL} {l0 l1 l2 l3 : Option CV} {z : Int} : Rr C mX13_renames (9, [l0, l1, some (qi z), l3], st, M) x = Rr C mX13_renames (10, [l0, l1, some (qi z), l3], qi z :: st, M) x := g_pl (show decode cX13_renames 9 = .ok (.iload_n 2, 1) by decide +kernel) rfl
set_option maxRecDepth 20000 in
theorem kX13_renames_10 {C : QC} {x : QP} {M : QM} {L : QL} {rest : List CV} {a0 a1 : CV} {M1 : QM} {b : Nat} (hb : q_kd M b = (1, 13)) (hC : C iX13_names [qr b, a0, a1] M none M1) (hw : (rest.map q_wd).sum ≤ 8) (k : Rr C mX13_renames (13, L, rest, M1) x) : Rr C mX13_renames (10, L, a1 :: a0 :: qr b :: rest, M) x := g_cv (ow := 13) (e := (0, 216, 13, [1427, 1429, 41, 94])) (as := [a0, a1]) (show decode cX13_renames 10 = .ok (.invokevirtual 116, 3) by decide +kernel) rfl rfl rfl (Or.inl rfl) rfl hb hC hw k
set_option maxRecDepth 20000 in
theorem kX13_renames_13 {C : QC} {x : QP} {M : QM} {st : List CV} {L : QL} {l0 l1 l2 l3 : Option CV} {r : Option Nat} : Rr C mX13_renames (13, [some (.inr (.inr r)), l1, l2, l3], st, M) x = Rr C mX13_renames (14, [some (.inr (.inr r)), l1, l2, l3], .inr (.inr r) :: st, M) x := g_pl (show decode cX13_renames 13 = .ok (.aload_n 0, 1) by decide +kernel) rfl
set_option maxRecDepth 20000 in
theorem kX13_renames_14 {C : QC} {x : QP} {M : QM} {st : List CV} {L : QL} {l0 l1 l2 l3 : Option CV} {z : Int} : Rr C mX13_renames (14, [l0, some (qi z), l2, l3], st, M) x = Rr C mX13_renames (15, [l0, some (qi z), l2, l3], qi z :: st, M) x := g_pl (show decode cX13_renames 14 = .ok (.iload_n 1, 1) by decide +kernel) rfl
set_option maxRecDepth 20000 in
theorem kX13_renames_15 {C : QC} {x : QP} {M : QM} {st : List CV} {L : QL} : Rr C mX13_renames (15, L, st, M) x = Rr C mX13_renames (16, L, qi 4 :: st, M) x := g_pl (show decode cX13_renames 15 = .ok (.iconst 4, 1) by decide +kernel) rfl
set_option maxRecDepth 20000 in
theorem kX13_renames_16 {C : QC} {x : QP} {M : QM} {st : List CV} {L : QL} {l0 l1 l2 l3 : Option CV} {z : Int} : Rr C mX13_renames (16, [l0, l1, some (qi z), l3], st, M) x = Rr C mX13_renames (17, [l0, l1, some (qi z), l3], qi z :: st, M) x := g_pl (show decode cX13_renames 16 = .ok (.iload_n 2, 1) by decide +kernel) rfl
set_option maxRecDepth 20000 in
theorem kX13_renames_17 {C : QC} {x : QP} {M : QM} {L : QL} {rest : List CV} {a0 a1 a2 : CV} {M1 : QM} {b : Nat} (hb : q_kd M b = (1, 13)) (hC : C iX13_lays [qr b, a0, a1, a2] M none M1) (hw : (rest.map q_wd).sum ≤ 8) (k : Rr C mX13_renames (20, L, rest, M1) x) : Rr C mX13_renames (17, L, a2 :: a1 :: a0 :: qr b :: rest, M) x := g_cv (ow := 13) (e := (0, 214, 13, [1419, 1421, 39, 94])) (as := [a0, a1, a2]) (show decode cX13_renames 17 = .ok (.invokevirtual 55, 3) by decide +kernel) rfl rfl rfl (Or.inl rfl) rfl hb hC hw k
set_option maxRecDepth 20000 in
theorem kX13_renames_20 {C : QC} {x : QP} {M : QM} {st : List CV} {L : QL} {l0 l1 l2 l3 : Option CV} {r : Option Nat} : Rr C mX13_renames (20, [some (.inr (.inr r)), l1, l2, l3], st, M) x = Rr C mX13_renames (21, [some (.inr (.inr r)), l1, l2, l3], .inr (.inr r) :: st, M) x := g_pl (show decode cX13_renames 20 = .ok (.aload_n 0, 1) by decide +kernel) rfl
set_option maxRecDepth 20000 in
theorem kX13_renames_21 {C : QC} {x : QP} {M : QM} {st : List CV} {L : QL} {l0 l1 l2 l3 : Option CV} {z : Int} : Rr C mX13_renames (21, [l0, some (qi z), l2, l3], st, M) x = Rr C mX13_renames (22, [l0, some (qi z), l2, l3], qi z :: st, M) x := g_pl (show decode cX13_renames 21 = .ok (.iload_n 1, 1) by decide +kernel) rfl
set_option maxRecDepth 20000 in
theorem kX13_renames_22 {C : QC} {x : QP} {M : QM} {st : List CV} {L : QL} {l0 l1 l2 l3 : Option CV} {z : Int} : Rr C mX13_renames (22, [l0, l1, some (qi z), l3], st, M) x = Rr C mX13_renames (23, [l0, l1, some (qi z), l3], qi z :: st, M) x := g_pl (show decode cX13_renames 22 = .ok (.iload_n 2, 1) by decide +kernel) rfl
set_option maxRecDepth 20000 in
theorem kX13_renames_23 {C : QC} {x : QP} {M : QM} {st : List CV} {L : QL} : Rr C mX13_renames (23, L, st, M) x = Rr C mX13_renames (24, L, qi 1 :: st, M) x := g_pl (show decode cX13_renames 23 = .ok (.iconst 1, 1) by decide +kernel) rfl
set_option maxRecDepth 20000 in
theorem kX13_renames_24 {C : QC} {x : QP} {M : QM} {st : List CV} {L : QL} {l0 l1 l2 l3 : Option CV} {r : Option Nat} : Rr C mX13_renames (24, [some (.inr (.inr r)), l1, l2, l3], st, M) x = Rr C mX13_renames (25, [some (.inr (.inr r)), l1, l2, l3], .inr (.inr r) :: st, M) x := g_pl (show decode cX13_renames 24 = .ok (.aload_n 0, 1) by decide +kernel) rfl
set_option maxRecDepth 20000 in
theorem kX13_renames_25 {C : QC} {x : QP} {M : QM} {st : List CV} {L : QL} {a : Nat} (hk : q_kd M a = (1, 13)) : Rr C mX13_renames (25, L, qr a :: st, M) x = Rr C mX13_renames (28, L, q_fv M a 9 :: st, M) x := g_getf (ow := 13) (e := (13, 9, RX13, 1310, 0)) (show decode cX13_renames 25 = .ok (.getfield 88, 3) by decide +kernel) rfl hk
set_option maxRecDepth 20000 in
theorem kX13_renames_28 {C : QC} {x : QP} {M : QM} {L : QL} {rest : List CV} {a0 a1 a2 a3 : CV} {M1 : QM} {b : Nat} (hb : q_kd M b = (1, 13)) (hC : C iX13_happens [qr b, a0, a1, a2, a3] M none M1) (hw : (rest.map q_wd).sum ≤ 8) (k : Rr C mX13_renames (31, L, rest, M1) x) : Rr C mX13_renames (28, L, a3 :: a2 :: a1 :: a0 :: qr b :: rest, M) x := g_cv (ow := 13) (e := (0, 217, 13, [1431, 1433, 42, 94])) (as := [a0, a1, a2, a3]) (show decode cX13_renames 28 = .ok (.invokevirtual 119, 3) by decide +kernel) rfl rfl rfl (Or.inl rfl) rfl hb hC hw k
set_option maxRecDepth 20000 in
theorem kX13_renames_31 {C : QC} {x : QP} {M : QM} {st : List CV} {L : QL} {l0 l1 l2 l3 : Option CV} {z : Int} : Rr C mX13_renames (31, [l0, l1, l2, some (qi z)], st, M) x = Rr C mX13_renames (32, [l0, l1, l2, some (qi z)], qi z :: st, M) x := g_pl (show decode cX13_renames 31 = .ok (.iload_n 3, 1) by decide +kernel) rfl
set_option maxRecDepth 20000 in
theorem kX13_renames_32 {C : QC} {x : QP} {M : QM} {st : List CV} {L : QL} {z : Int} : Rr C mX13_renames (32, L, [qi z], M) x = x (some (qi z)) M := g_iret (show decode cX13_renames 32 = .ok (.ireturn, 1) by decide +kernel) rfl
set_option maxRecDepth 20000 in
theorem eX13_renames {d : Nat} {M : QM} {x : QP} {a : Nat} {v0 : Int} {v1 : Int} : q_T (d + 1) iX13_renames [qr a, qi v0, qi v1] M x = Rr (q_C d) mX13_renames (0, [some (qr a), some (qi v0), some (qi v1), none], [], M) x := g_entryT (e := _) rfl (Nat.le_of_ble_eq_true rfl) rfl rfl
def mX13_moves : QI := (13, cX13_moves, false, some .int)
set_option maxRecDepth 20000 in
theorem kX13_moves_0 {C : QC} {x : QP} {M : QM} {st : List CV} {L : QL} {l0 l1 l2 l3 l4 : Option CV} {r : Option Nat} : Rr C mX13_moves (0, [some (.inr (.inr r)), l1, l2, l3, l4], st, M) x = Rr C mX13_moves (1, [some (.inr (.inr r)), l1, l2, l3, l4], .inr (.inr r) :: st, M) x := g_pl (show decode cX13_moves 0 = .ok (.aload_n 0, 1) by decide +kernel) rfl
set_option maxRecDepth 20000 in
theorem kX13_moves_1 {C : QC} {x : QP} {M : QM} {st : List CV} {L : QL} {l0 l1 l2 l3 l4 : Option CV} {z : Int} : Rr C mX13_moves (1, [l0, some (qi z), l2, l3, l4], st, M) x = Rr C mX13_moves (2, [l0, some (qi z), l2, l3, l4], qi z :: st, M) x := g_pl (show decode cX13_moves 1 = .ok (.iload_n 1, 1) by decide +kernel) rfl
set_option maxRecDepth 20000 in
theorem kX13_moves_2 {C : QC} {x : QP} {M : QM} {st : List CV} {L : QL} {l0 l1 l2 l3 l4 : Option CV} {z : Int} : Rr C mX13_moves (2, [l0, l1, l2, some (qi z), l4], st, M) x = Rr C mX13_moves (3, [l0, l1, l2, some (qi z), l4], qi z :: st, M) x := g_pl (show decode cX13_moves 2 = .ok (.iload_n 3, 1) by decide +kernel) rfl
set_option maxRecDepth 20000 in
theorem kX13_moves_3 {C : QC} {x : QP} {M : QM} {L : QL} {rest : List CV} {a0 a1 : CV} {v : CV} {M1 : QM} {b : Nat} (hb : q_kd M b = (1, 13)) (hC : C iX13_parentOn [qr b, a0, a1] M (some v) M1) (hw : (rest.map q_wd).sum ≤ 8) (k : Rr C mX13_moves (6, L, v :: rest, M1) x) : Rr C mX13_moves (3, L, a1 :: a0 :: qr b :: rest, M) x := g_cv (ow := 13) (e := (0, 227, 13, [1471, 1473, 50, 94])) (as := [a0, a1]) (show decode cX13_moves 3 = .ok (.invokevirtual 66, 3) by decide +kernel) rfl rfl rfl (Or.inl rfl) rfl hb hC hw k
set_option maxRecDepth 20000 in
theorem kX13_moves_6 {C : QC} {x : QP} {M : QM} {st : List CV} {L : QL} {l0 l1 l2 l3 l4 : Option CV} {z : Int} : Rr C mX13_moves (6, [l0, l1, l2, l3, l4], qi z :: st, M) x = Rr C mX13_moves (8, [l0, l1, l2, q_cut l3, some (qi z)], st, M) x := g_pl (show decode cX13_moves 6 = .ok (.istore 4, 2) by decide +kernel) rfl
set_option maxRecDepth 20000 in
theorem kX13_moves_8 {C : QC} {x : QP} {M : QM} {st : List CV} {L : QL} {l0 l1 l2 l3 l4 : Option CV} {r : Option Nat} : Rr C mX13_moves (8, [some (.inr (.inr r)), l1, l2, l3, l4], st, M) x = Rr C mX13_moves (9, [some (.inr (.inr r)), l1, l2, l3, l4], .inr (.inr r) :: st, M) x := g_pl (show decode cX13_moves 8 = .ok (.aload_n 0, 1) by decide +kernel) rfl
set_option maxRecDepth 20000 in
theorem kX13_moves_9 {C : QC} {x : QP} {M : QM} {st : List CV} {L : QL} {l0 l1 l2 l3 l4 : Option CV} {z : Int} : Rr C mX13_moves (9, [l0, some (qi z), l2, l3, l4], st, M) x = Rr C mX13_moves (10, [l0, some (qi z), l2, l3, l4], qi z :: st, M) x := g_pl (show decode cX13_moves 9 = .ok (.iload_n 1, 1) by decide +kernel) rfl
set_option maxRecDepth 20000 in
theorem kX13_moves_10 {C : QC} {x : QP} {M : QM} {st : List CV} {L : QL} {l0 l1 l2 l3 l4 : Option CV} {z : Int} : Rr C mX13_moves (10, [l0, l1, l2, some (qi z), l4], st, M) x = Rr C mX13_moves (11, [l0, l1, l2, some (qi z), l4], qi z :: st, M) x := g_pl (show decode cX13_moves 10 = .ok (.iload_n 3, 1) by decide +kernel) rfl
set_option maxRecDepth 20000 in
theorem kX13_moves_11 {C : QC} {x : QP} {M : QM} {st : List CV} {L : QL} {l0 l1 l2 l3 l4 : Option CV} {z : Int} : Rr C mX13_moves (11, [l0, l1, some (qi z), l3, l4], st, M) x = Rr C mX13_moves (12, [l0, l1, some (qi z), l3, l4], qi z :: st, M) x := g_pl (show decode cX13_moves 11 = .ok (.iload_n 2, 1) by decide +kernel) rfl
set_option maxRecDepth 20000 in
theorem kX13_moves_12 {C : QC} {x : QP} {M : QM} {L : QL} {rest : List CV} {a0 a1 a2 : CV} {M1 : QM} {b : Nat} (hb : q_kd M b = (1, 13)) (hC : C iX13_tellsParent [qr b, a0, a1, a2] M none M1) (hw : (rest.map q_wd).sum ≤ 8) (k : Rr C mX13_moves (15, L, rest, M1) x) : Rr C mX13_moves (12, L, a2 :: a1 :: a0 :: qr b :: rest, M) x := g_cv (ow := 13) (e := (0, 215, 13, [1423, 1425, 40, 94])) (as := [a0, a1, a2]) (show decode cX13_moves 12 = .ok (.invokevirtual 113, 3) by decide +kernel) rfl rfl rfl (Or.inl rfl) rfl hb hC hw k
set_option maxRecDepth 20000 in
theorem kX13_moves_15 {C : QC} {x : QP} {M : QM} {st : List CV} {L : QL} {l0 l1 l2 l3 l4 : Option CV} {r : Option Nat} : Rr C mX13_moves (15, [some (.inr (.inr r)), l1, l2, l3, l4], st, M) x = Rr C mX13_moves (16, [some (.inr (.inr r)), l1, l2, l3, l4], .inr (.inr r) :: st, M) x := g_pl (show decode cX13_moves 15 = .ok (.aload_n 0, 1) by decide +kernel) rfl
set_option maxRecDepth 20000 in
theorem kX13_moves_16 {C : QC} {x : QP} {M : QM} {st : List CV} {L : QL} {l0 l1 l2 l3 l4 : Option CV} {z : Int} : Rr C mX13_moves (16, [l0, some (qi z), l2, l3, l4], st, M) x = Rr C mX13_moves (17, [l0, some (qi z), l2, l3, l4], qi z :: st, M) x := g_pl (show decode cX13_moves 16 = .ok (.iload_n 1, 1) by decide +kernel) rfl
set_option maxRecDepth 20000 in
theorem kX13_moves_17 {C : QC} {x : QP} {M : QM} {st : List CV} {L : QL} : Rr C mX13_moves (17, L, st, M) x = Rr C mX13_moves (18, L, qi 4 :: st, M) x := g_pl (show decode cX13_moves 17 = .ok (.iconst 4, 1) by decide +kernel) rfl
set_option maxRecDepth 20000 in
theorem kX13_moves_18 {C : QC} {x : QP} {M : QM} {st : List CV} {L : QL} {l0 l1 l2 l3 l4 : Option CV} {z : Int} : Rr C mX13_moves (18, [l0, l1, l2, some (qi z), l4], st, M) x = Rr C mX13_moves (19, [l0, l1, l2, some (qi z), l4], qi z :: st, M) x := g_pl (show decode cX13_moves 18 = .ok (.iload_n 3, 1) by decide +kernel) rfl
set_option maxRecDepth 20000 in
theorem kX13_moves_19 {C : QC} {x : QP} {M : QM} {L : QL} {rest : List CV} {a0 a1 a2 : CV} {M1 : QM} {b : Nat} (hb : q_kd M b = (1, 13)) (hC : C iX13_lays [qr b, a0, a1, a2] M none M1) (hw : (rest.map q_wd).sum ≤ 8) (k : Rr C mX13_moves (22, L, rest, M1) x) : Rr C mX13_moves (19, L, a2 :: a1 :: a0 :: qr b :: rest, M) x := g_cv (ow := 13) (e := (0, 214, 13, [1419, 1421, 39, 94])) (as := [a0, a1, a2]) (show decode cX13_moves 19 = .ok (.invokevirtual 55, 3) by decide +kernel) rfl rfl rfl (Or.inl rfl) rfl hb hC hw k
set_option maxRecDepth 20000 in
theorem kX13_moves_22 {C : QC} {x : QP} {M : QM} {st : List CV} {L : QL} {l0 l1 l2 l3 l4 : Option CV} {r : Option Nat} : Rr C mX13_moves (22, [some (.inr (.inr r)), l1, l2, l3, l4], st, M) x = Rr C mX13_moves (23, [some (.inr (.inr r)), l1, l2, l3, l4], .inr (.inr r) :: st, M) x := g_pl (show decode cX13_moves 22 = .ok (.aload_n 0, 1) by decide +kernel) rfl
set_option maxRecDepth 20000 in
theorem kX13_moves_23 {C : QC} {x : QP} {M : QM} {st : List CV} {L : QL} {l0 l1 l2 l3 l4 : Option CV} {z : Int} : Rr C mX13_moves (23, [l0, some (qi z), l2, l3, l4], st, M) x = Rr C mX13_moves (24, [l0, some (qi z), l2, l3, l4], qi z :: st, M) x := g_pl (show decode cX13_moves 23 = .ok (.iload_n 1, 1) by decide +kernel) rfl
set_option maxRecDepth 20000 in
theorem kX13_moves_24 {C : QC} {x : QP} {M : QM} {st : List CV} {L : QL} {l0 l1 l2 l3 l4 : Option CV} {z : Int} : Rr C mX13_moves (24, [l0, l1, l2, some (qi z), l4], st, M) x = Rr C mX13_moves (25, [l0, l1, l2, some (qi z), l4], qi z :: st, M) x := g_pl (show decode cX13_moves 24 = .ok (.iload_n 3, 1) by decide +kernel) rfl
set_option maxRecDepth 20000 in
theorem kX13_moves_25 {C : QC} {x : QP} {M : QM} {st : List CV} {L : QL} : Rr C mX13_moves (25, L, st, M) x = Rr C mX13_moves (26, L, qi 2 :: st, M) x := g_pl (show decode cX13_moves 25 = .ok (.iconst 2, 1) by decide +kernel) rfl
set_option maxRecDepth 20000 in
theorem kX13_moves_26 {C : QC} {x : QP} {M : QM} {st : List CV} {L : QL} {l0 l1 l2 l3 l4 : Option CV} {z : Int} : Rr C mX13_moves (26, [l0, l1, some (qi z), l3, l4], st, M) x = Rr C mX13_moves (27, [l0, l1, some (qi z), l3, l4], qi z :: st, M) x := g_pl (show decode cX13_moves 26 = .ok (.iload_n 2, 1) by decide +kernel) rfl
set_option maxRecDepth 20000 in
theorem kX13_moves_27 {C : QC} {x : QP} {M : QM} {L : QL} {rest : List CV} {a0 a1 a2 a3 : CV} {M1 : QM} {b : Nat} (hb : q_kd M b = (1, 13)) (hC : C iX13_happens [qr b, a0, a1, a2, a3] M none M1) (hw : (rest.map q_wd).sum ≤ 8) (k : Rr C mX13_moves (30, L, rest, M1) x) : Rr C mX13_moves (27, L, a3 :: a2 :: a1 :: a0 :: qr b :: rest, M) x := g_cv (ow := 13) (e := (0, 217, 13, [1431, 1433, 42, 94])) (as := [a0, a1, a2, a3]) (show decode cX13_moves 27 = .ok (.invokevirtual 119, 3) by decide +kernel) rfl rfl rfl (Or.inl rfl) rfl hb hC hw k
set_option maxRecDepth 20000 in
theorem kX13_moves_30 {C : QC} {x : QP} {M : QM} {st : List CV} {L : QL} {l0 l1 l2 l3 l4 : Option CV} {z : Int} : Rr C mX13_moves (30, [l0, l1, l2, l3, some (qi z)], st, M) x = Rr C mX13_moves (32, [l0, l1, l2, l3, some (qi z)], qi z :: st, M) x := g_pl (show decode cX13_moves 30 = .ok (.iload 4, 2) by decide +kernel) rfl
set_option maxRecDepth 20000 in
theorem kX13_moves_32 {C : QC} {x : QP} {M : QM} {st : List CV} {L : QL} {z : Int} : Rr C mX13_moves (32, L, [qi z], M) x = x (some (qi z)) M := g_iret (show decode cX13_moves 32 = .ok (.ireturn, 1) by decide +kernel) rfl
set_option maxRecDepth 20000 in
theorem eX13_moves {d : Nat} {M : QM} {x : QP} {a : Nat} {v0 : Int} {v1 : Int} {v2 : Int} : q_T (d + 1) iX13_moves [qr a, qi v0, qi v1, qi v2] M x = Rr (q_C d) mX13_moves (0, [some (qr a), some (qi v0), some (qi v1), some (qi v2), none], [], M) x := g_entryT (e := _) rfl (Nat.le_of_ble_eq_true rfl) rfl rfl
def mX13_splits : QI := (13, cX13_splits, false, some .int)
set_option maxRecDepth 20000 in
theorem kX13_splits_0 {C : QC} {x : QP} {M : QM} {st : List CV} {L : QL} {l0 l1 l2 l3 : Option CV} {r : Option Nat} : Rr C mX13_splits (0, [some (.inr (.inr r)), l1, l2, l3], st, M) x = Rr C mX13_splits (1, [some (.inr (.inr r)), l1, l2, l3], .inr (.inr r) :: st, M) x := g_pl (show decode cX13_splits 0 = .ok (.aload_n 0, 1) by decide +kernel) rfl
set_option maxRecDepth 20000 in
theorem kX13_splits_1 {C : QC} {x : QP} {M : QM} {st : List CV} {L : QL} {l0 l1 l2 l3 : Option CV} {r : Option Nat} : Rr C mX13_splits (1, [some (.inr (.inr r)), l1, l2, l3], st, M) x = Rr C mX13_splits (2, [some (.inr (.inr r)), l1, l2, l3], .inr (.inr r) :: st, M) x := g_pl (show decode cX13_splits 1 = .ok (.aload_n 0, 1) by decide +kernel) rfl
set_option maxRecDepth 20000 in
theorem kX13_splits_2 {C : QC} {x : QP} {M : QM} {st : List CV} {L : QL} {l0 l1 l2 l3 : Option CV} {z : Int} : Rr C mX13_splits (2, [l0, some (qi z), l2, l3], st, M) x = Rr C mX13_splits (3, [l0, some (qi z), l2, l3], qi z :: st, M) x := g_pl (show decode cX13_splits 2 = .ok (.iload_n 1, 1) by decide +kernel) rfl
set_option maxRecDepth 20000 in
theorem kX13_splits_3 {C : QC} {x : QP} {M : QM} {st : List CV} {L : QL} : Rr C mX13_splits (3, L, st, M) x = Rr C mX13_splits (4, L, qi 0 :: st, M) x := g_pl (show decode cX13_splits 3 = .ok (.iconst 0, 1) by decide +kernel) rfl
set_option maxRecDepth 20000 in
theorem kX13_splits_4 {C : QC} {x : QP} {M : QM} {L : QL} {rest : List CV} {a0 a1 : CV} {v : CV} {M1 : QM} {b : Nat} (hb : q_kd M b = (1, 13)) (hC : C iX13_has [qr b, a0, a1] M (some v) M1) (hw : (rest.map q_wd).sum ≤ 8) (k : Rr C mX13_splits (7, L, v :: rest, M1) x) : Rr C mX13_splits (4, L, a1 :: a0 :: qr b :: rest, M) x := g_cv (ow := 13) (e := (0, 207, 13, [1391, 1393, 32, 94])) (as := [a0, a1]) (show decode cX13_splits 4 = .ok (.invokevirtual 47, 3) by decide +kernel) rfl rfl rfl (Or.inl rfl) rfl hb hC hw k
set_option maxRecDepth 20000 in
theorem kX13_splits_7 {C : QC} {x : QP} {M : QM} {st : List CV} {L : QL} {l0 l1 l2 l3 : Option CV} {r : Option Nat} : Rr C mX13_splits (7, [some (.inr (.inr r)), l1, l2, l3], st, M) x = Rr C mX13_splits (8, [some (.inr (.inr r)), l1, l2, l3], .inr (.inr r) :: st, M) x := g_pl (show decode cX13_splits 7 = .ok (.aload_n 0, 1) by decide +kernel) rfl
set_option maxRecDepth 20000 in
theorem kX13_splits_8 {C : QC} {x : QP} {M : QM} {st : List CV} {L : QL} {l0 l1 l2 l3 : Option CV} {z : Int} : Rr C mX13_splits (8, [l0, some (qi z), l2, l3], st, M) x = Rr C mX13_splits (9, [l0, some (qi z), l2, l3], qi z :: st, M) x := g_pl (show decode cX13_splits 8 = .ok (.iload_n 1, 1) by decide +kernel) rfl
set_option maxRecDepth 20000 in
theorem kX13_splits_9 {C : QC} {x : QP} {M : QM} {st : List CV} {L : QL} {l0 l1 l2 l3 : Option CV} {z : Int} : Rr C mX13_splits (9, [l0, l1, some (qi z), l3], st, M) x = Rr C mX13_splits (10, [l0, l1, some (qi z), l3], qi z :: st, M) x := g_pl (show decode cX13_splits 9 = .ok (.iload_n 2, 1) by decide +kernel) rfl
set_option maxRecDepth 20000 in
theorem kX13_splits_10 {C : QC} {x : QP} {M : QM} {L : QL} {rest : List CV} {a0 a1 : CV} {v : CV} {M1 : QM} {b : Nat} (hb : q_kd M b = (1, 13)) (hC : C iX13_parentOn [qr b, a0, a1] M (some v) M1) (hw : (rest.map q_wd).sum ≤ 8) (k : Rr C mX13_splits (13, L, v :: rest, M1) x) : Rr C mX13_splits (10, L, a1 :: a0 :: qr b :: rest, M) x := g_cv (ow := 13) (e := (0, 227, 13, [1471, 1473, 50, 94])) (as := [a0, a1]) (show decode cX13_splits 10 = .ok (.invokevirtual 66, 3) by decide +kernel) rfl rfl rfl (Or.inl rfl) rfl hb hC hw k
set_option maxRecDepth 20000 in
theorem kX13_splits_13 {C : QC} {x : QP} {M : QM} {st : List CV} {L : QL} {l0 l1 l2 l3 : Option CV} {z : Int} : Rr C mX13_splits (13, [l0, l1, some (qi z), l3], st, M) x = Rr C mX13_splits (14, [l0, l1, some (qi z), l3], qi z :: st, M) x := g_pl (show decode cX13_splits 13 = .ok (.iload_n 2, 1) by decide +kernel) rfl
set_option maxRecDepth 20000 in
theorem kX13_splits_14 {C : QC} {x : QP} {M : QM} {L : QL} {rest : List CV} {a0 a1 a2 : CV} {v : CV} {M1 : QM} {b : Nat} (hb : q_kd M b = (1, 13)) (hC : C iX13_founds [qr b, a0, a1, a2] M (some v) M1) (hw : (rest.map q_wd).sum ≤ 8) (k : Rr C mX13_splits (17, L, v :: rest, M1) x) : Rr C mX13_splits (14, L, a2 :: a1 :: a0 :: qr b :: rest, M) x := g_cv (ow := 13) (e := (0, 213, 13, [1415, 1417, 38, 94])) (as := [a0, a1, a2]) (show decode cX13_splits 14 = .ok (.invokevirtual 126, 3) by decide +kernel) rfl rfl rfl (Or.inl rfl) rfl hb hC hw k
set_option maxRecDepth 20000 in
theorem kX13_splits_17 {C : QC} {x : QP} {M : QM} {st : List CV} {L : QL} {l0 l1 l2 l3 : Option CV} {z : Int} : Rr C mX13_splits (17, [l0, l1, l2, l3], qi z :: st, M) x = Rr C mX13_splits (18, [l0, l1, q_cut l2, some (qi z)], st, M) x := g_pl (show decode cX13_splits 17 = .ok (.istore_n 3, 1) by decide +kernel) rfl
set_option maxRecDepth 20000 in
theorem kX13_splits_18 {C : QC} {x : QP} {M : QM} {st : List CV} {L : QL} {l0 l1 l2 l3 : Option CV} {r : Option Nat} : Rr C mX13_splits (18, [some (.inr (.inr r)), l1, l2, l3], st, M) x = Rr C mX13_splits (19, [some (.inr (.inr r)), l1, l2, l3], .inr (.inr r) :: st, M) x := g_pl (show decode cX13_splits 18 = .ok (.aload_n 0, 1) by decide +kernel) rfl
set_option maxRecDepth 20000 in
theorem kX13_splits_19 {C : QC} {x : QP} {M : QM} {st : List CV} {L : QL} {l0 l1 l2 l3 : Option CV} {z : Int} : Rr C mX13_splits (19, [l0, l1, l2, some (qi z)], st, M) x = Rr C mX13_splits (20, [l0, l1, l2, some (qi z)], qi z :: st, M) x := g_pl (show decode cX13_splits 19 = .ok (.iload_n 3, 1) by decide +kernel) rfl
set_option maxRecDepth 20000 in
theorem kX13_splits_20 {C : QC} {x : QP} {M : QM} {st : List CV} {L : QL} {l0 l1 l2 l3 : Option CV} {z : Int} : Rr C mX13_splits (20, [l0, l1, some (qi z), l3], st, M) x = Rr C mX13_splits (21, [l0, l1, some (qi z), l3], qi z :: st, M) x := g_pl (show decode cX13_splits 20 = .ok (.iload_n 2, 1) by decide +kernel) rfl
set_option maxRecDepth 20000 in
theorem kX13_splits_21 {C : QC} {x : QP} {M : QM} {st : List CV} {L : QL} : Rr C mX13_splits (21, L, st, M) x = Rr C mX13_splits (22, L, qi 5 :: st, M) x := g_pl (show decode cX13_splits 21 = .ok (.iconst 5, 1) by decide +kernel) rfl
set_option maxRecDepth 20000 in
theorem kX13_splits_22 {C : QC} {x : QP} {M : QM} {st : List CV} {L : QL} {l0 l1 l2 l3 : Option CV} {z : Int} : Rr C mX13_splits (22, [l0, some (qi z), l2, l3], st, M) x = Rr C mX13_splits (23, [l0, some (qi z), l2, l3], qi z :: st, M) x := g_pl (show decode cX13_splits 22 = .ok (.iload_n 1, 1) by decide +kernel) rfl
set_option maxRecDepth 20000 in
theorem kX13_splits_23 {C : QC} {x : QP} {M : QM} {L : QL} {rest : List CV} {a0 a1 a2 a3 : CV} {M1 : QM} {b : Nat} (hb : q_kd M b = (1, 13)) (hC : C iX13_happens [qr b, a0, a1, a2, a3] M none M1) (hw : (rest.map q_wd).sum ≤ 8) (k : Rr C mX13_splits (26, L, rest, M1) x) : Rr C mX13_splits (23, L, a3 :: a2 :: a1 :: a0 :: qr b :: rest, M) x := g_cv (ow := 13) (e := (0, 217, 13, [1431, 1433, 42, 94])) (as := [a0, a1, a2, a3]) (show decode cX13_splits 23 = .ok (.invokevirtual 119, 3) by decide +kernel) rfl rfl rfl (Or.inl rfl) rfl hb hC hw k
set_option maxRecDepth 20000 in
theorem kX13_splits_26 {C : QC} {x : QP} {M : QM} {st : List CV} {L : QL} {l0 l1 l2 l3 : Option CV} {r : Option Nat} : Rr C mX13_splits (26, [some (.inr (.inr r)), l1, l2, l3], st, M) x = Rr C mX13_splits (27, [some (.inr (.inr r)), l1, l2, l3], .inr (.inr r) :: st, M) x := g_pl (show decode cX13_splits 26 = .ok (.aload_n 0, 1) by decide +kernel) rfl
set_option maxRecDepth 20000 in
theorem kX13_splits_27 {C : QC} {x : QP} {M : QM} {st : List CV} {L : QL} {l0 l1 l2 l3 : Option CV} {z : Int} : Rr C mX13_splits (27, [l0, some (qi z), l2, l3], st, M) x = Rr C mX13_splits (28, [l0, some (qi z), l2, l3], qi z :: st, M) x := g_pl (show decode cX13_splits 27 = .ok (.iload_n 1, 1) by decide +kernel) rfl
set_option maxRecDepth 20000 in
theorem kX13_splits_28 {C : QC} {x : QP} {M : QM} {st : List CV} {L : QL} : Rr C mX13_splits (28, L, st, M) x = Rr C mX13_splits (29, L, qi 4 :: st, M) x := g_pl (show decode cX13_splits 28 = .ok (.iconst 4, 1) by decide +kernel) rfl
set_option maxRecDepth 20000 in
theorem kX13_splits_29 {C : QC} {x : QP} {M : QM} {st : List CV} {L : QL} {l0 l1 l2 l3 : Option CV} {z : Int} : Rr C mX13_splits (29, [l0, l1, some (qi z), l3], st, M) x = Rr C mX13_splits (30, [l0, l1, some (qi z), l3], qi z :: st, M) x := g_pl (show decode cX13_splits 29 = .ok (.iload_n 2, 1) by decide +kernel) rfl
set_option maxRecDepth 20000 in
theorem kX13_splits_30 {C : QC} {x : QP} {M : QM} {L : QL} {rest : List CV} {a0 a1 a2 : CV} {M1 : QM} {b : Nat} (hb : q_kd M b = (1, 13)) (hC : C iX13_lays [qr b, a0, a1, a2] M none M1) (hw : (rest.map q_wd).sum ≤ 8) (k : Rr C mX13_splits (33, L, rest, M1) x) : Rr C mX13_splits (30, L, a2 :: a1 :: a0 :: qr b :: rest, M) x := g_cv (ow := 13) (e := (0, 214, 13, [1419, 1421, 39, 94])) (as := [a0, a1, a2]) (show decode cX13_splits 30 = .ok (.invokevirtual 55, 3) by decide +kernel) rfl rfl rfl (Or.inl rfl) rfl hb hC hw k
set_option maxRecDepth 20000 in
theorem kX13_splits_33 {C : QC} {x : QP} {M : QM} {st : List CV} {L : QL} {l0 l1 l2 l3 : Option CV} {r : Option Nat} : Rr C mX13_splits (33, [some (.inr (.inr r)), l1, l2, l3], st, M) x = Rr C mX13_splits (34, [some (.inr (.inr r)), l1, l2, l3], .inr (.inr r) :: st, M) x := g_pl (show decode cX13_splits 33 = .ok (.aload_n 0, 1) by decide +kernel) rfl
set_option maxRecDepth 20000 in
theorem kX13_splits_34 {C : QC} {x : QP} {M : QM} {st : List CV} {L : QL} {l0 l1 l2 l3 : Option CV} {z : Int} : Rr C mX13_splits (34, [l0, some (qi z), l2, l3], st, M) x = Rr C mX13_splits (35, [l0, some (qi z), l2, l3], qi z :: st, M) x := g_pl (show decode cX13_splits 34 = .ok (.iload_n 1, 1) by decide +kernel) rfl
set_option maxRecDepth 20000 in
theorem kX13_splits_35 {C : QC} {x : QP} {M : QM} {st : List CV} {L : QL} {l0 l1 l2 l3 : Option CV} {z : Int} : Rr C mX13_splits (35, [l0, l1, some (qi z), l3], st, M) x = Rr C mX13_splits (36, [l0, l1, some (qi z), l3], qi z :: st, M) x := g_pl (show decode cX13_splits 35 = .ok (.iload_n 2, 1) by decide +kernel) rfl
set_option maxRecDepth 20000 in
theorem kX13_splits_36 {C : QC} {x : QP} {M : QM} {st : List CV} {L : QL} : Rr C mX13_splits (36, L, st, M) x = Rr C mX13_splits (38, L, qi 7 :: st, M) x := g_pl (show decode cX13_splits 36 = .ok (.bipush 7, 2) by decide +kernel) rfl
set_option maxRecDepth 20000 in
theorem kX13_splits_38 {C : QC} {x : QP} {M : QM} {st : List CV} {L : QL} {l0 l1 l2 l3 : Option CV} {z : Int} : Rr C mX13_splits (38, [l0, l1, l2, some (qi z)], st, M) x = Rr C mX13_splits (39, [l0, l1, l2, some (qi z)], qi z :: st, M) x := g_pl (show decode cX13_splits 38 = .ok (.iload_n 3, 1) by decide +kernel) rfl
set_option maxRecDepth 20000 in
theorem kX13_splits_39 {C : QC} {x : QP} {M : QM} {L : QL} {rest : List CV} {a0 a1 a2 a3 : CV} {M1 : QM} {b : Nat} (hb : q_kd M b = (1, 13)) (hC : C iX13_happens [qr b, a0, a1, a2, a3] M none M1) (hw : (rest.map q_wd).sum ≤ 8) (k : Rr C mX13_splits (42, L, rest, M1) x) : Rr C mX13_splits (39, L, a3 :: a2 :: a1 :: a0 :: qr b :: rest, M) x := g_cv (ow := 13) (e := (0, 217, 13, [1431, 1433, 42, 94])) (as := [a0, a1, a2, a3]) (show decode cX13_splits 39 = .ok (.invokevirtual 119, 3) by decide +kernel) rfl rfl rfl (Or.inl rfl) rfl hb hC hw k
set_option maxRecDepth 20000 in
theorem kX13_splits_42 {C : QC} {x : QP} {M : QM} {st : List CV} {L : QL} {l0 l1 l2 l3 : Option CV} {r : Option Nat} : Rr C mX13_splits (42, [some (.inr (.inr r)), l1, l2, l3], st, M) x = Rr C mX13_splits (43, [some (.inr (.inr r)), l1, l2, l3], .inr (.inr r) :: st, M) x := g_pl (show decode cX13_splits 42 = .ok (.aload_n 0, 1) by decide +kernel) rfl
set_option maxRecDepth 20000 in
theorem kX13_splits_43 {C : QC} {x : QP} {M : QM} {st : List CV} {L : QL} {a : Nat} (hk : q_kd M a = (1, 13)) : Rr C mX13_splits (43, L, qr a :: st, M) x = Rr C mX13_splits (46, L, q_fv M a 0 :: st, M) x := g_getf (ow := 13) (e := (13, 0, RX13, 1301, 0)) (show decode cX13_splits 43 = .ok (.getfield 10, 3) by decide +kernel) rfl hk
set_option maxRecDepth 20000 in
theorem kX13_splits_46 {C : QC} {x : QP} {M : QM} {st : List CV} {L : QL} : Rr C mX13_splits (46, L, st, M) x = Rr C mX13_splits (48, L, qi 6 :: st, M) x := g_pl (show decode cX13_splits 46 = .ok (.bipush 6, 2) by decide +kernel) rfl
set_option maxRecDepth 20000 in
theorem kX13_splits_48 {C : QC} {x : QP} {M : QM} {st : List CV} {L : QL} {a : Int} {b : Option Nat} : Rr C mX13_splits (48, L, qi a :: .inr (.inr b) :: st, M) x = Rr C mX13_splits (49, L, qi a :: .inr (.inr b) :: qi a :: .inr (.inr b) :: st, M) x := g_pl (show decode cX13_splits 48 = .ok (.dup2, 1) by decide +kernel) rfl
set_option maxRecDepth 20000 in
theorem kX13_splits_49 {C : QC} {x : QP} {M : QM} {st : List CV} {L : QL} {a : Nat} {j : Int} (hk : (q_kd M a).1 = 2) (h0 : 0 ≤ j) (h1 : j < ((q_kd M a).2 : Int)) : Rr C mX13_splits (49, L, qi j :: qr a :: st, M) x = Rr C mX13_splits (50, L, q_fv M a j.toNat :: st, M) x := g_iald (show decode cX13_splits 49 = .ok (.iaload, 1) by decide +kernel) hk h0 h1
set_option maxRecDepth 20000 in
theorem kX13_splits_50 {C : QC} {x : QP} {M : QM} {st : List CV} {L : QL} : Rr C mX13_splits (50, L, st, M) x = Rr C mX13_splits (51, L, qi 1 :: st, M) x := g_pl (show decode cX13_splits 50 = .ok (.iconst 1, 1) by decide +kernel) rfl
set_option maxRecDepth 20000 in
theorem kX13_splits_51 {C : QC} {x : QP} {M : QM} {st : List CV} {L : QL} {a b : Int} : Rr C mX13_splits (51, L, qi b :: qi a :: st, M) x = Rr C mX13_splits (52, L, qi (a + b) :: st, M) x := g_pl (show decode cX13_splits 51 = .ok (.iadd, 1) by decide +kernel) rfl
set_option maxRecDepth 20000 in
theorem kX13_splits_52 {C : QC} {x : QP} {M : QM} {st : List CV} {L : QL} {a : Nat} {j v : Int} (hk : (q_kd M a).1 = 2) (h0 : 0 ≤ j) (h1 : j < ((q_kd M a).2 : Int)) : Rr C mX13_splits (52, L, qi v :: qi j :: qr a :: st, M) x = Rr C mX13_splits (53, L, st, q_wr M a j.toNat (qi v)) x := g_iast (show decode cX13_splits 52 = .ok (.iastore, 1) by decide +kernel) hk h0 h1
set_option maxRecDepth 20000 in
theorem kX13_splits_53 {C : QC} {x : QP} {M : QM} {st : List CV} {L : QL} {l0 l1 l2 l3 : Option CV} {z : Int} : Rr C mX13_splits (53, [l0, l1, l2, some (qi z)], st, M) x = Rr C mX13_splits (54, [l0, l1, l2, some (qi z)], qi z :: st, M) x := g_pl (show decode cX13_splits 53 = .ok (.iload_n 3, 1) by decide +kernel) rfl
set_option maxRecDepth 20000 in
theorem kX13_splits_54 {C : QC} {x : QP} {M : QM} {st : List CV} {L : QL} {z : Int} : Rr C mX13_splits (54, L, [qi z], M) x = x (some (qi z)) M := g_iret (show decode cX13_splits 54 = .ok (.ireturn, 1) by decide +kernel) rfl
set_option maxRecDepth 20000 in
theorem eX13_splits {d : Nat} {M : QM} {x : QP} {a : Nat} {v0 : Int} {v1 : Int} : q_T (d + 1) iX13_splits [qr a, qi v0, qi v1] M x = Rr (q_C d) mX13_splits (0, [some (qr a), some (qi v0), some (qi v1), none], [], M) x := g_entryT (e := _) rfl (Nat.le_of_ble_eq_true rfl) rfl rfl
def mX13_merges : QI := (13, cX13_merges, false, some .int)
set_option maxRecDepth 20000 in
theorem kX13_merges_0 {C : QC} {x : QP} {M : QM} {st : List CV} {L : QL} {l0 l1 l2 l3 l4 l5 l6 : Option CV} {r : Option Nat} : Rr C mX13_merges (0, [some (.inr (.inr r)), l1, l2, l3, l4, l5, l6], st, M) x = Rr C mX13_merges (1, [some (.inr (.inr r)), l1, l2, l3, l4, l5, l6], .inr (.inr r) :: st, M) x := g_pl (show decode cX13_merges 0 = .ok (.aload_n 0, 1) by decide +kernel) rfl
set_option maxRecDepth 20000 in
theorem kX13_merges_1 {C : QC} {x : QP} {M : QM} {st : List CV} {L : QL} {l0 l1 l2 l3 l4 l5 l6 : Option CV} {z : Int} : Rr C mX13_merges (1, [l0, some (qi z), l2, l3, l4, l5, l6], st, M) x = Rr C mX13_merges (2, [l0, some (qi z), l2, l3, l4, l5, l6], qi z :: st, M) x := g_pl (show decode cX13_merges 1 = .ok (.iload_n 1, 1) by decide +kernel) rfl
set_option maxRecDepth 20000 in
theorem kX13_merges_2 {C : QC} {x : QP} {M : QM} {st : List CV} {L : QL} : Rr C mX13_merges (2, L, st, M) x = Rr C mX13_merges (3, L, qi 4 :: st, M) x := g_pl (show decode cX13_merges 2 = .ok (.iconst 4, 1) by decide +kernel) rfl
set_option maxRecDepth 20000 in
theorem kX13_merges_3 {C : QC} {x : QP} {M : QM} {st : List CV} {L : QL} {l0 l1 l2 l3 l4 l5 l6 : Option CV} {z : Int} : Rr C mX13_merges (3, [l0, l1, l2, some (qi z), l4, l5, l6], st, M) x = Rr C mX13_merges (4, [l0, l1, l2, some (qi z), l4, l5, l6], qi z :: st, M) x := g_pl (show decode cX13_merges 3 = .ok (.iload_n 3, 1) by decide +kernel) rfl
set_option maxRecDepth 20000 in
theorem kX13_merges_4 {C : QC} {x : QP} {M : QM} {L : QL} {rest : List CV} {a0 a1 a2 : CV} {M1 : QM} {b : Nat} (hb : q_kd M b = (1, 13)) (hC : C iX13_lays [qr b, a0, a1, a2] M none M1) (hw : (rest.map q_wd).sum ≤ 8) (k : Rr C mX13_merges (7, L, rest, M1) x) : Rr C mX13_merges (4, L, a2 :: a1 :: a0 :: qr b :: rest, M) x := g_cv (ow := 13) (e := (0, 214, 13, [1419, 1421, 39, 94])) (as := [a0, a1, a2]) (show decode cX13_merges 4 = .ok (.invokevirtual 55, 3) by decide +kernel) rfl rfl rfl (Or.inl rfl) rfl hb hC hw k
set_option maxRecDepth 20000 in
theorem kX13_merges_7 {C : QC} {x : QP} {M : QM} {st : List CV} {L : QL} {l0 l1 l2 l3 l4 l5 l6 : Option CV} {r : Option Nat} : Rr C mX13_merges (7, [some (.inr (.inr r)), l1, l2, l3, l4, l5, l6], st, M) x = Rr C mX13_merges (8, [some (.inr (.inr r)), l1, l2, l3, l4, l5, l6], .inr (.inr r) :: st, M) x := g_pl (show decode cX13_merges 7 = .ok (.aload_n 0, 1) by decide +kernel) rfl
set_option maxRecDepth 20000 in
theorem kX13_merges_8 {C : QC} {x : QP} {M : QM} {st : List CV} {L : QL} {l0 l1 l2 l3 l4 l5 l6 : Option CV} {z : Int} : Rr C mX13_merges (8, [l0, some (qi z), l2, l3, l4, l5, l6], st, M) x = Rr C mX13_merges (9, [l0, some (qi z), l2, l3, l4, l5, l6], qi z :: st, M) x := g_pl (show decode cX13_merges 8 = .ok (.iload_n 1, 1) by decide +kernel) rfl
set_option maxRecDepth 20000 in
theorem kX13_merges_9 {C : QC} {x : QP} {M : QM} {st : List CV} {L : QL} {l0 l1 l2 l3 l4 l5 l6 : Option CV} {z : Int} : Rr C mX13_merges (9, [l0, l1, l2, some (qi z), l4, l5, l6], st, M) x = Rr C mX13_merges (10, [l0, l1, l2, some (qi z), l4, l5, l6], qi z :: st, M) x := g_pl (show decode cX13_merges 9 = .ok (.iload_n 3, 1) by decide +kernel) rfl
set_option maxRecDepth 20000 in
theorem kX13_merges_10 {C : QC} {x : QP} {M : QM} {st : List CV} {L : QL} : Rr C mX13_merges (10, L, st, M) x = Rr C mX13_merges (11, L, qi 3 :: st, M) x := g_pl (show decode cX13_merges 10 = .ok (.iconst 3, 1) by decide +kernel) rfl
set_option maxRecDepth 20000 in
theorem kX13_merges_11 {C : QC} {x : QP} {M : QM} {st : List CV} {L : QL} {l0 l1 l2 l3 l4 l5 l6 : Option CV} {z : Int} : Rr C mX13_merges (11, [l0, l1, some (qi z), l3, l4, l5, l6], st, M) x = Rr C mX13_merges (12, [l0, l1, some (qi z), l3, l4, l5, l6], qi z :: st, M) x := g_pl (show decode cX13_merges 11 = .ok (.iload_n 2, 1) by decide +kernel) rfl
set_option maxRecDepth 20000 in
theorem kX13_merges_12 {C : QC} {x : QP} {M : QM} {L : QL} {rest : List CV} {a0 a1 a2 a3 : CV} {M1 : QM} {b : Nat} (hb : q_kd M b = (1, 13)) (hC : C iX13_happens [qr b, a0, a1, a2, a3] M none M1) (hw : (rest.map q_wd).sum ≤ 8) (k : Rr C mX13_merges (15, L, rest, M1) x) : Rr C mX13_merges (12, L, a3 :: a2 :: a1 :: a0 :: qr b :: rest, M) x := g_cv (ow := 13) (e := (0, 217, 13, [1431, 1433, 42, 94])) (as := [a0, a1, a2, a3]) (show decode cX13_merges 12 = .ok (.invokevirtual 119, 3) by decide +kernel) rfl rfl rfl (Or.inl rfl) rfl hb hC hw k
set_option maxRecDepth 20000 in
theorem kX13_merges_15 {C : QC} {x : QP} {M : QM} {st : List CV} {L : QL} {l0 l1 l2 l3 l4 l5 l6 : Option CV} {r : Option Nat} : Rr C mX13_merges (15, [some (.inr (.inr r)), l1, l2, l3, l4, l5, l6], st, M) x = Rr C mX13_merges (16, [some (.inr (.inr r)), l1, l2, l3, l4, l5, l6], .inr (.inr r) :: st, M) x := g_pl (show decode cX13_merges 15 = .ok (.aload_n 0, 1) by decide +kernel) rfl
set_option maxRecDepth 20000 in
theorem kX13_merges_16 {C : QC} {x : QP} {M : QM} {st : List CV} {L : QL} {l0 l1 l2 l3 l4 l5 l6 : Option CV} {z : Int} : Rr C mX13_merges (16, [l0, l1, some (qi z), l3, l4, l5, l6], st, M) x = Rr C mX13_merges (17, [l0, l1, some (qi z), l3, l4, l5, l6], qi z :: st, M) x := g_pl (show decode cX13_merges 16 = .ok (.iload_n 2, 1) by decide +kernel) rfl
set_option maxRecDepth 20000 in
theorem kX13_merges_17 {C : QC} {x : QP} {M : QM} {st : List CV} {L : QL} {l0 l1 l2 l3 l4 l5 l6 : Option CV} {z : Int} : Rr C mX13_merges (17, [l0, l1, l2, some (qi z), l4, l5, l6], st, M) x = Rr C mX13_merges (18, [l0, l1, l2, some (qi z), l4, l5, l6], qi z :: st, M) x := g_pl (show decode cX13_merges 17 = .ok (.iload_n 3, 1) by decide +kernel) rfl
set_option maxRecDepth 20000 in
theorem kX13_merges_18 {C : QC} {x : QP} {M : QM} {st : List CV} {L : QL} : Rr C mX13_merges (18, L, st, M) x = Rr C mX13_merges (20, L, qi 6 :: st, M) x := g_pl (show decode cX13_merges 18 = .ok (.bipush 6, 2) by decide +kernel) rfl
set_option maxRecDepth 20000 in
theorem kX13_merges_20 {C : QC} {x : QP} {M : QM} {st : List CV} {L : QL} {l0 l1 l2 l3 l4 l5 l6 : Option CV} {z : Int} : Rr C mX13_merges (20, [l0, some (qi z), l2, l3, l4, l5, l6], st, M) x = Rr C mX13_merges (21, [l0, some (qi z), l2, l3, l4, l5, l6], qi z :: st, M) x := g_pl (show decode cX13_merges 20 = .ok (.iload_n 1, 1) by decide +kernel) rfl
set_option maxRecDepth 20000 in
theorem kX13_merges_21 {C : QC} {x : QP} {M : QM} {L : QL} {rest : List CV} {a0 a1 a2 a3 : CV} {M1 : QM} {b : Nat} (hb : q_kd M b = (1, 13)) (hC : C iX13_happens [qr b, a0, a1, a2, a3] M none M1) (hw : (rest.map q_wd).sum ≤ 8) (k : Rr C mX13_merges (24, L, rest, M1) x) : Rr C mX13_merges (21, L, a3 :: a2 :: a1 :: a0 :: qr b :: rest, M) x := g_cv (ow := 13) (e := (0, 217, 13, [1431, 1433, 42, 94])) (as := [a0, a1, a2, a3]) (show decode cX13_merges 21 = .ok (.invokevirtual 119, 3) by decide +kernel) rfl rfl rfl (Or.inl rfl) rfl hb hC hw k
set_option maxRecDepth 20000 in
theorem kX13_merges_24 {C : QC} {x : QP} {M : QM} {st : List CV} {L : QL} : Rr C mX13_merges (24, L, st, M) x = Rr C mX13_merges (25, L, qi 0 :: st, M) x := g_pl (show decode cX13_merges 24 = .ok (.iconst 0, 1) by decide +kernel) rfl
set_option maxRecDepth 20000 in
theorem kX13_merges_25 {C : QC} {x : QP} {M : QM} {st : List CV} {L : QL} {l0 l1 l2 l3 l4 l5 l6 : Option CV} {z : Int} : Rr C mX13_merges (25, [l0, l1, l2, l3, l4, l5, l6], qi z :: st, M) x = Rr C mX13_merges (27, [l0, l1, l2, q_cut l3, some (qi z), l5, l6], st, M) x := g_pl (show decode cX13_merges 25 = .ok (.istore 4, 2) by decide +kernel) rfl
set_option maxRecDepth 20000 in
theorem kX13_merges_27 {C : QC} {x : QP} {M : QM} {st : List CV} {L : QL} : Rr C mX13_merges (27, L, st, M) x = Rr C mX13_merges (28, L, qi 0 :: st, M) x := g_pl (show decode cX13_merges 27 = .ok (.iconst 0, 1) by decide +kernel) rfl
set_option maxRecDepth 20000 in
theorem kX13_merges_28 {C : QC} {x : QP} {M : QM} {st : List CV} {L : QL} {l0 l1 l2 l3 l4 l5 l6 : Option CV} {z : Int} : Rr C mX13_merges (28, [l0, l1, l2, l3, l4, l5, l6], qi z :: st, M) x = Rr C mX13_merges (30, [l0, l1, l2, l3, q_cut l4, some (qi z), l6], st, M) x := g_pl (show decode cX13_merges 28 = .ok (.istore 5, 2) by decide +kernel) rfl
set_option maxRecDepth 20000 in
theorem kX13_merges_30 {C : QC} {x : QP} {M : QM} {st : List CV} {L : QL} {l0 l1 l2 l3 l4 l5 l6 : Option CV} {z : Int} : Rr C mX13_merges (30, [l0, l1, l2, l3, l4, some (qi z), l6], st, M) x = Rr C mX13_merges (32, [l0, l1, l2, l3, l4, some (qi z), l6], qi z :: st, M) x := g_pl (show decode cX13_merges 30 = .ok (.iload 5, 2) by decide +kernel) rfl
set_option maxRecDepth 20000 in
theorem kX13_merges_32 {C : QC} {x : QP} {M : QM} {st : List CV} {L : QL} {l0 l1 l2 l3 l4 l5 l6 : Option CV} {r : Option Nat} : Rr C mX13_merges (32, [some (.inr (.inr r)), l1, l2, l3, l4, l5, l6], st, M) x = Rr C mX13_merges (33, [some (.inr (.inr r)), l1, l2, l3, l4, l5, l6], .inr (.inr r) :: st, M) x := g_pl (show decode cX13_merges 32 = .ok (.aload_n 0, 1) by decide +kernel) rfl
set_option maxRecDepth 20000 in
theorem kX13_merges_33 {C : QC} {x : QP} {M : QM} {st : List CV} {L : QL} {a : Nat} (hk : q_kd M a = (1, 13)) : Rr C mX13_merges (33, L, qr a :: st, M) x = Rr C mX13_merges (36, L, q_fv M a 0 :: st, M) x := g_getf (ow := 13) (e := (13, 0, RX13, 1301, 0)) (show decode cX13_merges 33 = .ok (.getfield 10, 3) by decide +kernel) rfl hk
set_option maxRecDepth 20000 in
theorem kX13_merges_36 {C : QC} {x : QP} {M : QM} {st : List CV} {L : QL} : Rr C mX13_merges (36, L, st, M) x = Rr C mX13_merges (37, L, qi 0 :: st, M) x := g_pl (show decode cX13_merges 36 = .ok (.iconst 0, 1) by decide +kernel) rfl
set_option maxRecDepth 20000 in
theorem kX13_merges_37 {C : QC} {x : QP} {M : QM} {st : List CV} {L : QL} {a : Nat} {j : Int} (hk : (q_kd M a).1 = 2) (h0 : 0 ≤ j) (h1 : j < ((q_kd M a).2 : Int)) : Rr C mX13_merges (37, L, qi j :: qr a :: st, M) x = Rr C mX13_merges (38, L, q_fv M a j.toNat :: st, M) x := g_iald (show decode cX13_merges 37 = .ok (.iaload, 1) by decide +kernel) hk h0 h1
set_option maxRecDepth 20000 in
theorem kX13_merges_38 {C : QC} {x : QP} {M : QM} {st : List CV} {L : QL} {a b : Int} (ha1 : -2147483648 ≤ a) (ha2 : a < 2147483648) (hb1 : -2147483648 ≤ b) (hb2 : b < 2147483648) : Rr C mX13_merges (38, L, qi b :: qi a :: st, M) x = (if a < b then Rr C mX13_merges (41, L, st, M) x else Rr C mX13_merges (80, L, st, M) x) := (g_icmp (show decode cX13_merges 38 = .ok (.if_icmp .ge 42, 3) by decide +kernel) rfl ha1 ha2 hb1 hb2).trans (g_itn c_ge)
set_option maxRecDepth 20000 in
theorem kX13_merges_41 {C : QC} {x : QP} {M : QM} {st : List CV} {L : QL} {l0 l1 l2 l3 l4 l5 l6 : Option CV} {r : Option Nat} : Rr C mX13_merges (41, [some (.inr (.inr r)), l1, l2, l3, l4, l5, l6], st, M) x = Rr C mX13_merges (42, [some (.inr (.inr r)), l1, l2, l3, l4, l5, l6], .inr (.inr r) :: st, M) x := g_pl (show decode cX13_merges 41 = .ok (.aload_n 0, 1) by decide +kernel) rfl
set_option maxRecDepth 20000 in
theorem kX13_merges_42 {C : QC} {x : QP} {M : QM} {st : List CV} {L : QL} {l0 l1 l2 l3 l4 l5 l6 : Option CV} {z : Int} : Rr C mX13_merges (42, [l0, l1, l2, l3, l4, some (qi z), l6], st, M) x = Rr C mX13_merges (44, [l0, l1, l2, l3, l4, some (qi z), l6], qi z :: st, M) x := g_pl (show decode cX13_merges 42 = .ok (.iload 5, 2) by decide +kernel) rfl
set_option maxRecDepth 20000 in
theorem kX13_merges_44 {C : QC} {x : QP} {M : QM} {st : List CV} {L : QL} {l0 l1 l2 l3 l4 l5 l6 : Option CV} {z : Int} : Rr C mX13_merges (44, [l0, some (qi z), l2, l3, l4, l5, l6], st, M) x = Rr C mX13_merges (45, [l0, some (qi z), l2, l3, l4, l5, l6], qi z :: st, M) x := g_pl (show decode cX13_merges 44 = .ok (.iload_n 1, 1) by decide +kernel) rfl
set_option maxRecDepth 20000 in
theorem kX13_merges_45 {C : QC} {x : QP} {M : QM} {st : List CV} {L : QL} {l0 l1 l2 l3 l4 l5 l6 : Option CV} {z : Int} : Rr C mX13_merges (45, [l0, l1, l2, some (qi z), l4, l5, l6], st, M) x = Rr C mX13_merges (46, [l0, l1, l2, some (qi z), l4, l5, l6], qi z :: st, M) x := g_pl (show decode cX13_merges 45 = .ok (.iload_n 3, 1) by decide +kernel) rfl
set_option maxRecDepth 20000 in
theorem kX13_merges_46 {C : QC} {x : QP} {M : QM} {L : QL} {rest : List CV} {a0 a1 a2 : CV} {v : CV} {M1 : QM} {b : Nat} (hb : q_kd M b = (1, 13)) (hC : C iX13_firstDay [qr b, a0, a1, a2] M (some v) M1) (hw : (rest.map q_wd).sum ≤ 8) (k : Rr C mX13_merges (49, L, v :: rest, M1) x) : Rr C mX13_merges (46, L, a2 :: a1 :: a0 :: qr b :: rest, M) x := g_cv (ow := 13) (e := (0, 234, 13, [1499, 1501, 55, 94])) (as := [a0, a1, a2]) (show decode cX13_merges 46 = .ok (.invokevirtual 109, 3) by decide +kernel) rfl rfl rfl (Or.inl rfl) rfl hb hC hw k
set_option maxRecDepth 20000 in
theorem kX13_merges_49 {C : QC} {x : QP} {M : QM} {st : List CV} {L : QL} {l0 l1 l2 l3 l4 l5 l6 : Option CV} {z : Int} : Rr C mX13_merges (49, [l0, l1, l2, l3, l4, l5, l6], qi z :: st, M) x = Rr C mX13_merges (51, [l0, l1, l2, l3, l4, q_cut l5, some (qi z)], st, M) x := g_pl (show decode cX13_merges 49 = .ok (.istore 6, 2) by decide +kernel) rfl
set_option maxRecDepth 20000 in
theorem kX13_merges_51 {C : QC} {x : QP} {M : QM} {st : List CV} {L : QL} {l0 l1 l2 l3 l4 l5 l6 : Option CV} {z : Int} : Rr C mX13_merges (51, [l0, l1, l2, l3, l4, l5, some (qi z)], st, M) x = Rr C mX13_merges (53, [l0, l1, l2, l3, l4, l5, some (qi z)], qi z :: st, M) x := g_pl (show decode cX13_merges 51 = .ok (.iload 6, 2) by decide +kernel) rfl
set_option maxRecDepth 20000 in
theorem kX13_merges_53 {C : QC} {x : QP} {M : QM} {st : List CV} {L : QL} : Rr C mX13_merges (53, L, st, M) x = Rr C mX13_merges (54, L, qi (-1) :: st, M) x := g_pl (show decode cX13_merges 53 = .ok (.iconst (-1), 1) by decide +kernel) rfl
set_option maxRecDepth 20000 in
theorem kX13_merges_54 {C : QC} {x : QP} {M : QM} {st : List CV} {L : QL} {a b : Int} (ha1 : -2147483648 ≤ a) (ha2 : a < 2147483648) (hb1 : -2147483648 ≤ b) (hb2 : b < 2147483648) : Rr C mX13_merges (54, L, qi b :: qi a :: st, M) x = (if a = b then Rr C mX13_merges (57, L, st, M) x else Rr C mX13_merges (60, L, st, M) x) := (g_icmp (show decode cX13_merges 54 = .ok (.if_icmp .ne 6, 3) by decide +kernel) rfl ha1 ha2 hb1 hb2).trans (g_itn c_ne)
set_option maxRecDepth 20000 in
theorem kX13_merges_57 {C : QC} {x : QP} {M : QM} {st : List CV} {L : QL} : Rr C mX13_merges (57, L, st, M) x = Rr C mX13_merges (74, L, st, M) x := g_pl (show decode cX13_merges 57 = .ok (.goto 17, 3) by decide +kernel) rfl
set_option maxRecDepth 20000 in
theorem kX13_merges_60 {C : QC} {x : QP} {M : QM} {st : List CV} {L : QL} {l0 l1 l2 l3 l4 l5 l6 : Option CV} {r : Option Nat} : Rr C mX13_merges (60, [some (.inr (.inr r)), l1, l2, l3, l4, l5, l6], st, M) x = Rr C mX13_merges (61, [some (.inr (.inr r)), l1, l2, l3, l4, l5, l6], .inr (.inr r) :: st, M) x := g_pl (show decode cX13_merges 60 = .ok (.aload_n 0, 1) by decide +kernel) rfl
set_option maxRecDepth 20000 in
theorem kX13_merges_61 {C : QC} {x : QP} {M : QM} {st : List CV} {L : QL} {l0 l1 l2 l3 l4 l5 l6 : Option CV} {z : Int} : Rr C mX13_merges (61, [l0, l1, l2, l3, l4, some (qi z), l6], st, M) x = Rr C mX13_merges (63, [l0, l1, l2, l3, l4, some (qi z), l6], qi z :: st, M) x := g_pl (show decode cX13_merges 61 = .ok (.iload 5, 2) by decide +kernel) rfl
set_option maxRecDepth 20000 in
theorem kX13_merges_63 {C : QC} {x : QP} {M : QM} {st : List CV} {L : QL} {l0 l1 l2 l3 l4 l5 l6 : Option CV} {z : Int} : Rr C mX13_merges (63, [l0, l1, l2, l3, l4, l5, some (qi z)], st, M) x = Rr C mX13_merges (65, [l0, l1, l2, l3, l4, l5, some (qi z)], qi z :: st, M) x := g_pl (show decode cX13_merges 63 = .ok (.iload 6, 2) by decide +kernel) rfl
set_option maxRecDepth 20000 in
theorem kX13_merges_65 {C : QC} {x : QP} {M : QM} {st : List CV} {L : QL} : Rr C mX13_merges (65, L, st, M) x = Rr C mX13_merges (67, L, qi 8 :: st, M) x := g_pl (show decode cX13_merges 65 = .ok (.bipush 8, 2) by decide +kernel) rfl
set_option maxRecDepth 20000 in
theorem kX13_merges_67 {C : QC} {x : QP} {M : QM} {st : List CV} {L : QL} {l0 l1 l2 l3 l4 l5 l6 : Option CV} {z : Int} : Rr C mX13_merges (67, [l0, l1, some (qi z), l3, l4, l5, l6], st, M) x = Rr C mX13_merges (68, [l0, l1, some (qi z), l3, l4, l5, l6], qi z :: st, M) x := g_pl (show decode cX13_merges 67 = .ok (.iload_n 2, 1) by decide +kernel) rfl
set_option maxRecDepth 20000 in
theorem kX13_merges_68 {C : QC} {x : QP} {M : QM} {L : QL} {rest : List CV} {a0 a1 a2 a3 : CV} {M1 : QM} {b : Nat} (hb : q_kd M b = (1, 13)) (hC : C iX13_happens [qr b, a0, a1, a2, a3] M none M1) (hw : (rest.map q_wd).sum ≤ 8) (k : Rr C mX13_merges (71, L, rest, M1) x) : Rr C mX13_merges (68, L, a3 :: a2 :: a1 :: a0 :: qr b :: rest, M) x := g_cv (ow := 13) (e := (0, 217, 13, [1431, 1433, 42, 94])) (as := [a0, a1, a2, a3]) (show decode cX13_merges 68 = .ok (.invokevirtual 119, 3) by decide +kernel) rfl rfl rfl (Or.inl rfl) rfl hb hC hw k
set_option maxRecDepth 20000 in
theorem kX13_merges_71 {C : QC} {x : QP} {M : QM} {st : List CV} {L : QL} {l0 l1 l2 l3 l4 l5 l6 : Option CV} {z : Int} : Rr C mX13_merges (71, [l0, l1, l2, l3, some (qi z), l5, l6], st, M) x = Rr C mX13_merges (74, [l0, l1, l2, q_cut l3, some (qi (z + 1)), l5, l6], st, M) x := g_pl (show decode cX13_merges 71 = .ok (.iinc 4 1, 3) by decide +kernel) rfl
set_option maxRecDepth 20000 in
theorem kX13_merges_74 {C : QC} {x : QP} {M : QM} {st : List CV} {L : QL} {l0 l1 l2 l3 l4 l5 l6 : Option CV} {z : Int} : Rr C mX13_merges (74, [l0, l1, l2, l3, l4, some (qi z), l6], st, M) x = Rr C mX13_merges (77, [l0, l1, l2, l3, q_cut l4, some (qi (z + 1)), l6], st, M) x := g_pl (show decode cX13_merges 74 = .ok (.iinc 5 1, 3) by decide +kernel) rfl
set_option maxRecDepth 20000 in
theorem kX13_merges_77 {C : QC} {x : QP} {M : QM} {st : List CV} {L : QL} : Rr C mX13_merges (77, L, st, M) x = Rr C mX13_merges (30, L, st, M) x := g_pl (show decode cX13_merges 77 = .ok (.goto (-47), 3) by decide +kernel) rfl
set_option maxRecDepth 20000 in
theorem kX13_merges_80 {C : QC} {x : QP} {M : QM} {st : List CV} {L : QL} {l0 l1 l2 l3 l4 l5 l6 : Option CV} {r : Option Nat} : Rr C mX13_merges (80, [some (.inr (.inr r)), l1, l2, l3, l4, l5, l6], st, M) x = Rr C mX13_merges (81, [some (.inr (.inr r)), l1, l2, l3, l4, l5, l6], .inr (.inr r) :: st, M) x := g_pl (show decode cX13_merges 80 = .ok (.aload_n 0, 1) by decide +kernel) rfl
set_option maxRecDepth 20000 in
theorem kX13_merges_81 {C : QC} {x : QP} {M : QM} {st : List CV} {L : QL} {l0 l1 l2 l3 l4 l5 l6 : Option CV} {z : Int} : Rr C mX13_merges (81, [l0, some (qi z), l2, l3, l4, l5, l6], st, M) x = Rr C mX13_merges (82, [l0, some (qi z), l2, l3, l4, l5, l6], qi z :: st, M) x := g_pl (show decode cX13_merges 81 = .ok (.iload_n 1, 1) by decide +kernel) rfl
set_option maxRecDepth 20000 in
theorem kX13_merges_82 {C : QC} {x : QP} {M : QM} {st : List CV} {L : QL} : Rr C mX13_merges (82, L, st, M) x = Rr C mX13_merges (83, L, qi 2 :: st, M) x := g_pl (show decode cX13_merges 82 = .ok (.iconst 2, 1) by decide +kernel) rfl
set_option maxRecDepth 20000 in
theorem kX13_merges_83 {C : QC} {x : QP} {M : QM} {st : List CV} {L : QL} {l0 l1 l2 l3 l4 l5 l6 : Option CV} {z : Int} : Rr C mX13_merges (83, [l0, l1, l2, some (qi z), l4, l5, l6], st, M) x = Rr C mX13_merges (84, [l0, l1, l2, some (qi z), l4, l5, l6], qi z :: st, M) x := g_pl (show decode cX13_merges 83 = .ok (.iload_n 3, 1) by decide +kernel) rfl
set_option maxRecDepth 20000 in
theorem kX13_merges_84 {C : QC} {x : QP} {M : QM} {L : QL} {rest : List CV} {a0 a1 a2 : CV} {M1 : QM} {b : Nat} (hb : q_kd M b = (1, 13)) (hC : C iX13_lays [qr b, a0, a1, a2] M none M1) (hw : (rest.map q_wd).sum ≤ 8) (k : Rr C mX13_merges (87, L, rest, M1) x) : Rr C mX13_merges (84, L, a2 :: a1 :: a0 :: qr b :: rest, M) x := g_cv (ow := 13) (e := (0, 214, 13, [1419, 1421, 39, 94])) (as := [a0, a1, a2]) (show decode cX13_merges 84 = .ok (.invokevirtual 55, 3) by decide +kernel) rfl rfl rfl (Or.inl rfl) rfl hb hC hw k
set_option maxRecDepth 20000 in
theorem kX13_merges_87 {C : QC} {x : QP} {M : QM} {st : List CV} {L : QL} {l0 l1 l2 l3 l4 l5 l6 : Option CV} {r : Option Nat} : Rr C mX13_merges (87, [some (.inr (.inr r)), l1, l2, l3, l4, l5, l6], st, M) x = Rr C mX13_merges (88, [some (.inr (.inr r)), l1, l2, l3, l4, l5, l6], .inr (.inr r) :: st, M) x := g_pl (show decode cX13_merges 87 = .ok (.aload_n 0, 1) by decide +kernel) rfl
set_option maxRecDepth 20000 in
theorem kX13_merges_88 {C : QC} {x : QP} {M : QM} {st : List CV} {L : QL} {l0 l1 l2 l3 l4 l5 l6 : Option CV} {z : Int} : Rr C mX13_merges (88, [l0, some (qi z), l2, l3, l4, l5, l6], st, M) x = Rr C mX13_merges (89, [l0, some (qi z), l2, l3, l4, l5, l6], qi z :: st, M) x := g_pl (show decode cX13_merges 88 = .ok (.iload_n 1, 1) by decide +kernel) rfl
set_option maxRecDepth 20000 in
theorem kX13_merges_89 {C : QC} {x : QP} {M : QM} {st : List CV} {L : QL} : Rr C mX13_merges (89, L, st, M) x = Rr C mX13_merges (90, L, qi 3 :: st, M) x := g_pl (show decode cX13_merges 89 = .ok (.iconst 3, 1) by decide +kernel) rfl
set_option maxRecDepth 20000 in
theorem kX13_merges_90 {C : QC} {x : QP} {M : QM} {st : List CV} {L : QL} {l0 l1 l2 l3 l4 l5 l6 : Option CV} {z : Int} : Rr C mX13_merges (90, [l0, l1, some (qi z), l3, l4, l5, l6], st, M) x = Rr C mX13_merges (91, [l0, l1, some (qi z), l3, l4, l5, l6], qi z :: st, M) x := g_pl (show decode cX13_merges 90 = .ok (.iload_n 2, 1) by decide +kernel) rfl
set_option maxRecDepth 20000 in
theorem kX13_merges_91 {C : QC} {x : QP} {M : QM} {L : QL} {rest : List CV} {a0 a1 a2 : CV} {M1 : QM} {b : Nat} (hb : q_kd M b = (1, 13)) (hC : C iX13_lays [qr b, a0, a1, a2] M none M1) (hw : (rest.map q_wd).sum ≤ 8) (k : Rr C mX13_merges (94, L, rest, M1) x) : Rr C mX13_merges (91, L, a2 :: a1 :: a0 :: qr b :: rest, M) x := g_cv (ow := 13) (e := (0, 214, 13, [1419, 1421, 39, 94])) (as := [a0, a1, a2]) (show decode cX13_merges 91 = .ok (.invokevirtual 55, 3) by decide +kernel) rfl rfl rfl (Or.inl rfl) rfl hb hC hw k
set_option maxRecDepth 20000 in
theorem kX13_merges_94 {C : QC} {x : QP} {M : QM} {st : List CV} {L : QL} {l0 l1 l2 l3 l4 l5 l6 : Option CV} {r : Option Nat} : Rr C mX13_merges (94, [some (.inr (.inr r)), l1, l2, l3, l4, l5, l6], st, M) x = Rr C mX13_merges (95, [some (.inr (.inr r)), l1, l2, l3, l4, l5, l6], .inr (.inr r) :: st, M) x := g_pl (show decode cX13_merges 94 = .ok (.aload_n 0, 1) by decide +kernel) rfl
set_option maxRecDepth 20000 in
theorem kX13_merges_95 {C : QC} {x : QP} {M : QM} {st : List CV} {L : QL} : Rr C mX13_merges (95, L, st, M) x = Rr C mX13_merges (96, L, qi (-1) :: st, M) x := g_pl (show decode cX13_merges 95 = .ok (.iconst (-1), 1) by decide +kernel) rfl
set_option maxRecDepth 20000 in
theorem kX13_merges_96 {C : QC} {x : QP} {M : QM} {st : List CV} {L : QL} {l0 l1 l2 l3 l4 l5 l6 : Option CV} {z : Int} : Rr C mX13_merges (96, [l0, some (qi z), l2, l3, l4, l5, l6], st, M) x = Rr C mX13_merges (97, [l0, some (qi z), l2, l3, l4, l5, l6], qi z :: st, M) x := g_pl (show decode cX13_merges 96 = .ok (.iload_n 1, 1) by decide +kernel) rfl
set_option maxRecDepth 20000 in
theorem kX13_merges_97 {C : QC} {x : QP} {M : QM} {st : List CV} {L : QL} {a b : Int} : Rr C mX13_merges (97, L, qi b :: qi a :: st, M) x = Rr C mX13_merges (98, L, qi (a - b) :: st, M) x := g_pl (show decode cX13_merges 97 = .ok (.isub, 1) by decide +kernel) rfl
set_option maxRecDepth 20000 in
theorem kX13_merges_98 {C : QC} {x : QP} {M : QM} {st : List CV} {L : QL} {l0 l1 l2 l3 l4 l5 l6 : Option CV} {z : Int} : Rr C mX13_merges (98, [l0, l1, l2, some (qi z), l4, l5, l6], st, M) x = Rr C mX13_merges (99, [l0, l1, l2, some (qi z), l4, l5, l6], qi z :: st, M) x := g_pl (show decode cX13_merges 98 = .ok (.iload_n 3, 1) by decide +kernel) rfl
set_option maxRecDepth 20000 in
theorem kX13_merges_99 {C : QC} {x : QP} {M : QM} {st : List CV} {L : QL} {l0 l1 l2 l3 l4 l5 l6 : Option CV} {z : Int} : Rr C mX13_merges (99, [l0, l1, some (qi z), l3, l4, l5, l6], st, M) x = Rr C mX13_merges (100, [l0, l1, some (qi z), l3, l4, l5, l6], qi z :: st, M) x := g_pl (show decode cX13_merges 99 = .ok (.iload_n 2, 1) by decide +kernel) rfl
set_option maxRecDepth 20000 in
theorem kX13_merges_100 {C : QC} {x : QP} {M : QM} {L : QL} {rest : List CV} {a0 a1 a2 : CV} {M1 : QM} {b : Nat} (hb : q_kd M b = (1, 13)) (hC : C iX13_tellsParent [qr b, a0, a1, a2] M none M1) (hw : (rest.map q_wd).sum ≤ 8) (k : Rr C mX13_merges (103, L, rest, M1) x) : Rr C mX13_merges (100, L, a2 :: a1 :: a0 :: qr b :: rest, M) x := g_cv (ow := 13) (e := (0, 215, 13, [1423, 1425, 40, 94])) (as := [a0, a1, a2]) (show decode cX13_merges 100 = .ok (.invokevirtual 113, 3) by decide +kernel) rfl rfl rfl (Or.inl rfl) rfl hb hC hw k
set_option maxRecDepth 20000 in
theorem kX13_merges_103 {C : QC} {x : QP} {M : QM} {st : List CV} {L : QL} {l0 l1 l2 l3 l4 l5 l6 : Option CV} {r : Option Nat} : Rr C mX13_merges (103, [some (.inr (.inr r)), l1, l2, l3, l4, l5, l6], st, M) x = Rr C mX13_merges (104, [some (.inr (.inr r)), l1, l2, l3, l4, l5, l6], .inr (.inr r) :: st, M) x := g_pl (show decode cX13_merges 103 = .ok (.aload_n 0, 1) by decide +kernel) rfl
set_option maxRecDepth 20000 in
theorem kX13_merges_104 {C : QC} {x : QP} {M : QM} {st : List CV} {L : QL} {a : Nat} (hk : q_kd M a = (1, 13)) : Rr C mX13_merges (104, L, qr a :: st, M) x = Rr C mX13_merges (107, L, q_fv M a 0 :: st, M) x := g_getf (ow := 13) (e := (13, 0, RX13, 1301, 0)) (show decode cX13_merges 104 = .ok (.getfield 10, 3) by decide +kernel) rfl hk
set_option maxRecDepth 20000 in
theorem kX13_merges_107 {C : QC} {x : QP} {M : QM} {st : List CV} {L : QL} : Rr C mX13_merges (107, L, st, M) x = Rr C mX13_merges (108, L, qi 5 :: st, M) x := g_pl (show decode cX13_merges 107 = .ok (.iconst 5, 1) by decide +kernel) rfl
set_option maxRecDepth 20000 in
theorem kX13_merges_108 {C : QC} {x : QP} {M : QM} {st : List CV} {L : QL} {a : Int} {b : Option Nat} : Rr C mX13_merges (108, L, qi a :: .inr (.inr b) :: st, M) x = Rr C mX13_merges (109, L, qi a :: .inr (.inr b) :: qi a :: .inr (.inr b) :: st, M) x := g_pl (show decode cX13_merges 108 = .ok (.dup2, 1) by decide +kernel) rfl
set_option maxRecDepth 20000 in
theorem kX13_merges_109 {C : QC} {x : QP} {M : QM} {st : List CV} {L : QL} {a : Nat} {j : Int} (hk : (q_kd M a).1 = 2) (h0 : 0 ≤ j) (h1 : j < ((q_kd M a).2 : Int)) : Rr C mX13_merges (109, L, qi j :: qr a :: st, M) x = Rr C mX13_merges (110, L, q_fv M a j.toNat :: st, M) x := g_iald (show decode cX13_merges 109 = .ok (.iaload, 1) by decide +kernel) hk h0 h1
set_option maxRecDepth 20000 in
theorem kX13_merges_110 {C : QC} {x : QP} {M : QM} {st : List CV} {L : QL} : Rr C mX13_merges (110, L, st, M) x = Rr C mX13_merges (111, L, qi 1 :: st, M) x := g_pl (show decode cX13_merges 110 = .ok (.iconst 1, 1) by decide +kernel) rfl
set_option maxRecDepth 20000 in
theorem kX13_merges_111 {C : QC} {x : QP} {M : QM} {st : List CV} {L : QL} {a b : Int} : Rr C mX13_merges (111, L, qi b :: qi a :: st, M) x = Rr C mX13_merges (112, L, qi (a + b) :: st, M) x := g_pl (show decode cX13_merges 111 = .ok (.iadd, 1) by decide +kernel) rfl
set_option maxRecDepth 20000 in
theorem kX13_merges_112 {C : QC} {x : QP} {M : QM} {st : List CV} {L : QL} {a : Nat} {j v : Int} (hk : (q_kd M a).1 = 2) (h0 : 0 ≤ j) (h1 : j < ((q_kd M a).2 : Int)) : Rr C mX13_merges (112, L, qi v :: qi j :: qr a :: st, M) x = Rr C mX13_merges (113, L, st, q_wr M a j.toNat (qi v)) x := g_iast (show decode cX13_merges 112 = .ok (.iastore, 1) by decide +kernel) hk h0 h1
set_option maxRecDepth 20000 in
theorem kX13_merges_113 {C : QC} {x : QP} {M : QM} {st : List CV} {L : QL} {l0 l1 l2 l3 l4 l5 l6 : Option CV} {z : Int} : Rr C mX13_merges (113, [l0, l1, l2, l3, some (qi z), l5, l6], st, M) x = Rr C mX13_merges (115, [l0, l1, l2, l3, some (qi z), l5, l6], qi z :: st, M) x := g_pl (show decode cX13_merges 113 = .ok (.iload 4, 2) by decide +kernel) rfl
set_option maxRecDepth 20000 in
theorem kX13_merges_115 {C : QC} {x : QP} {M : QM} {st : List CV} {L : QL} {z : Int} : Rr C mX13_merges (115, L, [qi z], M) x = x (some (qi z)) M := g_iret (show decode cX13_merges 115 = .ok (.ireturn, 1) by decide +kernel) rfl
set_option maxRecDepth 20000 in
theorem eX13_merges {d : Nat} {M : QM} {x : QP} {a : Nat} {v0 : Int} {v1 : Int} {v2 : Int} : q_T (d + 1) iX13_merges [qr a, qi v0, qi v1, qi v2] M x = Rr (q_C d) mX13_merges (0, [some (qr a), some (qi v0), some (qi v1), some (qi v2), none, none, none], [], M) x := g_entryT (e := _) rfl (Nat.le_of_ble_eq_true rfl) rfl rfl
def mX13_closes : QI := (13, cX13_closes, false, some .int)
set_option maxRecDepth 20000 in
theorem kX13_closes_0 {C : QC} {x : QP} {M : QM} {st : List CV} {L : QL} {l0 l1 l2 : Option CV} {r : Option Nat} : Rr C mX13_closes (0, [some (.inr (.inr r)), l1, l2], st, M) x = Rr C mX13_closes (1, [some (.inr (.inr r)), l1, l2], .inr (.inr r) :: st, M) x := g_pl (show decode cX13_closes 0 = .ok (.aload_n 0, 1) by decide +kernel) rfl
set_option maxRecDepth 20000 in
theorem kX13_closes_1 {C : QC} {x : QP} {M : QM} {st : List CV} {L : QL} {l0 l1 l2 : Option CV} {z : Int} : Rr C mX13_closes (1, [l0, some (qi z), l2], st, M) x = Rr C mX13_closes (2, [l0, some (qi z), l2], qi z :: st, M) x := g_pl (show decode cX13_closes 1 = .ok (.iload_n 1, 1) by decide +kernel) rfl
set_option maxRecDepth 20000 in
theorem kX13_closes_2 {C : QC} {x : QP} {M : QM} {st : List CV} {L : QL} : Rr C mX13_closes (2, L, st, M) x = Rr C mX13_closes (3, L, qi 4 :: st, M) x := g_pl (show decode cX13_closes 2 = .ok (.iconst 4, 1) by decide +kernel) rfl
set_option maxRecDepth 20000 in
theorem kX13_closes_3 {C : QC} {x : QP} {M : QM} {st : List CV} {L : QL} {l0 l1 l2 : Option CV} {z : Int} : Rr C mX13_closes (3, [l0, l1, some (qi z)], st, M) x = Rr C mX13_closes (4, [l0, l1, some (qi z)], qi z :: st, M) x := g_pl (show decode cX13_closes 3 = .ok (.iload_n 2, 1) by decide +kernel) rfl
set_option maxRecDepth 20000 in
theorem kX13_closes_4 {C : QC} {x : QP} {M : QM} {L : QL} {rest : List CV} {a0 a1 a2 : CV} {M1 : QM} {b : Nat} (hb : q_kd M b = (1, 13)) (hC : C iX13_lays [qr b, a0, a1, a2] M none M1) (hw : (rest.map q_wd).sum ≤ 8) (k : Rr C mX13_closes (7, L, rest, M1) x) : Rr C mX13_closes (4, L, a2 :: a1 :: a0 :: qr b :: rest, M) x := g_cv (ow := 13) (e := (0, 214, 13, [1419, 1421, 39, 94])) (as := [a0, a1, a2]) (show decode cX13_closes 4 = .ok (.invokevirtual 55, 3) by decide +kernel) rfl rfl rfl (Or.inl rfl) rfl hb hC hw k
set_option maxRecDepth 20000 in
theorem kX13_closes_7 {C : QC} {x : QP} {M : QM} {st : List CV} {L : QL} {l0 l1 l2 : Option CV} {r : Option Nat} : Rr C mX13_closes (7, [some (.inr (.inr r)), l1, l2], st, M) x = Rr C mX13_closes (8, [some (.inr (.inr r)), l1, l2], .inr (.inr r) :: st, M) x := g_pl (show decode cX13_closes 7 = .ok (.aload_n 0, 1) by decide +kernel) rfl
set_option maxRecDepth 20000 in
theorem kX13_closes_8 {C : QC} {x : QP} {M : QM} {st : List CV} {L : QL} {l0 l1 l2 : Option CV} {z : Int} : Rr C mX13_closes (8, [l0, some (qi z), l2], st, M) x = Rr C mX13_closes (9, [l0, some (qi z), l2], qi z :: st, M) x := g_pl (show decode cX13_closes 8 = .ok (.iload_n 1, 1) by decide +kernel) rfl
set_option maxRecDepth 20000 in
theorem kX13_closes_9 {C : QC} {x : QP} {M : QM} {st : List CV} {L : QL} : Rr C mX13_closes (9, L, st, M) x = Rr C mX13_closes (10, L, qi 2 :: st, M) x := g_pl (show decode cX13_closes 9 = .ok (.iconst 2, 1) by decide +kernel) rfl
set_option maxRecDepth 20000 in
theorem kX13_closes_10 {C : QC} {x : QP} {M : QM} {st : List CV} {L : QL} {l0 l1 l2 : Option CV} {z : Int} : Rr C mX13_closes (10, [l0, l1, some (qi z)], st, M) x = Rr C mX13_closes (11, [l0, l1, some (qi z)], qi z :: st, M) x := g_pl (show decode cX13_closes 10 = .ok (.iload_n 2, 1) by decide +kernel) rfl
set_option maxRecDepth 20000 in
theorem kX13_closes_11 {C : QC} {x : QP} {M : QM} {L : QL} {rest : List CV} {a0 a1 a2 : CV} {M1 : QM} {b : Nat} (hb : q_kd M b = (1, 13)) (hC : C iX13_lays [qr b, a0, a1, a2] M none M1) (hw : (rest.map q_wd).sum ≤ 8) (k : Rr C mX13_closes (14, L, rest, M1) x) : Rr C mX13_closes (11, L, a2 :: a1 :: a0 :: qr b :: rest, M) x := g_cv (ow := 13) (e := (0, 214, 13, [1419, 1421, 39, 94])) (as := [a0, a1, a2]) (show decode cX13_closes 11 = .ok (.invokevirtual 55, 3) by decide +kernel) rfl rfl rfl (Or.inl rfl) rfl hb hC hw k
set_option maxRecDepth 20000 in
theorem kX13_closes_14 {C : QC} {x : QP} {M : QM} {st : List CV} {L : QL} {l0 l1 l2 : Option CV} {r : Option Nat} : Rr C mX13_closes (14, [some (.inr (.inr r)), l1, l2], st, M) x = Rr C mX13_closes (15, [some (.inr (.inr r)), l1, l2], .inr (.inr r) :: st, M) x := g_pl (show decode cX13_closes 14 = .ok (.aload_n 0, 1) by decide +kernel) rfl
set_option maxRecDepth 20000 in
theorem kX13_closes_15 {C : QC} {x : QP} {M : QM} {st : List CV} {L : QL} {l0 l1 l2 : Option CV} {z : Int} : Rr C mX13_closes (15, [l0, some (qi z), l2], st, M) x = Rr C mX13_closes (16, [l0, some (qi z), l2], qi z :: st, M) x := g_pl (show decode cX13_closes 15 = .ok (.iload_n 1, 1) by decide +kernel) rfl
set_option maxRecDepth 20000 in
theorem kX13_closes_16 {C : QC} {x : QP} {M : QM} {st : List CV} {L : QL} {l0 l1 l2 : Option CV} {z : Int} : Rr C mX13_closes (16, [l0, l1, some (qi z)], st, M) x = Rr C mX13_closes (17, [l0, l1, some (qi z)], qi z :: st, M) x := g_pl (show decode cX13_closes 16 = .ok (.iload_n 2, 1) by decide +kernel) rfl
set_option maxRecDepth 20000 in
theorem kX13_closes_17 {C : QC} {x : QP} {M : QM} {st : List CV} {L : QL} : Rr C mX13_closes (17, L, st, M) x = Rr C mX13_closes (18, L, qi 4 :: st, M) x := g_pl (show decode cX13_closes 17 = .ok (.iconst 4, 1) by decide +kernel) rfl
set_option maxRecDepth 20000 in
theorem kX13_closes_18 {C : QC} {x : QP} {M : QM} {st : List CV} {L : QL} : Rr C mX13_closes (18, L, st, M) x = Rr C mX13_closes (20, L, qi (-5) :: st, M) x := g_pl (show decode cX13_closes 18 = .ok (.bipush (-5), 2) by decide +kernel) rfl
set_option maxRecDepth 20000 in
theorem kX13_closes_20 {C : QC} {x : QP} {M : QM} {L : QL} {rest : List CV} {a0 a1 a2 a3 : CV} {M1 : QM} {b : Nat} (hb : q_kd M b = (1, 13)) (hC : C iX13_happens [qr b, a0, a1, a2, a3] M none M1) (hw : (rest.map q_wd).sum ≤ 8) (k : Rr C mX13_closes (23, L, rest, M1) x) : Rr C mX13_closes (20, L, a3 :: a2 :: a1 :: a0 :: qr b :: rest, M) x := g_cv (ow := 13) (e := (0, 217, 13, [1431, 1433, 42, 94])) (as := [a0, a1, a2, a3]) (show decode cX13_closes 20 = .ok (.invokevirtual 119, 3) by decide +kernel) rfl rfl rfl (Or.inl rfl) rfl hb hC hw k
set_option maxRecDepth 20000 in
theorem kX13_closes_23 {C : QC} {x : QP} {M : QM} {st : List CV} {L : QL} {l0 l1 l2 : Option CV} {z : Int} : Rr C mX13_closes (23, [l0, l1, some (qi z)], st, M) x = Rr C mX13_closes (24, [l0, l1, some (qi z)], qi z :: st, M) x := g_pl (show decode cX13_closes 23 = .ok (.iload_n 2, 1) by decide +kernel) rfl
set_option maxRecDepth 20000 in
theorem kX13_closes_24 {C : QC} {x : QP} {M : QM} {st : List CV} {L : QL} {l0 l1 l2 : Option CV} {r : Option Nat} : Rr C mX13_closes (24, [some (.inr (.inr r)), l1, l2], st, M) x = Rr C mX13_closes (25, [some (.inr (.inr r)), l1, l2], .inr (.inr r) :: st, M) x := g_pl (show decode cX13_closes 24 = .ok (.aload_n 0, 1) by decide +kernel) rfl
set_option maxRecDepth 20000 in
theorem kX13_closes_25 {C : QC} {x : QP} {M : QM} {st : List CV} {L : QL} {l0 l1 l2 : Option CV} {z : Int} : Rr C mX13_closes (25, [l0, some (qi z), l2], st, M) x = Rr C mX13_closes (26, [l0, some (qi z), l2], qi z :: st, M) x := g_pl (show decode cX13_closes 25 = .ok (.iload_n 1, 1) by decide +kernel) rfl
set_option maxRecDepth 20000 in
theorem kX13_closes_26 {C : QC} {x : QP} {M : QM} {st : List CV} {L : QL} : Rr C mX13_closes (26, L, st, M) x = Rr C mX13_closes (27, L, qi 1 :: st, M) x := g_pl (show decode cX13_closes 26 = .ok (.iconst 1, 1) by decide +kernel) rfl
set_option maxRecDepth 20000 in
theorem kX13_closes_27 {C : QC} {x : QP} {M : QM} {L : QL} {rest : List CV} {a0 a1 : CV} {v : CV} {M1 : QM} {b : Nat} (hb : q_kd M b = (1, 13)) (hC : C iX13_has [qr b, a0, a1] M (some v) M1) (hw : (rest.map q_wd).sum ≤ 8) (k : Rr C mX13_closes (30, L, v :: rest, M1) x) : Rr C mX13_closes (27, L, a1 :: a0 :: qr b :: rest, M) x := g_cv (ow := 13) (e := (0, 207, 13, [1391, 1393, 32, 94])) (as := [a0, a1]) (show decode cX13_closes 27 = .ok (.invokevirtual 47, 3) by decide +kernel) rfl rfl rfl (Or.inl rfl) rfl hb hC hw k
set_option maxRecDepth 20000 in
theorem kX13_closes_30 {C : QC} {x : QP} {M : QM} {st : List CV} {L : QL} {a b : Int} : Rr C mX13_closes (30, L, qi b :: qi a :: st, M) x = Rr C mX13_closes (31, L, qi (a - b) :: st, M) x := g_pl (show decode cX13_closes 30 = .ok (.isub, 1) by decide +kernel) rfl
set_option maxRecDepth 20000 in
theorem kX13_closes_31 {C : QC} {x : QP} {M : QM} {st : List CV} {L : QL} {z : Int} : Rr C mX13_closes (31, L, [qi z], M) x = x (some (qi z)) M := g_iret (show decode cX13_closes 31 = .ok (.ireturn, 1) by decide +kernel) rfl
set_option maxRecDepth 20000 in
theorem eX13_closes {d : Nat} {M : QM} {x : QP} {a : Nat} {v0 : Int} {v1 : Int} : q_T (d + 1) iX13_closes [qr a, qi v0, qi v1] M x = Rr (q_C d) mX13_closes (0, [some (qr a), some (qi v0), some (qi v1)], [], M) x := g_entryT (e := _) rfl (Nat.le_of_ble_eq_true rfl) rfl rfl
