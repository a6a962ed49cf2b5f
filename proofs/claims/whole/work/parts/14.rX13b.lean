/-! rules, one for each instruction: written by a program out of the code -/
def mX13_found : QI := (13, cX13_found, false, some .int)
set_option maxRecDepth 20000 in
theorem kX13_found_0 {C : QC} {x : QP} {M : QM} {st : List CV} {L : QL} {l0 l1 l2 l3 l4 l5 : Option CV} {r : Option Nat} : Rr C mX13_found (0, [some (.inr (.inr r)), l1, l2, l3, l4, l5], st, M) x = Rr C mX13_found (1, [some (.inr (.inr r)), l1, l2, l3, l4, l5], .inr (.inr r) :: st, M) x := g_pl (show decode cX13_found 0 = .ok (.aload_n 0, 1) by decide +kernel) rfl
set_option maxRecDepth 20000 in
theorem kX13_found_1 {C : QC} {x : QP} {M : QM} {L : QL} {rest : List CV} {v : CV} {M1 : QM} {b : Nat} (hb : q_kd M b = (1, 13)) (hC : C iX13_isOneWord [qr b] M (some v) M1) (hw : (rest.map q_wd).sum ≤ 8) (k : Rr C mX13_found (4, L, v :: rest, M1) x) : Rr C mX13_found (1, L, qr b :: rest, M) x := g_cv (ow := 13) (e := (0, 200, 13, [1364, 1366, 26, 94])) (as := []) (show decode cX13_found 1 = .ok (.invokevirtual 129, 3) by decide +kernel) rfl rfl rfl (Or.inl rfl) rfl hb hC hw k
set_option maxRecDepth 20000 in
theorem kX13_found_4 {C : QC} {x : QP} {M : QM} {st : List CV} {L : QL} {l0 l1 l2 l3 l4 l5 : Option CV} {z : Int} : Rr C mX13_found (4, [l0, l1, l2, l3, l4, l5], qi z :: st, M) x = Rr C mX13_found (6, [l0, l1, l2, q_cut l3, some (qi z), l5], st, M) x := g_pl (show decode cX13_found 4 = .ok (.istore 4, 2) by decide +kernel) rfl
set_option maxRecDepth 20000 in
theorem kX13_found_6 {C : QC} {x : QP} {M : QM} {st : List CV} {L : QL} {l0 l1 l2 l3 l4 l5 : Option CV} {z : Int} : Rr C mX13_found (6, [l0, some (qi z), l2, l3, l4, l5], st, M) x = Rr C mX13_found (7, [l0, some (qi z), l2, l3, l4, l5], qi z :: st, M) x := g_pl (show decode cX13_found 6 = .ok (.iload_n 1, 1) by decide +kernel) rfl
set_option maxRecDepth 20000 in
theorem kX13_found_7 {C : QC} {x : QP} {M : QM} {st : List CV} {L : QL} : Rr C mX13_found (7, L, st, M) x = Rr C mX13_found (8, L, qi 0 :: st, M) x := g_pl (show decode cX13_found 7 = .ok (.iconst 0, 1) by decide +kernel) rfl
set_option maxRecDepth 20000 in
theorem kX13_found_8 {C : QC} {x : QP} {M : QM} {st : List CV} {L : QL} : Rr C mX13_found (8, L, st, M) x = Rr C mX13_found (9, L, qi 3 :: st, M) x := g_pl (show decode cX13_found 8 = .ok (.iconst 3, 1) by decide +kernel) rfl
set_option maxRecDepth 20000 in
theorem kX13_found_9 {C : QC} {x : QP} {M : QM} {L : QL} {rest : List CV} {a0 a1 a2 : CV} {v : CV} {M1 : QM} (hC : C iX13_in [a0, a1, a2] M (some v) M1) (hw : (rest.map q_wd).sum ≤ 8) (k : Rr C mX13_found (12, L, v :: rest, M1) x) : Rr C mX13_found (9, L, a2 :: a1 :: a0 :: rest, M) x := g_cs (ow := 13) (e := (1, 198, 0, [1357, 1358, 94])) (as := [a0, a1, a2]) (show decode cX13_found 9 = .ok (.invokestatic 43, 3) by decide +kernel) rfl rfl rfl rfl (Or.inl rfl) rfl hC hw k
set_option maxRecDepth 20000 in
theorem kX13_found_12 {C : QC} {x : QP} {M : QM} {st : List CV} {L : QL} {a : Int} (ha1 : -2147483648 ≤ a) (ha2 : a < 2147483648) : Rr C mX13_found (12, L, qi a :: st, M) x = (if a = 0 then Rr C mX13_found (15, L, st, M) x else Rr C mX13_found (17, L, st, M) x) := (g_if (show decode cX13_found 12 = .ok (.ifCond .ne 5, 3) by decide +kernel) rfl ha1 ha2).trans (g_itn c_ne)
set_option maxRecDepth 20000 in
theorem kX13_found_15 {C : QC} {x : QP} {M : QM} {st : List CV} {L : QL} : Rr C mX13_found (15, L, st, M) x = Rr C mX13_found (16, L, qi (-1) :: st, M) x := g_pl (show decode cX13_found 15 = .ok (.iconst (-1), 1) by decide +kernel) rfl
set_option maxRecDepth 20000 in
theorem kX13_found_16 {C : QC} {x : QP} {M : QM} {st : List CV} {L : QL} {z : Int} : Rr C mX13_found (16, L, [qi z], M) x = x (some (qi z)) M := g_iret (show decode cX13_found 16 = .ok (.ireturn, 1) by decide +kernel) rfl
set_option maxRecDepth 20000 in
theorem kX13_found_17 {C : QC} {x : QP} {M : QM} {st : List CV} {L : QL} {l0 l1 l2 l3 l4 l5 : Option CV} {z : Int} : Rr C mX13_found (17, [l0, l1, l2, l3, some (qi z), l5], st, M) x = Rr C mX13_found (19, [l0, l1, l2, l3, some (qi z), l5], qi z :: st, M) x := g_pl (show decode cX13_found 17 = .ok (.iload 4, 2) by decide +kernel) rfl
set_option maxRecDepth 20000 in
theorem kX13_found_19 {C : QC} {x : QP} {M : QM} {st : List CV} {L : QL} {a : Int} (ha1 : -2147483648 ≤ a) (ha2 : a < 2147483648) : Rr C mX13_found (19, L, qi a :: st, M) x = (if a = 0 then Rr C mX13_found (32, L, st, M) x else Rr C mX13_found (22, L, st, M) x) := (g_if (show decode cX13_found 19 = .ok (.ifCond .eq 13, 3) by decide +kernel) rfl ha1 ha2).trans (g_ite c_eq)
set_option maxRecDepth 20000 in
theorem kX13_found_22 {C : QC} {x : QP} {M : QM} {st : List CV} {L : QL} {l0 l1 l2 l3 l4 l5 : Option CV} {r : Option Nat} : Rr C mX13_found (22, [some (.inr (.inr r)), l1, l2, l3, l4, l5], st, M) x = Rr C mX13_found (23, [some (.inr (.inr r)), l1, l2, l3, l4, l5], .inr (.inr r) :: st, M) x := g_pl (show decode cX13_found 22 = .ok (.aload_n 0, 1) by decide +kernel) rfl
set_option maxRecDepth 20000 in
theorem kX13_found_23 {C : QC} {x : QP} {M : QM} {st : List CV} {L : QL} {l0 l1 l2 l3 l4 l5 : Option CV} {z : Int} : Rr C mX13_found (23, [l0, some (qi z), l2, l3, l4, l5], st, M) x = Rr C mX13_found (24, [l0, some (qi z), l2, l3, l4, l5], qi z :: st, M) x := g_pl (show decode cX13_found 23 = .ok (.iload_n 1, 1) by decide +kernel) rfl
set_option maxRecDepth 20000 in
theorem kX13_found_24 {C : QC} {x : QP} {M : QM} {st : List CV} {L : QL} {l0 l1 l2 l3 l4 l5 : Option CV} {z : Int} : Rr C mX13_found (24, [l0, l1, some (qi z), l3, l4, l5], st, M) x = Rr C mX13_found (25, [l0, l1, some (qi z), l3, l4, l5], qi z :: st, M) x := g_pl (show decode cX13_found 24 = .ok (.iload_n 2, 1) by decide +kernel) rfl
set_option maxRecDepth 20000 in
theorem kX13_found_25 {C : QC} {x : QP} {M : QM} {st : List CV} {L : QL} {l0 l1 l2 l3 l4 l5 : Option CV} {z : Int} : Rr C mX13_found (25, [l0, l1, l2, some (qi z), l4, l5], st, M) x = Rr C mX13_found (26, [l0, l1, l2, some (qi z), l4, l5], qi z :: st, M) x := g_pl (show decode cX13_found 25 = .ok (.iload_n 3, 1) by decide +kernel) rfl
set_option maxRecDepth 20000 in
theorem kX13_found_26 {C : QC} {x : QP} {M : QM} {L : QL} {rest : List CV} {a0 a1 a2 : CV} {v : CV} {M1 : QM} {b : Nat} (hb : q_kd M b = (1, 13)) (hC : C iX13_noFounding [qr b, a0, a1, a2] M (some v) M1) (hw : (rest.map q_wd).sum ≤ 8) (k : Rr C mX13_found (29, L, v :: rest, M1) x) : Rr C mX13_found (26, L, a2 :: a1 :: a0 :: qr b :: rest, M) x := g_cv (ow := 13) (e := (0, 204, 13, [1380, 1382, 30, 94])) (as := [a0, a1, a2]) (show decode cX13_found 26 = .ok (.invokevirtual 133, 3) by decide +kernel) rfl rfl rfl (Or.inl rfl) rfl hb hC hw k
set_option maxRecDepth 20000 in
theorem kX13_found_29 {C : QC} {x : QP} {M : QM} {st : List CV} {L : QL} : Rr C mX13_found (29, L, st, M) x = Rr C mX13_found (34, L, st, M) x := g_pl (show decode cX13_found 29 = .ok (.goto 5, 3) by decide +kernel) rfl
set_option maxRecDepth 20000 in
theorem kX13_found_32 {C : QC} {x : QP} {M : QM} {st : List CV} {L : QL} : Rr C mX13_found (32, L, st, M) x = Rr C mX13_found (34, L, qi 9 :: st, M) x := g_pl (show decode cX13_found 32 = .ok (.bipush 9, 2) by decide +kernel) rfl
set_option maxRecDepth 20000 in
theorem kX13_found_34 {C : QC} {x : QP} {M : QM} {st : List CV} {L : QL} {l0 l1 l2 l3 l4 l5 : Option CV} {z : Int} : Rr C mX13_found (34, [l0, l1, l2, l3, l4, l5], qi z :: st, M) x = Rr C mX13_found (36, [l0, l1, l2, l3, q_cut l4, some (qi z)], st, M) x := g_pl (show decode cX13_found 34 = .ok (.istore 5, 2) by decide +kernel) rfl
set_option maxRecDepth 20000 in
theorem kX13_found_36 {C : QC} {x : QP} {M : QM} {st : List CV} {L : QL} {l0 l1 l2 l3 l4 l5 : Option CV} {z : Int} : Rr C mX13_found (36, [l0, l1, l2, l3, l4, some (qi z)], st, M) x = Rr C mX13_found (38, [l0, l1, l2, l3, l4, some (qi z)], qi z :: st, M) x := g_pl (show decode cX13_found 36 = .ok (.iload 5, 2) by decide +kernel) rfl
set_option maxRecDepth 20000 in
theorem kX13_found_38 {C : QC} {x : QP} {M : QM} {st : List CV} {L : QL} {a : Int} (ha1 : -2147483648 ≤ a) (ha2 : a < 2147483648) : Rr C mX13_found (38, L, qi a :: st, M) x = (if a = 0 then Rr C mX13_found (48, L, st, M) x else Rr C mX13_found (41, L, st, M) x) := (g_if (show decode cX13_found 38 = .ok (.ifCond .eq 10, 3) by decide +kernel) rfl ha1 ha2).trans (g_ite c_eq)
set_option maxRecDepth 20000 in
theorem kX13_found_41 {C : QC} {x : QP} {M : QM} {st : List CV} {L : QL} {l0 l1 l2 l3 l4 l5 : Option CV} {r : Option Nat} : Rr C mX13_found (41, [some (.inr (.inr r)), l1, l2, l3, l4, l5], st, M) x = Rr C mX13_found (42, [some (.inr (.inr r)), l1, l2, l3, l4, l5], .inr (.inr r) :: st, M) x := g_pl (show decode cX13_found 41 = .ok (.aload_n 0, 1) by decide +kernel) rfl
set_option maxRecDepth 20000 in
theorem kX13_found_42 {C : QC} {x : QP} {M : QM} {st : List CV} {L : QL} {l0 l1 l2 l3 l4 l5 : Option CV} {z : Int} : Rr C mX13_found (42, [l0, l1, l2, l3, l4, some (qi z)], st, M) x = Rr C mX13_found (44, [l0, l1, l2, l3, l4, some (qi z)], qi z :: st, M) x := g_pl (show decode cX13_found 42 = .ok (.iload 5, 2) by decide +kernel) rfl
set_option maxRecDepth 20000 in
theorem kX13_found_44 {C : QC} {x : QP} {M : QM} {L : QL} {rest : List CV} {a0 : CV} {v : CV} {M1 : QM} {b : Nat} (hb : q_kd M b = (1, 13)) (hC : C iX13_refuse [qr b, a0] M (some v) M1) (hw : (rest.map q_wd).sum ≤ 8) (k : Rr C mX13_found (47, L, v :: rest, M1) x) : Rr C mX13_found (44, L, a0 :: qr b :: rest, M) x := g_cv (ow := 13) (e := (0, 210, 13, [1403, 1405, 35, 94])) (as := [a0]) (show decode cX13_found 44 = .ok (.invokevirtual 136, 3) by decide +kernel) rfl rfl rfl (Or.inl rfl) rfl hb hC hw k
set_option maxRecDepth 20000 in
theorem kX13_found_47 {C : QC} {x : QP} {M : QM} {st : List CV} {L : QL} {z : Int} : Rr C mX13_found (47, L, [qi z], M) x = x (some (qi z)) M := g_iret (show decode cX13_found 47 = .ok (.ireturn, 1) by decide +kernel) rfl
set_option maxRecDepth 20000 in
theorem kX13_found_48 {C : QC} {x : QP} {M : QM} {st : List CV} {L : QL} {l0 l1 l2 l3 l4 l5 : Option CV} {r : Option Nat} : Rr C mX13_found (48, [some (.inr (.inr r)), l1, l2, l3, l4, l5], st, M) x = Rr C mX13_found (49, [some (.inr (.inr r)), l1, l2, l3, l4, l5], .inr (.inr r) :: st, M) x := g_pl (show decode cX13_found 48 = .ok (.aload_n 0, 1) by decide +kernel) rfl
set_option maxRecDepth 20000 in
theorem kX13_found_49 {C : QC} {x : QP} {M : QM} {L : QL} {rest : List CV} {M1 : QM} {b : Nat} (hb : q_kd M b = (1, 13)) (hC : C iX13_keeps [qr b] M none M1) (hw : (rest.map q_wd).sum ≤ 8) (k : Rr C mX13_found (52, L, rest, M1) x) : Rr C mX13_found (49, L, qr b :: rest, M) x := g_cv (ow := 13) (e := (0, 211, 13, [1407, 1409, 36, 94])) (as := []) (show decode cX13_found 49 = .ok (.invokevirtual 140, 3) by decide +kernel) rfl rfl rfl (Or.inl rfl) rfl hb hC hw k
set_option maxRecDepth 20000 in
theorem kX13_found_52 {C : QC} {x : QP} {M : QM} {st : List CV} {L : QL} {l0 l1 l2 l3 l4 l5 : Option CV} {r : Option Nat} : Rr C mX13_found (52, [some (.inr (.inr r)), l1, l2, l3, l4, l5], st, M) x = Rr C mX13_found (53, [some (.inr (.inr r)), l1, l2, l3, l4, l5], .inr (.inr r) :: st, M) x := g_pl (show decode cX13_found 52 = .ok (.aload_n 0, 1) by decide +kernel) rfl
set_option maxRecDepth 20000 in
theorem kX13_found_53 {C : QC} {x : QP} {M : QM} {st : List CV} {L : QL} {l0 l1 l2 l3 l4 l5 : Option CV} {z : Int} : Rr C mX13_found (53, [l0, some (qi z), l2, l3, l4, l5], st, M) x = Rr C mX13_found (54, [l0, some (qi z), l2, l3, l4, l5], qi z :: st, M) x := g_pl (show decode cX13_found 53 = .ok (.iload_n 1, 1) by decide +kernel) rfl
set_option maxRecDepth 20000 in
theorem kX13_found_54 {C : QC} {x : QP} {M : QM} {st : List CV} {L : QL} {l0 l1 l2 l3 l4 l5 : Option CV} {z : Int} : Rr C mX13_found (54, [l0, l1, some (qi z), l3, l4, l5], st, M) x = Rr C mX13_found (55, [l0, l1, some (qi z), l3, l4, l5], qi z :: st, M) x := g_pl (show decode cX13_found 54 = .ok (.iload_n 2, 1) by decide +kernel) rfl
set_option maxRecDepth 20000 in
theorem kX13_found_55 {C : QC} {x : QP} {M : QM} {st : List CV} {L : QL} {l0 l1 l2 l3 l4 l5 : Option CV} {z : Int} : Rr C mX13_found (55, [l0, l1, l2, some (qi z), l4, l5], st, M) x = Rr C mX13_found (56, [l0, l1, l2, some (qi z), l4, l5], qi z :: st, M) x := g_pl (show decode cX13_found 55 = .ok (.iload_n 3, 1) by decide +kernel) rfl
set_option maxRecDepth 20000 in
theorem kX13_found_56 {C : QC} {x : QP} {M : QM} {L : QL} {rest : List CV} {a0 a1 a2 : CV} {v : CV} {M1 : QM} {b : Nat} (hb : q_kd M b = (1, 13)) (hC : C iX13_founds [qr b, a0, a1, a2] M (some v) M1) (hw : (rest.map q_wd).sum ≤ 8) (k : Rr C mX13_found (59, L, v :: rest, M1) x) : Rr C mX13_found (56, L, a2 :: a1 :: a0 :: qr b :: rest, M) x := g_cv (ow := 13) (e := (0, 213, 13, [1415, 1417, 38, 94])) (as := [a0, a1, a2]) (show decode cX13_found 56 = .ok (.invokevirtual 126, 3) by decide +kernel) rfl rfl rfl (Or.inl rfl) rfl hb hC hw k
set_option maxRecDepth 20000 in
theorem kX13_found_59 {C : QC} {x : QP} {M : QM} {st : List CV} {L : QL} {z : Int} : Rr C mX13_found (59, L, [qi z], M) x = x (some (qi z)) M := g_iret (show decode cX13_found 59 = .ok (.ireturn, 1) by decide +kernel) rfl
set_option maxRecDepth 20000 in
theorem eX13_found {d : Nat} {M : QM} {x : QP} {a : Nat} {v0 : Int} {v1 : Int} {v2 : Int} : q_T (d + 1) iX13_found [qr a, qi v0, qi v1, qi v2] M x = Rr (q_C d) mX13_found (0, [some (qr a), some (qi v0), some (qi v1), some (qi v2), none, none], [], M) x := g_entryT (e := _) rfl (Nat.le_of_ble_eq_true rfl) rfl rfl
def mX13_rename : QI := (13, cX13_rename, false, some .int)
set_option maxRecDepth 20000 in
theorem kX13_rename_0 {C : QC} {x : QP} {M : QM} {st : List CV} {L : QL} {l0 l1 l2 l3 : Option CV} {r : Option Nat} : Rr C mX13_rename (0, [some (.inr (.inr r)), l1, l2, l3], st, M) x = Rr C mX13_rename (1, [some (.inr (.inr r)), l1, l2, l3], .inr (.inr r) :: st, M) x := g_pl (show decode cX13_rename 0 = .ok (.aload_n 0, 1) by decide +kernel) rfl
set_option maxRecDepth 20000 in
theorem kX13_rename_1 {C : QC} {x : QP} {M : QM} {L : QL} {rest : List CV} {v : CV} {M1 : QM} {b : Nat} (hb : q_kd M b = (1, 13)) (hC : C iX13_isOneWord [qr b] M (some v) M1) (hw : (rest.map q_wd).sum ≤ 8) (k : Rr C mX13_rename (4, L, v :: rest, M1) x) : Rr C mX13_rename (1, L, qr b :: rest, M) x := g_cv (ow := 13) (e := (0, 200, 13, [1364, 1366, 26, 94])) (as := []) (show decode cX13_rename 1 = .ok (.invokevirtual 129, 3) by decide +kernel) rfl rfl rfl (Or.inl rfl) rfl hb hC hw k
set_option maxRecDepth 20000 in
theorem kX13_rename_4 {C : QC} {x : QP} {M : QM} {st : List CV} {L : QL} {a : Int} (ha1 : -2147483648 ≤ a) (ha2 : a < 2147483648) : Rr C mX13_rename (4, L, qi a :: st, M) x = (if a = 0 then Rr C mX13_rename (16, L, st, M) x else Rr C mX13_rename (7, L, st, M) x) := (g_if (show decode cX13_rename 4 = .ok (.ifCond .eq 12, 3) by decide +kernel) rfl ha1 ha2).trans (g_ite c_eq)
set_option maxRecDepth 20000 in
theorem kX13_rename_7 {C : QC} {x : QP} {M : QM} {st : List CV} {L : QL} {l0 l1 l2 l3 : Option CV} {r : Option Nat} : Rr C mX13_rename (7, [some (.inr (.inr r)), l1, l2, l3], st, M) x = Rr C mX13_rename (8, [some (.inr (.inr r)), l1, l2, l3], .inr (.inr r) :: st, M) x := g_pl (show decode cX13_rename 7 = .ok (.aload_n 0, 1) by decide +kernel) rfl
set_option maxRecDepth 20000 in
theorem kX13_rename_8 {C : QC} {x : QP} {M : QM} {st : List CV} {L : QL} {l0 l1 l2 l3 : Option CV} {z : Int} : Rr C mX13_rename (8, [l0, some (qi z), l2, l3], st, M) x = Rr C mX13_rename (9, [l0, some (qi z), l2, l3], qi z :: st, M) x := g_pl (show decode cX13_rename 8 = .ok (.iload_n 1, 1) by decide +kernel) rfl
set_option maxRecDepth 20000 in
theorem kX13_rename_9 {C : QC} {x : QP} {M : QM} {st : List CV} {L : QL} {l0 l1 l2 l3 : Option CV} {z : Int} : Rr C mX13_rename (9, [l0, l1, some (qi z), l3], st, M) x = Rr C mX13_rename (10, [l0, l1, some (qi z), l3], qi z :: st, M) x := g_pl (show decode cX13_rename 9 = .ok (.iload_n 2, 1) by decide +kernel) rfl
set_option maxRecDepth 20000 in
theorem kX13_rename_10 {C : QC} {x : QP} {M : QM} {L : QL} {rest : List CV} {a0 a1 : CV} {v : CV} {M1 : QM} {b : Nat} (hb : q_kd M b = (1, 13)) (hC : C iX13_noEvent [qr b, a0, a1] M (some v) M1) (hw : (rest.map q_wd).sum ≤ 8) (k : Rr C mX13_rename (13, L, v :: rest, M1) x) : Rr C mX13_rename (10, L, a1 :: a0 :: qr b :: rest, M) x := g_cv (ow := 13) (e := (0, 219, 13, [1439, 1441, 43, 94])) (as := [a0, a1]) (show decode cX13_rename 10 = .ok (.invokevirtual 106, 3) by decide +kernel) rfl rfl rfl (Or.inl rfl) rfl hb hC hw k
set_option maxRecDepth 20000 in
theorem kX13_rename_13 {C : QC} {x : QP} {M : QM} {st : List CV} {L : QL} : Rr C mX13_rename (13, L, st, M) x = Rr C mX13_rename (18, L, st, M) x := g_pl (show decode cX13_rename 13 = .ok (.goto 5, 3) by decide +kernel) rfl
set_option maxRecDepth 20000 in
theorem kX13_rename_16 {C : QC} {x : QP} {M : QM} {st : List CV} {L : QL} : Rr C mX13_rename (16, L, st, M) x = Rr C mX13_rename (18, L, qi 9 :: st, M) x := g_pl (show decode cX13_rename 16 = .ok (.bipush 9, 2) by decide +kernel) rfl
set_option maxRecDepth 20000 in
theorem kX13_rename_18 {C : QC} {x : QP} {M : QM} {st : List CV} {L : QL} {l0 l1 l2 l3 : Option CV} {z : Int} : Rr C mX13_rename (18, [l0, l1, l2, l3], qi z :: st, M) x = Rr C mX13_rename (19, [l0, l1, q_cut l2, some (qi z)], st, M) x := g_pl (show decode cX13_rename 18 = .ok (.istore_n 3, 1) by decide +kernel) rfl
set_option maxRecDepth 20000 in
theorem kX13_rename_19 {C : QC} {x : QP} {M : QM} {st : List CV} {L : QL} {l0 l1 l2 l3 : Option CV} {z : Int} : Rr C mX13_rename (19, [l0, l1, l2, some (qi z)], st, M) x = Rr C mX13_rename (20, [l0, l1, l2, some (qi z)], qi z :: st, M) x := g_pl (show decode cX13_rename 19 = .ok (.iload_n 3, 1) by decide +kernel) rfl
set_option maxRecDepth 20000 in
theorem kX13_rename_20 {C : QC} {x : QP} {M : QM} {st : List CV} {L : QL} {a : Int} (ha1 : -2147483648 ≤ a) (ha2 : a < 2147483648) : Rr C mX13_rename (20, L, qi a :: st, M) x = (if a = 0 then Rr C mX13_rename (29, L, st, M) x else Rr C mX13_rename (23, L, st, M) x) := (g_if (show decode cX13_rename 20 = .ok (.ifCond .eq 9, 3) by decide +kernel) rfl ha1 ha2).trans (g_ite c_eq)
set_option maxRecDepth 20000 in
theorem kX13_rename_23 {C : QC} {x : QP} {M : QM} {st : List CV} {L : QL} {l0 l1 l2 l3 : Option CV} {r : Option Nat} : Rr C mX13_rename (23, [some (.inr (.inr r)), l1, l2, l3], st, M) x = Rr C mX13_rename (24, [some (.inr (.inr r)), l1, l2, l3], .inr (.inr r) :: st, M) x := g_pl (show decode cX13_rename 23 = .ok (.aload_n 0, 1) by decide +kernel) rfl
set_option maxRecDepth 20000 in
theorem kX13_rename_24 {C : QC} {x : QP} {M : QM} {st : List CV} {L : QL} {l0 l1 l2 l3 : Option CV} {z : Int} : Rr C mX13_rename (24, [l0, l1, l2, some (qi z)], st, M) x = Rr C mX13_rename (25, [l0, l1, l2, some (qi z)], qi z :: st, M) x := g_pl (show decode cX13_rename 24 = .ok (.iload_n 3, 1) by decide +kernel) rfl
set_option maxRecDepth 20000 in
theorem kX13_rename_25 {C : QC} {x : QP} {M : QM} {L : QL} {rest : List CV} {a0 : CV} {v : CV} {M1 : QM} {b : Nat} (hb : q_kd M b = (1, 13)) (hC : C iX13_refuse [qr b, a0] M (some v) M1) (hw : (rest.map q_wd).sum ≤ 8) (k : Rr C mX13_rename (28, L, v :: rest, M1) x) : Rr C mX13_rename (25, L, a0 :: qr b :: rest, M) x := g_cv (ow := 13) (e := (0, 210, 13, [1403, 1405, 35, 94])) (as := [a0]) (show decode cX13_rename 25 = .ok (.invokevirtual 136, 3) by decide +kernel) rfl rfl rfl (Or.inl rfl) rfl hb hC hw k
set_option maxRecDepth 20000 in
theorem kX13_rename_28 {C : QC} {x : QP} {M : QM} {st : List CV} {L : QL} {z : Int} : Rr C mX13_rename (28, L, [qi z], M) x = x (some (qi z)) M := g_iret (show decode cX13_rename 28 = .ok (.ireturn, 1) by decide +kernel) rfl
set_option maxRecDepth 20000 in
theorem kX13_rename_29 {C : QC} {x : QP} {M : QM} {st : List CV} {L : QL} {l0 l1 l2 l3 : Option CV} {r : Option Nat} : Rr C mX13_rename (29, [some (.inr (.inr r)), l1, l2, l3], st, M) x = Rr C mX13_rename (30, [some (.inr (.inr r)), l1, l2, l3], .inr (.inr r) :: st, M) x := g_pl (show decode cX13_rename 29 = .ok (.aload_n 0, 1) by decide +kernel) rfl
set_option maxRecDepth 20000 in
theorem kX13_rename_30 {C : QC} {x : QP} {M : QM} {L : QL} {rest : List CV} {M1 : QM} {b : Nat} (hb : q_kd M b = (1, 13)) (hC : C iX13_keeps [qr b] M none M1) (hw : (rest.map q_wd).sum ≤ 8) (k : Rr C mX13_rename (33, L, rest, M1) x) : Rr C mX13_rename (30, L, qr b :: rest, M) x := g_cv (ow := 13) (e := (0, 211, 13, [1407, 1409, 36, 94])) (as := []) (show decode cX13_rename 30 = .ok (.invokevirtual 140, 3) by decide +kernel) rfl rfl rfl (Or.inl rfl) rfl hb hC hw k
set_option maxRecDepth 20000 in
theorem kX13_rename_33 {C : QC} {x : QP} {M : QM} {st : List CV} {L : QL} {l0 l1 l2 l3 : Option CV} {r : Option Nat} : Rr C mX13_rename (33, [some (.inr (.inr r)), l1, l2, l3], st, M) x = Rr C mX13_rename (34, [some (.inr (.inr r)), l1, l2, l3], .inr (.inr r) :: st, M) x := g_pl (show decode cX13_rename 33 = .ok (.aload_n 0, 1) by decide +kernel) rfl
set_option maxRecDepth 20000 in
theorem kX13_rename_34 {C : QC} {x : QP} {M : QM} {st : List CV} {L : QL} {l0 l1 l2 l3 : Option CV} {z : Int} : Rr C mX13_rename (34, [l0, some (qi z), l2, l3], st, M) x = Rr C mX13_rename (35, [l0, some (qi z), l2, l3], qi z :: st, M) x := g_pl (show decode cX13_rename 34 = .ok (.iload_n 1, 1) by decide +kernel) rfl
set_option maxRecDepth 20000 in
theorem kX13_rename_35 {C : QC} {x : QP} {M : QM} {st : List CV} {L : QL} {l0 l1 l2 l3 : Option CV} {z : Int} : Rr C mX13_rename (35, [l0, l1, some (qi z), l3], st, M) x = Rr C mX13_rename (36, [l0, l1, some (qi z), l3], qi z :: st, M) x := g_pl (show decode cX13_rename 35 = .ok (.iload_n 2, 1) by decide +kernel) rfl
set_option maxRecDepth 20000 in
theorem kX13_rename_36 {C : QC} {x : QP} {M : QM} {L : QL} {rest : List CV} {a0 a1 : CV} {v : CV} {M1 : QM} {b : Nat} (hb : q_kd M b = (1, 13)) (hC : C iX13_renames [qr b, a0, a1] M (some v) M1) (hw : (rest.map q_wd).sum ≤ 8) (k : Rr C mX13_rename (39, L, v :: rest, M1) x) : Rr C mX13_rename (36, L, a1 :: a0 :: qr b :: rest, M) x := g_cv (ow := 13) (e := (0, 221, 13, [1447, 1449, 45, 94])) (as := [a0, a1]) (show decode cX13_rename 36 = .ok (.invokevirtual 143, 3) by decide +kernel) rfl rfl rfl (Or.inl rfl) rfl hb hC hw k
set_option maxRecDepth 20000 in
theorem kX13_rename_39 {C : QC} {x : QP} {M : QM} {st : List CV} {L : QL} {z : Int} : Rr C mX13_rename (39, L, [qi z], M) x = x (some (qi z)) M := g_iret (show decode cX13_rename 39 = .ok (.ireturn, 1) by decide +kernel) rfl
set_option maxRecDepth 20000 in
theorem eX13_rename {d : Nat} {M : QM} {x : QP} {a : Nat} {v0 : Int} {v1 : Int} : q_T (d + 1) iX13_rename [qr a, qi v0, qi v1] M x = Rr (q_C d) mX13_rename (0, [some (qr a), some (qi v0), some (qi v1), none], [], M) x := g_entryT (e := _) rfl (Nat.le_of_ble_eq_true rfl) rfl rfl
def mX13_move : QI := (13, cX13_move, false, some .int)
set_option maxRecDepth 20000 in
theorem kX13_move_0 {C : QC} {x : QP} {M : QM} {st : List CV} {L : QL} {l0 l1 l2 l3 l4 : Option CV} {r : Option Nat} : Rr C mX13_move (0, [some (.inr (.inr r)), l1, l2, l3, l4], st, M) x = Rr C mX13_move (1, [some (.inr (.inr r)), l1, l2, l3, l4], .inr (.inr r) :: st, M) x := g_pl (show decode cX13_move 0 = .ok (.aload_n 0, 1) by decide +kernel) rfl
set_option maxRecDepth 20000 in
theorem kX13_move_1 {C : QC} {x : QP} {M : QM} {st : List CV} {L : QL} {l0 l1 l2 l3 l4 : Option CV} {z : Int} : Rr C mX13_move (1, [l0, some (qi z), l2, l3, l4], st, M) x = Rr C mX13_move (2, [l0, some (qi z), l2, l3, l4], qi z :: st, M) x := g_pl (show decode cX13_move 1 = .ok (.iload_n 1, 1) by decide +kernel) rfl
set_option maxRecDepth 20000 in
theorem kX13_move_2 {C : QC} {x : QP} {M : QM} {st : List CV} {L : QL} {l0 l1 l2 l3 l4 : Option CV} {z : Int} : Rr C mX13_move (2, [l0, l1, some (qi z), l3, l4], st, M) x = Rr C mX13_move (3, [l0, l1, some (qi z), l3, l4], qi z :: st, M) x := g_pl (show decode cX13_move 2 = .ok (.iload_n 2, 1) by decide +kernel) rfl
set_option maxRecDepth 20000 in
theorem kX13_move_3 {C : QC} {x : QP} {M : QM} {st : List CV} {L : QL} {l0 l1 l2 l3 l4 : Option CV} {z : Int} : Rr C mX13_move (3, [l0, l1, l2, some (qi z), l4], st, M) x = Rr C mX13_move (4, [l0, l1, l2, some (qi z), l4], qi z :: st, M) x := g_pl (show decode cX13_move 3 = .ok (.iload_n 3, 1) by decide +kernel) rfl
set_option maxRecDepth 20000 in
theorem kX13_move_4 {C : QC} {x : QP} {M : QM} {L : QL} {rest : List CV} {a0 a1 a2 : CV} {v : CV} {M1 : QM} {b : Nat} (hb : q_kd M b = (1, 13)) (hC : C iX13_noMove [qr b, a0, a1, a2] M (some v) M1) (hw : (rest.map q_wd).sum ≤ 8) (k : Rr C mX13_move (7, L, v :: rest, M1) x) : Rr C mX13_move (4, L, a2 :: a1 :: a0 :: qr b :: rest, M) x := g_cv (ow := 13) (e := (0, 225, 13, [1463, 1465, 48, 94])) (as := [a0, a1, a2]) (show decode cX13_move 4 = .ok (.invokevirtual 146, 3) by decide +kernel) rfl rfl rfl (Or.inl rfl) rfl hb hC hw k
set_option maxRecDepth 20000 in
theorem kX13_move_7 {C : QC} {x : QP} {M : QM} {st : List CV} {L : QL} {l0 l1 l2 l3 l4 : Option CV} {z : Int} : Rr C mX13_move (7, [l0, l1, l2, l3, l4], qi z :: st, M) x = Rr C mX13_move (9, [l0, l1, l2, q_cut l3, some (qi z)], st, M) x := g_pl (show decode cX13_move 7 = .ok (.istore 4, 2) by decide +kernel) rfl
set_option maxRecDepth 20000 in
theorem kX13_move_9 {C : QC} {x : QP} {M : QM} {st : List CV} {L : QL} {l0 l1 l2 l3 l4 : Option CV} {z : Int} : Rr C mX13_move (9, [l0, l1, l2, l3, some (qi z)], st, M) x = Rr C mX13_move (11, [l0, l1, l2, l3, some (qi z)], qi z :: st, M) x := g_pl (show decode cX13_move 9 = .ok (.iload 4, 2) by decide +kernel) rfl
set_option maxRecDepth 20000 in
theorem kX13_move_11 {C : QC} {x : QP} {M : QM} {st : List CV} {L : QL} {a : Int} (ha1 : -2147483648 ≤ a) (ha2 : a < 2147483648) : Rr C mX13_move (11, L, qi a :: st, M) x = (if a = 0 then Rr C mX13_move (21, L, st, M) x else Rr C mX13_move (14, L, st, M) x) := (g_if (show decode cX13_move 11 = .ok (.ifCond .eq 10, 3) by decide +kernel) rfl ha1 ha2).trans (g_ite c_eq)
set_option maxRecDepth 20000 in
theorem kX13_move_14 {C : QC} {x : QP} {M : QM} {st : List CV} {L : QL} {l0 l1 l2 l3 l4 : Option CV} {r : Option Nat} : Rr C mX13_move (14, [some (.inr (.inr r)), l1, l2, l3, l4], st, M) x = Rr C mX13_move (15, [some (.inr (.inr r)), l1, l2, l3, l4], .inr (.inr r) :: st, M) x := g_pl (show decode cX13_move 14 = .ok (.aload_n 0, 1) by decide +kernel) rfl
set_option maxRecDepth 20000 in
theorem kX13_move_15 {C : QC} {x : QP} {M : QM} {st : List CV} {L : QL} {l0 l1 l2 l3 l4 : Option CV} {z : Int} : Rr C mX13_move (15, [l0, l1, l2, l3, some (qi z)], st, M) x = Rr C mX13_move (17, [l0, l1, l2, l3, some (qi z)], qi z :: st, M) x := g_pl (show decode cX13_move 15 = .ok (.iload 4, 2) by decide +kernel) rfl
set_option maxRecDepth 20000 in
theorem kX13_move_17 {C : QC} {x : QP} {M : QM} {L : QL} {rest : List CV} {a0 : CV} {v : CV} {M1 : QM} {b : Nat} (hb : q_kd M b = (1, 13)) (hC : C iX13_refuse [qr b, a0] M (some v) M1) (hw : (rest.map q_wd).sum ≤ 8) (k : Rr C mX13_move (20, L, v :: rest, M1) x) : Rr C mX13_move (17, L, a0 :: qr b :: rest, M) x := g_cv (ow := 13) (e := (0, 210, 13, [1403, 1405, 35, 94])) (as := [a0]) (show decode cX13_move 17 = .ok (.invokevirtual 136, 3) by decide +kernel) rfl rfl rfl (Or.inl rfl) rfl hb hC hw k
set_option maxRecDepth 20000 in
theorem kX13_move_20 {C : QC} {x : QP} {M : QM} {st : List CV} {L : QL} {z : Int} : Rr C mX13_move (20, L, [qi z], M) x = x (some (qi z)) M := g_iret (show decode cX13_move 20 = .ok (.ireturn, 1) by decide +kernel) rfl
set_option maxRecDepth 20000 in
theorem kX13_move_21 {C : QC} {x : QP} {M : QM} {st : List CV} {L : QL} {l0 l1 l2 l3 l4 : Option CV} {r : Option Nat} : Rr C mX13_move (21, [some (.inr (.inr r)), l1, l2, l3, l4], st, M) x = Rr C mX13_move (22, [some (.inr (.inr r)), l1, l2, l3, l4], .inr (.inr r) :: st, M) x := g_pl (show decode cX13_move 21 = .ok (.aload_n 0, 1) by decide +kernel) rfl
set_option maxRecDepth 20000 in
theorem kX13_move_22 {C : QC} {x : QP} {M : QM} {L : QL} {rest : List CV} {M1 : QM} {b : Nat} (hb : q_kd M b = (1, 13)) (hC : C iX13_keeps [qr b] M none M1) (hw : (rest.map q_wd).sum ≤ 8) (k : Rr C mX13_move (25, L, rest, M1) x) : Rr C mX13_move (22, L, qr b :: rest, M) x := g_cv (ow := 13) (e := (0, 211, 13, [1407, 1409, 36, 94])) (as := []) (show decode cX13_move 22 = .ok (.invokevirtual 140, 3) by decide +kernel) rfl rfl rfl (Or.inl rfl) rfl hb hC hw k
set_option maxRecDepth 20000 in
theorem kX13_move_25 {C : QC} {x : QP} {M : QM} {st : List CV} {L : QL} {l0 l1 l2 l3 l4 : Option CV} {r : Option Nat} : Rr C mX13_move (25, [some (.inr (.inr r)), l1, l2, l3, l4], st, M) x = Rr C mX13_move (26, [some (.inr (.inr r)), l1, l2, l3, l4], .inr (.inr r) :: st, M) x := g_pl (show decode cX13_move 25 = .ok (.aload_n 0, 1) by decide +kernel) rfl
set_option maxRecDepth 20000 in
theorem kX13_move_26 {C : QC} {x : QP} {M : QM} {st : List CV} {L : QL} {l0 l1 l2 l3 l4 : Option CV} {z : Int} : Rr C mX13_move (26, [l0, some (qi z), l2, l3, l4], st, M) x = Rr C mX13_move (27, [l0, some (qi z), l2, l3, l4], qi z :: st, M) x := g_pl (show decode cX13_move 26 = .ok (.iload_n 1, 1) by decide +kernel) rfl
set_option maxRecDepth 20000 in
theorem kX13_move_27 {C : QC} {x : QP} {M : QM} {st : List CV} {L : QL} {l0 l1 l2 l3 l4 : Option CV} {z : Int} : Rr C mX13_move (27, [l0, l1, some (qi z), l3, l4], st, M) x = Rr C mX13_move (28, [l0, l1, some (qi z), l3, l4], qi z :: st, M) x := g_pl (show decode cX13_move 27 = .ok (.iload_n 2, 1) by decide +kernel) rfl
set_option maxRecDepth 20000 in
theorem kX13_move_28 {C : QC} {x : QP} {M : QM} {st : List CV} {L : QL} {l0 l1 l2 l3 l4 : Option CV} {z : Int} : Rr C mX13_move (28, [l0, l1, l2, some (qi z), l4], st, M) x = Rr C mX13_move (29, [l0, l1, l2, some (qi z), l4], qi z :: st, M) x := g_pl (show decode cX13_move 28 = .ok (.iload_n 3, 1) by decide +kernel) rfl
set_option maxRecDepth 20000 in
theorem kX13_move_29 {C : QC} {x : QP} {M : QM} {L : QL} {rest : List CV} {a0 a1 a2 : CV} {v : CV} {M1 : QM} {b : Nat} (hb : q_kd M b = (1, 13)) (hC : C iX13_moves [qr b, a0, a1, a2] M (some v) M1) (hw : (rest.map q_wd).sum ≤ 8) (k : Rr C mX13_move (32, L, v :: rest, M1) x) : Rr C mX13_move (29, L, a2 :: a1 :: a0 :: qr b :: rest, M) x := g_cv (ow := 13) (e := (0, 226, 13, [1467, 1469, 49, 94])) (as := [a0, a1, a2]) (show decode cX13_move 29 = .ok (.invokevirtual 149, 3) by decide +kernel) rfl rfl rfl (Or.inl rfl) rfl hb hC hw k
set_option maxRecDepth 20000 in
theorem kX13_move_32 {C : QC} {x : QP} {M : QM} {st : List CV} {L : QL} {z : Int} : Rr C mX13_move (32, L, [qi z], M) x = x (some (qi z)) M := g_iret (show decode cX13_move 32 = .ok (.ireturn, 1) by decide +kernel) rfl
set_option maxRecDepth 20000 in
theorem eX13_move {d : Nat} {M : QM} {x : QP} {a : Nat} {v0 : Int} {v1 : Int} {v2 : Int} : q_T (d + 1) iX13_move [qr a, qi v0, qi v1, qi v2] M x = Rr (q_C d) mX13_move (0, [some (qr a), some (qi v0), some (qi v1), some (qi v2), none], [], M) x := g_entryT (e := _) rfl (Nat.le_of_ble_eq_true rfl) rfl rfl
def mX13_split : QI := (13, cX13_split, false, some .int)
set_option maxRecDepth 20000 in
theorem kX13_split_0 {C : QC} {x : QP} {M : QM} {st : List CV} {L : QL} {l0 l1 l2 l3 : Option CV} {r : Option Nat} : Rr C mX13_split (0, [some (.inr (.inr r)), l1, l2, l3], st, M) x = Rr C mX13_split (1, [some (.inr (.inr r)), l1, l2, l3], .inr (.inr r) :: st, M) x := g_pl (show decode cX13_split 0 = .ok (.aload_n 0, 1) by decide +kernel) rfl
set_option maxRecDepth 20000 in
theorem kX13_split_1 {C : QC} {x : QP} {M : QM} {L : QL} {rest : List CV} {v : CV} {M1 : QM} {b : Nat} (hb : q_kd M b = (1, 13)) (hC : C iX13_isOneWord [qr b] M (some v) M1) (hw : (rest.map q_wd).sum ≤ 8) (k : Rr C mX13_split (4, L, v :: rest, M1) x) : Rr C mX13_split (1, L, qr b :: rest, M) x := g_cv (ow := 13) (e := (0, 200, 13, [1364, 1366, 26, 94])) (as := []) (show decode cX13_split 1 = .ok (.invokevirtual 129, 3) by decide +kernel) rfl rfl rfl (Or.inl rfl) rfl hb hC hw k
set_option maxRecDepth 20000 in
theorem kX13_split_4 {C : QC} {x : QP} {M : QM} {st : List CV} {L : QL} {a : Int} (ha1 : -2147483648 ≤ a) (ha2 : a < 2147483648) : Rr C mX13_split (4, L, qi a :: st, M) x = (if a = 0 then Rr C mX13_split (16, L, st, M) x else Rr C mX13_split (7, L, st, M) x) := (g_if (show decode cX13_split 4 = .ok (.ifCond .eq 12, 3) by decide +kernel) rfl ha1 ha2).trans (g_ite c_eq)
set_option maxRecDepth 20000 in
theorem kX13_split_7 {C : QC} {x : QP} {M : QM} {st : List CV} {L : QL} {l0 l1 l2 l3 : Option CV} {r : Option Nat} : Rr C mX13_split (7, [some (.inr (.inr r)), l1, l2, l3], st, M) x = Rr C mX13_split (8, [some (.inr (.inr r)), l1, l2, l3], .inr (.inr r) :: st, M) x := g_pl (show decode cX13_split 7 = .ok (.aload_n 0, 1) by decide +kernel) rfl
set_option maxRecDepth 20000 in
theorem kX13_split_8 {C : QC} {x : QP} {M : QM} {st : List CV} {L : QL} {l0 l1 l2 l3 : Option CV} {z : Int} : Rr C mX13_split (8, [l0, some (qi z), l2, l3], st, M) x = Rr C mX13_split (9, [l0, some (qi z), l2, l3], qi z :: st, M) x := g_pl (show decode cX13_split 8 = .ok (.iload_n 1, 1) by decide +kernel) rfl
set_option maxRecDepth 20000 in
theorem kX13_split_9 {C : QC} {x : QP} {M : QM} {st : List CV} {L : QL} {l0 l1 l2 l3 : Option CV} {z : Int} : Rr C mX13_split (9, [l0, l1, some (qi z), l3], st, M) x = Rr C mX13_split (10, [l0, l1, some (qi z), l3], qi z :: st, M) x := g_pl (show decode cX13_split 9 = .ok (.iload_n 2, 1) by decide +kernel) rfl
set_option maxRecDepth 20000 in
theorem kX13_split_10 {C : QC} {x : QP} {M : QM} {L : QL} {rest : List CV} {a0 a1 : CV} {v : CV} {M1 : QM} {b : Nat} (hb : q_kd M b = (1, 13)) (hC : C iX13_noSplit [qr b, a0, a1] M (some v) M1) (hw : (rest.map q_wd).sum ≤ 8) (k : Rr C mX13_split (13, L, v :: rest, M1) x) : Rr C mX13_split (10, L, a1 :: a0 :: qr b :: rest, M) x := g_cv (ow := 13) (e := (0, 229, 13, [1479, 1481, 51, 94])) (as := [a0, a1]) (show decode cX13_split 10 = .ok (.invokevirtual 152, 3) by decide +kernel) rfl rfl rfl (Or.inl rfl) rfl hb hC hw k
set_option maxRecDepth 20000 in
theorem kX13_split_13 {C : QC} {x : QP} {M : QM} {st : List CV} {L : QL} : Rr C mX13_split (13, L, st, M) x = Rr C mX13_split (18, L, st, M) x := g_pl (show decode cX13_split 13 = .ok (.goto 5, 3) by decide +kernel) rfl
set_option maxRecDepth 20000 in
theorem kX13_split_16 {C : QC} {x : QP} {M : QM} {st : List CV} {L : QL} : Rr C mX13_split (16, L, st, M) x = Rr C mX13_split (18, L, qi 9 :: st, M) x := g_pl (show decode cX13_split 16 = .ok (.bipush 9, 2) by decide +kernel) rfl
set_option maxRecDepth 20000 in
theorem kX13_split_18 {C : QC} {x : QP} {M : QM} {st : List CV} {L : QL} {l0 l1 l2 l3 : Option CV} {z : Int} : Rr C mX13_split (18, [l0, l1, l2, l3], qi z :: st, M) x = Rr C mX13_split (19, [l0, l1, q_cut l2, some (qi z)], st, M) x := g_pl (show decode cX13_split 18 = .ok (.istore_n 3, 1) by decide +kernel) rfl
set_option maxRecDepth 20000 in
theorem kX13_split_19 {C : QC} {x : QP} {M : QM} {st : List CV} {L : QL} {l0 l1 l2 l3 : Option CV} {z : Int} : Rr C mX13_split (19, [l0, l1, l2, some (qi z)], st, M) x = Rr C mX13_split (20, [l0, l1, l2, some (qi z)], qi z :: st, M) x := g_pl (show decode cX13_split 19 = .ok (.iload_n 3, 1) by decide +kernel) rfl
set_option maxRecDepth 20000 in
theorem kX13_split_20 {C : QC} {x : QP} {M : QM} {st : List CV} {L : QL} {a : Int} (ha1 : -2147483648 ≤ a) (ha2 : a < 2147483648) : Rr C mX13_split (20, L, qi a :: st, M) x = (if a = 0 then Rr C mX13_split (29, L, st, M) x else Rr C mX13_split (23, L, st, M) x) := (g_if (show decode cX13_split 20 = .ok (.ifCond .eq 9, 3) by decide +kernel) rfl ha1 ha2).trans (g_ite c_eq)
set_option maxRecDepth 20000 in
theorem kX13_split_23 {C : QC} {x : QP} {M : QM} {st : List CV} {L : QL} {l0 l1 l2 l3 : Option CV} {r : Option Nat} : Rr C mX13_split (23, [some (.inr (.inr r)), l1, l2, l3], st, M) x = Rr C mX13_split (24, [some (.inr (.inr r)), l1, l2, l3], .inr (.inr r) :: st, M) x := g_pl (show decode cX13_split 23 = .ok (.aload_n 0, 1) by decide +kernel) rfl
set_option maxRecDepth 20000 in
theorem kX13_split_24 {C : QC} {x : QP} {M : QM} {st : List CV} {L : QL} {l0 l1 l2 l3 : Option CV} {z : Int} : Rr C mX13_split (24, [l0, l1, l2, some (qi z)], st, M) x = Rr C mX13_split (25, [l0, l1, l2, some (qi z)], qi z :: st, M) x := g_pl (show decode cX13_split 24 = .ok (.iload_n 3, 1) by decide +kernel) rfl
set_option maxRecDepth 20000 in
theorem kX13_split_25 {C : QC} {x : QP} {M : QM} {L : QL} {rest : List CV} {a0 : CV} {v : CV} {M1 : QM} {b : Nat} (hb : q_kd M b = (1, 13)) (hC : C iX13_refuse [qr b, a0] M (some v) M1) (hw : (rest.map q_wd).sum ≤ 8) (k : Rr C mX13_split (28, L, v :: rest, M1) x) : Rr C mX13_split (25, L, a0 :: qr b :: rest, M) x := g_cv (ow := 13) (e := (0, 210, 13, [1403, 1405, 35, 94])) (as := [a0]) (show decode cX13_split 25 = .ok (.invokevirtual 136, 3) by decide +kernel) rfl rfl rfl (Or.inl rfl) rfl hb hC hw k
set_option maxRecDepth 20000 in
theorem kX13_split_28 {C : QC} {x : QP} {M : QM} {st : List CV} {L : QL} {z : Int} : Rr C mX13_split (28, L, [qi z], M) x = x (some (qi z)) M := g_iret (show decode cX13_split 28 = .ok (.ireturn, 1) by decide +kernel) rfl
set_option maxRecDepth 20000 in
theorem kX13_split_29 {C : QC} {x : QP} {M : QM} {st : List CV} {L : QL} {l0 l1 l2 l3 : Option CV} {r : Option Nat} : Rr C mX13_split (29, [some (.inr (.inr r)), l1, l2, l3], st, M) x = Rr C mX13_split (30, [some (.inr (.inr r)), l1, l2, l3], .inr (.inr r) :: st, M) x := g_pl (show decode cX13_split 29 = .ok (.aload_n 0, 1) by decide +kernel) rfl
set_option maxRecDepth 20000 in
theorem kX13_split_30 {C : QC} {x : QP} {M : QM} {L : QL} {rest : List CV} {M1 : QM} {b : Nat} (hb : q_kd M b = (1, 13)) (hC : C iX13_keeps [qr b] M none M1) (hw : (rest.map q_wd).sum ≤ 8) (k : Rr C mX13_split (33, L, rest, M1) x) : Rr C mX13_split (30, L, qr b :: rest, M) x := g_cv (ow := 13) (e := (0, 211, 13, [1407, 1409, 36, 94])) (as := []) (show decode cX13_split 30 = .ok (.invokevirtual 140, 3) by decide +kernel) rfl rfl rfl (Or.inl rfl) rfl hb hC hw k
set_option maxRecDepth 20000 in
theorem kX13_split_33 {C : QC} {x : QP} {M : QM} {st : List CV} {L : QL} {l0 l1 l2 l3 : Option CV} {r : Option Nat} : Rr C mX13_split (33, [some (.inr (.inr r)), l1, l2, l3], st, M) x = Rr C mX13_split (34, [some (.inr (.inr r)), l1, l2, l3], .inr (.inr r) :: st, M) x := g_pl (show decode cX13_split 33 = .ok (.aload_n 0, 1) by decide +kernel) rfl
set_option maxRecDepth 20000 in
theorem kX13_split_34 {C : QC} {x : QP} {M : QM} {st : List CV} {L : QL} {l0 l1 l2 l3 : Option CV} {z : Int} : Rr C mX13_split (34, [l0, some (qi z), l2, l3], st, M) x = Rr C mX13_split (35, [l0, some (qi z), l2, l3], qi z :: st, M) x := g_pl (show decode cX13_split 34 = .ok (.iload_n 1, 1) by decide +kernel) rfl
set_option maxRecDepth 20000 in
theorem kX13_split_35 {C : QC} {x : QP} {M : QM} {st : List CV} {L : QL} {l0 l1 l2 l3 : Option CV} {z : Int} : Rr C mX13_split (35, [l0, l1, some (qi z), l3], st, M) x = Rr C mX13_split (36, [l0, l1, some (qi z), l3], qi z :: st, M) x := g_pl (show decode cX13_split 35 = .ok (.iload_n 2, 1) by decide +kernel) rfl
set_option maxRecDepth 20000 in
theorem kX13_split_36 {C : QC} {x : QP} {M : QM} {L : QL} {rest : List CV} {a0 a1 : CV} {v : CV} {M1 : QM} {b : Nat} (hb : q_kd M b = (1, 13)) (hC : C iX13_splits [qr b, a0, a1] M (some v) M1) (hw : (rest.map q_wd).sum ≤ 8) (k : Rr C mX13_split (39, L, v :: rest, M1) x) : Rr C mX13_split (36, L, a1 :: a0 :: qr b :: rest, M) x := g_cv (ow := 13) (e := (0, 230, 13, [1483, 1485, 52, 94])) (as := [a0, a1]) (show decode cX13_split 36 = .ok (.invokevirtual 155, 3) by decide +kernel) rfl rfl rfl (Or.inl rfl) rfl hb hC hw k
set_option maxRecDepth 20000 in
theorem kX13_split_39 {C : QC} {x : QP} {M : QM} {st : List CV} {L : QL} {z : Int} : Rr C mX13_split (39, L, [qi z], M) x = x (some (qi z)) M := g_iret (show decode cX13_split 39 = .ok (.ireturn, 1) by decide +kernel) rfl
set_option maxRecDepth 20000 in
theorem eX13_split {d : Nat} {M : QM} {x : QP} {a : Nat} {v0 : Int} {v1 : Int} : q_T (d + 1) iX13_split [qr a, qi v0, qi v1] M x = Rr (q_C d) mX13_split (0, [some (qr a), some (qi v0), some (qi v1), none], [], M) x := g_entryT (e := _) rfl (Nat.le_of_ble_eq_true rfl) rfl rfl
def mX13_merge : QI := (13, cX13_merge, false, some .int)
set_option maxRecDepth 20000 in
theorem kX13_merge_0 {C : QC} {x : QP} {M : QM} {st : List CV} {L : QL} {l0 l1 l2 l3 l4 : Option CV} {r : Option Nat} : Rr C mX13_merge (0, [some (.inr (.inr r)), l1, l2, l3, l4], st, M) x = Rr C mX13_merge (1, [some (.inr (.inr r)), l1, l2, l3, l4], .inr (.inr r) :: st, M) x := g_pl (show decode cX13_merge 0 = .ok (.aload_n 0, 1) by decide +kernel) rfl
set_option maxRecDepth 20000 in
theorem kX13_merge_1 {C : QC} {x : QP} {M : QM} {st : List CV} {L : QL} {l0 l1 l2 l3 l4 : Option CV} {z : Int} : Rr C mX13_merge (1, [l0, some (qi z), l2, l3, l4], st, M) x = Rr C mX13_merge (2, [l0, some (qi z), l2, l3, l4], qi z :: st, M) x := g_pl (show decode cX13_merge 1 = .ok (.iload_n 1, 1) by decide +kernel) rfl
set_option maxRecDepth 20000 in
theorem kX13_merge_2 {C : QC} {x : QP} {M : QM} {st : List CV} {L : QL} {l0 l1 l2 l3 l4 : Option CV} {z : Int} : Rr C mX13_merge (2, [l0, l1, some (qi z), l3, l4], st, M) x = Rr C mX13_merge (3, [l0, l1, some (qi z), l3, l4], qi z :: st, M) x := g_pl (show decode cX13_merge 2 = .ok (.iload_n 2, 1) by decide +kernel) rfl
set_option maxRecDepth 20000 in
theorem kX13_merge_3 {C : QC} {x : QP} {M : QM} {st : List CV} {L : QL} {l0 l1 l2 l3 l4 : Option CV} {z : Int} : Rr C mX13_merge (3, [l0, l1, l2, some (qi z), l4], st, M) x = Rr C mX13_merge (4, [l0, l1, l2, some (qi z), l4], qi z :: st, M) x := g_pl (show decode cX13_merge 3 = .ok (.iload_n 3, 1) by decide +kernel) rfl
set_option maxRecDepth 20000 in
theorem kX13_merge_4 {C : QC} {x : QP} {M : QM} {L : QL} {rest : List CV} {a0 a1 a2 : CV} {v : CV} {M1 : QM} {b : Nat} (hb : q_kd M b = (1, 13)) (hC : C iX13_noMerge [qr b, a0, a1, a2] M (some v) M1) (hw : (rest.map q_wd).sum ≤ 8) (k : Rr C mX13_merge (7, L, v :: rest, M1) x) : Rr C mX13_merge (4, L, a2 :: a1 :: a0 :: qr b :: rest, M) x := g_cv (ow := 13) (e := (0, 232, 13, [1491, 1493, 53, 94])) (as := [a0, a1, a2]) (show decode cX13_merge 4 = .ok (.invokevirtual 158, 3) by decide +kernel) rfl rfl rfl (Or.inl rfl) rfl hb hC hw k
set_option maxRecDepth 20000 in
theorem kX13_merge_7 {C : QC} {x : QP} {M : QM} {st : List CV} {L : QL} {l0 l1 l2 l3 l4 : Option CV} {z : Int} : Rr C mX13_merge (7, [l0, l1, l2, l3, l4], qi z :: st, M) x = Rr C mX13_merge (9, [l0, l1, l2, q_cut l3, some (qi z)], st, M) x := g_pl (show decode cX13_merge 7 = .ok (.istore 4, 2) by decide +kernel) rfl
set_option maxRecDepth 20000 in
theorem kX13_merge_9 {C : QC} {x : QP} {M : QM} {st : List CV} {L : QL} {l0 l1 l2 l3 l4 : Option CV} {z : Int} : Rr C mX13_merge (9, [l0, l1, l2, l3, some (qi z)], st, M) x = Rr C mX13_merge (11, [l0, l1, l2, l3, some (qi z)], qi z :: st, M) x := g_pl (show decode cX13_merge 9 = .ok (.iload 4, 2) by decide +kernel) rfl
set_option maxRecDepth 20000 in
theorem kX13_merge_11 {C : QC} {x : QP} {M : QM} {st : List CV} {L : QL} {a : Int} (ha1 : -2147483648 ≤ a) (ha2 : a < 2147483648) : Rr C mX13_merge (11, L, qi a :: st, M) x = (if a = 0 then Rr C mX13_merge (21, L, st, M) x else Rr C mX13_merge (14, L, st, M) x) := (g_if (show decode cX13_merge 11 = .ok (.ifCond .eq 10, 3) by decide +kernel) rfl ha1 ha2).trans (g_ite c_eq)
set_option maxRecDepth 20000 in
theorem kX13_merge_14 {C : QC} {x : QP} {M : QM} {st : List CV} {L : QL} {l0 l1 l2 l3 l4 : Option CV} {r : Option Nat} : Rr C mX13_merge (14, [some (.inr (.inr r)), l1, l2, l3, l4], st, M) x = Rr C mX13_merge (15, [some (.inr (.inr r)), l1, l2, l3, l4], .inr (.inr r) :: st, M) x := g_pl (show decode cX13_merge 14 = .ok (.aload_n 0, 1) by decide +kernel) rfl
set_option maxRecDepth 20000 in
theorem kX13_merge_15 {C : QC} {x : QP} {M : QM} {st : List CV} {L : QL} {l0 l1 l2 l3 l4 : Option CV} {z : Int} : Rr C mX13_merge (15, [l0, l1, l2, l3, some (qi z)], st, M) x = Rr C mX13_merge (17, [l0, l1, l2, l3, some (qi z)], qi z :: st, M) x := g_pl (show decode cX13_merge 15 = .ok (.iload 4, 2) by decide +kernel) rfl
set_option maxRecDepth 20000 in
theorem kX13_merge_17 {C : QC} {x : QP} {M : QM} {L : QL} {rest : List CV} {a0 : CV} {v : CV} {M1 : QM} {b : Nat} (hb : q_kd M b = (1, 13)) (hC : C iX13_refuse [qr b, a0] M (some v) M1) (hw : (rest.map q_wd).sum ≤ 8) (k : Rr C mX13_merge (20, L, v :: rest, M1) x) : Rr C mX13_merge (17, L, a0 :: qr b :: rest, M) x := g_cv (ow := 13) (e := (0, 210, 13, [1403, 1405, 35, 94])) (as := [a0]) (show decode cX13_merge 17 = .ok (.invokevirtual 136, 3) by decide +kernel) rfl rfl rfl (Or.inl rfl) rfl hb hC hw k
set_option maxRecDepth 20000 in
theorem kX13_merge_20 {C : QC} {x : QP} {M : QM} {st : List CV} {L : QL} {z : Int} : Rr C mX13_merge (20, L, [qi z], M) x = x (some (qi z)) M := g_iret (show decode cX13_merge 20 = .ok (.ireturn, 1) by decide +kernel) rfl
set_option maxRecDepth 20000 in
theorem kX13_merge_21 {C : QC} {x : QP} {M : QM} {st : List CV} {L : QL} {l0 l1 l2 l3 l4 : Option CV} {r : Option Nat} : Rr C mX13_merge (21, [some (.inr (.inr r)), l1, l2, l3, l4], st, M) x = Rr C mX13_merge (22, [some (.inr (.inr r)), l1, l2, l3, l4], .inr (.inr r) :: st, M) x := g_pl (show decode cX13_merge 21 = .ok (.aload_n 0, 1) by decide +kernel) rfl
set_option maxRecDepth 20000 in
theorem kX13_merge_22 {C : QC} {x : QP} {M : QM} {L : QL} {rest : List CV} {M1 : QM} {b : Nat} (hb : q_kd M b = (1, 13)) (hC : C iX13_keeps [qr b] M none M1) (hw : (rest.map q_wd).sum ≤ 8) (k : Rr C mX13_merge (25, L, rest, M1) x) : Rr C mX13_merge (22, L, qr b :: rest, M) x := g_cv (ow := 13) (e := (0, 211, 13, [1407, 1409, 36, 94])) (as := []) (show decode cX13_merge 22 = .ok (.invokevirtual 140, 3) by decide +kernel) rfl rfl rfl (Or.inl rfl) rfl hb hC hw k
set_option maxRecDepth 20000 in
theorem kX13_merge_25 {C : QC} {x : QP} {M : QM} {st : List CV} {L : QL} {l0 l1 l2 l3 l4 : Option CV} {r : Option Nat} : Rr C mX13_merge (25, [some (.inr (.inr r)), l1, l2, l3, l4], st, M) x = Rr C mX13_merge (26, [some (.inr (.inr r)), l1, l2, l3, l4], .inr (.inr r) :: st, M) x := g_pl (show decode cX13_merge 25 = .ok (.aload_n 0, 1) by decide +kernel) rfl
set_option maxRecDepth 20000 in
theorem kX13_merge_26 {C : QC} {x : QP} {M : QM} {st : List CV} {L : QL} {l0 l1 l2 l3 l4 : Option CV} {z : Int} : Rr C mX13_merge (26, [l0, some (qi z), l2, l3, l4], st, M) x = Rr C mX13_merge (27, [l0, some (qi z), l2, l3, l4], qi z :: st, M) x := g_pl (show decode cX13_merge 26 = .ok (.iload_n 1, 1) by decide +kernel) rfl
set_option maxRecDepth 20000 in
theorem kX13_merge_27 {C : QC} {x : QP} {M : QM} {st : List CV} {L : QL} {l0 l1 l2 l3 l4 : Option CV} {z : Int} : Rr C mX13_merge (27, [l0, l1, some (qi z), l3, l4], st, M) x = Rr C mX13_merge (28, [l0, l1, some (qi z), l3, l4], qi z :: st, M) x := g_pl (show decode cX13_merge 27 = .ok (.iload_n 2, 1) by decide +kernel) rfl
set_option maxRecDepth 20000 in
theorem kX13_merge_28 {C : QC} {x : QP} {M : QM} {st : List CV} {L : QL} {l0 l1 l2 l3 l4 : Option CV} {z : Int} : Rr C mX13_merge (28, [l0, l1, l2, some (qi z), l4], st, M) x = Rr C mX13_merge (29, [l0, l1, l2, some (qi z), l4], qi z :: st, M) x := g_pl (show decode cX13_merge 28 = .ok (.iload_n 3, 1) by decide +kernel) rfl
set_option maxRecDepth 20000 in
theorem kX13_merge_29 {C : QC} {x : QP} {M : QM} {L : QL} {rest : List CV} {a0 a1 a2 : CV} {v : CV} {M1 : QM} {b : Nat} (hb : q_kd M b = (1, 13)) (hC : C iX13_merges [qr b, a0, a1, a2] M (some v) M1) (hw : (rest.map q_wd).sum ≤ 8) (k : Rr C mX13_merge (32, L, v :: rest, M1) x) : Rr C mX13_merge (29, L, a2 :: a1 :: a0 :: qr b :: rest, M) x := g_cv (ow := 13) (e := (0, 233, 13, [1495, 1497, 54, 94])) (as := [a0, a1, a2]) (show decode cX13_merge 29 = .ok (.invokevirtual 161, 3) by decide +kernel) rfl rfl rfl (Or.inl rfl) rfl hb hC hw k
set_option maxRecDepth 20000 in
theorem kX13_merge_32 {C : QC} {x : QP} {M : QM} {st : List CV} {L : QL} {z : Int} : Rr C mX13_merge (32, L, [qi z], M) x = x (some (qi z)) M := g_iret (show decode cX13_merge 32 = .ok (.ireturn, 1) by decide +kernel) rfl
set_option maxRecDepth 20000 in
theorem eX13_merge {d : Nat} {M : QM} {x : QP} {a : Nat} {v0 : Int} {v1 : Int} {v2 : Int} : q_T (d + 1) iX13_merge [qr a, qi v0, qi v1, qi v2] M x = Rr (q_C d) mX13_merge (0, [some (qr a), some (qi v0), some (qi v1), some (qi v2), none], [], M) x := g_entryT (e := _) rfl (Nat.le_of_ble_eq_true rfl) rfl rfl
def mX13_close : QI := (13, cX13_close, false, some .int)
set_option maxRecDepth 20000 in
theorem kX13_close_0 {C : QC} {x : QP} {M : QM} {st : List CV} {L : QL} {l0 l1 l2 l3 : Option CV} {r : Option Nat} : Rr C mX13_close (0, [some (.inr (.inr r)), l1, l2, l3], st, M) x = Rr C mX13_close (1, [some (.inr (.inr r)), l1, l2, l3], .inr (.inr r) :: st, M) x := g_pl (show decode cX13_close 0 = .ok (.aload_n 0, 1) by decide +kernel) rfl
set_option maxRecDepth 20000 in
theorem kX13_close_1 {C : QC} {x : QP} {M : QM} {st : List CV} {L : QL} {l0 l1 l2 l3 : Option CV} {z : Int} : Rr C mX13_close (1, [l0, some (qi z), l2, l3], st, M) x = Rr C mX13_close (2, [l0, some (qi z), l2, l3], qi z :: st, M) x := g_pl (show decode cX13_close 1 = .ok (.iload_n 1, 1) by decide +kernel) rfl
set_option maxRecDepth 20000 in
theorem kX13_close_2 {C : QC} {x : QP} {M : QM} {st : List CV} {L : QL} {l0 l1 l2 l3 : Option CV} {z : Int} : Rr C mX13_close (2, [l0, l1, some (qi z), l3], st, M) x = Rr C mX13_close (3, [l0, l1, some (qi z), l3], qi z :: st, M) x := g_pl (show decode cX13_close 2 = .ok (.iload_n 2, 1) by decide +kernel) rfl
set_option maxRecDepth 20000 in
theorem kX13_close_3 {C : QC} {x : QP} {M : QM} {L : QL} {rest : List CV} {a0 a1 : CV} {v : CV} {M1 : QM} {b : Nat} (hb : q_kd M b = (1, 13)) (hC : C iX13_noClosing [qr b, a0, a1] M (some v) M1) (hw : (rest.map q_wd).sum ≤ 8) (k : Rr C mX13_close (6, L, v :: rest, M1) x) : Rr C mX13_close (3, L, a1 :: a0 :: qr b :: rest, M) x := g_cv (ow := 13) (e := (0, 237, 13, [1511, 1513, 57, 94])) (as := [a0, a1]) (show decode cX13_close 3 = .ok (.invokevirtual 164, 3) by decide +kernel) rfl rfl rfl (Or.inl rfl) rfl hb hC hw k
set_option maxRecDepth 20000 in
theorem kX13_close_6 {C : QC} {x : QP} {M : QM} {st : List CV} {L : QL} {l0 l1 l2 l3 : Option CV} {z : Int} : Rr C mX13_close (6, [l0, l1, l2, l3], qi z :: st, M) x = Rr C mX13_close (7, [l0, l1, q_cut l2, some (qi z)], st, M) x := g_pl (show decode cX13_close 6 = .ok (.istore_n 3, 1) by decide +kernel) rfl
set_option maxRecDepth 20000 in
theorem kX13_close_7 {C : QC} {x : QP} {M : QM} {st : List CV} {L : QL} {l0 l1 l2 l3 : Option CV} {z : Int} : Rr C mX13_close (7, [l0, l1, l2, some (qi z)], st, M) x = Rr C mX13_close (8, [l0, l1, l2, some (qi z)], qi z :: st, M) x := g_pl (show decode cX13_close 7 = .ok (.iload_n 3, 1) by decide +kernel) rfl
set_option maxRecDepth 20000 in
theorem kX13_close_8 {C : QC} {x : QP} {M : QM} {st : List CV} {L : QL} {a : Int} (ha1 : -2147483648 ≤ a) (ha2 : a < 2147483648) : Rr C mX13_close (8, L, qi a :: st, M) x = (if a = 0 then Rr C mX13_close (17, L, st, M) x else Rr C mX13_close (11, L, st, M) x) := (g_if (show decode cX13_close 8 = .ok (.ifCond .eq 9, 3) by decide +kernel) rfl ha1 ha2).trans (g_ite c_eq)
set_option maxRecDepth 20000 in
theorem kX13_close_11 {C : QC} {x : QP} {M : QM} {st : List CV} {L : QL} {l0 l1 l2 l3 : Option CV} {r : Option Nat} : Rr C mX13_close (11, [some (.inr (.inr r)), l1, l2, l3], st, M) x = Rr C mX13_close (12, [some (.inr (.inr r)), l1, l2, l3], .inr (.inr r) :: st, M) x := g_pl (show decode cX13_close 11 = .ok (.aload_n 0, 1) by decide +kernel) rfl
set_option maxRecDepth 20000 in
theorem kX13_close_12 {C : QC} {x : QP} {M : QM} {st : List CV} {L : QL} {l0 l1 l2 l3 : Option CV} {z : Int} : Rr C mX13_close (12, [l0, l1, l2, some (qi z)], st, M) x = Rr C mX13_close (13, [l0, l1, l2, some (qi z)], qi z :: st, M) x := g_pl (show decode cX13_close 12 = .ok (.iload_n 3, 1) by decide +kernel) rfl
set_option maxRecDepth 20000 in
theorem kX13_close_13 {C : QC} {x : QP} {M : QM} {L : QL} {rest : List CV} {a0 : CV} {v : CV} {M1 : QM} {b : Nat} (hb : q_kd M b = (1, 13)) (hC : C iX13_refuse [qr b, a0] M (some v) M1) (hw : (rest.map q_wd).sum ≤ 8) (k : Rr C mX13_close (16, L, v :: rest, M1) x) : Rr C mX13_close (13, L, a0 :: qr b :: rest, M) x := g_cv (ow := 13) (e := (0, 210, 13, [1403, 1405, 35, 94])) (as := [a0]) (show decode cX13_close 13 = .ok (.invokevirtual 136, 3) by decide +kernel) rfl rfl rfl (Or.inl rfl) rfl hb hC hw k
set_option maxRecDepth 20000 in
theorem kX13_close_16 {C : QC} {x : QP} {M : QM} {st : List CV} {L : QL} {z : Int} : Rr C mX13_close (16, L, [qi z], M) x = x (some (qi z)) M := g_iret (show decode cX13_close 16 = .ok (.ireturn, 1) by decide +kernel) rfl
set_option maxRecDepth 20000 in
theorem kX13_close_17 {C : QC} {x : QP} {M : QM} {st : List CV} {L : QL} {l0 l1 l2 l3 : Option CV} {r : Option Nat} : Rr C mX13_close (17, [some (.inr (.inr r)), l1, l2, l3], st, M) x = Rr C mX13_close (18, [some (.inr (.inr r)), l1, l2, l3], .inr (.inr r) :: st, M) x := g_pl (show decode cX13_close 17 = .ok (.aload_n 0, 1) by decide +kernel) rfl
set_option maxRecDepth 20000 in
theorem kX13_close_18 {C : QC} {x : QP} {M : QM} {L : QL} {rest : List CV} {M1 : QM} {b : Nat} (hb : q_kd M b = (1, 13)) (hC : C iX13_keeps [qr b] M none M1) (hw : (rest.map q_wd).sum ≤ 8) (k : Rr C mX13_close (21, L, rest, M1) x) : Rr C mX13_close (18, L, qr b :: rest, M) x := g_cv (ow := 13) (e := (0, 211, 13, [1407, 1409, 36, 94])) (as := []) (show decode cX13_close 18 = .ok (.invokevirtual 140, 3) by decide +kernel) rfl rfl rfl (Or.inl rfl) rfl hb hC hw k
set_option maxRecDepth 20000 in
theorem kX13_close_21 {C : QC} {x : QP} {M : QM} {st : List CV} {L : QL} {l0 l1 l2 l3 : Option CV} {r : Option Nat} : Rr C mX13_close (21, [some (.inr (.inr r)), l1, l2, l3], st, M) x = Rr C mX13_close (22, [some (.inr (.inr r)), l1, l2, l3], .inr (.inr r) :: st, M) x := g_pl (show decode cX13_close 21 = .ok (.aload_n 0, 1) by decide +kernel) rfl
set_option maxRecDepth 20000 in
theorem kX13_close_22 {C : QC} {x : QP} {M : QM} {st : List CV} {L : QL} {l0 l1 l2 l3 : Option CV} {z : Int} : Rr C mX13_close (22, [l0, some (qi z), l2, l3], st, M) x = Rr C mX13_close (23, [l0, some (qi z), l2, l3], qi z :: st, M) x := g_pl (show decode cX13_close 22 = .ok (.iload_n 1, 1) by decide +kernel) rfl
set_option maxRecDepth 20000 in
theorem kX13_close_23 {C : QC} {x : QP} {M : QM} {st : List CV} {L : QL} {l0 l1 l2 l3 : Option CV} {z : Int} : Rr C mX13_close (23, [l0, l1, some (qi z), l3], st, M) x = Rr C mX13_close (24, [l0, l1, some (qi z), l3], qi z :: st, M) x := g_pl (show decode cX13_close 23 = .ok (.iload_n 2, 1) by decide +kernel) rfl
set_option maxRecDepth 20000 in
theorem kX13_close_24 {C : QC} {x : QP} {M : QM} {L : QL} {rest : List CV} {a0 a1 : CV} {v : CV} {M1 : QM} {b : Nat} (hb : q_kd M b = (1, 13)) (hC : C iX13_closes [qr b, a0, a1] M (some v) M1) (hw : (rest.map q_wd).sum ≤ 8) (k : Rr C mX13_close (27, L, v :: rest, M1) x) : Rr C mX13_close (24, L, a1 :: a0 :: qr b :: rest, M) x := g_cv (ow := 13) (e := (0, 238, 13, [1515, 1517, 58, 94])) (as := [a0, a1]) (show decode cX13_close 24 = .ok (.invokevirtual 167, 3) by decide +kernel) rfl rfl rfl (Or.inl rfl) rfl hb hC hw k
set_option maxRecDepth 20000 in
theorem kX13_close_27 {C : QC} {x : QP} {M : QM} {st : List CV} {L : QL} {z : Int} : Rr C mX13_close (27, L, [qi z], M) x = x (some (qi z)) M := g_iret (show decode cX13_close 27 = .ok (.ireturn, 1) by decide +kernel) rfl
set_option maxRecDepth 20000 in
theorem eX13_close {d : Nat} {M : QM} {x : QP} {a : Nat} {v0 : Int} {v1 : Int} : q_T (d + 1) iX13_close [qr a, qi v0, qi v1] M x = Rr (q_C d) mX13_close (0, [some (qr a), some (qi v0), some (qi v1), none], [], M) x := g_entryT (e := _) rfl (Nat.le_of_ble_eq_true rfl) rfl rfl
def mX13_command : QI := (13, cX13_command, false, none)
set_option maxRecDepth 20000 in
theorem kX13_command_0 {C : QC} {x : QP} {M : QM} {st : List CV} {L : QL} : Rr C mX13_command (0, L, st, M) x = Rr C mX13_command (2, L, qi 13 :: st, M) x := g_pl (show decode cX13_command 0 = .ok (.bipush 13, 2) by decide +kernel) rfl
set_option maxRecDepth 20000 in
theorem kX13_command_2 {C : QC} {x : QP} {M : QM} {st : List CV} {L : QL} {l0 l1 l2 l3 : Option CV} {r : Option Nat} : Rr C mX13_command (2, [some (.inr (.inr r)), l1, l2, l3], st, M) x = Rr C mX13_command (3, [some (.inr (.inr r)), l1, l2, l3], .inr (.inr r) :: st, M) x := g_pl (show decode cX13_command 2 = .ok (.aload_n 0, 1) by decide +kernel) rfl
set_option maxRecDepth 20000 in
theorem kX13_command_3 {C : QC} {x : QP} {M : QM} {st : List CV} {L : QL} {a : Nat} (hk : q_kd M a = (1, 13)) : Rr C mX13_command (3, L, qr a :: st, M) x = Rr C mX13_command (6, L, q_fv M a 11 :: st, M) x := g_getf (ow := 13) (e := (13, 11, RX13, 1312, 0)) (show decode cX13_command 3 = .ok (.getfield 170, 3) by decide +kernel) rfl hk
set_option maxRecDepth 20000 in
theorem kX13_command_6 {C : QC} {x : QP} {M : QM} {st : List CV} {L : QL} {a b : Int} : Rr C mX13_command (6, L, qi b :: qi a :: st, M) x = Rr C mX13_command (7, L, qi (a * b) :: st, M) x := g_pl (show decode cX13_command 6 = .ok (.imul, 1) by decide +kernel) rfl
set_option maxRecDepth 20000 in
theorem kX13_command_7 {C : QC} {x : QP} {M : QM} {st : List CV} {L : QL} {l0 l1 l2 l3 : Option CV} {z : Int} : Rr C mX13_command (7, [l0, l1, l2, l3], qi z :: st, M) x = Rr C mX13_command (8, [q_cut l0, some (qi z), l2, l3], st, M) x := g_pl (show decode cX13_command 7 = .ok (.istore_n 1, 1) by decide +kernel) rfl
set_option maxRecDepth 20000 in
theorem kX13_command_8 {C : QC} {x : QP} {M : QM} {st : List CV} {L : QL} {l0 l1 l2 l3 : Option CV} {r : Option Nat} : Rr C mX13_command (8, [some (.inr (.inr r)), l1, l2, l3], st, M) x = Rr C mX13_command (9, [some (.inr (.inr r)), l1, l2, l3], .inr (.inr r) :: st, M) x := g_pl (show decode cX13_command 8 = .ok (.aload_n 0, 1) by decide +kernel) rfl
set_option maxRecDepth 20000 in
theorem kX13_command_9 {C : QC} {x : QP} {M : QM} {L : QL} {rest : List CV} {v : CV} {M1 : QM} {b : Nat} (hb : q_kd M b = (1, 13)) (hC : C iX13_here [qr b] M (some v) M1) (hw : (rest.map q_wd).sum ≤ 8) (k : Rr C mX13_command (12, L, v :: rest, M1) x) : Rr C mX13_command (9, L, qr b :: rest, M) x := g_cv (ow := 13) (e := (0, 202, 13, [1372, 1374, 28, 94])) (as := []) (show decode cX13_command 9 = .ok (.invokevirtual 78, 3) by decide +kernel) rfl rfl rfl (Or.inl rfl) rfl hb hC hw k
set_option maxRecDepth 20000 in
theorem kX13_command_12 {C : QC} {x : QP} {M : QM} {st : List CV} {L : QL} {l0 l1 l2 l3 : Option CV} {z : Int} : Rr C mX13_command (12, [l0, l1, l2, l3], qi z :: st, M) x = Rr C mX13_command (13, [l0, q_cut l1, some (qi z), l3], st, M) x := g_pl (show decode cX13_command 12 = .ok (.istore_n 2, 1) by decide +kernel) rfl
set_option maxRecDepth 20000 in
theorem kX13_command_13 {C : QC} {x : QP} {M : QM} {st : List CV} {L : QL} {l0 l1 l2 l3 : Option CV} {z : Int} : Rr C mX13_command (13, [l0, l1, some (qi z), l3], st, M) x = Rr C mX13_command (14, [l0, l1, some (qi z), l3], qi z :: st, M) x := g_pl (show decode cX13_command 13 = .ok (.iload_n 2, 1) by decide +kernel) rfl
set_option maxRecDepth 20000 in
theorem kX13_command_14 {C : QC} {x : QP} {M : QM} {st : List CV} {L : QL} : Rr C mX13_command (14, L, st, M) x = Rr C mX13_command (16, L, qi 102 :: st, M) x := g_pl (show decode cX13_command 14 = .ok (.bipush 102, 2) by decide +kernel) rfl
set_option maxRecDepth 20000 in
theorem kX13_command_16 {C : QC} {x : QP} {M : QM} {st : List CV} {L : QL} {a b : Int} (ha1 : -2147483648 ≤ a) (ha2 : a < 2147483648) (hb1 : -2147483648 ≤ b) (hb2 : b < 2147483648) : Rr C mX13_command (16, L, qi b :: qi a :: st, M) x = (if a = b then Rr C mX13_command (54, L, st, M) x else Rr C mX13_command (19, L, st, M) x) := (g_icmp (show decode cX13_command 16 = .ok (.if_icmp .eq 38, 3) by decide +kernel) rfl ha1 ha2 hb1 hb2).trans (g_ite c_eq)
set_option maxRecDepth 20000 in
theorem kX13_command_19 {C : QC} {x : QP} {M : QM} {st : List CV} {L : QL} {l0 l1 l2 l3 : Option CV} {z : Int} : Rr C mX13_command (19, [l0, l1, some (qi z), l3], st, M) x = Rr C mX13_command (20, [l0, l1, some (qi z), l3], qi z :: st, M) x := g_pl (show decode cX13_command 19 = .ok (.iload_n 2, 1) by decide +kernel) rfl
set_option maxRecDepth 20000 in
theorem kX13_command_20 {C : QC} {x : QP} {M : QM} {st : List CV} {L : QL} : Rr C mX13_command (20, L, st, M) x = Rr C mX13_command (22, L, qi 114 :: st, M) x := g_pl (show decode cX13_command 20 = .ok (.bipush 114, 2) by decide +kernel) rfl
set_option maxRecDepth 20000 in
theorem kX13_command_22 {C : QC} {x : QP} {M : QM} {st : List CV} {L : QL} {a b : Int} (ha1 : -2147483648 ≤ a) (ha2 : a < 2147483648) (hb1 : -2147483648 ≤ b) (hb2 : b < 2147483648) : Rr C mX13_command (22, L, qi b :: qi a :: st, M) x = (if a = b then Rr C mX13_command (54, L, st, M) x else Rr C mX13_command (25, L, st, M) x) := (g_icmp (show decode cX13_command 22 = .ok (.if_icmp .eq 32, 3) by decide +kernel) rfl ha1 ha2 hb1 hb2).trans (g_ite c_eq)
set_option maxRecDepth 20000 in
theorem kX13_command_25 {C : QC} {x : QP} {M : QM} {st : List CV} {L : QL} {l0 l1 l2 l3 : Option CV} {z : Int} : Rr C mX13_command (25, [l0, l1, some (qi z), l3], st, M) x = Rr C mX13_command (26, [l0, l1, some (qi z), l3], qi z :: st, M) x := g_pl (show decode cX13_command 25 = .ok (.iload_n 2, 1) by decide +kernel) rfl
set_option maxRecDepth 20000 in
theorem kX13_command_26 {C : QC} {x : QP} {M : QM} {st : List CV} {L : QL} : Rr C mX13_command (26, L, st, M) x = Rr C mX13_command (28, L, qi 109 :: st, M) x := g_pl (show decode cX13_command 26 = .ok (.bipush 109, 2) by decide +kernel) rfl
set_option maxRecDepth 20000 in
theorem kX13_command_28 {C : QC} {x : QP} {M : QM} {st : List CV} {L : QL} {a b : Int} (ha1 : -2147483648 ≤ a) (ha2 : a < 2147483648) (hb1 : -2147483648 ≤ b) (hb2 : b < 2147483648) : Rr C mX13_command (28, L, qi b :: qi a :: st, M) x = (if a = b then Rr C mX13_command (54, L, st, M) x else Rr C mX13_command (31, L, st, M) x) := (g_icmp (show decode cX13_command 28 = .ok (.if_icmp .eq 26, 3) by decide +kernel) rfl ha1 ha2 hb1 hb2).trans (g_ite c_eq)
set_option maxRecDepth 20000 in
theorem kX13_command_31 {C : QC} {x : QP} {M : QM} {st : List CV} {L : QL} {l0 l1 l2 l3 : Option CV} {z : Int} : Rr C mX13_command (31, [l0, l1, some (qi z), l3], st, M) x = Rr C mX13_command (32, [l0, l1, some (qi z), l3], qi z :: st, M) x := g_pl (show decode cX13_command 31 = .ok (.iload_n 2, 1) by decide +kernel) rfl
set_option maxRecDepth 20000 in
theorem kX13_command_32 {C : QC} {x : QP} {M : QM} {st : List CV} {L : QL} : Rr C mX13_command (32, L, st, M) x = Rr C mX13_command (34, L, qi 115 :: st, M) x := g_pl (show decode cX13_command 32 = .ok (.bipush 115, 2) by decide +kernel) rfl
set_option maxRecDepth 20000 in
theorem kX13_command_34 {C : QC} {x : QP} {M : QM} {st : List CV} {L : QL} {a b : Int} (ha1 : -2147483648 ≤ a) (ha2 : a < 2147483648) (hb1 : -2147483648 ≤ b) (hb2 : b < 2147483648) : Rr C mX13_command (34, L, qi b :: qi a :: st, M) x = (if a = b then Rr C mX13_command (54, L, st, M) x else Rr C mX13_command (37, L, st, M) x) := (g_icmp (show decode cX13_command 34 = .ok (.if_icmp .eq 20, 3) by decide +kernel) rfl ha1 ha2 hb1 hb2).trans (g_ite c_eq)
set_option maxRecDepth 20000 in
theorem kX13_command_37 {C : QC} {x : QP} {M : QM} {st : List CV} {L : QL} {l0 l1 l2 l3 : Option CV} {z : Int} : Rr C mX13_command (37, [l0, l1, some (qi z), l3], st, M) x = Rr C mX13_command (38, [l0, l1, some (qi z), l3], qi z :: st, M) x := g_pl (show decode cX13_command 37 = .ok (.iload_n 2, 1) by decide +kernel) rfl
set_option maxRecDepth 20000 in
theorem kX13_command_38 {C : QC} {x : QP} {M : QM} {st : List CV} {L : QL} : Rr C mX13_command (38, L, st, M) x = Rr C mX13_command (40, L, qi 103 :: st, M) x := g_pl (show decode cX13_command 38 = .ok (.bipush 103, 2) by decide +kernel) rfl
set_option maxRecDepth 20000 in
theorem kX13_command_40 {C : QC} {x : QP} {M : QM} {st : List CV} {L : QL} {a b : Int} (ha1 : -2147483648 ≤ a) (ha2 : a < 2147483648) (hb1 : -2147483648 ≤ b) (hb2 : b < 2147483648) : Rr C mX13_command (40, L, qi b :: qi a :: st, M) x = (if a = b then Rr C mX13_command (54, L, st, M) x else Rr C mX13_command (43, L, st, M) x) := (g_icmp (show decode cX13_command 40 = .ok (.if_icmp .eq 14, 3) by decide +kernel) rfl ha1 ha2 hb1 hb2).trans (g_ite c_eq)
set_option maxRecDepth 20000 in
theorem kX13_command_43 {C : QC} {x : QP} {M : QM} {st : List CV} {L : QL} {l0 l1 l2 l3 : Option CV} {z : Int} : Rr C mX13_command (43, [l0, l1, some (qi z), l3], st, M) x = Rr C mX13_command (44, [l0, l1, some (qi z), l3], qi z :: st, M) x := g_pl (show decode cX13_command 43 = .ok (.iload_n 2, 1) by decide +kernel) rfl
set_option maxRecDepth 20000 in
theorem kX13_command_44 {C : QC} {x : QP} {M : QM} {st : List CV} {L : QL} : Rr C mX13_command (44, L, st, M) x = Rr C mX13_command (46, L, qi 99 :: st, M) x := g_pl (show decode cX13_command 44 = .ok (.bipush 99, 2) by decide +kernel) rfl
set_option maxRecDepth 20000 in
theorem kX13_command_46 {C : QC} {x : QP} {M : QM} {st : List CV} {L : QL} {a b : Int} (ha1 : -2147483648 ≤ a) (ha2 : a < 2147483648) (hb1 : -2147483648 ≤ b) (hb2 : b < 2147483648) : Rr C mX13_command (46, L, qi b :: qi a :: st, M) x = (if a = b then Rr C mX13_command (54, L, st, M) x else Rr C mX13_command (49, L, st, M) x) := (g_icmp (show decode cX13_command 46 = .ok (.if_icmp .eq 8, 3) by decide +kernel) rfl ha1 ha2 hb1 hb2).trans (g_ite c_eq)
set_option maxRecDepth 20000 in
theorem kX13_command_49 {C : QC} {x : QP} {M : QM} {st : List CV} {L : QL} {l0 l1 l2 l3 : Option CV} {r : Option Nat} : Rr C mX13_command (49, [some (.inr (.inr r)), l1, l2, l3], st, M) x = Rr C mX13_command (50, [some (.inr (.inr r)), l1, l2, l3], .inr (.inr r) :: st, M) x := g_pl (show decode cX13_command 49 = .ok (.aload_n 0, 1) by decide +kernel) rfl
set_option maxRecDepth 20000 in
theorem kX13_command_50 {C : QC} {x : QP} {M : QM} {L : QL} {rest : List CV} {M1 : QM} {b : Nat} (hb : q_kd M b = (1, 13)) (hC : C iX13_fails [qr b] M none M1) (hw : (rest.map q_wd).sum ≤ 8) (k : Rr C mX13_command (53, L, rest, M1) x) : Rr C mX13_command (50, L, qr b :: rest, M) x := g_cv (ow := 13) (e := (0, 203, 13, [1376, 1378, 29, 94])) (as := []) (show decode cX13_command 50 = .ok (.invokevirtual 82, 3) by decide +kernel) rfl rfl rfl (Or.inl rfl) rfl hb hC hw k
set_option maxRecDepth 20000 in
theorem kX13_command_53 {C : QC} {x : QP} {M : QM} {st : List CV} {L : QL} : Rr C mX13_command (53, L, [], M) x = x none M := g_vret (show decode cX13_command 53 = .ok (.return_, 1) by decide +kernel)
set_option maxRecDepth 20000 in
theorem kX13_command_54 {C : QC} {x : QP} {M : QM} {st : List CV} {L : QL} {l0 l1 l2 l3 : Option CV} {r : Option Nat} : Rr C mX13_command (54, [some (.inr (.inr r)), l1, l2, l3], st, M) x = Rr C mX13_command (55, [some (.inr (.inr r)), l1, l2, l3], .inr (.inr r) :: st, M) x := g_pl (show decode cX13_command 54 = .ok (.aload_n 0, 1) by decide +kernel) rfl
set_option maxRecDepth 20000 in
theorem kX13_command_55i {C : QC} {x : QP} {M : QM} {st : List CV} {L : QL} {a : Int} : Rr C mX13_command (55, L, qi a :: st, M) x = Rr C mX13_command (56, L, qi a :: qi a :: st, M) x := g_pl (show decode cX13_command 55 = .ok (.dup, 1) by decide +kernel) rfl
set_option maxRecDepth 20000 in
theorem kX13_command_55r {C : QC} {x : QP} {M : QM} {st : List CV} {L : QL} {a : Option Nat} : Rr C mX13_command (55, L, .inr (.inr a) :: st, M) x = Rr C mX13_command (56, L, .inr (.inr a) :: .inr (.inr a) :: st, M) x := g_pl (show decode cX13_command 55 = .ok (.dup, 1) by decide +kernel) rfl
set_option maxRecDepth 20000 in
theorem kX13_command_56 {C : QC} {x : QP} {M : QM} {st : List CV} {L : QL} {a : Nat} (hk : q_kd M a = (1, 13)) : Rr C mX13_command (56, L, qr a :: st, M) x = Rr C mX13_command (59, L, q_fv M a 5 :: st, M) x := g_getf (ow := 13) (e := (13, 5, RX13, 1306, 0)) (show decode cX13_command 56 = .ok (.getfield 72, 3) by decide +kernel) rfl hk
set_option maxRecDepth 20000 in
theorem kX13_command_59 {C : QC} {x : QP} {M : QM} {st : List CV} {L : QL} : Rr C mX13_command (59, L, st, M) x = Rr C mX13_command (60, L, qi 1 :: st, M) x := g_pl (show decode cX13_command 59 = .ok (.iconst 1, 1) by decide +kernel) rfl
set_option maxRecDepth 20000 in
theorem kX13_command_60 {C : QC} {x : QP} {M : QM} {st : List CV} {L : QL} {a b : Int} : Rr C mX13_command (60, L, qi b :: qi a :: st, M) x = Rr C mX13_command (61, L, qi (a + b) :: st, M) x := g_pl (show decode cX13_command 60 = .ok (.iadd, 1) by decide +kernel) rfl
set_option maxRecDepth 20000 in
theorem kX13_command_61 {C : QC} {x : QP} {M : QM} {st : List CV} {L : QL} {z : Int} {a : Nat} (hk : q_kd M a = (1, 13)) : Rr C mX13_command (61, L, qi z :: qr a :: st, M) x = Rr C mX13_command (64, L, st, q_wr M a 5 (qi z)) x := g_putf (ow := 13) (ini := false) (e := (13, 5, RX13, 1306, 0)) (r := (RX13, TX13, 17)) (t := tyX13) (show decode cX13_command 61 = .ok (.putfield 72, 3) by decide +kernel) rfl rfl rfl rfl (by decide +kernel) hk
set_option maxRecDepth 20000 in
theorem kX13_command_64 {C : QC} {x : QP} {M : QM} {st : List CV} {L : QL} {l0 l1 l2 l3 : Option CV} {r : Option Nat} : Rr C mX13_command (64, [some (.inr (.inr r)), l1, l2, l3], st, M) x = Rr C mX13_command (65, [some (.inr (.inr r)), l1, l2, l3], .inr (.inr r) :: st, M) x := g_pl (show decode cX13_command 64 = .ok (.aload_n 0, 1) by decide +kernel) rfl
set_option maxRecDepth 20000 in
theorem kX13_command_65 {C : QC} {x : QP} {M : QM} {st : List CV} {L : QL} {a : Nat} (hk : q_kd M a = (1, 13)) : Rr C mX13_command (65, L, qr a :: st, M) x = Rr C mX13_command (68, L, q_fv M a 10 :: st, M) x := g_getf (ow := 13) (e := (13, 10, RX13, 1311, 0)) (show decode cX13_command 65 = .ok (.getfield 24, 3) by decide +kernel) rfl hk
set_option maxRecDepth 20000 in
theorem kX13_command_68 {C : QC} {x : QP} {M : QM} {st : List CV} {L : QL} {l0 l1 l2 l3 : Option CV} {z : Int} : Rr C mX13_command (68, [l0, some (qi z), l2, l3], st, M) x = Rr C mX13_command (69, [l0, some (qi z), l2, l3], qi z :: st, M) x := g_pl (show decode cX13_command 68 = .ok (.iload_n 1, 1) by decide +kernel) rfl
set_option maxRecDepth 20000 in
theorem kX13_command_69 {C : QC} {x : QP} {M : QM} {st : List CV} {L : QL} {l0 l1 l2 l3 : Option CV} {z : Int} : Rr C mX13_command (69, [l0, l1, some (qi z), l3], st, M) x = Rr C mX13_command (70, [l0, l1, some (qi z), l3], qi z :: st, M) x := g_pl (show decode cX13_command 69 = .ok (.iload_n 2, 1) by decide +kernel) rfl
set_option maxRecDepth 20000 in
theorem kX13_command_70 {C : QC} {x : QP} {M : QM} {st : List CV} {L : QL} {a : Nat} {j v : Int} (hk : (q_kd M a).1 = 2) (h0 : 0 ≤ j) (h1 : j < ((q_kd M a).2 : Int)) : Rr C mX13_command (70, L, qi v :: qi j :: qr a :: st, M) x = Rr C mX13_command (71, L, st, q_wr M a j.toNat (qi v)) x := g_iast (show decode cX13_command 70 = .ok (.iastore, 1) by decide +kernel) hk h0 h1
set_option maxRecDepth 20000 in
theorem kX13_command_71 {C : QC} {x : QP} {M : QM} {st : List CV} {L : QL} {l0 l1 l2 l3 : Option CV} {r : Option Nat} : Rr C mX13_command (71, [some (.inr (.inr r)), l1, l2, l3], st, M) x = Rr C mX13_command (72, [some (.inr (.inr r)), l1, l2, l3], .inr (.inr r) :: st, M) x := g_pl (show decode cX13_command 71 = .ok (.aload_n 0, 1) by decide +kernel) rfl
set_option maxRecDepth 20000 in
theorem kX13_command_72 {C : QC} {x : QP} {M : QM} {st : List CV} {L : QL} {a : Nat} (hk : q_kd M a = (1, 13)) : Rr C mX13_command (72, L, qr a :: st, M) x = Rr C mX13_command (75, L, q_fv M a 10 :: st, M) x := g_getf (ow := 13) (e := (13, 10, RX13, 1311, 0)) (show decode cX13_command 72 = .ok (.getfield 24, 3) by decide +kernel) rfl hk
set_option maxRecDepth 20000 in
theorem kX13_command_75 {C : QC} {x : QP} {M : QM} {st : List CV} {L : QL} {l0 l1 l2 l3 : Option CV} {z : Int} : Rr C mX13_command (75, [l0, some (qi z), l2, l3], st, M) x = Rr C mX13_command (76, [l0, some (qi z), l2, l3], qi z :: st, M) x := g_pl (show decode cX13_command 75 = .ok (.iload_n 1, 1) by decide +kernel) rfl
set_option maxRecDepth 20000 in
theorem kX13_command_76 {C : QC} {x : QP} {M : QM} {st : List CV} {L : QL} : Rr C mX13_command (76, L, st, M) x = Rr C mX13_command (77, L, qi 1 :: st, M) x := g_pl (show decode cX13_command 76 = .ok (.iconst 1, 1) by decide +kernel) rfl
set_option maxRecDepth 20000 in
theorem kX13_command_77 {C : QC} {x : QP} {M : QM} {st : List CV} {L : QL} {a b : Int} : Rr C mX13_command (77, L, qi b :: qi a :: st, M) x = Rr C mX13_command (78, L, qi (a + b) :: st, M) x := g_pl (show decode cX13_command 77 = .ok (.iadd, 1) by decide +kernel) rfl
set_option maxRecDepth 20000 in
theorem kX13_command_78 {C : QC} {x : QP} {M : QM} {st : List CV} {L : QL} : Rr C mX13_command (78, L, st, M) x = Rr C mX13_command (79, L, qi 0 :: st, M) x := g_pl (show decode cX13_command 78 = .ok (.iconst 0, 1) by decide +kernel) rfl
set_option maxRecDepth 20000 in
theorem kX13_command_79 {C : QC} {x : QP} {M : QM} {st : List CV} {L : QL} {a : Nat} {j v : Int} (hk : (q_kd M a).1 = 2) (h0 : 0 ≤ j) (h1 : j < ((q_kd M a).2 : Int)) : Rr C mX13_command (79, L, qi v :: qi j :: qr a :: st, M) x = Rr C mX13_command (80, L, st, q_wr M a j.toNat (qi v)) x := g_iast (show decode cX13_command 79 = .ok (.iastore, 1) by decide +kernel) hk h0 h1
set_option maxRecDepth 20000 in
theorem kX13_command_80 {C : QC} {x : QP} {M : QM} {st : List CV} {L : QL} {l0 l1 l2 l3 : Option CV} {r : Option Nat} : Rr C mX13_command (80, [some (.inr (.inr r)), l1, l2, l3], st, M) x = Rr C mX13_command (81, [some (.inr (.inr r)), l1, l2, l3], .inr (.inr r) :: st, M) x := g_pl (show decode cX13_command 80 = .ok (.aload_n 0, 1) by decide +kernel) rfl
set_option maxRecDepth 20000 in
theorem kX13_command_81 {C : QC} {x : QP} {M : QM} {st : List CV} {L : QL} {a : Nat} (hk : q_kd M a = (1, 13)) : Rr C mX13_command (81, L, qr a :: st, M) x = Rr C mX13_command (84, L, q_fv M a 10 :: st, M) x := g_getf (ow := 13) (e := (13, 10, RX13, 1311, 0)) (show decode cX13_command 81 = .ok (.getfield 24, 3) by decide +kernel) rfl hk
set_option maxRecDepth 20000 in
theorem kX13_command_84 {C : QC} {x : QP} {M : QM} {st : List CV} {L : QL} {l0 l1 l2 l3 : Option CV} {z : Int} : Rr C mX13_command (84, [l0, some (qi z), l2, l3], st, M) x = Rr C mX13_command (85, [l0, some (qi z), l2, l3], qi z :: st, M) x := g_pl (show decode cX13_command 84 = .ok (.iload_n 1, 1) by decide +kernel) rfl
set_option maxRecDepth 20000 in
theorem kX13_command_85 {C : QC} {x : QP} {M : QM} {st : List CV} {L : QL} : Rr C mX13_command (85, L, st, M) x = Rr C mX13_command (86, L, qi 2 :: st, M) x := g_pl (show decode cX13_command 85 = .ok (.iconst 2, 1) by decide +kernel) rfl
set_option maxRecDepth 20000 in
theorem kX13_command_86 {C : QC} {x : QP} {M : QM} {st : List CV} {L : QL} {a b : Int} : Rr C mX13_command (86, L, qi b :: qi a :: st, M) x = Rr C mX13_command (87, L, qi (a + b) :: st, M) x := g_pl (show decode cX13_command 86 = .ok (.iadd, 1) by decide +kernel) rfl
set_option maxRecDepth 20000 in
theorem kX13_command_87 {C : QC} {x : QP} {M : QM} {st : List CV} {L : QL} : Rr C mX13_command (87, L, st, M) x = Rr C mX13_command (88, L, qi 0 :: st, M) x := g_pl (show decode cX13_command 87 = .ok (.iconst 0, 1) by decide +kernel) rfl
set_option maxRecDepth 20000 in
theorem kX13_command_88 {C : QC} {x : QP} {M : QM} {st : List CV} {L : QL} {a : Nat} {j v : Int} (hk : (q_kd M a).1 = 2) (h0 : 0 ≤ j) (h1 : j < ((q_kd M a).2 : Int)) : Rr C mX13_command (88, L, qi v :: qi j :: qr a :: st, M) x = Rr C mX13_command (89, L, st, q_wr M a j.toNat (qi v)) x := g_iast (show decode cX13_command 88 = .ok (.iastore, 1) by decide +kernel) hk h0 h1
set_option maxRecDepth 20000 in
theorem kX13_command_89 {C : QC} {x : QP} {M : QM} {st : List CV} {L : QL} {l0 l1 l2 l3 : Option CV} {r : Option Nat} : Rr C mX13_command (89, [some (.inr (.inr r)), l1, l2, l3], st, M) x = Rr C mX13_command (90, [some (.inr (.inr r)), l1, l2, l3], .inr (.inr r) :: st, M) x := g_pl (show decode cX13_command 89 = .ok (.aload_n 0, 1) by decide +kernel) rfl
set_option maxRecDepth 20000 in
theorem kX13_command_90 {C : QC} {x : QP} {M : QM} {st : List CV} {L : QL} : Rr C mX13_command (90, L, st, M) x = Rr C mX13_command (91, L, qi 0 :: st, M) x := g_pl (show decode cX13_command 90 = .ok (.iconst 0, 1) by decide +kernel) rfl
set_option maxRecDepth 20000 in
theorem kX13_command_91 {C : QC} {x : QP} {M : QM} {st : List CV} {L : QL} {z : Int} {a : Nat} (hk : q_kd M a = (1, 13)) : Rr C mX13_command (91, L, qi z :: qr a :: st, M) x = Rr C mX13_command (94, L, st, q_wr M a 9 (qi z)) x := g_putf (ow := 13) (ini := false) (e := (13, 9, RX13, 1310, 0)) (r := (RX13, TX13, 17)) (t := tyX13) (show decode cX13_command 91 = .ok (.putfield 88, 3) by decide +kernel) rfl rfl rfl rfl (by decide +kernel) hk
set_option maxRecDepth 20000 in
theorem kX13_command_94 {C : QC} {x : QP} {M : QM} {st : List CV} {L : QL} {l0 l1 l2 l3 : Option CV} {z : Int} : Rr C mX13_command (94, [l0, l1, some (qi z), l3], st, M) x = Rr C mX13_command (95, [l0, l1, some (qi z), l3], qi z :: st, M) x := g_pl (show decode cX13_command 94 = .ok (.iload_n 2, 1) by decide +kernel) rfl
set_option maxRecDepth 20000 in
theorem kX13_command_95 {C : QC} {x : QP} {M : QM} {st : List CV} {L : QL} : Rr C mX13_command (95, L, st, M) x = Rr C mX13_command (97, L, qi 102 :: st, M) x := g_pl (show decode cX13_command 95 = .ok (.bipush 102, 2) by decide +kernel) rfl
set_option maxRecDepth 20000 in
theorem kX13_command_97 {C : QC} {x : QP} {M : QM} {st : List CV} {L : QL} {a b : Int} (ha1 : -2147483648 ≤ a) (ha2 : a < 2147483648) (hb1 : -2147483648 ≤ b) (hb2 : b < 2147483648) : Rr C mX13_command (97, L, qi b :: qi a :: st, M) x = (if a = b then Rr C mX13_command (100, L, st, M) x else Rr C mX13_command (140, L, st, M) x) := (g_icmp (show decode cX13_command 97 = .ok (.if_icmp .ne 43, 3) by decide +kernel) rfl ha1 ha2 hb1 hb2).trans (g_itn c_ne)
set_option maxRecDepth 20000 in
theorem kX13_command_100 {C : QC} {x : QP} {M : QM} {st : List CV} {L : QL} {l0 l1 l2 l3 : Option CV} {r : Option Nat} : Rr C mX13_command (100, [some (.inr (.inr r)), l1, l2, l3], st, M) x = Rr C mX13_command (101, [some (.inr (.inr r)), l1, l2, l3], .inr (.inr r) :: st, M) x := g_pl (show decode cX13_command 100 = .ok (.aload_n 0, 1) by decide +kernel) rfl
set_option maxRecDepth 20000 in
theorem kX13_command_101 {C : QC} {x : QP} {M : QM} {st : List CV} {L : QL} {a : Nat} (hk : q_kd M a = (1, 13)) : Rr C mX13_command (101, L, qr a :: st, M) x = Rr C mX13_command (104, L, q_fv M a 10 :: st, M) x := g_getf (ow := 13) (e := (13, 10, RX13, 1311, 0)) (show decode cX13_command 101 = .ok (.getfield 24, 3) by decide +kernel) rfl hk
set_option maxRecDepth 20000 in
theorem kX13_command_104 {C : QC} {x : QP} {M : QM} {st : List CV} {L : QL} {l0 l1 l2 l3 : Option CV} {z : Int} : Rr C mX13_command (104, [l0, some (qi z), l2, l3], st, M) x = Rr C mX13_command (105, [l0, some (qi z), l2, l3], qi z :: st, M) x := g_pl (show decode cX13_command 104 = .ok (.iload_n 1, 1) by decide +kernel) rfl
set_option maxRecDepth 20000 in
theorem kX13_command_105 {C : QC} {x : QP} {M : QM} {st : List CV} {L : QL} : Rr C mX13_command (105, L, st, M) x = Rr C mX13_command (106, L, qi 1 :: st, M) x := g_pl (show decode cX13_command 105 = .ok (.iconst 1, 1) by decide +kernel) rfl
set_option maxRecDepth 20000 in
theorem kX13_command_106 {C : QC} {x : QP} {M : QM} {st : List CV} {L : QL} {a b : Int} : Rr C mX13_command (106, L, qi b :: qi a :: st, M) x = Rr C mX13_command (107, L, qi (a + b) :: st, M) x := g_pl (show decode cX13_command 106 = .ok (.iadd, 1) by decide +kernel) rfl
set_option maxRecDepth 20000 in
theorem kX13_command_107 {C : QC} {x : QP} {M : QM} {st : List CV} {L : QL} {l0 l1 l2 l3 : Option CV} {r : Option Nat} : Rr C mX13_command (107, [some (.inr (.inr r)), l1, l2, l3], st, M) x = Rr C mX13_command (108, [some (.inr (.inr r)), l1, l2, l3], .inr (.inr r) :: st, M) x := g_pl (show decode cX13_command 107 = .ok (.aload_n 0, 1) by decide +kernel) rfl
set_option maxRecDepth 20000 in
theorem kX13_command_108 {C : QC} {x : QP} {M : QM} {st : List CV} {L : QL} : Rr C mX13_command (108, L, st, M) x = Rr C mX13_command (110, L, qi 48 :: st, M) x := g_pl (show decode cX13_command 108 = .ok (.bipush 48, 2) by decide +kernel) rfl
set_option maxRecDepth 20000 in
theorem kX13_command_110 {C : QC} {x : QP} {M : QM} {st : List CV} {L : QL} : Rr C mX13_command (110, L, st, M) x = Rr C mX13_command (112, L, qi 51 :: st, M) x := g_pl (show decode cX13_command 110 = .ok (.bipush 51, 2) by decide +kernel) rfl
set_option maxRecDepth 20000 in
theorem kX13_command_112 {C : QC} {x : QP} {M : QM} {L : QL} {rest : List CV} {a0 a1 : CV} {v : CV} {M1 : QM} {b : Nat} (hb : q_kd M b = (1, 13)) (hC : C iX13_sign [qr b, a0, a1] M (some v) M1) (hw : (rest.map q_wd).sum ≤ 8) (k : Rr C mX13_command (115, L, v :: rest, M1) x) : Rr C mX13_command (112, L, a1 :: a0 :: qr b :: rest, M) x := g_cv (ow := 13) (e := (0, 241, 13, [1527, 1529, 60, 94])) (as := [a0, a1]) (show decode cX13_command 112 = .ok (.invokevirtual 85, 3) by decide +kernel) rfl rfl rfl (Or.inl rfl) rfl hb hC hw k
set_option maxRecDepth 20000 in
theorem kX13_command_115 {C : QC} {x : QP} {M : QM} {st : List CV} {L : QL} : Rr C mX13_command (115, L, st, M) x = Rr C mX13_command (117, L, qi 48 :: st, M) x := g_pl (show decode cX13_command 115 = .ok (.bipush 48, 2) by decide +kernel) rfl
set_option maxRecDepth 20000 in
theorem kX13_command_117 {C : QC} {x : QP} {M : QM} {st : List CV} {L : QL} {a b : Int} : Rr C mX13_command (117, L, qi b :: qi a :: st, M) x = Rr C mX13_command (118, L, qi (a - b) :: st, M) x := g_pl (show decode cX13_command 117 = .ok (.isub, 1) by decide +kernel) rfl
set_option maxRecDepth 20000 in
theorem kX13_command_118 {C : QC} {x : QP} {M : QM} {st : List CV} {L : QL} {a : Nat} {j v : Int} (hk : (q_kd M a).1 = 2) (h0 : 0 ≤ j) (h1 : j < ((q_kd M a).2 : Int)) : Rr C mX13_command (118, L, qi v :: qi j :: qr a :: st, M) x = Rr C mX13_command (119, L, st, q_wr M a j.toNat (qi v)) x := g_iast (show decode cX13_command 118 = .ok (.iastore, 1) by decide +kernel) hk h0 h1
set_option maxRecDepth 20000 in
theorem kX13_command_119 {C : QC} {x : QP} {M : QM} {st : List CV} {L : QL} {l0 l1 l2 l3 : Option CV} {r : Option Nat} : Rr C mX13_command (119, [some (.inr (.inr r)), l1, l2, l3], st, M) x = Rr C mX13_command (120, [some (.inr (.inr r)), l1, l2, l3], .inr (.inr r) :: st, M) x := g_pl (show decode cX13_command 119 = .ok (.aload_n 0, 1) by decide +kernel) rfl
set_option maxRecDepth 20000 in
theorem kX13_command_120 {C : QC} {x : QP} {M : QM} {st : List CV} {L : QL} : Rr C mX13_command (120, L, st, M) x = Rr C mX13_command (122, L, qi 62 :: st, M) x := g_pl (show decode cX13_command 120 = .ok (.bipush 62, 2) by decide +kernel) rfl
set_option maxRecDepth 20000 in
theorem kX13_command_122 {C : QC} {x : QP} {M : QM} {L : QL} {rest : List CV} {a0 : CV} {M1 : QM} {b : Nat} (hb : q_kd M b = (1, 13)) (hC : C iX13_must [qr b, a0] M none M1) (hw : (rest.map q_wd).sum ≤ 8) (k : Rr C mX13_command (125, L, rest, M1) x) : Rr C mX13_command (122, L, a0 :: qr b :: rest, M) x := g_cv (ow := 13) (e := (0, 242, 13, [1531, 1533, 61, 94])) (as := [a0]) (show decode cX13_command 122 = .ok (.invokevirtual 173, 3) by decide +kernel) rfl rfl rfl (Or.inl rfl) rfl hb hC hw k
set_option maxRecDepth 20000 in
theorem kX13_command_125 {C : QC} {x : QP} {M : QM} {st : List CV} {L : QL} {l0 l1 l2 l3 : Option CV} {r : Option Nat} : Rr C mX13_command (125, [some (.inr (.inr r)), l1, l2, l3], st, M) x = Rr C mX13_command (126, [some (.inr (.inr r)), l1, l2, l3], .inr (.inr r) :: st, M) x := g_pl (show decode cX13_command 125 = .ok (.aload_n 0, 1) by decide +kernel) rfl
set_option maxRecDepth 20000 in
theorem kX13_command_126 {C : QC} {x : QP} {M : QM} {st : List CV} {L : QL} {a : Nat} (hk : q_kd M a = (1, 13)) : Rr C mX13_command (126, L, qr a :: st, M) x = Rr C mX13_command (129, L, q_fv M a 10 :: st, M) x := g_getf (ow := 13) (e := (13, 10, RX13, 1311, 0)) (show decode cX13_command 126 = .ok (.getfield 24, 3) by decide +kernel) rfl hk
set_option maxRecDepth 20000 in
theorem kX13_command_129 {C : QC} {x : QP} {M : QM} {st : List CV} {L : QL} {l0 l1 l2 l3 : Option CV} {z : Int} : Rr C mX13_command (129, [l0, some (qi z), l2, l3], st, M) x = Rr C mX13_command (130, [l0, some (qi z), l2, l3], qi z :: st, M) x := g_pl (show decode cX13_command 129 = .ok (.iload_n 1, 1) by decide +kernel) rfl
set_option maxRecDepth 20000 in
theorem kX13_command_130 {C : QC} {x : QP} {M : QM} {st : List CV} {L : QL} : Rr C mX13_command (130, L, st, M) x = Rr C mX13_command (131, L, qi 2 :: st, M) x := g_pl (show decode cX13_command 130 = .ok (.iconst 2, 1) by decide +kernel) rfl
set_option maxRecDepth 20000 in
theorem kX13_command_131 {C : QC} {x : QP} {M : QM} {st : List CV} {L : QL} {a b : Int} : Rr C mX13_command (131, L, qi b :: qi a :: st, M) x = Rr C mX13_command (132, L, qi (a + b) :: st, M) x := g_pl (show decode cX13_command 131 = .ok (.iadd, 1) by decide +kernel) rfl
set_option maxRecDepth 20000 in
theorem kX13_command_132 {C : QC} {x : QP} {M : QM} {st : List CV} {L : QL} {l0 l1 l2 l3 : Option CV} {r : Option Nat} : Rr C mX13_command (132, [some (.inr (.inr r)), l1, l2, l3], st, M) x = Rr C mX13_command (133, [some (.inr (.inr r)), l1, l2, l3], .inr (.inr r) :: st, M) x := g_pl (show decode cX13_command 132 = .ok (.aload_n 0, 1) by decide +kernel) rfl
set_option maxRecDepth 20000 in
theorem kX13_command_133 {C : QC} {x : QP} {M : QM} {L : QL} {rest : List CV} {v : CV} {M1 : QM} {b : Nat} (hb : q_kd M b = (1, 13)) (hC : C iX13_number [qr b] M (some v) M1) (hw : (rest.map q_wd).sum ≤ 8) (k : Rr C mX13_command (136, L, v :: rest, M1) x) : Rr C mX13_command (133, L, qr b :: rest, M) x := g_cv (ow := 13) (e := (0, 243, 13, [1535, 1537, 62, 94])) (as := []) (show decode cX13_command 133 = .ok (.invokevirtual 177, 3) by decide +kernel) rfl rfl rfl (Or.inl rfl) rfl hb hC hw k
set_option maxRecDepth 20000 in
theorem kX13_command_136 {C : QC} {x : QP} {M : QM} {st : List CV} {L : QL} {a : Nat} {j v : Int} (hk : (q_kd M a).1 = 2) (h0 : 0 ≤ j) (h1 : j < ((q_kd M a).2 : Int)) : Rr C mX13_command (136, L, qi v :: qi j :: qr a :: st, M) x = Rr C mX13_command (137, L, st, q_wr M a j.toNat (qi v)) x := g_iast (show decode cX13_command 136 = .ok (.iastore, 1) by decide +kernel) hk h0 h1
set_option maxRecDepth 20000 in
theorem kX13_command_137 {C : QC} {x : QP} {M : QM} {st : List CV} {L : QL} : Rr C mX13_command (137, L, st, M) x = Rr C mX13_command (182, L, st, M) x := g_pl (show decode cX13_command 137 = .ok (.goto 45, 3) by decide +kernel) rfl
set_option maxRecDepth 20000 in
theorem kX13_command_140 {C : QC} {x : QP} {M : QM} {st : List CV} {L : QL} {l0 l1 l2 l3 : Option CV} {r : Option Nat} : Rr C mX13_command (140, [some (.inr (.inr r)), l1, l2, l3], st, M) x = Rr C mX13_command (141, [some (.inr (.inr r)), l1, l2, l3], .inr (.inr r) :: st, M) x := g_pl (show decode cX13_command 140 = .ok (.aload_n 0, 1) by decide +kernel) rfl
set_option maxRecDepth 20000 in
theorem kX13_command_141 {C : QC} {x : QP} {M : QM} {st : List CV} {L : QL} {a : Nat} (hk : q_kd M a = (1, 13)) : Rr C mX13_command (141, L, qr a :: st, M) x = Rr C mX13_command (144, L, q_fv M a 10 :: st, M) x := g_getf (ow := 13) (e := (13, 10, RX13, 1311, 0)) (show decode cX13_command 141 = .ok (.getfield 24, 3) by decide +kernel) rfl hk
set_option maxRecDepth 20000 in
theorem kX13_command_144 {C : QC} {x : QP} {M : QM} {st : List CV} {L : QL} {l0 l1 l2 l3 : Option CV} {z : Int} : Rr C mX13_command (144, [l0, some (qi z), l2, l3], st, M) x = Rr C mX13_command (145, [l0, some (qi z), l2, l3], qi z :: st, M) x := g_pl (show decode cX13_command 144 = .ok (.iload_n 1, 1) by decide +kernel) rfl
set_option maxRecDepth 20000 in
theorem kX13_command_145 {C : QC} {x : QP} {M : QM} {st : List CV} {L : QL} : Rr C mX13_command (145, L, st, M) x = Rr C mX13_command (146, L, qi 1 :: st, M) x := g_pl (show decode cX13_command 145 = .ok (.iconst 1, 1) by decide +kernel) rfl
set_option maxRecDepth 20000 in
theorem kX13_command_146 {C : QC} {x : QP} {M : QM} {st : List CV} {L : QL} {a b : Int} : Rr C mX13_command (146, L, qi b :: qi a :: st, M) x = Rr C mX13_command (147, L, qi (a + b) :: st, M) x := g_pl (show decode cX13_command 146 = .ok (.iadd, 1) by decide +kernel) rfl
set_option maxRecDepth 20000 in
theorem kX13_command_147 {C : QC} {x : QP} {M : QM} {st : List CV} {L : QL} {l0 l1 l2 l3 : Option CV} {r : Option Nat} : Rr C mX13_command (147, [some (.inr (.inr r)), l1, l2, l3], st, M) x = Rr C mX13_command (148, [some (.inr (.inr r)), l1, l2, l3], .inr (.inr r) :: st, M) x := g_pl (show decode cX13_command 147 = .ok (.aload_n 0, 1) by decide +kernel) rfl
set_option maxRecDepth 20000 in
theorem kX13_command_148 {C : QC} {x : QP} {M : QM} {L : QL} {rest : List CV} {v : CV} {M1 : QM} {b : Nat} (hb : q_kd M b = (1, 13)) (hC : C iX13_number [qr b] M (some v) M1) (hw : (rest.map q_wd).sum ≤ 8) (k : Rr C mX13_command (151, L, v :: rest, M1) x) : Rr C mX13_command (148, L, qr b :: rest, M) x := g_cv (ow := 13) (e := (0, 243, 13, [1535, 1537, 62, 94])) (as := []) (show decode cX13_command 148 = .ok (.invokevirtual 177, 3) by decide +kernel) rfl rfl rfl (Or.inl rfl) rfl hb hC hw k
set_option maxRecDepth 20000 in
theorem kX13_command_151 {C : QC} {x : QP} {M : QM} {st : List CV} {L : QL} {a : Nat} {j v : Int} (hk : (q_kd M a).1 = 2) (h0 : 0 ≤ j) (h1 : j < ((q_kd M a).2 : Int)) : Rr C mX13_command (151, L, qi v :: qi j :: qr a :: st, M) x = Rr C mX13_command (152, L, st, q_wr M a j.toNat (qi v)) x := g_iast (show decode cX13_command 151 = .ok (.iastore, 1) by decide +kernel) hk h0 h1
set_option maxRecDepth 20000 in
theorem kX13_command_152 {C : QC} {x : QP} {M : QM} {st : List CV} {L : QL} {l0 l1 l2 l3 : Option CV} {z : Int} : Rr C mX13_command (152, [l0, l1, some (qi z), l3], st, M) x = Rr C mX13_command (153, [l0, l1, some (qi z), l3], qi z :: st, M) x := g_pl (show decode cX13_command 152 = .ok (.iload_n 2, 1) by decide +kernel) rfl
set_option maxRecDepth 20000 in
theorem kX13_command_153 {C : QC} {x : QP} {M : QM} {st : List CV} {L : QL} : Rr C mX13_command (153, L, st, M) x = Rr C mX13_command (155, L, qi 109 :: st, M) x := g_pl (show decode cX13_command 153 = .ok (.bipush 109, 2) by decide +kernel) rfl
set_option maxRecDepth 20000 in
theorem kX13_command_155 {C : QC} {x : QP} {M : QM} {st : List CV} {L : QL} {a b : Int} (ha1 : -2147483648 ≤ a) (ha2 : a < 2147483648) (hb1 : -2147483648 ≤ b) (hb2 : b < 2147483648) : Rr C mX13_command (155, L, qi b :: qi a :: st, M) x = (if a = b then Rr C mX13_command (164, L, st, M) x else Rr C mX13_command (158, L, st, M) x) := (g_icmp (show decode cX13_command 155 = .ok (.if_icmp .eq 9, 3) by decide +kernel) rfl ha1 ha2 hb1 hb2).trans (g_ite c_eq)
set_option maxRecDepth 20000 in
theorem kX13_command_158 {C : QC} {x : QP} {M : QM} {st : List CV} {L : QL} {l0 l1 l2 l3 : Option CV} {z : Int} : Rr C mX13_command (158, [l0, l1, some (qi z), l3], st, M) x = Rr C mX13_command (159, [l0, l1, some (qi z), l3], qi z :: st, M) x := g_pl (show decode cX13_command 158 = .ok (.iload_n 2, 1) by decide +kernel) rfl
set_option maxRecDepth 20000 in
theorem kX13_command_159 {C : QC} {x : QP} {M : QM} {st : List CV} {L : QL} : Rr C mX13_command (159, L, st, M) x = Rr C mX13_command (161, L, qi 103 :: st, M) x := g_pl (show decode cX13_command 159 = .ok (.bipush 103, 2) by decide +kernel) rfl
set_option maxRecDepth 20000 in
theorem kX13_command_161 {C : QC} {x : QP} {M : QM} {st : List CV} {L : QL} {a b : Int} (ha1 : -2147483648 ≤ a) (ha2 : a < 2147483648) (hb1 : -2147483648 ≤ b) (hb2 : b < 2147483648) : Rr C mX13_command (161, L, qi b :: qi a :: st, M) x = (if a = b then Rr C mX13_command (164, L, st, M) x else Rr C mX13_command (182, L, st, M) x) := (g_icmp (show decode cX13_command 161 = .ok (.if_icmp .ne 21, 3) by decide +kernel) rfl ha1 ha2 hb1 hb2).trans (g_itn c_ne)
set_option maxRecDepth 20000 in
theorem kX13_command_164 {C : QC} {x : QP} {M : QM} {st : List CV} {L : QL} {l0 l1 l2 l3 : Option CV} {r : Option Nat} : Rr C mX13_command (164, [some (.inr (.inr r)), l1, l2, l3], st, M) x = Rr C mX13_command (165, [some (.inr (.inr r)), l1, l2, l3], .inr (.inr r) :: st, M) x := g_pl (show decode cX13_command 164 = .ok (.aload_n 0, 1) by decide +kernel) rfl
set_option maxRecDepth 20000 in
theorem kX13_command_165 {C : QC} {x : QP} {M : QM} {st : List CV} {L : QL} : Rr C mX13_command (165, L, st, M) x = Rr C mX13_command (167, L, qi 62 :: st, M) x := g_pl (show decode cX13_command 165 = .ok (.bipush 62, 2) by decide +kernel) rfl
set_option maxRecDepth 20000 in
theorem kX13_command_167 {C : QC} {x : QP} {M : QM} {L : QL} {rest : List CV} {a0 : CV} {M1 : QM} {b : Nat} (hb : q_kd M b = (1, 13)) (hC : C iX13_must [qr b, a0] M none M1) (hw : (rest.map q_wd).sum ≤ 8) (k : Rr C mX13_command (170, L, rest, M1) x) : Rr C mX13_command (167, L, a0 :: qr b :: rest, M) x := g_cv (ow := 13) (e := (0, 242, 13, [1531, 1533, 61, 94])) (as := [a0]) (show decode cX13_command 167 = .ok (.invokevirtual 173, 3) by decide +kernel) rfl rfl rfl (Or.inl rfl) rfl hb hC hw k
set_option maxRecDepth 20000 in
theorem kX13_command_170 {C : QC} {x : QP} {M : QM} {st : List CV} {L : QL} {l0 l1 l2 l3 : Option CV} {r : Option Nat} : Rr C mX13_command (170, [some (.inr (.inr r)), l1, l2, l3], st, M) x = Rr C mX13_command (171, [some (.inr (.inr r)), l1, l2, l3], .inr (.inr r) :: st, M) x := g_pl (show decode cX13_command 170 = .ok (.aload_n 0, 1) by decide +kernel) rfl
set_option maxRecDepth 20000 in
theorem kX13_command_171 {C : QC} {x : QP} {M : QM} {st : List CV} {L : QL} {a : Nat} (hk : q_kd M a = (1, 13)) : Rr C mX13_command (171, L, qr a :: st, M) x = Rr C mX13_command (174, L, q_fv M a 10 :: st, M) x := g_getf (ow := 13) (e := (13, 10, RX13, 1311, 0)) (show decode cX13_command 171 = .ok (.getfield 24, 3) by decide +kernel) rfl hk
set_option maxRecDepth 20000 in
theorem kX13_command_174 {C : QC} {x : QP} {M : QM} {st : List CV} {L : QL} {l0 l1 l2 l3 : Option CV} {z : Int} : Rr C mX13_command (174, [l0, some (qi z), l2, l3], st, M) x = Rr C mX13_command (175, [l0, some (qi z), l2, l3], qi z :: st, M) x := g_pl (show decode cX13_command 174 = .ok (.iload_n 1, 1) by decide +kernel) rfl
set_option maxRecDepth 20000 in
theorem kX13_command_175 {C : QC} {x : QP} {M : QM} {st : List CV} {L : QL} : Rr C mX13_command (175, L, st, M) x = Rr C mX13_command (176, L, qi 2 :: st, M) x := g_pl (show decode cX13_command 175 = .ok (.iconst 2, 1) by decide +kernel) rfl
set_option maxRecDepth 20000 in
theorem kX13_command_176 {C : QC} {x : QP} {M : QM} {st : List CV} {L : QL} {a b : Int} : Rr C mX13_command (176, L, qi b :: qi a :: st, M) x = Rr C mX13_command (177, L, qi (a + b) :: st, M) x := g_pl (show decode cX13_command 176 = .ok (.iadd, 1) by decide +kernel) rfl
set_option maxRecDepth 20000 in
theorem kX13_command_177 {C : QC} {x : QP} {M : QM} {st : List CV} {L : QL} {l0 l1 l2 l3 : Option CV} {r : Option Nat} : Rr C mX13_command (177, [some (.inr (.inr r)), l1, l2, l3], st, M) x = Rr C mX13_command (178, [some (.inr (.inr r)), l1, l2, l3], .inr (.inr r) :: st, M) x := g_pl (show decode cX13_command 177 = .ok (.aload_n 0, 1) by decide +kernel) rfl
set_option maxRecDepth 20000 in
theorem kX13_command_178 {C : QC} {x : QP} {M : QM} {L : QL} {rest : List CV} {v : CV} {M1 : QM} {b : Nat} (hb : q_kd M b = (1, 13)) (hC : C iX13_number [qr b] M (some v) M1) (hw : (rest.map q_wd).sum ≤ 8) (k : Rr C mX13_command (181, L, v :: rest, M1) x) : Rr C mX13_command (178, L, qr b :: rest, M) x := g_cv (ow := 13) (e := (0, 243, 13, [1535, 1537, 62, 94])) (as := []) (show decode cX13_command 178 = .ok (.invokevirtual 177, 3) by decide +kernel) rfl rfl rfl (Or.inl rfl) rfl hb hC hw k
set_option maxRecDepth 20000 in
theorem kX13_command_181 {C : QC} {x : QP} {M : QM} {st : List CV} {L : QL} {a : Nat} {j v : Int} (hk : (q_kd M a).1 = 2) (h0 : 0 ≤ j) (h1 : j < ((q_kd M a).2 : Int)) : Rr C mX13_command (181, L, qi v :: qi j :: qr a :: st, M) x = Rr C mX13_command (182, L, st, q_wr M a j.toNat (qi v)) x := g_iast (show decode cX13_command 181 = .ok (.iastore, 1) by decide +kernel) hk h0 h1
set_option maxRecDepth 20000 in
theorem kX13_command_182 {C : QC} {x : QP} {M : QM} {st : List CV} {L : QL} {l0 l1 l2 l3 : Option CV} {r : Option Nat} : Rr C mX13_command (182, [some (.inr (.inr r)), l1, l2, l3], st, M) x = Rr C mX13_command (183, [some (.inr (.inr r)), l1, l2, l3], .inr (.inr r) :: st, M) x := g_pl (show decode cX13_command 182 = .ok (.aload_n 0, 1) by decide +kernel) rfl
set_option maxRecDepth 20000 in
theorem kX13_command_183 {C : QC} {x : QP} {M : QM} {st : List CV} {L : QL} : Rr C mX13_command (183, L, st, M) x = Rr C mX13_command (185, L, qi 64 :: st, M) x := g_pl (show decode cX13_command 183 = .ok (.bipush 64, 2) by decide +kernel) rfl
set_option maxRecDepth 20000 in
theorem kX13_command_185 {C : QC} {x : QP} {M : QM} {L : QL} {rest : List CV} {a0 : CV} {M1 : QM} {b : Nat} (hb : q_kd M b = (1, 13)) (hC : C iX13_must [qr b, a0] M none M1) (hw : (rest.map q_wd).sum ≤ 8) (k : Rr C mX13_command (188, L, rest, M1) x) : Rr C mX13_command (185, L, a0 :: qr b :: rest, M) x := g_cv (ow := 13) (e := (0, 242, 13, [1531, 1533, 61, 94])) (as := [a0]) (show decode cX13_command 185 = .ok (.invokevirtual 173, 3) by decide +kernel) rfl rfl rfl (Or.inl rfl) rfl hb hC hw k
set_option maxRecDepth 20000 in
theorem kX13_command_188 {C : QC} {x : QP} {M : QM} {st : List CV} {L : QL} {l0 l1 l2 l3 : Option CV} {r : Option Nat} : Rr C mX13_command (188, [some (.inr (.inr r)), l1, l2, l3], st, M) x = Rr C mX13_command (189, [some (.inr (.inr r)), l1, l2, l3], .inr (.inr r) :: st, M) x := g_pl (show decode cX13_command 188 = .ok (.aload_n 0, 1) by decide +kernel) rfl
set_option maxRecDepth 20000 in
theorem kX13_command_189 {C : QC} {x : QP} {M : QM} {st : List CV} {L : QL} {a : Nat} (hk : q_kd M a = (1, 13)) : Rr C mX13_command (189, L, qr a :: st, M) x = Rr C mX13_command (192, L, q_fv M a 10 :: st, M) x := g_getf (ow := 13) (e := (13, 10, RX13, 1311, 0)) (show decode cX13_command 189 = .ok (.getfield 24, 3) by decide +kernel) rfl hk
set_option maxRecDepth 20000 in
theorem kX13_command_192 {C : QC} {x : QP} {M : QM} {st : List CV} {L : QL} {l0 l1 l2 l3 : Option CV} {z : Int} : Rr C mX13_command (192, [l0, some (qi z), l2, l3], st, M) x = Rr C mX13_command (193, [l0, some (qi z), l2, l3], qi z :: st, M) x := g_pl (show decode cX13_command 192 = .ok (.iload_n 1, 1) by decide +kernel) rfl
set_option maxRecDepth 20000 in
theorem kX13_command_193 {C : QC} {x : QP} {M : QM} {st : List CV} {L : QL} : Rr C mX13_command (193, L, st, M) x = Rr C mX13_command (194, L, qi 3 :: st, M) x := g_pl (show decode cX13_command 193 = .ok (.iconst 3, 1) by decide +kernel) rfl
set_option maxRecDepth 20000 in
theorem kX13_command_194 {C : QC} {x : QP} {M : QM} {st : List CV} {L : QL} {a b : Int} : Rr C mX13_command (194, L, qi b :: qi a :: st, M) x = Rr C mX13_command (195, L, qi (a + b) :: st, M) x := g_pl (show decode cX13_command 194 = .ok (.iadd, 1) by decide +kernel) rfl
set_option maxRecDepth 20000 in
theorem kX13_command_195 {C : QC} {x : QP} {M : QM} {st : List CV} {L : QL} {l0 l1 l2 l3 : Option CV} {r : Option Nat} : Rr C mX13_command (195, [some (.inr (.inr r)), l1, l2, l3], st, M) x = Rr C mX13_command (196, [some (.inr (.inr r)), l1, l2, l3], .inr (.inr r) :: st, M) x := g_pl (show decode cX13_command 195 = .ok (.aload_n 0, 1) by decide +kernel) rfl
set_option maxRecDepth 20000 in
theorem kX13_command_196 {C : QC} {x : QP} {M : QM} {L : QL} {rest : List CV} {v : CV} {M1 : QM} {b : Nat} (hb : q_kd M b = (1, 13)) (hC : C iX13_number [qr b] M (some v) M1) (hw : (rest.map q_wd).sum ≤ 8) (k : Rr C mX13_command (199, L, v :: rest, M1) x) : Rr C mX13_command (196, L, qr b :: rest, M) x := g_cv (ow := 13) (e := (0, 243, 13, [1535, 1537, 62, 94])) (as := []) (show decode cX13_command 196 = .ok (.invokevirtual 177, 3) by decide +kernel) rfl rfl rfl (Or.inl rfl) rfl hb hC hw k
set_option maxRecDepth 20000 in
theorem kX13_command_199 {C : QC} {x : QP} {M : QM} {st : List CV} {L : QL} {a : Nat} {j v : Int} (hk : (q_kd M a).1 = 2) (h0 : 0 ≤ j) (h1 : j < ((q_kd M a).2 : Int)) : Rr C mX13_command (199, L, qi v :: qi j :: qr a :: st, M) x = Rr C mX13_command (200, L, st, q_wr M a j.toNat (qi v)) x := g_iast (show decode cX13_command 199 = .ok (.iastore, 1) by decide +kernel) hk h0 h1
set_option maxRecDepth 20000 in
theorem kX13_command_200 {C : QC} {x : QP} {M : QM} {st : List CV} {L : QL} {l0 l1 l2 l3 : Option CV} {z : Int} : Rr C mX13_command (200, [l0, l1, some (qi z), l3], st, M) x = Rr C mX13_command (201, [l0, l1, some (qi z), l3], qi z :: st, M) x := g_pl (show decode cX13_command 200 = .ok (.iload_n 2, 1) by decide +kernel) rfl
set_option maxRecDepth 20000 in
theorem kX13_command_201 {C : QC} {x : QP} {M : QM} {st : List CV} {L : QL} : Rr C mX13_command (201, L, st, M) x = Rr C mX13_command (203, L, qi 102 :: st, M) x := g_pl (show decode cX13_command 201 = .ok (.bipush 102, 2) by decide +kernel) rfl
set_option maxRecDepth 20000 in
theorem kX13_command_203 {C : QC} {x : QP} {M : QM} {st : List CV} {L : QL} {a b : Int} (ha1 : -2147483648 ≤ a) (ha2 : a < 2147483648) (hb1 : -2147483648 ≤ b) (hb2 : b < 2147483648) : Rr C mX13_command (203, L, qi b :: qi a :: st, M) x = (if a = b then Rr C mX13_command (218, L, st, M) x else Rr C mX13_command (206, L, st, M) x) := (g_icmp (show decode cX13_command 203 = .ok (.if_icmp .eq 15, 3) by decide +kernel) rfl ha1 ha2 hb1 hb2).trans (g_ite c_eq)
set_option maxRecDepth 20000 in
theorem kX13_command_206 {C : QC} {x : QP} {M : QM} {st : List CV} {L : QL} {l0 l1 l2 l3 : Option CV} {z : Int} : Rr C mX13_command (206, [l0, l1, some (qi z), l3], st, M) x = Rr C mX13_command (207, [l0, l1, some (qi z), l3], qi z :: st, M) x := g_pl (show decode cX13_command 206 = .ok (.iload_n 2, 1) by decide +kernel) rfl
set_option maxRecDepth 20000 in
theorem kX13_command_207 {C : QC} {x : QP} {M : QM} {st : List CV} {L : QL} : Rr C mX13_command (207, L, st, M) x = Rr C mX13_command (209, L, qi 114 :: st, M) x := g_pl (show decode cX13_command 207 = .ok (.bipush 114, 2) by decide +kernel) rfl
set_option maxRecDepth 20000 in
theorem kX13_command_209 {C : QC} {x : QP} {M : QM} {st : List CV} {L : QL} {a b : Int} (ha1 : -2147483648 ≤ a) (ha2 : a < 2147483648) (hb1 : -2147483648 ≤ b) (hb2 : b < 2147483648) : Rr C mX13_command (209, L, qi b :: qi a :: st, M) x = (if a = b then Rr C mX13_command (218, L, st, M) x else Rr C mX13_command (212, L, st, M) x) := (g_icmp (show decode cX13_command 209 = .ok (.if_icmp .eq 9, 3) by decide +kernel) rfl ha1 ha2 hb1 hb2).trans (g_ite c_eq)
set_option maxRecDepth 20000 in
theorem kX13_command_212 {C : QC} {x : QP} {M : QM} {st : List CV} {L : QL} {l0 l1 l2 l3 : Option CV} {z : Int} : Rr C mX13_command (212, [l0, l1, some (qi z), l3], st, M) x = Rr C mX13_command (213, [l0, l1, some (qi z), l3], qi z :: st, M) x := g_pl (show decode cX13_command 212 = .ok (.iload_n 2, 1) by decide +kernel) rfl
set_option maxRecDepth 20000 in
theorem kX13_command_213 {C : QC} {x : QP} {M : QM} {st : List CV} {L : QL} : Rr C mX13_command (213, L, st, M) x = Rr C mX13_command (215, L, qi 115 :: st, M) x := g_pl (show decode cX13_command 213 = .ok (.bipush 115, 2) by decide +kernel) rfl
set_option maxRecDepth 20000 in
theorem kX13_command_215 {C : QC} {x : QP} {M : QM} {st : List CV} {L : QL} {a b : Int} (ha1 : -2147483648 ≤ a) (ha2 : a < 2147483648) (hb1 : -2147483648 ≤ b) (hb2 : b < 2147483648) : Rr C mX13_command (215, L, qi b :: qi a :: st, M) x = (if a = b then Rr C mX13_command (218, L, st, M) x else Rr C mX13_command (228, L, st, M) x) := (g_icmp (show decode cX13_command 215 = .ok (.if_icmp .ne 13, 3) by decide +kernel) rfl ha1 ha2 hb1 hb2).trans (g_itn c_ne)
set_option maxRecDepth 20000 in
theorem kX13_command_218 {C : QC} {x : QP} {M : QM} {st : List CV} {L : QL} {l0 l1 l2 l3 : Option CV} {r : Option Nat} : Rr C mX13_command (218, [some (.inr (.inr r)), l1, l2, l3], st, M) x = Rr C mX13_command (219, [some (.inr (.inr r)), l1, l2, l3], .inr (.inr r) :: st, M) x := g_pl (show decode cX13_command 218 = .ok (.aload_n 0, 1) by decide +kernel) rfl
set_option maxRecDepth 20000 in
theorem kX13_command_219 {C : QC} {x : QP} {M : QM} {st : List CV} {L : QL} : Rr C mX13_command (219, L, st, M) x = Rr C mX13_command (221, L, qi 58 :: st, M) x := g_pl (show decode cX13_command 219 = .ok (.bipush 58, 2) by decide +kernel) rfl
set_option maxRecDepth 20000 in
theorem kX13_command_221 {C : QC} {x : QP} {M : QM} {L : QL} {rest : List CV} {a0 : CV} {M1 : QM} {b : Nat} (hb : q_kd M b = (1, 13)) (hC : C iX13_must [qr b, a0] M none M1) (hw : (rest.map q_wd).sum ≤ 8) (k : Rr C mX13_command (224, L, rest, M1) x) : Rr C mX13_command (221, L, a0 :: qr b :: rest, M) x := g_cv (ow := 13) (e := (0, 242, 13, [1531, 1533, 61, 94])) (as := [a0]) (show decode cX13_command 221 = .ok (.invokevirtual 173, 3) by decide +kernel) rfl rfl rfl (Or.inl rfl) rfl hb hC hw k
set_option maxRecDepth 20000 in
theorem kX13_command_224 {C : QC} {x : QP} {M : QM} {st : List CV} {L : QL} {l0 l1 l2 l3 : Option CV} {r : Option Nat} : Rr C mX13_command (224, [some (.inr (.inr r)), l1, l2, l3], st, M) x = Rr C mX13_command (225, [some (.inr (.inr r)), l1, l2, l3], .inr (.inr r) :: st, M) x := g_pl (show decode cX13_command 224 = .ok (.aload_n 0, 1) by decide +kernel) rfl
set_option maxRecDepth 20000 in
theorem kX13_command_225 {C : QC} {x : QP} {M : QM} {L : QL} {rest : List CV} {M1 : QM} {b : Nat} (hb : q_kd M b = (1, 13)) (hC : C iX13_readsWord [qr b] M none M1) (hw : (rest.map q_wd).sum ≤ 8) (k : Rr C mX13_command (228, L, rest, M1) x) : Rr C mX13_command (225, L, qr b :: rest, M) x := g_cv (ow := 13) (e := (0, 201, 13, [1368, 1370, 27, 94])) (as := []) (show decode cX13_command 225 = .ok (.invokevirtual 91, 3) by decide +kernel) rfl rfl rfl (Or.inl rfl) rfl hb hC hw k
set_option maxRecDepth 20000 in
theorem kX13_command_228 {C : QC} {x : QP} {M : QM} {st : List CV} {L : QL} {l0 l1 l2 l3 : Option CV} {r : Option Nat} : Rr C mX13_command (228, [some (.inr (.inr r)), l1, l2, l3], st, M) x = Rr C mX13_command (229, [some (.inr (.inr r)), l1, l2, l3], .inr (.inr r) :: st, M) x := g_pl (show decode cX13_command 228 = .ok (.aload_n 0, 1) by decide +kernel) rfl
set_option maxRecDepth 20000 in
theorem kX13_command_229 {C : QC} {x : QP} {M : QM} {st : List CV} {L : QL} {a : Nat} (hk : q_kd M a = (1, 13)) : Rr C mX13_command (229, L, qr a :: st, M) x = Rr C mX13_command (232, L, q_fv M a 10 :: st, M) x := g_getf (ow := 13) (e := (13, 10, RX13, 1311, 0)) (show decode cX13_command 229 = .ok (.getfield 24, 3) by decide +kernel) rfl hk
set_option maxRecDepth 20000 in
theorem kX13_command_232 {C : QC} {x : QP} {M : QM} {st : List CV} {L : QL} {l0 l1 l2 l3 : Option CV} {z : Int} : Rr C mX13_command (232, [l0, some (qi z), l2, l3], st, M) x = Rr C mX13_command (233, [l0, some (qi z), l2, l3], qi z :: st, M) x := g_pl (show decode cX13_command 232 = .ok (.iload_n 1, 1) by decide +kernel) rfl
set_option maxRecDepth 20000 in
theorem kX13_command_233 {C : QC} {x : QP} {M : QM} {st : List CV} {L : QL} : Rr C mX13_command (233, L, st, M) x = Rr C mX13_command (234, L, qi 4 :: st, M) x := g_pl (show decode cX13_command 233 = .ok (.iconst 4, 1) by decide +kernel) rfl
set_option maxRecDepth 20000 in
theorem kX13_command_234 {C : QC} {x : QP} {M : QM} {st : List CV} {L : QL} {a b : Int} : Rr C mX13_command (234, L, qi b :: qi a :: st, M) x = Rr C mX13_command (235, L, qi (a + b) :: st, M) x := g_pl (show decode cX13_command 234 = .ok (.iadd, 1) by decide +kernel) rfl
set_option maxRecDepth 20000 in
theorem kX13_command_235 {C : QC} {x : QP} {M : QM} {st : List CV} {L : QL} {l0 l1 l2 l3 : Option CV} {r : Option Nat} : Rr C mX13_command (235, [some (.inr (.inr r)), l1, l2, l3], st, M) x = Rr C mX13_command (236, [some (.inr (.inr r)), l1, l2, l3], .inr (.inr r) :: st, M) x := g_pl (show decode cX13_command 235 = .ok (.aload_n 0, 1) by decide +kernel) rfl
set_option maxRecDepth 20000 in
theorem kX13_command_236 {C : QC} {x : QP} {M : QM} {st : List CV} {L : QL} {a : Nat} (hk : q_kd M a = (1, 13)) : Rr C mX13_command (236, L, qr a :: st, M) x = Rr C mX13_command (239, L, q_fv M a 9 :: st, M) x := g_getf (ow := 13) (e := (13, 9, RX13, 1310, 0)) (show decode cX13_command 236 = .ok (.getfield 88, 3) by decide +kernel) rfl hk
set_option maxRecDepth 20000 in
theorem kX13_command_239 {C : QC} {x : QP} {M : QM} {st : List CV} {L : QL} {a : Nat} {j v : Int} (hk : (q_kd M a).1 = 2) (h0 : 0 ≤ j) (h1 : j < ((q_kd M a).2 : Int)) : Rr C mX13_command (239, L, qi v :: qi j :: qr a :: st, M) x = Rr C mX13_command (240, L, st, q_wr M a j.toNat (qi v)) x := g_iast (show decode cX13_command 239 = .ok (.iastore, 1) by decide +kernel) hk h0 h1
set_option maxRecDepth 20000 in
theorem kX13_command_240 {C : QC} {x : QP} {M : QM} {st : List CV} {L : QL} : Rr C mX13_command (240, L, st, M) x = Rr C mX13_command (241, L, qi 0 :: st, M) x := g_pl (show decode cX13_command 240 = .ok (.iconst 0, 1) by decide +kernel) rfl
set_option maxRecDepth 20000 in
theorem kX13_command_241 {C : QC} {x : QP} {M : QM} {st : List CV} {L : QL} {l0 l1 l2 l3 : Option CV} {z : Int} : Rr C mX13_command (241, [l0, l1, l2, l3], qi z :: st, M) x = Rr C mX13_command (242, [l0, l1, q_cut l2, some (qi z)], st, M) x := g_pl (show decode cX13_command 241 = .ok (.istore_n 3, 1) by decide +kernel) rfl
set_option maxRecDepth 20000 in
theorem kX13_command_242 {C : QC} {x : QP} {M : QM} {st : List CV} {L : QL} {l0 l1 l2 l3 : Option CV} {z : Int} : Rr C mX13_command (242, [l0, l1, l2, some (qi z)], st, M) x = Rr C mX13_command (243, [l0, l1, l2, some (qi z)], qi z :: st, M) x := g_pl (show decode cX13_command 242 = .ok (.iload_n 3, 1) by decide +kernel) rfl
set_option maxRecDepth 20000 in
theorem kX13_command_243 {C : QC} {x : QP} {M : QM} {st : List CV} {L : QL} {l0 l1 l2 l3 : Option CV} {r : Option Nat} : Rr C mX13_command (243, [some (.inr (.inr r)), l1, l2, l3], st, M) x = Rr C mX13_command (244, [some (.inr (.inr r)), l1, l2, l3], .inr (.inr r) :: st, M) x := g_pl (show decode cX13_command 243 = .ok (.aload_n 0, 1) by decide +kernel) rfl
set_option maxRecDepth 20000 in
theorem kX13_command_244 {C : QC} {x : QP} {M : QM} {st : List CV} {L : QL} {a : Nat} (hk : q_kd M a = (1, 13)) : Rr C mX13_command (244, L, qr a :: st, M) x = Rr C mX13_command (247, L, q_fv M a 9 :: st, M) x := g_getf (ow := 13) (e := (13, 9, RX13, 1310, 0)) (show decode cX13_command 244 = .ok (.getfield 88, 3) by decide +kernel) rfl hk
set_option maxRecDepth 20000 in
theorem kX13_command_247 {C : QC} {x : QP} {M : QM} {st : List CV} {L : QL} {a b : Int} (ha1 : -2147483648 ≤ a) (ha2 : a < 2147483648) (hb1 : -2147483648 ≤ b) (hb2 : b < 2147483648) : Rr C mX13_command (247, L, qi b :: qi a :: st, M) x = (if a < b then Rr C mX13_command (250, L, st, M) x else Rr C mX13_command (272, L, st, M) x) := (g_icmp (show decode cX13_command 247 = .ok (.if_icmp .ge 25, 3) by decide +kernel) rfl ha1 ha2 hb1 hb2).trans (g_itn c_ge)
set_option maxRecDepth 20000 in
theorem kX13_command_250 {C : QC} {x : QP} {M : QM} {st : List CV} {L : QL} {l0 l1 l2 l3 : Option CV} {r : Option Nat} : Rr C mX13_command (250, [some (.inr (.inr r)), l1, l2, l3], st, M) x = Rr C mX13_command (251, [some (.inr (.inr r)), l1, l2, l3], .inr (.inr r) :: st, M) x := g_pl (show decode cX13_command 250 = .ok (.aload_n 0, 1) by decide +kernel) rfl
set_option maxRecDepth 20000 in
theorem kX13_command_251 {C : QC} {x : QP} {M : QM} {st : List CV} {L : QL} {a : Nat} (hk : q_kd M a = (1, 13)) : Rr C mX13_command (251, L, qr a :: st, M) x = Rr C mX13_command (254, L, q_fv M a 10 :: st, M) x := g_getf (ow := 13) (e := (13, 10, RX13, 1311, 0)) (show decode cX13_command 251 = .ok (.getfield 24, 3) by decide +kernel) rfl hk
set_option maxRecDepth 20000 in
theorem kX13_command_254 {C : QC} {x : QP} {M : QM} {st : List CV} {L : QL} {l0 l1 l2 l3 : Option CV} {z : Int} : Rr C mX13_command (254, [l0, some (qi z), l2, l3], st, M) x = Rr C mX13_command (255, [l0, some (qi z), l2, l3], qi z :: st, M) x := g_pl (show decode cX13_command 254 = .ok (.iload_n 1, 1) by decide +kernel) rfl
set_option maxRecDepth 20000 in
theorem kX13_command_255 {C : QC} {x : QP} {M : QM} {st : List CV} {L : QL} : Rr C mX13_command (255, L, st, M) x = Rr C mX13_command (256, L, qi 5 :: st, M) x := g_pl (show decode cX13_command 255 = .ok (.iconst 5, 1) by decide +kernel) rfl
set_option maxRecDepth 20000 in
theorem kX13_command_256 {C : QC} {x : QP} {M : QM} {st : List CV} {L : QL} {a b : Int} : Rr C mX13_command (256, L, qi b :: qi a :: st, M) x = Rr C mX13_command (257, L, qi (a + b) :: st, M) x := g_pl (show decode cX13_command 256 = .ok (.iadd, 1) by decide +kernel) rfl
set_option maxRecDepth 20000 in
theorem kX13_command_257 {C : QC} {x : QP} {M : QM} {st : List CV} {L : QL} {l0 l1 l2 l3 : Option CV} {z : Int} : Rr C mX13_command (257, [l0, l1, l2, some (qi z)], st, M) x = Rr C mX13_command (258, [l0, l1, l2, some (qi z)], qi z :: st, M) x := g_pl (show decode cX13_command 257 = .ok (.iload_n 3, 1) by decide +kernel) rfl
set_option maxRecDepth 20000 in
theorem kX13_command_258 {C : QC} {x : QP} {M : QM} {st : List CV} {L : QL} {a b : Int} : Rr C mX13_command (258, L, qi b :: qi a :: st, M) x = Rr C mX13_command (259, L, qi (a + b) :: st, M) x := g_pl (show decode cX13_command 258 = .ok (.iadd, 1) by decide +kernel) rfl
set_option maxRecDepth 20000 in
theorem kX13_command_259 {C : QC} {x : QP} {M : QM} {st : List CV} {L : QL} {l0 l1 l2 l3 : Option CV} {r : Option Nat} : Rr C mX13_command (259, [some (.inr (.inr r)), l1, l2, l3], st, M) x = Rr C mX13_command (260, [some (.inr (.inr r)), l1, l2, l3], .inr (.inr r) :: st, M) x := g_pl (show decode cX13_command 259 = .ok (.aload_n 0, 1) by decide +kernel) rfl
set_option maxRecDepth 20000 in
theorem kX13_command_260 {C : QC} {x : QP} {M : QM} {st : List CV} {L : QL} {a : Nat} (hk : q_kd M a = (1, 13)) : Rr C mX13_command (260, L, qr a :: st, M) x = Rr C mX13_command (263, L, q_fv M a 8 :: st, M) x := g_getf (ow := 13) (e := (13, 8, RX13, 1309, 0)) (show decode cX13_command 260 = .ok (.getfield 21, 3) by decide +kernel) rfl hk
set_option maxRecDepth 20000 in
theorem kX13_command_263 {C : QC} {x : QP} {M : QM} {st : List CV} {L : QL} {l0 l1 l2 l3 : Option CV} {z : Int} : Rr C mX13_command (263, [l0, l1, l2, some (qi z)], st, M) x = Rr C mX13_command (264, [l0, l1, l2, some (qi z)], qi z :: st, M) x := g_pl (show decode cX13_command 263 = .ok (.iload_n 3, 1) by decide +kernel) rfl
set_option maxRecDepth 20000 in
theorem kX13_command_264 {C : QC} {x : QP} {M : QM} {st : List CV} {L : QL} {a : Nat} {j : Int} (hk : (q_kd M a).1 = 2) (h0 : 0 ≤ j) (h1 : j < ((q_kd M a).2 : Int)) : Rr C mX13_command (264, L, qi j :: qr a :: st, M) x = Rr C mX13_command (265, L, q_fv M a j.toNat :: st, M) x := g_iald (show decode cX13_command 264 = .ok (.iaload, 1) by decide +kernel) hk h0 h1
set_option maxRecDepth 20000 in
theorem kX13_command_265 {C : QC} {x : QP} {M : QM} {st : List CV} {L : QL} {a : Nat} {j v : Int} (hk : (q_kd M a).1 = 2) (h0 : 0 ≤ j) (h1 : j < ((q_kd M a).2 : Int)) : Rr C mX13_command (265, L, qi v :: qi j :: qr a :: st, M) x = Rr C mX13_command (266, L, st, q_wr M a j.toNat (qi v)) x := g_iast (show decode cX13_command 265 = .ok (.iastore, 1) by decide +kernel) hk h0 h1
set_option maxRecDepth 20000 in
theorem kX13_command_266 {C : QC} {x : QP} {M : QM} {st : List CV} {L : QL} {l0 l1 l2 l3 : Option CV} {z : Int} : Rr C mX13_command (266, [l0, l1, l2, some (qi z)], st, M) x = Rr C mX13_command (269, [l0, l1, q_cut l2, some (qi (z + 1))], st, M) x := g_pl (show decode cX13_command 266 = .ok (.iinc 3 1, 3) by decide +kernel) rfl
set_option maxRecDepth 20000 in
theorem kX13_command_269 {C : QC} {x : QP} {M : QM} {st : List CV} {L : QL} : Rr C mX13_command (269, L, st, M) x = Rr C mX13_command (242, L, st, M) x := g_pl (show decode cX13_command 269 = .ok (.goto (-27), 3) by decide +kernel) rfl
set_option maxRecDepth 20000 in
theorem kX13_command_272 {C : QC} {x : QP} {M : QM} {st : List CV} {L : QL} {l0 l1 l2 l3 : Option CV} {r : Option Nat} : Rr C mX13_command (272, [some (.inr (.inr r)), l1, l2, l3], st, M) x = Rr C mX13_command (273, [some (.inr (.inr r)), l1, l2, l3], .inr (.inr r) :: st, M) x := g_pl (show decode cX13_command 272 = .ok (.aload_n 0, 1) by decide +kernel) rfl
set_option maxRecDepth 20000 in
theorem kX13_command_273i {C : QC} {x : QP} {M : QM} {st : List CV} {L : QL} {a : Int} : Rr C mX13_command (273, L, qi a :: st, M) x = Rr C mX13_command (274, L, qi a :: qi a :: st, M) x := g_pl (show decode cX13_command 273 = .ok (.dup, 1) by decide +kernel) rfl
set_option maxRecDepth 20000 in
theorem kX13_command_273r {C : QC} {x : QP} {M : QM} {st : List CV} {L : QL} {a : Option Nat} : Rr C mX13_command (273, L, .inr (.inr a) :: st, M) x = Rr C mX13_command (274, L, .inr (.inr a) :: .inr (.inr a) :: st, M) x := g_pl (show decode cX13_command 273 = .ok (.dup, 1) by decide +kernel) rfl
set_option maxRecDepth 20000 in
theorem kX13_command_274 {C : QC} {x : QP} {M : QM} {st : List CV} {L : QL} {a : Nat} (hk : q_kd M a = (1, 13)) : Rr C mX13_command (274, L, qr a :: st, M) x = Rr C mX13_command (277, L, q_fv M a 11 :: st, M) x := g_getf (ow := 13) (e := (13, 11, RX13, 1312, 0)) (show decode cX13_command 274 = .ok (.getfield 170, 3) by decide +kernel) rfl hk
set_option maxRecDepth 20000 in
theorem kX13_command_277 {C : QC} {x : QP} {M : QM} {st : List CV} {L : QL} : Rr C mX13_command (277, L, st, M) x = Rr C mX13_command (278, L, qi 1 :: st, M) x := g_pl (show decode cX13_command 277 = .ok (.iconst 1, 1) by decide +kernel) rfl
set_option maxRecDepth 20000 in
theorem kX13_command_278 {C : QC} {x : QP} {M : QM} {st : List CV} {L : QL} {a b : Int} : Rr C mX13_command (278, L, qi b :: qi a :: st, M) x = Rr C mX13_command (279, L, qi (a + b) :: st, M) x := g_pl (show decode cX13_command 278 = .ok (.iadd, 1) by decide +kernel) rfl
set_option maxRecDepth 20000 in
theorem kX13_command_279 {C : QC} {x : QP} {M : QM} {st : List CV} {L : QL} {z : Int} {a : Nat} (hk : q_kd M a = (1, 13)) : Rr C mX13_command (279, L, qi z :: qr a :: st, M) x = Rr C mX13_command (282, L, st, q_wr M a 11 (qi z)) x := g_putf (ow := 13) (ini := false) (e := (13, 11, RX13, 1312, 0)) (r := (RX13, TX13, 17)) (t := tyX13) (show decode cX13_command 279 = .ok (.putfield 170, 3) by decide +kernel) rfl rfl rfl rfl (by decide +kernel) hk
set_option maxRecDepth 20000 in
theorem kX13_command_282 {C : QC} {x : QP} {M : QM} {st : List CV} {L : QL} : Rr C mX13_command (282, L, [], M) x = x none M := g_vret (show decode cX13_command 282 = .ok (.return_, 1) by decide +kernel)
set_option maxRecDepth 20000 in
theorem eX13_command {d : Nat} {M : QM} {x : QP} {a : Nat} : q_T (d + 1) iX13_command [qr a] M x = Rr (q_C d) mX13_command (0, [some (qr a), none, none, none], [], M) x := g_entryT (e := _) rfl (Nat.le_of_ble_eq_true rfl) rfl rfl
def mX13_does : QI := (13, cX13_does, false, some .int)
set_option maxRecDepth 20000 in
theorem kX13_does_0 {C : QC} {x : QP} {M : QM} {st : List CV} {L : QL} {l0 l1 l2 l3 l4 l5 : Option CV} {r : Option Nat} : Rr C mX13_does (0, [some (.inr (.inr r)), l1, l2, l3, l4, l5], st, M) x = Rr C mX13_does (1, [some (.inr (.inr r)), l1, l2, l3, l4, l5], .inr (.inr r) :: st, M) x := g_pl (show decode cX13_does 0 = .ok (.aload_n 0, 1) by decide +kernel) rfl
set_option maxRecDepth 20000 in
theorem kX13_does_1 {C : QC} {x : QP} {M : QM} {st : List CV} {L : QL} {a : Nat} (hk : q_kd M a = (1, 13)) : Rr C mX13_does (1, L, qr a :: st, M) x = Rr C mX13_does (4, L, q_fv M a 10 :: st, M) x := g_getf (ow := 13) (e := (13, 10, RX13, 1311, 0)) (show decode cX13_does 1 = .ok (.getfield 24, 3) by decide +kernel) rfl hk
set_option maxRecDepth 20000 in
theorem kX13_does_4 {C : QC} {x : QP} {M : QM} {st : List CV} {L : QL} {l0 l1 l2 l3 l4 l5 : Option CV} {z : Int} : Rr C mX13_does (4, [l0, some (qi z), l2, l3, l4, l5], st, M) x = Rr C mX13_does (5, [l0, some (qi z), l2, l3, l4, l5], qi z :: st, M) x := g_pl (show decode cX13_does 4 = .ok (.iload_n 1, 1) by decide +kernel) rfl
set_option maxRecDepth 20000 in
theorem kX13_does_5 {C : QC} {x : QP} {M : QM} {st : List CV} {L : QL} : Rr C mX13_does (5, L, st, M) x = Rr C mX13_does (6, L, qi 1 :: st, M) x := g_pl (show decode cX13_does 5 = .ok (.iconst 1, 1) by decide +kernel) rfl
set_option maxRecDepth 20000 in
theorem kX13_does_6 {C : QC} {x : QP} {M : QM} {st : List CV} {L : QL} {a b : Int} : Rr C mX13_does (6, L, qi b :: qi a :: st, M) x = Rr C mX13_does (7, L, qi (a + b) :: st, M) x := g_pl (show decode cX13_does 6 = .ok (.iadd, 1) by decide +kernel) rfl
set_option maxRecDepth 20000 in
theorem kX13_does_7 {C : QC} {x : QP} {M : QM} {st : List CV} {L : QL} {a : Nat} {j : Int} (hk : (q_kd M a).1 = 2) (h0 : 0 ≤ j) (h1 : j < ((q_kd M a).2 : Int)) : Rr C mX13_does (7, L, qi j :: qr a :: st, M) x = Rr C mX13_does (8, L, q_fv M a j.toNat :: st, M) x := g_iald (show decode cX13_does 7 = .ok (.iaload, 1) by decide +kernel) hk h0 h1
set_option maxRecDepth 20000 in
theorem kX13_does_8 {C : QC} {x : QP} {M : QM} {st : List CV} {L : QL} {l0 l1 l2 l3 l4 l5 : Option CV} {z : Int} : Rr C mX13_does (8, [l0, l1, l2, l3, l4, l5], qi z :: st, M) x = Rr C mX13_does (9, [l0, q_cut l1, some (qi z), l3, l4, l5], st, M) x := g_pl (show decode cX13_does 8 = .ok (.istore_n 2, 1) by decide +kernel) rfl
set_option maxRecDepth 20000 in
theorem kX13_does_9 {C : QC} {x : QP} {M : QM} {st : List CV} {L : QL} {l0 l1 l2 l3 l4 l5 : Option CV} {r : Option Nat} : Rr C mX13_does (9, [some (.inr (.inr r)), l1, l2, l3, l4, l5], st, M) x = Rr C mX13_does (10, [some (.inr (.inr r)), l1, l2, l3, l4, l5], .inr (.inr r) :: st, M) x := g_pl (show decode cX13_does 9 = .ok (.aload_n 0, 1) by decide +kernel) rfl
set_option maxRecDepth 20000 in
theorem kX13_does_10 {C : QC} {x : QP} {M : QM} {st : List CV} {L : QL} {a : Nat} (hk : q_kd M a = (1, 13)) : Rr C mX13_does (10, L, qr a :: st, M) x = Rr C mX13_does (13, L, q_fv M a 10 :: st, M) x := g_getf (ow := 13) (e := (13, 10, RX13, 1311, 0)) (show decode cX13_does 10 = .ok (.getfield 24, 3) by decide +kernel) rfl hk
set_option maxRecDepth 20000 in
theorem kX13_does_13 {C : QC} {x : QP} {M : QM} {st : List CV} {L : QL} {l0 l1 l2 l3 l4 l5 : Option CV} {z : Int} : Rr C mX13_does (13, [l0, some (qi z), l2, l3, l4, l5], st, M) x = Rr C mX13_does (14, [l0, some (qi z), l2, l3, l4, l5], qi z :: st, M) x := g_pl (show decode cX13_does 13 = .ok (.iload_n 1, 1) by decide +kernel) rfl
set_option maxRecDepth 20000 in
theorem kX13_does_14 {C : QC} {x : QP} {M : QM} {st : List CV} {L : QL} : Rr C mX13_does (14, L, st, M) x = Rr C mX13_does (15, L, qi 2 :: st, M) x := g_pl (show decode cX13_does 14 = .ok (.iconst 2, 1) by decide +kernel) rfl
set_option maxRecDepth 20000 in
theorem kX13_does_15 {C : QC} {x : QP} {M : QM} {st : List CV} {L : QL} {a b : Int} : Rr C mX13_does (15, L, qi b :: qi a :: st, M) x = Rr C mX13_does (16, L, qi (a + b) :: st, M) x := g_pl (show decode cX13_does 15 = .ok (.iadd, 1) by decide +kernel) rfl
set_option maxRecDepth 20000 in
theorem kX13_does_16 {C : QC} {x : QP} {M : QM} {st : List CV} {L : QL} {a : Nat} {j : Int} (hk : (q_kd M a).1 = 2) (h0 : 0 ≤ j) (h1 : j < ((q_kd M a).2 : Int)) : Rr C mX13_does (16, L, qi j :: qr a :: st, M) x = Rr C mX13_does (17, L, q_fv M a j.toNat :: st, M) x := g_iald (show decode cX13_does 16 = .ok (.iaload, 1) by decide +kernel) hk h0 h1
set_option maxRecDepth 20000 in
theorem kX13_does_17 {C : QC} {x : QP} {M : QM} {st : List CV} {L : QL} {l0 l1 l2 l3 l4 l5 : Option CV} {z : Int} : Rr C mX13_does (17, [l0, l1, l2, l3, l4, l5], qi z :: st, M) x = Rr C mX13_does (18, [l0, l1, q_cut l2, some (qi z), l4, l5], st, M) x := g_pl (show decode cX13_does 17 = .ok (.istore_n 3, 1) by decide +kernel) rfl
set_option maxRecDepth 20000 in
theorem kX13_does_18 {C : QC} {x : QP} {M : QM} {st : List CV} {L : QL} {l0 l1 l2 l3 l4 l5 : Option CV} {r : Option Nat} : Rr C mX13_does (18, [some (.inr (.inr r)), l1, l2, l3, l4, l5], st, M) x = Rr C mX13_does (19, [some (.inr (.inr r)), l1, l2, l3, l4, l5], .inr (.inr r) :: st, M) x := g_pl (show decode cX13_does 18 = .ok (.aload_n 0, 1) by decide +kernel) rfl
set_option maxRecDepth 20000 in
theorem kX13_does_19 {C : QC} {x : QP} {M : QM} {st : List CV} {L : QL} {a : Nat} (hk : q_kd M a = (1, 13)) : Rr C mX13_does (19, L, qr a :: st, M) x = Rr C mX13_does (22, L, q_fv M a 10 :: st, M) x := g_getf (ow := 13) (e := (13, 10, RX13, 1311, 0)) (show decode cX13_does 19 = .ok (.getfield 24, 3) by decide +kernel) rfl hk
set_option maxRecDepth 20000 in
theorem kX13_does_22 {C : QC} {x : QP} {M : QM} {st : List CV} {L : QL} {l0 l1 l2 l3 l4 l5 : Option CV} {z : Int} : Rr C mX13_does (22, [l0, some (qi z), l2, l3, l4, l5], st, M) x = Rr C mX13_does (23, [l0, some (qi z), l2, l3, l4, l5], qi z :: st, M) x := g_pl (show decode cX13_does 22 = .ok (.iload_n 1, 1) by decide +kernel) rfl
set_option maxRecDepth 20000 in
theorem kX13_does_23 {C : QC} {x : QP} {M : QM} {st : List CV} {L : QL} : Rr C mX13_does (23, L, st, M) x = Rr C mX13_does (24, L, qi 3 :: st, M) x := g_pl (show decode cX13_does 23 = .ok (.iconst 3, 1) by decide +kernel) rfl
set_option maxRecDepth 20000 in
theorem kX13_does_24 {C : QC} {x : QP} {M : QM} {st : List CV} {L : QL} {a b : Int} : Rr C mX13_does (24, L, qi b :: qi a :: st, M) x = Rr C mX13_does (25, L, qi (a + b) :: st, M) x := g_pl (show decode cX13_does 24 = .ok (.iadd, 1) by decide +kernel) rfl
set_option maxRecDepth 20000 in
theorem kX13_does_25 {C : QC} {x : QP} {M : QM} {st : List CV} {L : QL} {a : Nat} {j : Int} (hk : (q_kd M a).1 = 2) (h0 : 0 ≤ j) (h1 : j < ((q_kd M a).2 : Int)) : Rr C mX13_does (25, L, qi j :: qr a :: st, M) x = Rr C mX13_does (26, L, q_fv M a j.toNat :: st, M) x := g_iald (show decode cX13_does 25 = .ok (.iaload, 1) by decide +kernel) hk h0 h1
set_option maxRecDepth 20000 in
theorem kX13_does_26 {C : QC} {x : QP} {M : QM} {st : List CV} {L : QL} {l0 l1 l2 l3 l4 l5 : Option CV} {z : Int} : Rr C mX13_does (26, [l0, l1, l2, l3, l4, l5], qi z :: st, M) x = Rr C mX13_does (28, [l0, l1, l2, q_cut l3, some (qi z), l5], st, M) x := g_pl (show decode cX13_does 26 = .ok (.istore 4, 2) by decide +kernel) rfl
set_option maxRecDepth 20000 in
theorem kX13_does_28 {C : QC} {x : QP} {M : QM} {st : List CV} {L : QL} {l0 l1 l2 l3 l4 l5 : Option CV} {r : Option Nat} : Rr C mX13_does (28, [some (.inr (.inr r)), l1, l2, l3, l4, l5], st, M) x = Rr C mX13_does (29, [some (.inr (.inr r)), l1, l2, l3, l4, l5], .inr (.inr r) :: st, M) x := g_pl (show decode cX13_does 28 = .ok (.aload_n 0, 1) by decide +kernel) rfl
set_option maxRecDepth 20000 in
theorem kX13_does_29 {C : QC} {x : QP} {M : QM} {st : List CV} {L : QL} {l0 l1 l2 l3 l4 l5 : Option CV} {r : Option Nat} : Rr C mX13_does (29, [some (.inr (.inr r)), l1, l2, l3, l4, l5], st, M) x = Rr C mX13_does (30, [some (.inr (.inr r)), l1, l2, l3, l4, l5], .inr (.inr r) :: st, M) x := g_pl (show decode cX13_does 29 = .ok (.aload_n 0, 1) by decide +kernel) rfl
set_option maxRecDepth 20000 in
theorem kX13_does_30 {C : QC} {x : QP} {M : QM} {st : List CV} {L : QL} {a : Nat} (hk : q_kd M a = (1, 13)) : Rr C mX13_does (30, L, qr a :: st, M) x = Rr C mX13_does (33, L, q_fv M a 10 :: st, M) x := g_getf (ow := 13) (e := (13, 10, RX13, 1311, 0)) (show decode cX13_does 30 = .ok (.getfield 24, 3) by decide +kernel) rfl hk
set_option maxRecDepth 20000 in
theorem kX13_does_33 {C : QC} {x : QP} {M : QM} {st : List CV} {L : QL} {l0 l1 l2 l3 l4 l5 : Option CV} {z : Int} : Rr C mX13_does (33, [l0, some (qi z), l2, l3, l4, l5], st, M) x = Rr C mX13_does (34, [l0, some (qi z), l2, l3, l4, l5], qi z :: st, M) x := g_pl (show decode cX13_does 33 = .ok (.iload_n 1, 1) by decide +kernel) rfl
set_option maxRecDepth 20000 in
theorem kX13_does_34 {C : QC} {x : QP} {M : QM} {st : List CV} {L : QL} : Rr C mX13_does (34, L, st, M) x = Rr C mX13_does (35, L, qi 4 :: st, M) x := g_pl (show decode cX13_does 34 = .ok (.iconst 4, 1) by decide +kernel) rfl
set_option maxRecDepth 20000 in
theorem kX13_does_35 {C : QC} {x : QP} {M : QM} {st : List CV} {L : QL} {a b : Int} : Rr C mX13_does (35, L, qi b :: qi a :: st, M) x = Rr C mX13_does (36, L, qi (a + b) :: st, M) x := g_pl (show decode cX13_does 35 = .ok (.iadd, 1) by decide +kernel) rfl
set_option maxRecDepth 20000 in
theorem kX13_does_36 {C : QC} {x : QP} {M : QM} {st : List CV} {L : QL} {a : Nat} {j : Int} (hk : (q_kd M a).1 = 2) (h0 : 0 ≤ j) (h1 : j < ((q_kd M a).2 : Int)) : Rr C mX13_does (36, L, qi j :: qr a :: st, M) x = Rr C mX13_does (37, L, q_fv M a j.toNat :: st, M) x := g_iald (show decode cX13_does 36 = .ok (.iaload, 1) by decide +kernel) hk h0 h1
set_option maxRecDepth 20000 in
theorem kX13_does_37 {C : QC} {x : QP} {M : QM} {st : List CV} {L : QL} {z : Int} {a : Nat} (hk : q_kd M a = (1, 13)) : Rr C mX13_does (37, L, qi z :: qr a :: st, M) x = Rr C mX13_does (40, L, st, q_wr M a 9 (qi z)) x := g_putf (ow := 13) (ini := false) (e := (13, 9, RX13, 1310, 0)) (r := (RX13, TX13, 17)) (t := tyX13) (show decode cX13_does 37 = .ok (.putfield 88, 3) by decide +kernel) rfl rfl rfl rfl (by decide +kernel) hk
set_option maxRecDepth 20000 in
theorem kX13_does_40 {C : QC} {x : QP} {M : QM} {st : List CV} {L : QL} : Rr C mX13_does (40, L, st, M) x = Rr C mX13_does (41, L, qi 0 :: st, M) x := g_pl (show decode cX13_does 40 = .ok (.iconst 0, 1) by decide +kernel) rfl
set_option maxRecDepth 20000 in
theorem kX13_does_41 {C : QC} {x : QP} {M : QM} {st : List CV} {L : QL} {l0 l1 l2 l3 l4 l5 : Option CV} {z : Int} : Rr C mX13_does (41, [l0, l1, l2, l3, l4, l5], qi z :: st, M) x = Rr C mX13_does (43, [l0, l1, l2, l3, q_cut l4, some (qi z)], st, M) x := g_pl (show decode cX13_does 41 = .ok (.istore 5, 2) by decide +kernel) rfl
set_option maxRecDepth 20000 in
theorem kX13_does_43 {C : QC} {x : QP} {M : QM} {st : List CV} {L : QL} {l0 l1 l2 l3 l4 l5 : Option CV} {z : Int} : Rr C mX13_does (43, [l0, l1, l2, l3, l4, some (qi z)], st, M) x = Rr C mX13_does (45, [l0, l1, l2, l3, l4, some (qi z)], qi z :: st, M) x := g_pl (show decode cX13_does 43 = .ok (.iload 5, 2) by decide +kernel) rfl
set_option maxRecDepth 20000 in
theorem kX13_does_45 {C : QC} {x : QP} {M : QM} {st : List CV} {L : QL} {l0 l1 l2 l3 l4 l5 : Option CV} {r : Option Nat} : Rr C mX13_does (45, [some (.inr (.inr r)), l1, l2, l3, l4, l5], st, M) x = Rr C mX13_does (46, [some (.inr (.inr r)), l1, l2, l3, l4, l5], .inr (.inr r) :: st, M) x := g_pl (show decode cX13_does 45 = .ok (.aload_n 0, 1) by decide +kernel) rfl
set_option maxRecDepth 20000 in
theorem kX13_does_46 {C : QC} {x : QP} {M : QM} {st : List CV} {L : QL} {a : Nat} (hk : q_kd M a = (1, 13)) : Rr C mX13_does (46, L, qr a :: st, M) x = Rr C mX13_does (49, L, q_fv M a 9 :: st, M) x := g_getf (ow := 13) (e := (13, 9, RX13, 1310, 0)) (show decode cX13_does 46 = .ok (.getfield 88, 3) by decide +kernel) rfl hk
set_option maxRecDepth 20000 in
theorem kX13_does_49 {C : QC} {x : QP} {M : QM} {st : List CV} {L : QL} {a b : Int} (ha1 : -2147483648 ≤ a) (ha2 : a < 2147483648) (hb1 : -2147483648 ≤ b) (hb2 : b < 2147483648) : Rr C mX13_does (49, L, qi b :: qi a :: st, M) x = (if a < b then Rr C mX13_does (52, L, st, M) x else Rr C mX13_does (76, L, st, M) x) := (g_icmp (show decode cX13_does 49 = .ok (.if_icmp .ge 27, 3) by decide +kernel) rfl ha1 ha2 hb1 hb2).trans (g_itn c_ge)
set_option maxRecDepth 20000 in
theorem kX13_does_52 {C : QC} {x : QP} {M : QM} {st : List CV} {L : QL} {l0 l1 l2 l3 l4 l5 : Option CV} {r : Option Nat} : Rr C mX13_does (52, [some (.inr (.inr r)), l1, l2, l3, l4, l5], st, M) x = Rr C mX13_does (53, [some (.inr (.inr r)), l1, l2, l3, l4, l5], .inr (.inr r) :: st, M) x := g_pl (show decode cX13_does 52 = .ok (.aload_n 0, 1) by decide +kernel) rfl
set_option maxRecDepth 20000 in
theorem kX13_does_53 {C : QC} {x : QP} {M : QM} {st : List CV} {L : QL} {a : Nat} (hk : q_kd M a = (1, 13)) : Rr C mX13_does (53, L, qr a :: st, M) x = Rr C mX13_does (56, L, q_fv M a 8 :: st, M) x := g_getf (ow := 13) (e := (13, 8, RX13, 1309, 0)) (show decode cX13_does 53 = .ok (.getfield 21, 3) by decide +kernel) rfl hk
set_option maxRecDepth 20000 in
theorem kX13_does_56 {C : QC} {x : QP} {M : QM} {st : List CV} {L : QL} {l0 l1 l2 l3 l4 l5 : Option CV} {z : Int} : Rr C mX13_does (56, [l0, l1, l2, l3, l4, some (qi z)], st, M) x = Rr C mX13_does (58, [l0, l1, l2, l3, l4, some (qi z)], qi z :: st, M) x := g_pl (show decode cX13_does 56 = .ok (.iload 5, 2) by decide +kernel) rfl
set_option maxRecDepth 20000 in
theorem kX13_does_58 {C : QC} {x : QP} {M : QM} {st : List CV} {L : QL} {l0 l1 l2 l3 l4 l5 : Option CV} {r : Option Nat} : Rr C mX13_does (58, [some (.inr (.inr r)), l1, l2, l3, l4, l5], st, M) x = Rr C mX13_does (59, [some (.inr (.inr r)), l1, l2, l3, l4, l5], .inr (.inr r) :: st, M) x := g_pl (show decode cX13_does 58 = .ok (.aload_n 0, 1) by decide +kernel) rfl
set_option maxRecDepth 20000 in
theorem kX13_does_59 {C : QC} {x : QP} {M : QM} {st : List CV} {L : QL} {a : Nat} (hk : q_kd M a = (1, 13)) : Rr C mX13_does (59, L, qr a :: st, M) x = Rr C mX13_does (62, L, q_fv M a 10 :: st, M) x := g_getf (ow := 13) (e := (13, 10, RX13, 1311, 0)) (show decode cX13_does 59 = .ok (.getfield 24, 3) by decide +kernel) rfl hk
set_option maxRecDepth 20000 in
theorem kX13_does_62 {C : QC} {x : QP} {M : QM} {st : List CV} {L : QL} {l0 l1 l2 l3 l4 l5 : Option CV} {z : Int} : Rr C mX13_does (62, [l0, some (qi z), l2, l3, l4, l5], st, M) x = Rr C mX13_does (63, [l0, some (qi z), l2, l3, l4, l5], qi z :: st, M) x := g_pl (show decode cX13_does 62 = .ok (.iload_n 1, 1) by decide +kernel) rfl
set_option maxRecDepth 20000 in
theorem kX13_does_63 {C : QC} {x : QP} {M : QM} {st : List CV} {L : QL} : Rr C mX13_does (63, L, st, M) x = Rr C mX13_does (64, L, qi 5 :: st, M) x := g_pl (show decode cX13_does 63 = .ok (.iconst 5, 1) by decide +kernel) rfl
set_option maxRecDepth 20000 in
theorem kX13_does_64 {C : QC} {x : QP} {M : QM} {st : List CV} {L : QL} {a b : Int} : Rr C mX13_does (64, L, qi b :: qi a :: st, M) x = Rr C mX13_does (65, L, qi (a + b) :: st, M) x := g_pl (show decode cX13_does 64 = .ok (.iadd, 1) by decide +kernel) rfl
set_option maxRecDepth 20000 in
theorem kX13_does_65 {C : QC} {x : QP} {M : QM} {st : List CV} {L : QL} {l0 l1 l2 l3 l4 l5 : Option CV} {z : Int} : Rr C mX13_does (65, [l0, l1, l2, l3, l4, some (qi z)], st, M) x = Rr C mX13_does (67, [l0, l1, l2, l3, l4, some (qi z)], qi z :: st, M) x := g_pl (show decode cX13_does 65 = .ok (.iload 5, 2) by decide +kernel) rfl
set_option maxRecDepth 20000 in
theorem kX13_does_67 {C : QC} {x : QP} {M : QM} {st : List CV} {L : QL} {a b : Int} : Rr C mX13_does (67, L, qi b :: qi a :: st, M) x = Rr C mX13_does (68, L, qi (a + b) :: st, M) x := g_pl (show decode cX13_does 67 = .ok (.iadd, 1) by decide +kernel) rfl
set_option maxRecDepth 20000 in
theorem kX13_does_68 {C : QC} {x : QP} {M : QM} {st : List CV} {L : QL} {a : Nat} {j : Int} (hk : (q_kd M a).1 = 2) (h0 : 0 ≤ j) (h1 : j < ((q_kd M a).2 : Int)) : Rr C mX13_does (68, L, qi j :: qr a :: st, M) x = Rr C mX13_does (69, L, q_fv M a j.toNat :: st, M) x := g_iald (show decode cX13_does 68 = .ok (.iaload, 1) by decide +kernel) hk h0 h1
set_option maxRecDepth 20000 in
theorem kX13_does_69 {C : QC} {x : QP} {M : QM} {st : List CV} {L : QL} {a : Nat} {j v : Int} (hk : (q_kd M a).1 = 2) (h0 : 0 ≤ j) (h1 : j < ((q_kd M a).2 : Int)) : Rr C mX13_does (69, L, qi v :: qi j :: qr a :: st, M) x = Rr C mX13_does (70, L, st, q_wr M a j.toNat (qi v)) x := g_iast (show decode cX13_does 69 = .ok (.iastore, 1) by decide +kernel) hk h0 h1
set_option maxRecDepth 20000 in
theorem kX13_does_70 {C : QC} {x : QP} {M : QM} {st : List CV} {L : QL} {l0 l1 l2 l3 l4 l5 : Option CV} {z : Int} : Rr C mX13_does (70, [l0, l1, l2, l3, l4, some (qi z)], st, M) x = Rr C mX13_does (73, [l0, l1, l2, l3, q_cut l4, some (qi (z + 1))], st, M) x := g_pl (show decode cX13_does 70 = .ok (.iinc 5 1, 3) by decide +kernel) rfl
set_option maxRecDepth 20000 in
theorem kX13_does_73 {C : QC} {x : QP} {M : QM} {st : List CV} {L : QL} : Rr C mX13_does (73, L, st, M) x = Rr C mX13_does (43, L, st, M) x := g_pl (show decode cX13_does 73 = .ok (.goto (-30), 3) by decide +kernel) rfl
set_option maxRecDepth 20000 in
theorem kX13_does_76 {C : QC} {x : QP} {M : QM} {st : List CV} {L : QL} {l0 l1 l2 l3 l4 l5 : Option CV} {r : Option Nat} : Rr C mX13_does (76, [some (.inr (.inr r)), l1, l2, l3, l4, l5], st, M) x = Rr C mX13_does (77, [some (.inr (.inr r)), l1, l2, l3, l4, l5], .inr (.inr r) :: st, M) x := g_pl (show decode cX13_does 76 = .ok (.aload_n 0, 1) by decide +kernel) rfl
set_option maxRecDepth 20000 in
theorem kX13_does_77 {C : QC} {x : QP} {M : QM} {st : List CV} {L : QL} {a : Nat} (hk : q_kd M a = (1, 13)) : Rr C mX13_does (77, L, qr a :: st, M) x = Rr C mX13_does (80, L, q_fv M a 10 :: st, M) x := g_getf (ow := 13) (e := (13, 10, RX13, 1311, 0)) (show decode cX13_does 77 = .ok (.getfield 24, 3) by decide +kernel) rfl hk
set_option maxRecDepth 20000 in
theorem kX13_does_80 {C : QC} {x : QP} {M : QM} {st : List CV} {L : QL} {l0 l1 l2 l3 l4 l5 : Option CV} {z : Int} : Rr C mX13_does (80, [l0, some (qi z), l2, l3, l4, l5], st, M) x = Rr C mX13_does (81, [l0, some (qi z), l2, l3, l4, l5], qi z :: st, M) x := g_pl (show decode cX13_does 80 = .ok (.iload_n 1, 1) by decide +kernel) rfl
set_option maxRecDepth 20000 in
theorem kX13_does_81 {C : QC} {x : QP} {M : QM} {st : List CV} {L : QL} {a : Nat} {j : Int} (hk : (q_kd M a).1 = 2) (h0 : 0 ≤ j) (h1 : j < ((q_kd M a).2 : Int)) : Rr C mX13_does (81, L, qi j :: qr a :: st, M) x = Rr C mX13_does (82, L, q_fv M a j.toNat :: st, M) x := g_iald (show decode cX13_does 81 = .ok (.iaload, 1) by decide +kernel) hk h0 h1
set_option maxRecDepth 20000 in
theorem kX13_does_82 {C : QC} {x : QP} {M : QM} {st : List CV} {L : QL} {a : Int} (ha1 : -2147483648 ≤ a) (ha2 : a < 2147483648) : Rr C mX13_does (82, L, qi a :: st, M) x = (if a = 102 then Rr C mX13_does (152, L, st, M) x else if a = 103 then Rr C mX13_does (256, L, st, M) x else if a = 104 then Rr C mX13_does (283, L, st, M) x else if a = 105 then Rr C mX13_does (283, L, st, M) x else if a = 106 then Rr C mX13_does (283, L, st, M) x else if a = 107 then Rr C mX13_does (283, L, st, M) x else if a = 108 then Rr C mX13_does (283, L, st, M) x else if a = 109 then Rr C mX13_does (204, L, st, M) x else if a = 110 then Rr C mX13_does (283, L, st, M) x else if a = 111 then Rr C mX13_does (283, L, st, M) x else if a = 112 then Rr C mX13_does (283, L, st, M) x else if a = 113 then Rr C mX13_does (283, L, st, M) x else if a = 114 then Rr C mX13_does (179, L, st, M) x else if a = 115 then Rr C mX13_does (231, L, st, M) x else Rr C mX13_does (283, L, st, M) x) := by
  by_cases h0 : a = 102
  · subst h0; rw [if_pos rfl]; exact g_tsI (show decode cX13_does 82 = .ok (.tableswitch 201 102 115 #[70, 174, 201, 201, 201, 201, 201, 122, 201, 201, 201, 201, 97, 149], 70) by decide +kernel) (by decide) (by decide) rfl rfl
  rw [if_neg h0]
  by_cases h1 : a = 103
  · subst h1; rw [if_pos rfl]; exact g_tsI (show decode cX13_does 82 = .ok (.tableswitch 201 102 115 #[70, 174, 201, 201, 201, 201, 201, 122, 201, 201, 201, 201, 97, 149], 70) by decide +kernel) (by decide) (by decide) rfl rfl
  rw [if_neg h1]
  by_cases h2 : a = 104
  · subst h2; rw [if_pos rfl]; exact g_tsI (show decode cX13_does 82 = .ok (.tableswitch 201 102 115 #[70, 174, 201, 201, 201, 201, 201, 122, 201, 201, 201, 201, 97, 149], 70) by decide +kernel) (by decide) (by decide) rfl rfl
  rw [if_neg h2]
  by_cases h3 : a = 105
  · subst h3; rw [if_pos rfl]; exact g_tsI (show decode cX13_does 82 = .ok (.tableswitch 201 102 115 #[70, 174, 201, 201, 201, 201, 201, 122, 201, 201, 201, 201, 97, 149], 70) by decide +kernel) (by decide) (by decide) rfl rfl
  rw [if_neg h3]
  by_cases h4 : a = 106
  · subst h4; rw [if_pos rfl]; exact g_tsI (show decode cX13_does 82 = .ok (.tableswitch 201 102 115 #[70, 174, 201, 201, 201, 201, 201, 122, 201, 201, 201, 201, 97, 149], 70) by decide +kernel) (by decide) (by decide) rfl rfl
  rw [if_neg h4]
  by_cases h5 : a = 107
  · subst h5; rw [if_pos rfl]; exact g_tsI (show decode cX13_does 82 = .ok (.tableswitch 201 102 115 #[70, 174, 201, 201, 201, 201, 201, 122, 201, 201, 201, 201, 97, 149], 70) by decide +kernel) (by decide) (by decide) rfl rfl
  rw [if_neg h5]
  by_cases h6 : a = 108
  · subst h6; rw [if_pos rfl]; exact g_tsI (show decode cX13_does 82 = .ok (.tableswitch 201 102 115 #[70, 174, 201, 201, 201, 201, 201, 122, 201, 201, 201, 201, 97, 149], 70) by decide +kernel) (by decide) (by decide) rfl rfl
  rw [if_neg h6]
  by_cases h7 : a = 109
  · subst h7; rw [if_pos rfl]; exact g_tsI (show decode cX13_does 82 = .ok (.tableswitch 201 102 115 #[70, 174, 201, 201, 201, 201, 201, 122, 201, 201, 201, 201, 97, 149], 70) by decide +kernel) (by decide) (by decide) rfl rfl
  rw [if_neg h7]
  by_cases h8 : a = 110
  · subst h8; rw [if_pos rfl]; exact g_tsI (show decode cX13_does 82 = .ok (.tableswitch 201 102 115 #[70, 174, 201, 201, 201, 201, 201, 122, 201, 201, 201, 201, 97, 149], 70) by decide +kernel) (by decide) (by decide) rfl rfl
  rw [if_neg h8]
  by_cases h9 : a = 111
  · subst h9; rw [if_pos rfl]; exact g_tsI (show decode cX13_does 82 = .ok (.tableswitch 201 102 115 #[70, 174, 201, 201, 201, 201, 201, 122, 201, 201, 201, 201, 97, 149], 70) by decide +kernel) (by decide) (by decide) rfl rfl
  rw [if_neg h9]
  by_cases h10 : a = 112
  · subst h10; rw [if_pos rfl]; exact g_tsI (show decode cX13_does 82 = .ok (.tableswitch 201 102 115 #[70, 174, 201, 201, 201, 201, 201, 122, 201, 201, 201, 201, 97, 149], 70) by decide +kernel) (by decide) (by decide) rfl rfl
  rw [if_neg h10]
  by_cases h11 : a = 113
  · subst h11; rw [if_pos rfl]; exact g_tsI (show decode cX13_does 82 = .ok (.tableswitch 201 102 115 #[70, 174, 201, 201, 201, 201, 201, 122, 201, 201, 201, 201, 97, 149], 70) by decide +kernel) (by decide) (by decide) rfl rfl
  rw [if_neg h11]
  by_cases h12 : a = 114
  · subst h12; rw [if_pos rfl]; exact g_tsI (show decode cX13_does 82 = .ok (.tableswitch 201 102 115 #[70, 174, 201, 201, 201, 201, 201, 122, 201, 201, 201, 201, 97, 149], 70) by decide +kernel) (by decide) (by decide) rfl rfl
  rw [if_neg h12]
  by_cases h13 : a = 115
  · subst h13; rw [if_pos rfl]; exact g_tsI (show decode cX13_does 82 = .ok (.tableswitch 201 102 115 #[70, 174, 201, 201, 201, 201, 201, 122, 201, 201, 201, 201, 97, 149], 70) by decide +kernel) (by decide) (by decide) rfl rfl
  rw [if_neg h13]
  exact g_tsO (show decode cX13_does 82 = .ok (.tableswitch 201 102 115 #[70, 174, 201, 201, 201, 201, 201, 122, 201, 201, 201, 201, 97, 149], 70) by decide +kernel) ⟨ha1, ha2⟩ (by omega) rfl
set_option maxRecDepth 20000 in
theorem kX13_does_152 {C : QC} {x : QP} {M : QM} {st : List CV} {L : QL} {l0 l1 l2 l3 l4 l5 : Option CV} {r : Option Nat} : Rr C mX13_does (152, [some (.inr (.inr r)), l1, l2, l3, l4, l5], st, M) x = Rr C mX13_does (153, [some (.inr (.inr r)), l1, l2, l3, l4, l5], .inr (.inr r) :: st, M) x := g_pl (show decode cX13_does 152 = .ok (.aload_n 0, 1) by decide +kernel) rfl
set_option maxRecDepth 20000 in
theorem kX13_does_153 {C : QC} {x : QP} {M : QM} {st : List CV} {L : QL} {l0 l1 l2 l3 l4 l5 : Option CV} {z : Int} : Rr C mX13_does (153, [l0, l1, some (qi z), l3, l4, l5], st, M) x = Rr C mX13_does (154, [l0, l1, some (qi z), l3, l4, l5], qi z :: st, M) x := g_pl (show decode cX13_does 153 = .ok (.iload_n 2, 1) by decide +kernel) rfl
set_option maxRecDepth 20000 in
theorem kX13_does_154 {C : QC} {x : QP} {M : QM} {st : List CV} {L : QL} {l0 l1 l2 l3 l4 l5 : Option CV} {z : Int} : Rr C mX13_does (154, [l0, l1, l2, some (qi z), l4, l5], st, M) x = Rr C mX13_does (155, [l0, l1, l2, some (qi z), l4, l5], qi z :: st, M) x := g_pl (show decode cX13_does 154 = .ok (.iload_n 3, 1) by decide +kernel) rfl
set_option maxRecDepth 20000 in
theorem kX13_does_155 {C : QC} {x : QP} {M : QM} {st : List CV} {L : QL} {l0 l1 l2 l3 l4 l5 : Option CV} {z : Int} : Rr C mX13_does (155, [l0, l1, l2, l3, some (qi z), l5], st, M) x = Rr C mX13_does (157, [l0, l1, l2, l3, some (qi z), l5], qi z :: st, M) x := g_pl (show decode cX13_does 155 = .ok (.iload 4, 2) by decide +kernel) rfl
set_option maxRecDepth 20000 in
theorem kX13_does_157 {C : QC} {x : QP} {M : QM} {L : QL} {rest : List CV} {a0 a1 a2 : CV} {v : CV} {M1 : QM} {b : Nat} (hb : q_kd M b = (1, 13)) (hC : C iX13_noFounding [qr b, a0, a1, a2] M (some v) M1) (hw : (rest.map q_wd).sum ≤ 8) (k : Rr C mX13_does (160, L, v :: rest, M1) x) : Rr C mX13_does (157, L, a2 :: a1 :: a0 :: qr b :: rest, M) x := g_cv (ow := 13) (e := (0, 204, 13, [1380, 1382, 30, 94])) (as := [a0, a1, a2]) (show decode cX13_does 157 = .ok (.invokevirtual 133, 3) by decide +kernel) rfl rfl rfl (Or.inl rfl) rfl hb hC hw k
set_option maxRecDepth 20000 in
theorem kX13_does_160 {C : QC} {x : QP} {M : QM} {st : List CV} {L : QL} {l0 l1 l2 l3 l4 l5 : Option CV} {z : Int} : Rr C mX13_does (160, [l0, l1, l2, l3, l4, l5], qi z :: st, M) x = Rr C mX13_does (162, [l0, l1, l2, l3, q_cut l4, some (qi z)], st, M) x := g_pl (show decode cX13_does 160 = .ok (.istore 5, 2) by decide +kernel) rfl
set_option maxRecDepth 20000 in
theorem kX13_does_162 {C : QC} {x : QP} {M : QM} {st : List CV} {L : QL} {l0 l1 l2 l3 l4 l5 : Option CV} {z : Int} : Rr C mX13_does (162, [l0, l1, l2, l3, l4, some (qi z)], st, M) x = Rr C mX13_does (164, [l0, l1, l2, l3, l4, some (qi z)], qi z :: st, M) x := g_pl (show decode cX13_does 162 = .ok (.iload 5, 2) by decide +kernel) rfl
set_option maxRecDepth 20000 in
theorem kX13_does_164 {C : QC} {x : QP} {M : QM} {st : List CV} {L : QL} {a : Int} (ha1 : -2147483648 ≤ a) (ha2 : a < 2147483648) : Rr C mX13_does (164, L, qi a :: st, M) x = (if a = 0 then Rr C mX13_does (167, L, st, M) x else Rr C mX13_does (176, L, st, M) x) := (g_if (show decode cX13_does 164 = .ok (.ifCond .ne 12, 3) by decide +kernel) rfl ha1 ha2).trans (g_itn c_ne)
set_option maxRecDepth 20000 in
theorem kX13_does_167 {C : QC} {x : QP} {M : QM} {st : List CV} {L : QL} {l0 l1 l2 l3 l4 l5 : Option CV} {r : Option Nat} : Rr C mX13_does (167, [some (.inr (.inr r)), l1, l2, l3, l4, l5], st, M) x = Rr C mX13_does (168, [some (.inr (.inr r)), l1, l2, l3, l4, l5], .inr (.inr r) :: st, M) x := g_pl (show decode cX13_does 167 = .ok (.aload_n 0, 1) by decide +kernel) rfl
set_option maxRecDepth 20000 in
theorem kX13_does_168 {C : QC} {x : QP} {M : QM} {st : List CV} {L : QL} {l0 l1 l2 l3 l4 l5 : Option CV} {z : Int} : Rr C mX13_does (168, [l0, l1, some (qi z), l3, l4, l5], st, M) x = Rr C mX13_does (169, [l0, l1, some (qi z), l3, l4, l5], qi z :: st, M) x := g_pl (show decode cX13_does 168 = .ok (.iload_n 2, 1) by decide +kernel) rfl
set_option maxRecDepth 20000 in
theorem kX13_does_169 {C : QC} {x : QP} {M : QM} {st : List CV} {L : QL} {l0 l1 l2 l3 l4 l5 : Option CV} {z : Int} : Rr C mX13_does (169, [l0, l1, l2, some (qi z), l4, l5], st, M) x = Rr C mX13_does (170, [l0, l1, l2, some (qi z), l4, l5], qi z :: st, M) x := g_pl (show decode cX13_does 169 = .ok (.iload_n 3, 1) by decide +kernel) rfl
set_option maxRecDepth 20000 in
theorem kX13_does_170 {C : QC} {x : QP} {M : QM} {st : List CV} {L : QL} {l0 l1 l2 l3 l4 l5 : Option CV} {z : Int} : Rr C mX13_does (170, [l0, l1, l2, l3, some (qi z), l5], st, M) x = Rr C mX13_does (172, [l0, l1, l2, l3, some (qi z), l5], qi z :: st, M) x := g_pl (show decode cX13_does 170 = .ok (.iload 4, 2) by decide +kernel) rfl
set_option maxRecDepth 20000 in
theorem kX13_does_172 {C : QC} {x : QP} {M : QM} {L : QL} {rest : List CV} {a0 a1 a2 : CV} {v : CV} {M1 : QM} {b : Nat} (hb : q_kd M b = (1, 13)) (hC : C iX13_founds [qr b, a0, a1, a2] M (some v) M1) (hw : (rest.map q_wd).sum ≤ 8) (k : Rr C mX13_does (175, L, v :: rest, M1) x) : Rr C mX13_does (172, L, a2 :: a1 :: a0 :: qr b :: rest, M) x := g_cv (ow := 13) (e := (0, 213, 13, [1415, 1417, 38, 94])) (as := [a0, a1, a2]) (show decode cX13_does 172 = .ok (.invokevirtual 126, 3) by decide +kernel) rfl rfl rfl (Or.inl rfl) rfl hb hC hw k
set_option maxRecDepth 20000 in
theorem kX13_does_175 {C : QC} {x : QP} {M : QM} {st : List CV} {L : QL} {l0 l1 l2 l3 l4 l5 : Option CV} {z : Int} : Rr C mX13_does (175, [l0, l1, l2, l3, l4, l5], qi z :: st, M) x = Rr C mX13_does (176, [l0, q_cut l1, some (qi z), l3, l4, l5], st, M) x := g_pl (show decode cX13_does 175 = .ok (.istore_n 2, 1) by decide +kernel) rfl
set_option maxRecDepth 20000 in
theorem kX13_does_176 {C : QC} {x : QP} {M : QM} {st : List CV} {L : QL} {l0 l1 l2 l3 l4 l5 : Option CV} {z : Int} : Rr C mX13_does (176, [l0, l1, l2, l3, l4, some (qi z)], st, M) x = Rr C mX13_does (178, [l0, l1, l2, l3, l4, some (qi z)], qi z :: st, M) x := g_pl (show decode cX13_does 176 = .ok (.iload 5, 2) by decide +kernel) rfl
set_option maxRecDepth 20000 in
theorem kX13_does_178 {C : QC} {x : QP} {M : QM} {st : List CV} {L : QL} {z : Int} : Rr C mX13_does (178, L, [qi z], M) x = x (some (qi z)) M := g_iret (show decode cX13_does 178 = .ok (.ireturn, 1) by decide +kernel) rfl
set_option maxRecDepth 20000 in
theorem kX13_does_179 {C : QC} {x : QP} {M : QM} {st : List CV} {L : QL} {l0 l1 l2 l3 l4 l5 : Option CV} {r : Option Nat} : Rr C mX13_does (179, [some (.inr (.inr r)), l1, l2, l3, l4, l5], st, M) x = Rr C mX13_does (180, [some (.inr (.inr r)), l1, l2, l3, l4, l5], .inr (.inr r) :: st, M) x := g_pl (show decode cX13_does 179 = .ok (.aload_n 0, 1) by decide +kernel) rfl
set_option maxRecDepth 20000 in
theorem kX13_does_180 {C : QC} {x : QP} {M : QM} {st : List CV} {L : QL} {l0 l1 l2 l3 l4 l5 : Option CV} {z : Int} : Rr C mX13_does (180, [l0, l1, some (qi z), l3, l4, l5], st, M) x = Rr C mX13_does (181, [l0, l1, some (qi z), l3, l4, l5], qi z :: st, M) x := g_pl (show decode cX13_does 180 = .ok (.iload_n 2, 1) by decide +kernel) rfl
set_option maxRecDepth 20000 in
theorem kX13_does_181 {C : QC} {x : QP} {M : QM} {st : List CV} {L : QL} {l0 l1 l2 l3 l4 l5 : Option CV} {z : Int} : Rr C mX13_does (181, [l0, l1, l2, l3, some (qi z), l5], st, M) x = Rr C mX13_does (183, [l0, l1, l2, l3, some (qi z), l5], qi z :: st, M) x := g_pl (show decode cX13_does 181 = .ok (.iload 4, 2) by decide +kernel) rfl
set_option maxRecDepth 20000 in
theorem kX13_does_183 {C : QC} {x : QP} {M : QM} {L : QL} {rest : List CV} {a0 a1 : CV} {v : CV} {M1 : QM} {b : Nat} (hb : q_kd M b = (1, 13)) (hC : C iX13_noEvent [qr b, a0, a1] M (some v) M1) (hw : (rest.map q_wd).sum ≤ 8) (k : Rr C mX13_does (186, L, v :: rest, M1) x) : Rr C mX13_does (183, L, a1 :: a0 :: qr b :: rest, M) x := g_cv (ow := 13) (e := (0, 219, 13, [1439, 1441, 43, 94])) (as := [a0, a1]) (show decode cX13_does 183 = .ok (.invokevirtual 106, 3) by decide +kernel) rfl rfl rfl (Or.inl rfl) rfl hb hC hw k
set_option maxRecDepth 20000 in
theorem kX13_does_186 {C : QC} {x : QP} {M : QM} {st : List CV} {L : QL} {l0 l1 l2 l3 l4 l5 : Option CV} {z : Int} : Rr C mX13_does (186, [l0, l1, l2, l3, l4, l5], qi z :: st, M) x = Rr C mX13_does (188, [l0, l1, l2, l3, q_cut l4, some (qi z)], st, M) x := g_pl (show decode cX13_does 186 = .ok (.istore 5, 2) by decide +kernel) rfl
set_option maxRecDepth 20000 in
theorem kX13_does_188 {C : QC} {x : QP} {M : QM} {st : List CV} {L : QL} {l0 l1 l2 l3 l4 l5 : Option CV} {z : Int} : Rr C mX13_does (188, [l0, l1, l2, l3, l4, some (qi z)], st, M) x = Rr C mX13_does (190, [l0, l1, l2, l3, l4, some (qi z)], qi z :: st, M) x := g_pl (show decode cX13_does 188 = .ok (.iload 5, 2) by decide +kernel) rfl
set_option maxRecDepth 20000 in
theorem kX13_does_190 {C : QC} {x : QP} {M : QM} {st : List CV} {L : QL} {a : Int} (ha1 : -2147483648 ≤ a) (ha2 : a < 2147483648) : Rr C mX13_does (190, L, qi a :: st, M) x = (if a = 0 then Rr C mX13_does (193, L, st, M) x else Rr C mX13_does (201, L, st, M) x) := (g_if (show decode cX13_does 190 = .ok (.ifCond .ne 11, 3) by decide +kernel) rfl ha1 ha2).trans (g_itn c_ne)
set_option maxRecDepth 20000 in
theorem kX13_does_193 {C : QC} {x : QP} {M : QM} {st : List CV} {L : QL} {l0 l1 l2 l3 l4 l5 : Option CV} {r : Option Nat} : Rr C mX13_does (193, [some (.inr (.inr r)), l1, l2, l3, l4, l5], st, M) x = Rr C mX13_does (194, [some (.inr (.inr r)), l1, l2, l3, l4, l5], .inr (.inr r) :: st, M) x := g_pl (show decode cX13_does 193 = .ok (.aload_n 0, 1) by decide +kernel) rfl
set_option maxRecDepth 20000 in
theorem kX13_does_194 {C : QC} {x : QP} {M : QM} {st : List CV} {L : QL} {l0 l1 l2 l3 l4 l5 : Option CV} {z : Int} : Rr C mX13_does (194, [l0, l1, some (qi z), l3, l4, l5], st, M) x = Rr C mX13_does (195, [l0, l1, some (qi z), l3, l4, l5], qi z :: st, M) x := g_pl (show decode cX13_does 194 = .ok (.iload_n 2, 1) by decide +kernel) rfl
set_option maxRecDepth 20000 in
theorem kX13_does_195 {C : QC} {x : QP} {M : QM} {st : List CV} {L : QL} {l0 l1 l2 l3 l4 l5 : Option CV} {z : Int} : Rr C mX13_does (195, [l0, l1, l2, l3, some (qi z), l5], st, M) x = Rr C mX13_does (197, [l0, l1, l2, l3, some (qi z), l5], qi z :: st, M) x := g_pl (show decode cX13_does 195 = .ok (.iload 4, 2) by decide +kernel) rfl
set_option maxRecDepth 20000 in
theorem kX13_does_197 {C : QC} {x : QP} {M : QM} {L : QL} {rest : List CV} {a0 a1 : CV} {v : CV} {M1 : QM} {b : Nat} (hb : q_kd M b = (1, 13)) (hC : C iX13_renames [qr b, a0, a1] M (some v) M1) (hw : (rest.map q_wd).sum ≤ 8) (k : Rr C mX13_does (200, L, v :: rest, M1) x) : Rr C mX13_does (197, L, a1 :: a0 :: qr b :: rest, M) x := g_cv (ow := 13) (e := (0, 221, 13, [1447, 1449, 45, 94])) (as := [a0, a1]) (show decode cX13_does 197 = .ok (.invokevirtual 143, 3) by decide +kernel) rfl rfl rfl (Or.inl rfl) rfl hb hC hw k
set_option maxRecDepth 20000 in
theorem kX13_does_200 {C : QC} {x : QP} {M : QM} {st : List CV} {L : QL} {l0 l1 l2 l3 l4 l5 : Option CV} {z : Int} : Rr C mX13_does (200, [l0, l1, l2, l3, l4, l5], qi z :: st, M) x = Rr C mX13_does (201, [l0, q_cut l1, some (qi z), l3, l4, l5], st, M) x := g_pl (show decode cX13_does 200 = .ok (.istore_n 2, 1) by decide +kernel) rfl
set_option maxRecDepth 20000 in
theorem kX13_does_201 {C : QC} {x : QP} {M : QM} {st : List CV} {L : QL} {l0 l1 l2 l3 l4 l5 : Option CV} {z : Int} : Rr C mX13_does (201, [l0, l1, l2, l3, l4, some (qi z)], st, M) x = Rr C mX13_does (203, [l0, l1, l2, l3, l4, some (qi z)], qi z :: st, M) x := g_pl (show decode cX13_does 201 = .ok (.iload 5, 2) by decide +kernel) rfl
set_option maxRecDepth 20000 in
theorem kX13_does_203 {C : QC} {x : QP} {M : QM} {st : List CV} {L : QL} {z : Int} : Rr C mX13_does (203, L, [qi z], M) x = x (some (qi z)) M := g_iret (show decode cX13_does 203 = .ok (.ireturn, 1) by decide +kernel) rfl
set_option maxRecDepth 20000 in
theorem kX13_does_204 {C : QC} {x : QP} {M : QM} {st : List CV} {L : QL} {l0 l1 l2 l3 l4 l5 : Option CV} {r : Option Nat} : Rr C mX13_does (204, [some (.inr (.inr r)), l1, l2, l3, l4, l5], st, M) x = Rr C mX13_does (205, [some (.inr (.inr r)), l1, l2, l3, l4, l5], .inr (.inr r) :: st, M) x := g_pl (show decode cX13_does 204 = .ok (.aload_n 0, 1) by decide +kernel) rfl
set_option maxRecDepth 20000 in
theorem kX13_does_205 {C : QC} {x : QP} {M : QM} {st : List CV} {L : QL} {l0 l1 l2 l3 l4 l5 : Option CV} {z : Int} : Rr C mX13_does (205, [l0, l1, some (qi z), l3, l4, l5], st, M) x = Rr C mX13_does (206, [l0, l1, some (qi z), l3, l4, l5], qi z :: st, M) x := g_pl (show decode cX13_does 205 = .ok (.iload_n 2, 1) by decide +kernel) rfl
set_option maxRecDepth 20000 in
theorem kX13_does_206 {C : QC} {x : QP} {M : QM} {st : List CV} {L : QL} {l0 l1 l2 l3 l4 l5 : Option CV} {z : Int} : Rr C mX13_does (206, [l0, l1, l2, some (qi z), l4, l5], st, M) x = Rr C mX13_does (207, [l0, l1, l2, some (qi z), l4, l5], qi z :: st, M) x := g_pl (show decode cX13_does 206 = .ok (.iload_n 3, 1) by decide +kernel) rfl
set_option maxRecDepth 20000 in
theorem kX13_does_207 {C : QC} {x : QP} {M : QM} {st : List CV} {L : QL} {l0 l1 l2 l3 l4 l5 : Option CV} {z : Int} : Rr C mX13_does (207, [l0, l1, l2, l3, some (qi z), l5], st, M) x = Rr C mX13_does (209, [l0, l1, l2, l3, some (qi z), l5], qi z :: st, M) x := g_pl (show decode cX13_does 207 = .ok (.iload 4, 2) by decide +kernel) rfl
set_option maxRecDepth 20000 in
theorem kX13_does_209 {C : QC} {x : QP} {M : QM} {L : QL} {rest : List CV} {a0 a1 a2 : CV} {v : CV} {M1 : QM} {b : Nat} (hb : q_kd M b = (1, 13)) (hC : C iX13_noMove [qr b, a0, a1, a2] M (some v) M1) (hw : (rest.map q_wd).sum ≤ 8) (k : Rr C mX13_does (212, L, v :: rest, M1) x) : Rr C mX13_does (209, L, a2 :: a1 :: a0 :: qr b :: rest, M) x := g_cv (ow := 13) (e := (0, 225, 13, [1463, 1465, 48, 94])) (as := [a0, a1, a2]) (show decode cX13_does 209 = .ok (.invokevirtual 146, 3) by decide +kernel) rfl rfl rfl (Or.inl rfl) rfl hb hC hw k
set_option maxRecDepth 20000 in
theorem kX13_does_212 {C : QC} {x : QP} {M : QM} {st : List CV} {L : QL} {l0 l1 l2 l3 l4 l5 : Option CV} {z : Int} : Rr C mX13_does (212, [l0, l1, l2, l3, l4, l5], qi z :: st, M) x = Rr C mX13_does (214, [l0, l1, l2, l3, q_cut l4, some (qi z)], st, M) x := g_pl (show decode cX13_does 212 = .ok (.istore 5, 2) by decide +kernel) rfl
set_option maxRecDepth 20000 in
theorem kX13_does_214 {C : QC} {x : QP} {M : QM} {st : List CV} {L : QL} {l0 l1 l2 l3 l4 l5 : Option CV} {z : Int} : Rr C mX13_does (214, [l0, l1, l2, l3, l4, some (qi z)], st, M) x = Rr C mX13_does (216, [l0, l1, l2, l3, l4, some (qi z)], qi z :: st, M) x := g_pl (show decode cX13_does 214 = .ok (.iload 5, 2) by decide +kernel) rfl
set_option maxRecDepth 20000 in
theorem kX13_does_216 {C : QC} {x : QP} {M : QM} {st : List CV} {L : QL} {a : Int} (ha1 : -2147483648 ≤ a) (ha2 : a < 2147483648) : Rr C mX13_does (216, L, qi a :: st, M) x = (if a = 0 then Rr C mX13_does (219, L, st, M) x else Rr C mX13_does (228, L, st, M) x) := (g_if (show decode cX13_does 216 = .ok (.ifCond .ne 12, 3) by decide +kernel) rfl ha1 ha2).trans (g_itn c_ne)
set_option maxRecDepth 20000 in
theorem kX13_does_219 {C : QC} {x : QP} {M : QM} {st : List CV} {L : QL} {l0 l1 l2 l3 l4 l5 : Option CV} {r : Option Nat} : Rr C mX13_does (219, [some (.inr (.inr r)), l1, l2, l3, l4, l5], st, M) x = Rr C mX13_does (220, [some (.inr (.inr r)), l1, l2, l3, l4, l5], .inr (.inr r) :: st, M) x := g_pl (show decode cX13_does 219 = .ok (.aload_n 0, 1) by decide +kernel) rfl
set_option maxRecDepth 20000 in
theorem kX13_does_220 {C : QC} {x : QP} {M : QM} {st : List CV} {L : QL} {l0 l1 l2 l3 l4 l5 : Option CV} {z : Int} : Rr C mX13_does (220, [l0, l1, some (qi z), l3, l4, l5], st, M) x = Rr C mX13_does (221, [l0, l1, some (qi z), l3, l4, l5], qi z :: st, M) x := g_pl (show decode cX13_does 220 = .ok (.iload_n 2, 1) by decide +kernel) rfl
set_option maxRecDepth 20000 in
theorem kX13_does_221 {C : QC} {x : QP} {M : QM} {st : List CV} {L : QL} {l0 l1 l2 l3 l4 l5 : Option CV} {z : Int} : Rr C mX13_does (221, [l0, l1, l2, some (qi z), l4, l5], st, M) x = Rr C mX13_does (222, [l0, l1, l2, some (qi z), l4, l5], qi z :: st, M) x := g_pl (show decode cX13_does 221 = .ok (.iload_n 3, 1) by decide +kernel) rfl
set_option maxRecDepth 20000 in
theorem kX13_does_222 {C : QC} {x : QP} {M : QM} {st : List CV} {L : QL} {l0 l1 l2 l3 l4 l5 : Option CV} {z : Int} : Rr C mX13_does (222, [l0, l1, l2, l3, some (qi z), l5], st, M) x = Rr C mX13_does (224, [l0, l1, l2, l3, some (qi z), l5], qi z :: st, M) x := g_pl (show decode cX13_does 222 = .ok (.iload 4, 2) by decide +kernel) rfl
set_option maxRecDepth 20000 in
theorem kX13_does_224 {C : QC} {x : QP} {M : QM} {L : QL} {rest : List CV} {a0 a1 a2 : CV} {v : CV} {M1 : QM} {b : Nat} (hb : q_kd M b = (1, 13)) (hC : C iX13_moves [qr b, a0, a1, a2] M (some v) M1) (hw : (rest.map q_wd).sum ≤ 8) (k : Rr C mX13_does (227, L, v :: rest, M1) x) : Rr C mX13_does (224, L, a2 :: a1 :: a0 :: qr b :: rest, M) x := g_cv (ow := 13) (e := (0, 226, 13, [1467, 1469, 49, 94])) (as := [a0, a1, a2]) (show decode cX13_does 224 = .ok (.invokevirtual 149, 3) by decide +kernel) rfl rfl rfl (Or.inl rfl) rfl hb hC hw k
set_option maxRecDepth 20000 in
theorem kX13_does_227 {C : QC} {x : QP} {M : QM} {st : List CV} {L : QL} {l0 l1 l2 l3 l4 l5 : Option CV} {z : Int} : Rr C mX13_does (227, [l0, l1, l2, l3, l4, l5], qi z :: st, M) x = Rr C mX13_does (228, [l0, q_cut l1, some (qi z), l3, l4, l5], st, M) x := g_pl (show decode cX13_does 227 = .ok (.istore_n 2, 1) by decide +kernel) rfl
set_option maxRecDepth 20000 in
theorem kX13_does_228 {C : QC} {x : QP} {M : QM} {st : List CV} {L : QL} {l0 l1 l2 l3 l4 l5 : Option CV} {z : Int} : Rr C mX13_does (228, [l0, l1, l2, l3, l4, some (qi z)], st, M) x = Rr C mX13_does (230, [l0, l1, l2, l3, l4, some (qi z)], qi z :: st, M) x := g_pl (show decode cX13_does 228 = .ok (.iload 5, 2) by decide +kernel) rfl
set_option maxRecDepth 20000 in
theorem kX13_does_230 {C : QC} {x : QP} {M : QM} {st : List CV} {L : QL} {z : Int} : Rr C mX13_does (230, L, [qi z], M) x = x (some (qi z)) M := g_iret (show decode cX13_does 230 = .ok (.ireturn, 1) by decide +kernel) rfl
set_option maxRecDepth 20000 in
theorem kX13_does_231 {C : QC} {x : QP} {M : QM} {st : List CV} {L : QL} {l0 l1 l2 l3 l4 l5 : Option CV} {r : Option Nat} : Rr C mX13_does (231, [some (.inr (.inr r)), l1, l2, l3, l4, l5], st, M) x = Rr C mX13_does (232, [some (.inr (.inr r)), l1, l2, l3, l4, l5], .inr (.inr r) :: st, M) x := g_pl (show decode cX13_does 231 = .ok (.aload_n 0, 1) by decide +kernel) rfl
set_option maxRecDepth 20000 in
theorem kX13_does_232 {C : QC} {x : QP} {M : QM} {st : List CV} {L : QL} {l0 l1 l2 l3 l4 l5 : Option CV} {z : Int} : Rr C mX13_does (232, [l0, l1, some (qi z), l3, l4, l5], st, M) x = Rr C mX13_does (233, [l0, l1, some (qi z), l3, l4, l5], qi z :: st, M) x := g_pl (show decode cX13_does 232 = .ok (.iload_n 2, 1) by decide +kernel) rfl
set_option maxRecDepth 20000 in
theorem kX13_does_233 {C : QC} {x : QP} {M : QM} {st : List CV} {L : QL} {l0 l1 l2 l3 l4 l5 : Option CV} {z : Int} : Rr C mX13_does (233, [l0, l1, l2, l3, some (qi z), l5], st, M) x = Rr C mX13_does (235, [l0, l1, l2, l3, some (qi z), l5], qi z :: st, M) x := g_pl (show decode cX13_does 233 = .ok (.iload 4, 2) by decide +kernel) rfl
set_option maxRecDepth 20000 in
theorem kX13_does_235 {C : QC} {x : QP} {M : QM} {L : QL} {rest : List CV} {a0 a1 : CV} {v : CV} {M1 : QM} {b : Nat} (hb : q_kd M b = (1, 13)) (hC : C iX13_noSplit [qr b, a0, a1] M (some v) M1) (hw : (rest.map q_wd).sum ≤ 8) (k : Rr C mX13_does (238, L, v :: rest, M1) x) : Rr C mX13_does (235, L, a1 :: a0 :: qr b :: rest, M) x := g_cv (ow := 13) (e := (0, 229, 13, [1479, 1481, 51, 94])) (as := [a0, a1]) (show decode cX13_does 235 = .ok (.invokevirtual 152, 3) by decide +kernel) rfl rfl rfl (Or.inl rfl) rfl hb hC hw k
set_option maxRecDepth 20000 in
theorem kX13_does_238 {C : QC} {x : QP} {M : QM} {st : List CV} {L : QL} {l0 l1 l2 l3 l4 l5 : Option CV} {z : Int} : Rr C mX13_does (238, [l0, l1, l2, l3, l4, l5], qi z :: st, M) x = Rr C mX13_does (240, [l0, l1, l2, l3, q_cut l4, some (qi z)], st, M) x := g_pl (show decode cX13_does 238 = .ok (.istore 5, 2) by decide +kernel) rfl
set_option maxRecDepth 20000 in
theorem kX13_does_240 {C : QC} {x : QP} {M : QM} {st : List CV} {L : QL} {l0 l1 l2 l3 l4 l5 : Option CV} {z : Int} : Rr C mX13_does (240, [l0, l1, l2, l3, l4, some (qi z)], st, M) x = Rr C mX13_does (242, [l0, l1, l2, l3, l4, some (qi z)], qi z :: st, M) x := g_pl (show decode cX13_does 240 = .ok (.iload 5, 2) by decide +kernel) rfl
set_option maxRecDepth 20000 in
theorem kX13_does_242 {C : QC} {x : QP} {M : QM} {st : List CV} {L : QL} {a : Int} (ha1 : -2147483648 ≤ a) (ha2 : a < 2147483648) : Rr C mX13_does (242, L, qi a :: st, M) x = (if a = 0 then Rr C mX13_does (245, L, st, M) x else Rr C mX13_does (253, L, st, M) x) := (g_if (show decode cX13_does 242 = .ok (.ifCond .ne 11, 3) by decide +kernel) rfl ha1 ha2).trans (g_itn c_ne)
set_option maxRecDepth 20000 in
theorem kX13_does_245 {C : QC} {x : QP} {M : QM} {st : List CV} {L : QL} {l0 l1 l2 l3 l4 l5 : Option CV} {r : Option Nat} : Rr C mX13_does (245, [some (.inr (.inr r)), l1, l2, l3, l4, l5], st, M) x = Rr C mX13_does (246, [some (.inr (.inr r)), l1, l2, l3, l4, l5], .inr (.inr r) :: st, M) x := g_pl (show decode cX13_does 245 = .ok (.aload_n 0, 1) by decide +kernel) rfl
set_option maxRecDepth 20000 in
theorem kX13_does_246 {C : QC} {x : QP} {M : QM} {st : List CV} {L : QL} {l0 l1 l2 l3 l4 l5 : Option CV} {z : Int} : Rr C mX13_does (246, [l0, l1, some (qi z), l3, l4, l5], st, M) x = Rr C mX13_does (247, [l0, l1, some (qi z), l3, l4, l5], qi z :: st, M) x := g_pl (show decode cX13_does 246 = .ok (.iload_n 2, 1) by decide +kernel) rfl
set_option maxRecDepth 20000 in
theorem kX13_does_247 {C : QC} {x : QP} {M : QM} {st : List CV} {L : QL} {l0 l1 l2 l3 l4 l5 : Option CV} {z : Int} : Rr C mX13_does (247, [l0, l1, l2, l3, some (qi z), l5], st, M) x = Rr C mX13_does (249, [l0, l1, l2, l3, some (qi z), l5], qi z :: st, M) x := g_pl (show decode cX13_does 247 = .ok (.iload 4, 2) by decide +kernel) rfl
set_option maxRecDepth 20000 in
theorem kX13_does_249 {C : QC} {x : QP} {M : QM} {L : QL} {rest : List CV} {a0 a1 : CV} {v : CV} {M1 : QM} {b : Nat} (hb : q_kd M b = (1, 13)) (hC : C iX13_splits [qr b, a0, a1] M (some v) M1) (hw : (rest.map q_wd).sum ≤ 8) (k : Rr C mX13_does (252, L, v :: rest, M1) x) : Rr C mX13_does (249, L, a1 :: a0 :: qr b :: rest, M) x := g_cv (ow := 13) (e := (0, 230, 13, [1483, 1485, 52, 94])) (as := [a0, a1]) (show decode cX13_does 249 = .ok (.invokevirtual 155, 3) by decide +kernel) rfl rfl rfl (Or.inl rfl) rfl hb hC hw k
set_option maxRecDepth 20000 in
theorem kX13_does_252 {C : QC} {x : QP} {M : QM} {st : List CV} {L : QL} {l0 l1 l2 l3 l4 l5 : Option CV} {z : Int} : Rr C mX13_does (252, [l0, l1, l2, l3, l4, l5], qi z :: st, M) x = Rr C mX13_does (253, [l0, q_cut l1, some (qi z), l3, l4, l5], st, M) x := g_pl (show decode cX13_does 252 = .ok (.istore_n 2, 1) by decide +kernel) rfl
set_option maxRecDepth 20000 in
theorem kX13_does_253 {C : QC} {x : QP} {M : QM} {st : List CV} {L : QL} {l0 l1 l2 l3 l4 l5 : Option CV} {z : Int} : Rr C mX13_does (253, [l0, l1, l2, l3, l4, some (qi z)], st, M) x = Rr C mX13_does (255, [l0, l1, l2, l3, l4, some (qi z)], qi z :: st, M) x := g_pl (show decode cX13_does 253 = .ok (.iload 5, 2) by decide +kernel) rfl
set_option maxRecDepth 20000 in
theorem kX13_does_255 {C : QC} {x : QP} {M : QM} {st : List CV} {L : QL} {z : Int} : Rr C mX13_does (255, L, [qi z], M) x = x (some (qi z)) M := g_iret (show decode cX13_does 255 = .ok (.ireturn, 1) by decide +kernel) rfl
set_option maxRecDepth 20000 in
theorem kX13_does_256 {C : QC} {x : QP} {M : QM} {st : List CV} {L : QL} {l0 l1 l2 l3 l4 l5 : Option CV} {r : Option Nat} : Rr C mX13_does (256, [some (.inr (.inr r)), l1, l2, l3, l4, l5], st, M) x = Rr C mX13_does (257, [some (.inr (.inr r)), l1, l2, l3, l4, l5], .inr (.inr r) :: st, M) x := g_pl (show decode cX13_does 256 = .ok (.aload_n 0, 1) by decide +kernel) rfl
set_option maxRecDepth 20000 in
theorem kX13_does_257 {C : QC} {x : QP} {M : QM} {st : List CV} {L : QL} {l0 l1 l2 l3 l4 l5 : Option CV} {z : Int} : Rr C mX13_does (257, [l0, l1, some (qi z), l3, l4, l5], st, M) x = Rr C mX13_does (258, [l0, l1, some (qi z), l3, l4, l5], qi z :: st, M) x := g_pl (show decode cX13_does 257 = .ok (.iload_n 2, 1) by decide +kernel) rfl
set_option maxRecDepth 20000 in
theorem kX13_does_258 {C : QC} {x : QP} {M : QM} {st : List CV} {L : QL} {l0 l1 l2 l3 l4 l5 : Option CV} {z : Int} : Rr C mX13_does (258, [l0, l1, l2, some (qi z), l4, l5], st, M) x = Rr C mX13_does (259, [l0, l1, l2, some (qi z), l4, l5], qi z :: st, M) x := g_pl (show decode cX13_does 258 = .ok (.iload_n 3, 1) by decide +kernel) rfl
set_option maxRecDepth 20000 in
theorem kX13_does_259 {C : QC} {x : QP} {M : QM} {st : List CV} {L : QL} {l0 l1 l2 l3 l4 l5 : Option CV} {z : Int} : Rr C mX13_does (259, [l0, l1, l2, l3, some (qi z), l5], st, M) x = Rr C mX13_does (261, [l0, l1, l2, l3, some (qi z), l5], qi z :: st, M) x := g_pl (show decode cX13_does 259 = .ok (.iload 4, 2) by decide +kernel) rfl
set_option maxRecDepth 20000 in
theorem kX13_does_261 {C : QC} {x : QP} {M : QM} {L : QL} {rest : List CV} {a0 a1 a2 : CV} {v : CV} {M1 : QM} {b : Nat} (hb : q_kd M b = (1, 13)) (hC : C iX13_noMerge [qr b, a0, a1, a2] M (some v) M1) (hw : (rest.map q_wd).sum ≤ 8) (k : Rr C mX13_does (264, L, v :: rest, M1) x) : Rr C mX13_does (261, L, a2 :: a1 :: a0 :: qr b :: rest, M) x := g_cv (ow := 13) (e := (0, 232, 13, [1491, 1493, 53, 94])) (as := [a0, a1, a2]) (show decode cX13_does 261 = .ok (.invokevirtual 158, 3) by decide +kernel) rfl rfl rfl (Or.inl rfl) rfl hb hC hw k
set_option maxRecDepth 20000 in
theorem kX13_does_264 {C : QC} {x : QP} {M : QM} {st : List CV} {L : QL} {l0 l1 l2 l3 l4 l5 : Option CV} {z : Int} : Rr C mX13_does (264, [l0, l1, l2, l3, l4, l5], qi z :: st, M) x = Rr C mX13_does (266, [l0, l1, l2, l3, q_cut l4, some (qi z)], st, M) x := g_pl (show decode cX13_does 264 = .ok (.istore 5, 2) by decide +kernel) rfl
set_option maxRecDepth 20000 in
theorem kX13_does_266 {C : QC} {x : QP} {M : QM} {st : List CV} {L : QL} {l0 l1 l2 l3 l4 l5 : Option CV} {z : Int} : Rr C mX13_does (266, [l0, l1, l2, l3, l4, some (qi z)], st, M) x = Rr C mX13_does (268, [l0, l1, l2, l3, l4, some (qi z)], qi z :: st, M) x := g_pl (show decode cX13_does 266 = .ok (.iload 5, 2) by decide +kernel) rfl
set_option maxRecDepth 20000 in
theorem kX13_does_268 {C : QC} {x : QP} {M : QM} {st : List CV} {L : QL} {a : Int} (ha1 : -2147483648 ≤ a) (ha2 : a < 2147483648) : Rr C mX13_does (268, L, qi a :: st, M) x = (if a = 0 then Rr C mX13_does (271, L, st, M) x else Rr C mX13_does (280, L, st, M) x) := (g_if (show decode cX13_does 268 = .ok (.ifCond .ne 12, 3) by decide +kernel) rfl ha1 ha2).trans (g_itn c_ne)
set_option maxRecDepth 20000 in
theorem kX13_does_271 {C : QC} {x : QP} {M : QM} {st : List CV} {L : QL} {l0 l1 l2 l3 l4 l5 : Option CV} {r : Option Nat} : Rr C mX13_does (271, [some (.inr (.inr r)), l1, l2, l3, l4, l5], st, M) x = Rr C mX13_does (272, [some (.inr (.inr r)), l1, l2, l3, l4, l5], .inr (.inr r) :: st, M) x := g_pl (show decode cX13_does 271 = .ok (.aload_n 0, 1) by decide +kernel) rfl
set_option maxRecDepth 20000 in
theorem kX13_does_272 {C : QC} {x : QP} {M : QM} {st : List CV} {L : QL} {l0 l1 l2 l3 l4 l5 : Option CV} {z : Int} : Rr C mX13_does (272, [l0, l1, some (qi z), l3, l4, l5], st, M) x = Rr C mX13_does (273, [l0, l1, some (qi z), l3, l4, l5], qi z :: st, M) x := g_pl (show decode cX13_does 272 = .ok (.iload_n 2, 1) by decide +kernel) rfl
set_option maxRecDepth 20000 in
theorem kX13_does_273 {C : QC} {x : QP} {M : QM} {st : List CV} {L : QL} {l0 l1 l2 l3 l4 l5 : Option CV} {z : Int} : Rr C mX13_does (273, [l0, l1, l2, some (qi z), l4, l5], st, M) x = Rr C mX13_does (274, [l0, l1, l2, some (qi z), l4, l5], qi z :: st, M) x := g_pl (show decode cX13_does 273 = .ok (.iload_n 3, 1) by decide +kernel) rfl
set_option maxRecDepth 20000 in
theorem kX13_does_274 {C : QC} {x : QP} {M : QM} {st : List CV} {L : QL} {l0 l1 l2 l3 l4 l5 : Option CV} {z : Int} : Rr C mX13_does (274, [l0, l1, l2, l3, some (qi z), l5], st, M) x = Rr C mX13_does (276, [l0, l1, l2, l3, some (qi z), l5], qi z :: st, M) x := g_pl (show decode cX13_does 274 = .ok (.iload 4, 2) by decide +kernel) rfl
set_option maxRecDepth 20000 in
theorem kX13_does_276 {C : QC} {x : QP} {M : QM} {L : QL} {rest : List CV} {a0 a1 a2 : CV} {v : CV} {M1 : QM} {b : Nat} (hb : q_kd M b = (1, 13)) (hC : C iX13_merges [qr b, a0, a1, a2] M (some v) M1) (hw : (rest.map q_wd).sum ≤ 8) (k : Rr C mX13_does (279, L, v :: rest, M1) x) : Rr C mX13_does (276, L, a2 :: a1 :: a0 :: qr b :: rest, M) x := g_cv (ow := 13) (e := (0, 233, 13, [1495, 1497, 54, 94])) (as := [a0, a1, a2]) (show decode cX13_does 276 = .ok (.invokevirtual 161, 3) by decide +kernel) rfl rfl rfl (Or.inl rfl) rfl hb hC hw k
set_option maxRecDepth 20000 in
theorem kX13_does_279 {C : QC} {x : QP} {M : QM} {st : List CV} {L : QL} {l0 l1 l2 l3 l4 l5 : Option CV} {z : Int} : Rr C mX13_does (279, [l0, l1, l2, l3, l4, l5], qi z :: st, M) x = Rr C mX13_does (280, [l0, q_cut l1, some (qi z), l3, l4, l5], st, M) x := g_pl (show decode cX13_does 279 = .ok (.istore_n 2, 1) by decide +kernel) rfl
set_option maxRecDepth 20000 in
theorem kX13_does_280 {C : QC} {x : QP} {M : QM} {st : List CV} {L : QL} {l0 l1 l2 l3 l4 l5 : Option CV} {z : Int} : Rr C mX13_does (280, [l0, l1, l2, l3, l4, some (qi z)], st, M) x = Rr C mX13_does (282, [l0, l1, l2, l3, l4, some (qi z)], qi z :: st, M) x := g_pl (show decode cX13_does 280 = .ok (.iload 5, 2) by decide +kernel) rfl
set_option maxRecDepth 20000 in
theorem kX13_does_282 {C : QC} {x : QP} {M : QM} {st : List CV} {L : QL} {z : Int} : Rr C mX13_does (282, L, [qi z], M) x = x (some (qi z)) M := g_iret (show decode cX13_does 282 = .ok (.ireturn, 1) by decide +kernel) rfl
set_option maxRecDepth 20000 in
theorem kX13_does_283 {C : QC} {x : QP} {M : QM} {st : List CV} {L : QL} {l0 l1 l2 l3 l4 l5 : Option CV} {r : Option Nat} : Rr C mX13_does (283, [some (.inr (.inr r)), l1, l2, l3, l4, l5], st, M) x = Rr C mX13_does (284, [some (.inr (.inr r)), l1, l2, l3, l4, l5], .inr (.inr r) :: st, M) x := g_pl (show decode cX13_does 283 = .ok (.aload_n 0, 1) by decide +kernel) rfl
set_option maxRecDepth 20000 in
theorem kX13_does_284 {C : QC} {x : QP} {M : QM} {st : List CV} {L : QL} {l0 l1 l2 l3 l4 l5 : Option CV} {z : Int} : Rr C mX13_does (284, [l0, l1, some (qi z), l3, l4, l5], st, M) x = Rr C mX13_does (285, [l0, l1, some (qi z), l3, l4, l5], qi z :: st, M) x := g_pl (show decode cX13_does 284 = .ok (.iload_n 2, 1) by decide +kernel) rfl
set_option maxRecDepth 20000 in
theorem kX13_does_285 {C : QC} {x : QP} {M : QM} {st : List CV} {L : QL} {l0 l1 l2 l3 l4 l5 : Option CV} {z : Int} : Rr C mX13_does (285, [l0, l1, l2, l3, some (qi z), l5], st, M) x = Rr C mX13_does (287, [l0, l1, l2, l3, some (qi z), l5], qi z :: st, M) x := g_pl (show decode cX13_does 285 = .ok (.iload 4, 2) by decide +kernel) rfl
set_option maxRecDepth 20000 in
theorem kX13_does_287 {C : QC} {x : QP} {M : QM} {L : QL} {rest : List CV} {a0 a1 : CV} {v : CV} {M1 : QM} {b : Nat} (hb : q_kd M b = (1, 13)) (hC : C iX13_noClosing [qr b, a0, a1] M (some v) M1) (hw : (rest.map q_wd).sum ≤ 8) (k : Rr C mX13_does (290, L, v :: rest, M1) x) : Rr C mX13_does (287, L, a1 :: a0 :: qr b :: rest, M) x := g_cv (ow := 13) (e := (0, 237, 13, [1511, 1513, 57, 94])) (as := [a0, a1]) (show decode cX13_does 287 = .ok (.invokevirtual 164, 3) by decide +kernel) rfl rfl rfl (Or.inl rfl) rfl hb hC hw k
set_option maxRecDepth 20000 in
theorem kX13_does_290 {C : QC} {x : QP} {M : QM} {st : List CV} {L : QL} {l0 l1 l2 l3 l4 l5 : Option CV} {z : Int} : Rr C mX13_does (290, [l0, l1, l2, l3, l4, l5], qi z :: st, M) x = Rr C mX13_does (292, [l0, l1, l2, l3, q_cut l4, some (qi z)], st, M) x := g_pl (show decode cX13_does 290 = .ok (.istore 5, 2) by decide +kernel) rfl
set_option maxRecDepth 20000 in
theorem kX13_does_292 {C : QC} {x : QP} {M : QM} {st : List CV} {L : QL} {l0 l1 l2 l3 l4 l5 : Option CV} {z : Int} : Rr C mX13_does (292, [l0, l1, l2, l3, l4, some (qi z)], st, M) x = Rr C mX13_does (294, [l0, l1, l2, l3, l4, some (qi z)], qi z :: st, M) x := g_pl (show decode cX13_does 292 = .ok (.iload 5, 2) by decide +kernel) rfl
set_option maxRecDepth 20000 in
theorem kX13_does_294 {C : QC} {x : QP} {M : QM} {st : List CV} {L : QL} {a : Int} (ha1 : -2147483648 ≤ a) (ha2 : a < 2147483648) : Rr C mX13_does (294, L, qi a :: st, M) x = (if a = 0 then Rr C mX13_does (297, L, st, M) x else Rr C mX13_does (305, L, st, M) x) := (g_if (show decode cX13_does 294 = .ok (.ifCond .ne 11, 3) by decide +kernel) rfl ha1 ha2).trans (g_itn c_ne)
set_option maxRecDepth 20000 in
theorem kX13_does_297 {C : QC} {x : QP} {M : QM} {st : List CV} {L : QL} {l0 l1 l2 l3 l4 l5 : Option CV} {r : Option Nat} : Rr C mX13_does (297, [some (.inr (.inr r)), l1, l2, l3, l4, l5], st, M) x = Rr C mX13_does (298, [some (.inr (.inr r)), l1, l2, l3, l4, l5], .inr (.inr r) :: st, M) x := g_pl (show decode cX13_does 297 = .ok (.aload_n 0, 1) by decide +kernel) rfl
set_option maxRecDepth 20000 in
theorem kX13_does_298 {C : QC} {x : QP} {M : QM} {st : List CV} {L : QL} {l0 l1 l2 l3 l4 l5 : Option CV} {z : Int} : Rr C mX13_does (298, [l0, l1, some (qi z), l3, l4, l5], st, M) x = Rr C mX13_does (299, [l0, l1, some (qi z), l3, l4, l5], qi z :: st, M) x := g_pl (show decode cX13_does 298 = .ok (.iload_n 2, 1) by decide +kernel) rfl
set_option maxRecDepth 20000 in
theorem kX13_does_299 {C : QC} {x : QP} {M : QM} {st : List CV} {L : QL} {l0 l1 l2 l3 l4 l5 : Option CV} {z : Int} : Rr C mX13_does (299, [l0, l1, l2, l3, some (qi z), l5], st, M) x = Rr C mX13_does (301, [l0, l1, l2, l3, some (qi z), l5], qi z :: st, M) x := g_pl (show decode cX13_does 299 = .ok (.iload 4, 2) by decide +kernel) rfl
set_option maxRecDepth 20000 in
theorem kX13_does_301 {C : QC} {x : QP} {M : QM} {L : QL} {rest : List CV} {a0 a1 : CV} {v : CV} {M1 : QM} {b : Nat} (hb : q_kd M b = (1, 13)) (hC : C iX13_closes [qr b, a0, a1] M (some v) M1) (hw : (rest.map q_wd).sum ≤ 8) (k : Rr C mX13_does (304, L, v :: rest, M1) x) : Rr C mX13_does (301, L, a1 :: a0 :: qr b :: rest, M) x := g_cv (ow := 13) (e := (0, 238, 13, [1515, 1517, 58, 94])) (as := [a0, a1]) (show decode cX13_does 301 = .ok (.invokevirtual 167, 3) by decide +kernel) rfl rfl rfl (Or.inl rfl) rfl hb hC hw k
set_option maxRecDepth 20000 in
theorem kX13_does_304 {C : QC} {x : QP} {M : QM} {st : List CV} {L : QL} {l0 l1 l2 l3 l4 l5 : Option CV} {z : Int} : Rr C mX13_does (304, [l0, l1, l2, l3, l4, l5], qi z :: st, M) x = Rr C mX13_does (305, [l0, q_cut l1, some (qi z), l3, l4, l5], st, M) x := g_pl (show decode cX13_does 304 = .ok (.istore_n 2, 1) by decide +kernel) rfl
set_option maxRecDepth 20000 in
theorem kX13_does_305 {C : QC} {x : QP} {M : QM} {st : List CV} {L : QL} {l0 l1 l2 l3 l4 l5 : Option CV} {z : Int} : Rr C mX13_does (305, [l0, l1, l2, l3, l4, some (qi z)], st, M) x = Rr C mX13_does (307, [l0, l1, l2, l3, l4, some (qi z)], qi z :: st, M) x := g_pl (show decode cX13_does 305 = .ok (.iload 5, 2) by decide +kernel) rfl
set_option maxRecDepth 20000 in
theorem kX13_does_307 {C : QC} {x : QP} {M : QM} {st : List CV} {L : QL} {z : Int} : Rr C mX13_does (307, L, [qi z], M) x = x (some (qi z)) M := g_iret (show decode cX13_does 307 = .ok (.ireturn, 1) by decide +kernel) rfl
set_option maxRecDepth 20000 in
theorem eX13_does {d : Nat} {M : QM} {x : QP} {a : Nat} {v0 : Int} : q_T (d + 1) iX13_does [qr a, qi v0] M x = Rr (q_C d) mX13_does (0, [some (qr a), some (qi v0), none, none, none, none], [], M) x := g_entryT (e := _) rfl (Nat.le_of_ble_eq_true rfl) rfl rfl
def mX13_run : QI := (13, cX13_run, false, some .int)
set_option maxRecDepth 20000 in
theorem kX13_run_0 {C : QC} {x : QP} {M : QM} {st : List CV} {L : QL} {l0 l1 l2 : Option CV} {r : Option Nat} : Rr C mX13_run (0, [some (.inr (.inr r)), l1, l2], st, M) x = Rr C mX13_run (1, [some (.inr (.inr r)), l1, l2], .inr (.inr r) :: st, M) x := g_pl (show decode cX13_run 0 = .ok (.aload_n 0, 1) by decide +kernel) rfl
set_option maxRecDepth 20000 in
theorem kX13_run_1 {C : QC} {x : QP} {M : QM} {st : List CV} {L : QL} : Rr C mX13_run (1, L, st, M) x = Rr C mX13_run (2, L, qi 0 :: st, M) x := g_pl (show decode cX13_run 1 = .ok (.iconst 0, 1) by decide +kernel) rfl
set_option maxRecDepth 20000 in
theorem kX13_run_2 {C : QC} {x : QP} {M : QM} {st : List CV} {L : QL} {z : Int} {a : Nat} (hk : q_kd M a = (1, 13)) : Rr C mX13_run (2, L, qi z :: qr a :: st, M) x = Rr C mX13_run (5, L, st, q_wr M a 5 (qi z)) x := g_putf (ow := 13) (ini := false) (e := (13, 5, RX13, 1306, 0)) (r := (RX13, TX13, 17)) (t := tyX13) (show decode cX13_run 2 = .ok (.putfield 72, 3) by decide +kernel) rfl rfl rfl rfl (by decide +kernel) hk
set_option maxRecDepth 20000 in
theorem kX13_run_5 {C : QC} {x : QP} {M : QM} {st : List CV} {L : QL} {l0 l1 l2 : Option CV} {r : Option Nat} : Rr C mX13_run (5, [some (.inr (.inr r)), l1, l2], st, M) x = Rr C mX13_run (6, [some (.inr (.inr r)), l1, l2], .inr (.inr r) :: st, M) x := g_pl (show decode cX13_run 5 = .ok (.aload_n 0, 1) by decide +kernel) rfl
set_option maxRecDepth 20000 in
theorem kX13_run_6 {C : QC} {x : QP} {M : QM} {st : List CV} {L : QL} : Rr C mX13_run (6, L, st, M) x = Rr C mX13_run (7, L, qi (-1) :: st, M) x := g_pl (show decode cX13_run 6 = .ok (.iconst (-1), 1) by decide +kernel) rfl
set_option maxRecDepth 20000 in
theorem kX13_run_7 {C : QC} {x : QP} {M : QM} {st : List CV} {L : QL} {z : Int} {a : Nat} (hk : q_kd M a = (1, 13)) : Rr C mX13_run (7, L, qi z :: qr a :: st, M) x = Rr C mX13_run (10, L, st, q_wr M a 6 (qi z)) x := g_putf (ow := 13) (ini := false) (e := (13, 6, RX13, 1307, 0)) (r := (RX13, TX13, 17)) (t := tyX13) (show decode cX13_run 7 = .ok (.putfield 75, 3) by decide +kernel) rfl rfl rfl rfl (by decide +kernel) hk
set_option maxRecDepth 20000 in
theorem kX13_run_10 {C : QC} {x : QP} {M : QM} {st : List CV} {L : QL} {l0 l1 l2 : Option CV} {r : Option Nat} : Rr C mX13_run (10, [some (.inr (.inr r)), l1, l2], st, M) x = Rr C mX13_run (11, [some (.inr (.inr r)), l1, l2], .inr (.inr r) :: st, M) x := g_pl (show decode cX13_run 10 = .ok (.aload_n 0, 1) by decide +kernel) rfl
set_option maxRecDepth 20000 in
theorem kX13_run_11 {C : QC} {x : QP} {M : QM} {st : List CV} {L : QL} : Rr C mX13_run (11, L, st, M) x = Rr C mX13_run (12, L, qi 0 :: st, M) x := g_pl (show decode cX13_run 11 = .ok (.iconst 0, 1) by decide +kernel) rfl
set_option maxRecDepth 20000 in
theorem kX13_run_12 {C : QC} {x : QP} {M : QM} {st : List CV} {L : QL} {z : Int} {a : Nat} (hk : q_kd M a = (1, 13)) : Rr C mX13_run (12, L, qi z :: qr a :: st, M) x = Rr C mX13_run (15, L, st, q_wr M a 11 (qi z)) x := g_putf (ow := 13) (ini := false) (e := (13, 11, RX13, 1312, 0)) (r := (RX13, TX13, 17)) (t := tyX13) (show decode cX13_run 12 = .ok (.putfield 170, 3) by decide +kernel) rfl rfl rfl rfl (by decide +kernel) hk
set_option maxRecDepth 20000 in
theorem kX13_run_15 {C : QC} {x : QP} {M : QM} {st : List CV} {L : QL} {l0 l1 l2 : Option CV} {r : Option Nat} : Rr C mX13_run (15, [some (.inr (.inr r)), l1, l2], st, M) x = Rr C mX13_run (16, [some (.inr (.inr r)), l1, l2], .inr (.inr r) :: st, M) x := g_pl (show decode cX13_run 15 = .ok (.aload_n 0, 1) by decide +kernel) rfl
set_option maxRecDepth 20000 in
theorem kX13_run_16 {C : QC} {x : QP} {M : QM} {L : QL} {rest : List CV} {M1 : QM} {b : Nat} (hb : q_kd M b = (1, 13)) (hC : C iX13_command [qr b] M none M1) (hw : (rest.map q_wd).sum ≤ 8) (k : Rr C mX13_run (19, L, rest, M1) x) : Rr C mX13_run (16, L, qr b :: rest, M) x := g_cv (ow := 13) (e := (0, 240, 13, [1523, 1525, 59, 94])) (as := []) (show decode cX13_run 16 = .ok (.invokevirtual 180, 3) by decide +kernel) rfl rfl rfl (Or.inl rfl) rfl hb hC hw k
set_option maxRecDepth 20000 in
theorem kX13_run_19 {C : QC} {x : QP} {M : QM} {st : List CV} {L : QL} {l0 l1 l2 : Option CV} {r : Option Nat} : Rr C mX13_run (19, [some (.inr (.inr r)), l1, l2], st, M) x = Rr C mX13_run (20, [some (.inr (.inr r)), l1, l2], .inr (.inr r) :: st, M) x := g_pl (show decode cX13_run 19 = .ok (.aload_n 0, 1) by decide +kernel) rfl
set_option maxRecDepth 20000 in
theorem kX13_run_20 {C : QC} {x : QP} {M : QM} {st : List CV} {L : QL} {a : Nat} (hk : q_kd M a = (1, 13)) : Rr C mX13_run (20, L, qr a :: st, M) x = Rr C mX13_run (23, L, q_fv M a 6 :: st, M) x := g_getf (ow := 13) (e := (13, 6, RX13, 1307, 0)) (show decode cX13_run 20 = .ok (.getfield 75, 3) by decide +kernel) rfl hk
set_option maxRecDepth 20000 in
theorem kX13_run_23 {C : QC} {x : QP} {M : QM} {st : List CV} {L : QL} {a : Int} (ha1 : -2147483648 ≤ a) (ha2 : a < 2147483648) : Rr C mX13_run (23, L, qi a :: st, M) x = (if a < 0 then Rr C mX13_run (26, L, st, M) x else Rr C mX13_run (52, L, st, M) x) := (g_if (show decode cX13_run 23 = .ok (.ifCond .ge 29, 3) by decide +kernel) rfl ha1 ha2).trans (g_itn c_ge)
set_option maxRecDepth 20000 in
theorem kX13_run_26 {C : QC} {x : QP} {M : QM} {st : List CV} {L : QL} {l0 l1 l2 : Option CV} {r : Option Nat} : Rr C mX13_run (26, [some (.inr (.inr r)), l1, l2], st, M) x = Rr C mX13_run (27, [some (.inr (.inr r)), l1, l2], .inr (.inr r) :: st, M) x := g_pl (show decode cX13_run 26 = .ok (.aload_n 0, 1) by decide +kernel) rfl
set_option maxRecDepth 20000 in
theorem kX13_run_27 {C : QC} {x : QP} {M : QM} {L : QL} {rest : List CV} {v : CV} {M1 : QM} {b : Nat} (hb : q_kd M b = (1, 13)) (hC : C iX13_here [qr b] M (some v) M1) (hw : (rest.map q_wd).sum ≤ 8) (k : Rr C mX13_run (30, L, v :: rest, M1) x) : Rr C mX13_run (27, L, qr b :: rest, M) x := g_cv (ow := 13) (e := (0, 202, 13, [1372, 1374, 28, 94])) (as := []) (show decode cX13_run 27 = .ok (.invokevirtual 78, 3) by decide +kernel) rfl rfl rfl (Or.inl rfl) rfl hb hC hw k
set_option maxRecDepth 20000 in
theorem kX13_run_30 {C : QC} {x : QP} {M : QM} {st : List CV} {L : QL} : Rr C mX13_run (30, L, st, M) x = Rr C mX13_run (32, L, qi 59 :: st, M) x := g_pl (show decode cX13_run 30 = .ok (.bipush 59, 2) by decide +kernel) rfl
set_option maxRecDepth 20000 in
theorem kX13_run_32 {C : QC} {x : QP} {M : QM} {st : List CV} {L : QL} {a b : Int} (ha1 : -2147483648 ≤ a) (ha2 : a < 2147483648) (hb1 : -2147483648 ≤ b) (hb2 : b < 2147483648) : Rr C mX13_run (32, L, qi b :: qi a :: st, M) x = (if a = b then Rr C mX13_run (35, L, st, M) x else Rr C mX13_run (52, L, st, M) x) := (g_icmp (show decode cX13_run 32 = .ok (.if_icmp .ne 20, 3) by decide +kernel) rfl ha1 ha2 hb1 hb2).trans (g_itn c_ne)
set_option maxRecDepth 20000 in
theorem kX13_run_35 {C : QC} {x : QP} {M : QM} {st : List CV} {L : QL} {l0 l1 l2 : Option CV} {r : Option Nat} : Rr C mX13_run (35, [some (.inr (.inr r)), l1, l2], st, M) x = Rr C mX13_run (36, [some (.inr (.inr r)), l1, l2], .inr (.inr r) :: st, M) x := g_pl (show decode cX13_run 35 = .ok (.aload_n 0, 1) by decide +kernel) rfl
set_option maxRecDepth 20000 in
theorem kX13_run_36i {C : QC} {x : QP} {M : QM} {st : List CV} {L : QL} {a : Int} : Rr C mX13_run (36, L, qi a :: st, M) x = Rr C mX13_run (37, L, qi a :: qi a :: st, M) x := g_pl (show decode cX13_run 36 = .ok (.dup, 1) by decide +kernel) rfl
set_option maxRecDepth 20000 in
theorem kX13_run_36r {C : QC} {x : QP} {M : QM} {st : List CV} {L : QL} {a : Option Nat} : Rr C mX13_run (36, L, .inr (.inr a) :: st, M) x = Rr C mX13_run (37, L, .inr (.inr a) :: .inr (.inr a) :: st, M) x := g_pl (show decode cX13_run 36 = .ok (.dup, 1) by decide +kernel) rfl
set_option maxRecDepth 20000 in
theorem kX13_run_37 {C : QC} {x : QP} {M : QM} {st : List CV} {L : QL} {a : Nat} (hk : q_kd M a = (1, 13)) : Rr C mX13_run (37, L, qr a :: st, M) x = Rr C mX13_run (40, L, q_fv M a 5 :: st, M) x := g_getf (ow := 13) (e := (13, 5, RX13, 1306, 0)) (show decode cX13_run 37 = .ok (.getfield 72, 3) by decide +kernel) rfl hk
set_option maxRecDepth 20000 in
theorem kX13_run_40 {C : QC} {x : QP} {M : QM} {st : List CV} {L : QL} : Rr C mX13_run (40, L, st, M) x = Rr C mX13_run (41, L, qi 1 :: st, M) x := g_pl (show decode cX13_run 40 = .ok (.iconst 1, 1) by decide +kernel) rfl
set_option maxRecDepth 20000 in
theorem kX13_run_41 {C : QC} {x : QP} {M : QM} {st : List CV} {L : QL} {a b : Int} : Rr C mX13_run (41, L, qi b :: qi a :: st, M) x = Rr C mX13_run (42, L, qi (a + b) :: st, M) x := g_pl (show decode cX13_run 41 = .ok (.iadd, 1) by decide +kernel) rfl
set_option maxRecDepth 20000 in
theorem kX13_run_42 {C : QC} {x : QP} {M : QM} {st : List CV} {L : QL} {z : Int} {a : Nat} (hk : q_kd M a = (1, 13)) : Rr C mX13_run (42, L, qi z :: qr a :: st, M) x = Rr C mX13_run (45, L, st, q_wr M a 5 (qi z)) x := g_putf (ow := 13) (ini := false) (e := (13, 5, RX13, 1306, 0)) (r := (RX13, TX13, 17)) (t := tyX13) (show decode cX13_run 42 = .ok (.putfield 72, 3) by decide +kernel) rfl rfl rfl rfl (by decide +kernel) hk
set_option maxRecDepth 20000 in
theorem kX13_run_45 {C : QC} {x : QP} {M : QM} {st : List CV} {L : QL} {l0 l1 l2 : Option CV} {r : Option Nat} : Rr C mX13_run (45, [some (.inr (.inr r)), l1, l2], st, M) x = Rr C mX13_run (46, [some (.inr (.inr r)), l1, l2], .inr (.inr r) :: st, M) x := g_pl (show decode cX13_run 45 = .ok (.aload_n 0, 1) by decide +kernel) rfl
set_option maxRecDepth 20000 in
theorem kX13_run_46 {C : QC} {x : QP} {M : QM} {L : QL} {rest : List CV} {M1 : QM} {b : Nat} (hb : q_kd M b = (1, 13)) (hC : C iX13_command [qr b] M none M1) (hw : (rest.map q_wd).sum ≤ 8) (k : Rr C mX13_run (49, L, rest, M1) x) : Rr C mX13_run (46, L, qr b :: rest, M) x := g_cv (ow := 13) (e := (0, 240, 13, [1523, 1525, 59, 94])) (as := []) (show decode cX13_run 46 = .ok (.invokevirtual 180, 3) by decide +kernel) rfl rfl rfl (Or.inl rfl) rfl hb hC hw k
set_option maxRecDepth 20000 in
theorem kX13_run_49 {C : QC} {x : QP} {M : QM} {st : List CV} {L : QL} : Rr C mX13_run (49, L, st, M) x = Rr C mX13_run (19, L, st, M) x := g_pl (show decode cX13_run 49 = .ok (.goto (-30), 3) by decide +kernel) rfl
set_option maxRecDepth 20000 in
theorem kX13_run_52 {C : QC} {x : QP} {M : QM} {st : List CV} {L : QL} {l0 l1 l2 : Option CV} {r : Option Nat} : Rr C mX13_run (52, [some (.inr (.inr r)), l1, l2], st, M) x = Rr C mX13_run (53, [some (.inr (.inr r)), l1, l2], .inr (.inr r) :: st, M) x := g_pl (show decode cX13_run 52 = .ok (.aload_n 0, 1) by decide +kernel) rfl
set_option maxRecDepth 20000 in
theorem kX13_run_53 {C : QC} {x : QP} {M : QM} {st : List CV} {L : QL} {a : Nat} (hk : q_kd M a = (1, 13)) : Rr C mX13_run (53, L, qr a :: st, M) x = Rr C mX13_run (56, L, q_fv M a 6 :: st, M) x := g_getf (ow := 13) (e := (13, 6, RX13, 1307, 0)) (show decode cX13_run 53 = .ok (.getfield 75, 3) by decide +kernel) rfl hk
set_option maxRecDepth 20000 in
theorem kX13_run_56 {C : QC} {x : QP} {M : QM} {st : List CV} {L : QL} {a : Int} (ha1 : -2147483648 ≤ a) (ha2 : a < 2147483648) : Rr C mX13_run (56, L, qi a :: st, M) x = (if a < 0 then Rr C mX13_run (59, L, st, M) x else Rr C mX13_run (74, L, st, M) x) := (g_if (show decode cX13_run 56 = .ok (.ifCond .ge 18, 3) by decide +kernel) rfl ha1 ha2).trans (g_itn c_ge)
set_option maxRecDepth 20000 in
theorem kX13_run_59 {C : QC} {x : QP} {M : QM} {st : List CV} {L : QL} {l0 l1 l2 : Option CV} {r : Option Nat} : Rr C mX13_run (59, [some (.inr (.inr r)), l1, l2], st, M) x = Rr C mX13_run (60, [some (.inr (.inr r)), l1, l2], .inr (.inr r) :: st, M) x := g_pl (show decode cX13_run 59 = .ok (.aload_n 0, 1) by decide +kernel) rfl
set_option maxRecDepth 20000 in
theorem kX13_run_60 {C : QC} {x : QP} {M : QM} {st : List CV} {L : QL} {a : Nat} (hk : q_kd M a = (1, 13)) : Rr C mX13_run (60, L, qr a :: st, M) x = Rr C mX13_run (63, L, q_fv M a 5 :: st, M) x := g_getf (ow := 13) (e := (13, 5, RX13, 1306, 0)) (show decode cX13_run 60 = .ok (.getfield 72, 3) by decide +kernel) rfl hk
set_option maxRecDepth 20000 in
theorem kX13_run_63 {C : QC} {x : QP} {M : QM} {st : List CV} {L : QL} {l0 l1 l2 : Option CV} {r : Option Nat} : Rr C mX13_run (63, [some (.inr (.inr r)), l1, l2], st, M) x = Rr C mX13_run (64, [some (.inr (.inr r)), l1, l2], .inr (.inr r) :: st, M) x := g_pl (show decode cX13_run 63 = .ok (.aload_n 0, 1) by decide +kernel) rfl
set_option maxRecDepth 20000 in
theorem kX13_run_64 {C : QC} {x : QP} {M : QM} {st : List CV} {L : QL} {a : Nat} (hk : q_kd M a = (1, 13)) : Rr C mX13_run (64, L, qr a :: st, M) x = Rr C mX13_run (67, L, q_fv M a 4 :: st, M) x := g_getf (ow := 13) (e := (13, 4, RX13, 1305, 0)) (show decode cX13_run 64 = .ok (.getfield 69, 3) by decide +kernel) rfl hk
set_option maxRecDepth 20000 in
theorem kX13_run_67 {C : QC} {x : QP} {M : QM} {st : List CV} {L : QL} {a b : Int} (ha1 : -2147483648 ≤ a) (ha2 : a < 2147483648) (hb1 : -2147483648 ≤ b) (hb2 : b < 2147483648) : Rr C mX13_run (67, L, qi b :: qi a :: st, M) x = (if a < b then Rr C mX13_run (70, L, st, M) x else Rr C mX13_run (74, L, st, M) x) := (g_icmp (show decode cX13_run 67 = .ok (.if_icmp .ge 7, 3) by decide +kernel) rfl ha1 ha2 hb1 hb2).trans (g_itn c_ge)
set_option maxRecDepth 20000 in
theorem kX13_run_70 {C : QC} {x : QP} {M : QM} {st : List CV} {L : QL} {l0 l1 l2 : Option CV} {r : Option Nat} : Rr C mX13_run (70, [some (.inr (.inr r)), l1, l2], st, M) x = Rr C mX13_run (71, [some (.inr (.inr r)), l1, l2], .inr (.inr r) :: st, M) x := g_pl (show decode cX13_run 70 = .ok (.aload_n 0, 1) by decide +kernel) rfl
set_option maxRecDepth 20000 in
theorem kX13_run_71 {C : QC} {x : QP} {M : QM} {L : QL} {rest : List CV} {M1 : QM} {b : Nat} (hb : q_kd M b = (1, 13)) (hC : C iX13_fails [qr b] M none M1) (hw : (rest.map q_wd).sum ≤ 8) (k : Rr C mX13_run (74, L, rest, M1) x) : Rr C mX13_run (71, L, qr b :: rest, M) x := g_cv (ow := 13) (e := (0, 203, 13, [1376, 1378, 29, 94])) (as := []) (show decode cX13_run 71 = .ok (.invokevirtual 82, 3) by decide +kernel) rfl rfl rfl (Or.inl rfl) rfl hb hC hw k
set_option maxRecDepth 20000 in
theorem kX13_run_74 {C : QC} {x : QP} {M : QM} {st : List CV} {L : QL} {l0 l1 l2 : Option CV} {r : Option Nat} : Rr C mX13_run (74, [some (.inr (.inr r)), l1, l2], st, M) x = Rr C mX13_run (75, [some (.inr (.inr r)), l1, l2], .inr (.inr r) :: st, M) x := g_pl (show decode cX13_run 74 = .ok (.aload_n 0, 1) by decide +kernel) rfl
set_option maxRecDepth 20000 in
theorem kX13_run_75 {C : QC} {x : QP} {M : QM} {st : List CV} {L : QL} : Rr C mX13_run (75, L, st, M) x = Rr C mX13_run (76, L, qi 0 :: st, M) x := g_pl (show decode cX13_run 75 = .ok (.iconst 0, 1) by decide +kernel) rfl
set_option maxRecDepth 20000 in
theorem kX13_run_76 {C : QC} {x : QP} {M : QM} {st : List CV} {L : QL} {z : Int} {a : Nat} (hk : q_kd M a = (1, 13)) : Rr C mX13_run (76, L, qi z :: qr a :: st, M) x = Rr C mX13_run (79, L, st, q_wr M a 4 (qi z)) x := g_putf (ow := 13) (ini := false) (e := (13, 4, RX13, 1305, 0)) (r := (RX13, TX13, 17)) (t := tyX13) (show decode cX13_run 76 = .ok (.putfield 69, 3) by decide +kernel) rfl rfl rfl rfl (by decide +kernel) hk
set_option maxRecDepth 20000 in
theorem kX13_run_79 {C : QC} {x : QP} {M : QM} {st : List CV} {L : QL} {l0 l1 l2 : Option CV} {r : Option Nat} : Rr C mX13_run (79, [some (.inr (.inr r)), l1, l2], st, M) x = Rr C mX13_run (80, [some (.inr (.inr r)), l1, l2], .inr (.inr r) :: st, M) x := g_pl (show decode cX13_run 79 = .ok (.aload_n 0, 1) by decide +kernel) rfl
set_option maxRecDepth 20000 in
theorem kX13_run_80 {C : QC} {x : QP} {M : QM} {st : List CV} {L : QL} {a : Nat} (hk : q_kd M a = (1, 13)) : Rr C mX13_run (80, L, qr a :: st, M) x = Rr C mX13_run (83, L, q_fv M a 6 :: st, M) x := g_getf (ow := 13) (e := (13, 6, RX13, 1307, 0)) (show decode cX13_run 80 = .ok (.getfield 75, 3) by decide +kernel) rfl hk
set_option maxRecDepth 20000 in
theorem kX13_run_83 {C : QC} {x : QP} {M : QM} {st : List CV} {L : QL} {a : Int} (ha1 : -2147483648 ≤ a) (ha2 : a < 2147483648) : Rr C mX13_run (83, L, qi a :: st, M) x = (if a < 0 then Rr C mX13_run (94, L, st, M) x else Rr C mX13_run (86, L, st, M) x) := (g_if (show decode cX13_run 83 = .ok (.ifCond .lt 11, 3) by decide +kernel) rfl ha1 ha2).trans (g_ite c_lt)
set_option maxRecDepth 20000 in
theorem kX13_run_86 {C : QC} {x : QP} {M : QM} {st : List CV} {L : QL} : Rr C mX13_run (86, L, st, M) x = Rr C mX13_run (88, L, qi (-100) :: st, M) x := g_pl (show decode cX13_run 86 = .ok (.bipush (-100), 2) by decide +kernel) rfl
set_option maxRecDepth 20000 in
theorem kX13_run_88 {C : QC} {x : QP} {M : QM} {st : List CV} {L : QL} {l0 l1 l2 : Option CV} {r : Option Nat} : Rr C mX13_run (88, [some (.inr (.inr r)), l1, l2], st, M) x = Rr C mX13_run (89, [some (.inr (.inr r)), l1, l2], .inr (.inr r) :: st, M) x := g_pl (show decode cX13_run 88 = .ok (.aload_n 0, 1) by decide +kernel) rfl
set_option maxRecDepth 20000 in
theorem kX13_run_89 {C : QC} {x : QP} {M : QM} {st : List CV} {L : QL} {a : Nat} (hk : q_kd M a = (1, 13)) : Rr C mX13_run (89, L, qr a :: st, M) x = Rr C mX13_run (92, L, q_fv M a 6 :: st, M) x := g_getf (ow := 13) (e := (13, 6, RX13, 1307, 0)) (show decode cX13_run 89 = .ok (.getfield 75, 3) by decide +kernel) rfl hk
set_option maxRecDepth 20000 in
theorem kX13_run_92 {C : QC} {x : QP} {M : QM} {st : List CV} {L : QL} {a b : Int} : Rr C mX13_run (92, L, qi b :: qi a :: st, M) x = Rr C mX13_run (93, L, qi (a - b) :: st, M) x := g_pl (show decode cX13_run 92 = .ok (.isub, 1) by decide +kernel) rfl
set_option maxRecDepth 20000 in
theorem kX13_run_93 {C : QC} {x : QP} {M : QM} {st : List CV} {L : QL} {z : Int} : Rr C mX13_run (93, L, [qi z], M) x = x (some (qi z)) M := g_iret (show decode cX13_run 93 = .ok (.ireturn, 1) by decide +kernel) rfl
set_option maxRecDepth 20000 in
theorem kX13_run_94 {C : QC} {x : QP} {M : QM} {st : List CV} {L : QL} {l0 l1 l2 : Option CV} {r : Option Nat} : Rr C mX13_run (94, [some (.inr (.inr r)), l1, l2], st, M) x = Rr C mX13_run (95, [some (.inr (.inr r)), l1, l2], .inr (.inr r) :: st, M) x := g_pl (show decode cX13_run 94 = .ok (.aload_n 0, 1) by decide +kernel) rfl
set_option maxRecDepth 20000 in
theorem kX13_run_95 {C : QC} {x : QP} {M : QM} {st : List CV} {L : QL} : Rr C mX13_run (95, L, st, M) x = Rr C mX13_run (96, L, qi 0 :: st, M) x := g_pl (show decode cX13_run 95 = .ok (.iconst 0, 1) by decide +kernel) rfl
set_option maxRecDepth 20000 in
theorem kX13_run_96 {C : QC} {x : QP} {M : QM} {st : List CV} {L : QL} : Rr C mX13_run (96, L, st, M) x = Rr C mX13_run (98, L, qi 8 :: st, M) x := g_pl (show decode cX13_run 96 = .ok (.bipush 8, 2) by decide +kernel) rfl
set_option maxRecDepth 20000 in
theorem kX13_run_98 {C : QC} {x : QP} {M : QM} {L : QL} {rest : List CV} {a0 a1 : CV} {M1 : QM} {b : Nat} (hb : q_kd M b = (1, 13)) (hC : C iX13_copies [qr b, a0, a1] M none M1) (hw : (rest.map q_wd).sum ≤ 8) (k : Rr C mX13_run (101, L, rest, M1) x) : Rr C mX13_run (98, L, a1 :: a0 :: qr b :: rest, M) x := g_cv (ow := 13) (e := (0, 212, 13, [1411, 1413, 37, 94])) (as := [a0, a1]) (show decode cX13_run 98 = .ok (.invokevirtual 39, 3) by decide +kernel) rfl rfl rfl (Or.inl rfl) rfl hb hC hw k
set_option maxRecDepth 20000 in
theorem kX13_run_101 {C : QC} {x : QP} {M : QM} {st : List CV} {L : QL} : Rr C mX13_run (101, L, st, M) x = Rr C mX13_run (102, L, qi 0 :: st, M) x := g_pl (show decode cX13_run 101 = .ok (.iconst 0, 1) by decide +kernel) rfl
set_option maxRecDepth 20000 in
theorem kX13_run_102 {C : QC} {x : QP} {M : QM} {st : List CV} {L : QL} {l0 l1 l2 : Option CV} {z : Int} : Rr C mX13_run (102, [l0, l1, l2], qi z :: st, M) x = Rr C mX13_run (103, [q_cut l0, some (qi z), l2], st, M) x := g_pl (show decode cX13_run 102 = .ok (.istore_n 1, 1) by decide +kernel) rfl
set_option maxRecDepth 20000 in
theorem kX13_run_103 {C : QC} {x : QP} {M : QM} {st : List CV} {L : QL} {l0 l1 l2 : Option CV} {z : Int} : Rr C mX13_run (103, [l0, some (qi z), l2], st, M) x = Rr C mX13_run (104, [l0, some (qi z), l2], qi z :: st, M) x := g_pl (show decode cX13_run 103 = .ok (.iload_n 1, 1) by decide +kernel) rfl
set_option maxRecDepth 20000 in
theorem kX13_run_104 {C : QC} {x : QP} {M : QM} {st : List CV} {L : QL} {l0 l1 l2 : Option CV} {r : Option Nat} : Rr C mX13_run (104, [some (.inr (.inr r)), l1, l2], st, M) x = Rr C mX13_run (105, [some (.inr (.inr r)), l1, l2], .inr (.inr r) :: st, M) x := g_pl (show decode cX13_run 104 = .ok (.aload_n 0, 1) by decide +kernel) rfl
set_option maxRecDepth 20000 in
theorem kX13_run_105 {C : QC} {x : QP} {M : QM} {st : List CV} {L : QL} {a : Nat} (hk : q_kd M a = (1, 13)) : Rr C mX13_run (105, L, qr a :: st, M) x = Rr C mX13_run (108, L, q_fv M a 11 :: st, M) x := g_getf (ow := 13) (e := (13, 11, RX13, 1312, 0)) (show decode cX13_run 105 = .ok (.getfield 170, 3) by decide +kernel) rfl hk
set_option maxRecDepth 20000 in
theorem kX13_run_108 {C : QC} {x : QP} {M : QM} {st : List CV} {L : QL} {a b : Int} (ha1 : -2147483648 ≤ a) (ha2 : a < 2147483648) (hb1 : -2147483648 ≤ b) (hb2 : b < 2147483648) : Rr C mX13_run (108, L, qi b :: qi a :: st, M) x = (if a < b then Rr C mX13_run (111, L, st, M) x else Rr C mX13_run (151, L, st, M) x) := (g_icmp (show decode cX13_run 108 = .ok (.if_icmp .ge 43, 3) by decide +kernel) rfl ha1 ha2 hb1 hb2).trans (g_itn c_ge)
set_option maxRecDepth 20000 in
theorem kX13_run_111 {C : QC} {x : QP} {M : QM} {st : List CV} {L : QL} {l0 l1 l2 : Option CV} {r : Option Nat} : Rr C mX13_run (111, [some (.inr (.inr r)), l1, l2], st, M) x = Rr C mX13_run (112, [some (.inr (.inr r)), l1, l2], .inr (.inr r) :: st, M) x := g_pl (show decode cX13_run 111 = .ok (.aload_n 0, 1) by decide +kernel) rfl
set_option maxRecDepth 20000 in
theorem kX13_run_112 {C : QC} {x : QP} {M : QM} {st : List CV} {L : QL} : Rr C mX13_run (112, L, st, M) x = Rr C mX13_run (114, L, qi 13 :: st, M) x := g_pl (show decode cX13_run 112 = .ok (.bipush 13, 2) by decide +kernel) rfl
set_option maxRecDepth 20000 in
theorem kX13_run_114 {C : QC} {x : QP} {M : QM} {st : List CV} {L : QL} {l0 l1 l2 : Option CV} {z : Int} : Rr C mX13_run (114, [l0, some (qi z), l2], st, M) x = Rr C mX13_run (115, [l0, some (qi z), l2], qi z :: st, M) x := g_pl (show decode cX13_run 114 = .ok (.iload_n 1, 1) by decide +kernel) rfl
set_option maxRecDepth 20000 in
theorem kX13_run_115 {C : QC} {x : QP} {M : QM} {st : List CV} {L : QL} {a b : Int} : Rr C mX13_run (115, L, qi b :: qi a :: st, M) x = Rr C mX13_run (116, L, qi (a * b) :: st, M) x := g_pl (show decode cX13_run 115 = .ok (.imul, 1) by decide +kernel) rfl
set_option maxRecDepth 20000 in
theorem kX13_run_116 {C : QC} {x : QP} {M : QM} {L : QL} {rest : List CV} {a0 : CV} {v : CV} {M1 : QM} {b : Nat} (hb : q_kd M b = (1, 13)) (hC : C iX13_does [qr b, a0] M (some v) M1) (hw : (rest.map q_wd).sum ≤ 8) (k : Rr C mX13_run (119, L, v :: rest, M1) x) : Rr C mX13_run (116, L, a0 :: qr b :: rest, M) x := g_cv (ow := 13) (e := (0, 244, 13, [1539, 1541, 63, 94])) (as := [a0]) (show decode cX13_run 116 = .ok (.invokevirtual 183, 3) by decide +kernel) rfl rfl rfl (Or.inl rfl) rfl hb hC hw k
set_option maxRecDepth 20000 in
theorem kX13_run_119 {C : QC} {x : QP} {M : QM} {st : List CV} {L : QL} {l0 l1 l2 : Option CV} {z : Int} : Rr C mX13_run (119, [l0, l1, l2], qi z :: st, M) x = Rr C mX13_run (120, [l0, q_cut l1, some (qi z)], st, M) x := g_pl (show decode cX13_run 119 = .ok (.istore_n 2, 1) by decide +kernel) rfl
set_option maxRecDepth 20000 in
theorem kX13_run_120 {C : QC} {x : QP} {M : QM} {st : List CV} {L : QL} {l0 l1 l2 : Option CV} {z : Int} : Rr C mX13_run (120, [l0, l1, some (qi z)], st, M) x = Rr C mX13_run (121, [l0, l1, some (qi z)], qi z :: st, M) x := g_pl (show decode cX13_run 120 = .ok (.iload_n 2, 1) by decide +kernel) rfl
set_option maxRecDepth 20000 in
theorem kX13_run_121 {C : QC} {x : QP} {M : QM} {st : List CV} {L : QL} {a : Int} (ha1 : -2147483648 ≤ a) (ha2 : a < 2147483648) : Rr C mX13_run (121, L, qi a :: st, M) x = (if a = 0 then Rr C mX13_run (124, L, st, M) x else Rr C mX13_run (127, L, st, M) x) := (g_if (show decode cX13_run 121 = .ok (.ifCond .ne 6, 3) by decide +kernel) rfl ha1 ha2).trans (g_itn c_ne)
set_option maxRecDepth 20000 in
theorem kX13_run_124 {C : QC} {x : QP} {M : QM} {st : List CV} {L : QL} : Rr C mX13_run (124, L, st, M) x = Rr C mX13_run (145, L, st, M) x := g_pl (show decode cX13_run 124 = .ok (.goto 21, 3) by decide +kernel) rfl
set_option maxRecDepth 20000 in
theorem kX13_run_127 {C : QC} {x : QP} {M : QM} {st : List CV} {L : QL} {l0 l1 l2 : Option CV} {r : Option Nat} : Rr C mX13_run (127, [some (.inr (.inr r)), l1, l2], st, M) x = Rr C mX13_run (128, [some (.inr (.inr r)), l1, l2], .inr (.inr r) :: st, M) x := g_pl (show decode cX13_run 127 = .ok (.aload_n 0, 1) by decide +kernel) rfl
set_option maxRecDepth 20000 in
theorem kX13_run_128 {C : QC} {x : QP} {M : QM} {st : List CV} {L : QL} : Rr C mX13_run (128, L, st, M) x = Rr C mX13_run (130, L, qi 8 :: st, M) x := g_pl (show decode cX13_run 128 = .ok (.bipush 8, 2) by decide +kernel) rfl
set_option maxRecDepth 20000 in
theorem kX13_run_130 {C : QC} {x : QP} {M : QM} {st : List CV} {L : QL} : Rr C mX13_run (130, L, st, M) x = Rr C mX13_run (131, L, qi 0 :: st, M) x := g_pl (show decode cX13_run 130 = .ok (.iconst 0, 1) by decide +kernel) rfl
set_option maxRecDepth 20000 in
theorem kX13_run_131 {C : QC} {x : QP} {M : QM} {L : QL} {rest : List CV} {a0 a1 : CV} {M1 : QM} {b : Nat} (hb : q_kd M b = (1, 13)) (hC : C iX13_copies [qr b, a0, a1] M none M1) (hw : (rest.map q_wd).sum ≤ 8) (k : Rr C mX13_run (134, L, rest, M1) x) : Rr C mX13_run (131, L, a1 :: a0 :: qr b :: rest, M) x := g_cv (ow := 13) (e := (0, 212, 13, [1411, 1413, 37, 94])) (as := [a0, a1]) (show decode cX13_run 131 = .ok (.invokevirtual 39, 3) by decide +kernel) rfl rfl rfl (Or.inl rfl) rfl hb hC hw k
set_option maxRecDepth 20000 in
theorem kX13_run_134 {C : QC} {x : QP} {M : QM} {st : List CV} {L : QL} {l0 l1 l2 : Option CV} {r : Option Nat} : Rr C mX13_run (134, [some (.inr (.inr r)), l1, l2], st, M) x = Rr C mX13_run (135, [some (.inr (.inr r)), l1, l2], .inr (.inr r) :: st, M) x := g_pl (show decode cX13_run 134 = .ok (.aload_n 0, 1) by decide +kernel) rfl
set_option maxRecDepth 20000 in
theorem kX13_run_135 {C : QC} {x : QP} {M : QM} {st : List CV} {L : QL} {l0 l1 l2 : Option CV} {z : Int} : Rr C mX13_run (135, [l0, l1, some (qi z)], st, M) x = Rr C mX13_run (136, [l0, l1, some (qi z)], qi z :: st, M) x := g_pl (show decode cX13_run 135 = .ok (.iload_n 2, 1) by decide +kernel) rfl
set_option maxRecDepth 20000 in
theorem kX13_run_136 {C : QC} {x : QP} {M : QM} {st : List CV} {L : QL} {z : Int} {a : Nat} (hk : q_kd M a = (1, 13)) : Rr C mX13_run (136, L, qi z :: qr a :: st, M) x = Rr C mX13_run (139, L, st, q_wr M a 7 (qi z)) x := g_putf (ow := 13) (ini := false) (e := (13, 7, RX13, 1308, 0)) (r := (RX13, TX13, 17)) (t := tyX13) (show decode cX13_run 136 = .ok (.putfield 17, 3) by decide +kernel) rfl rfl rfl rfl (by decide +kernel) hk
set_option maxRecDepth 20000 in
theorem kX13_run_139 {C : QC} {x : QP} {M : QM} {st : List CV} {L : QL} : Rr C mX13_run (139, L, st, M) x = Rr C mX13_run (142, L, qi (-200) :: st, M) x := g_pl (show decode cX13_run 139 = .ok (.sipush (-200), 3) by decide +kernel) rfl
set_option maxRecDepth 20000 in
theorem kX13_run_142 {C : QC} {x : QP} {M : QM} {st : List CV} {L : QL} {l0 l1 l2 : Option CV} {z : Int} : Rr C mX13_run (142, [l0, some (qi z), l2], st, M) x = Rr C mX13_run (143, [l0, some (qi z), l2], qi z :: st, M) x := g_pl (show decode cX13_run 142 = .ok (.iload_n 1, 1) by decide +kernel) rfl
set_option maxRecDepth 20000 in
theorem kX13_run_143 {C : QC} {x : QP} {M : QM} {st : List CV} {L : QL} {a b : Int} : Rr C mX13_run (143, L, qi b :: qi a :: st, M) x = Rr C mX13_run (144, L, qi (a - b) :: st, M) x := g_pl (show decode cX13_run 143 = .ok (.isub, 1) by decide +kernel) rfl
set_option maxRecDepth 20000 in
theorem kX13_run_144 {C : QC} {x : QP} {M : QM} {st : List CV} {L : QL} {z : Int} : Rr C mX13_run (144, L, [qi z], M) x = x (some (qi z)) M := g_iret (show decode cX13_run 144 = .ok (.ireturn, 1) by decide +kernel) rfl
set_option maxRecDepth 20000 in
theorem kX13_run_145 {C : QC} {x : QP} {M : QM} {st : List CV} {L : QL} {l0 l1 l2 : Option CV} {z : Int} : Rr C mX13_run (145, [l0, some (qi z), l2], st, M) x = Rr C mX13_run (148, [q_cut l0, some (qi (z + 1)), l2], st, M) x := g_pl (show decode cX13_run 145 = .ok (.iinc 1 1, 3) by decide +kernel) rfl
set_option maxRecDepth 20000 in
theorem kX13_run_148 {C : QC} {x : QP} {M : QM} {st : List CV} {L : QL} : Rr C mX13_run (148, L, st, M) x = Rr C mX13_run (103, L, st, M) x := g_pl (show decode cX13_run 148 = .ok (.goto (-45), 3) by decide +kernel) rfl
set_option maxRecDepth 20000 in
theorem kX13_run_151 {C : QC} {x : QP} {M : QM} {st : List CV} {L : QL} {l0 l1 l2 : Option CV} {r : Option Nat} : Rr C mX13_run (151, [some (.inr (.inr r)), l1, l2], st, M) x = Rr C mX13_run (152, [some (.inr (.inr r)), l1, l2], .inr (.inr r) :: st, M) x := g_pl (show decode cX13_run 151 = .ok (.aload_n 0, 1) by decide +kernel) rfl
set_option maxRecDepth 20000 in
theorem kX13_run_152 {C : QC} {x : QP} {M : QM} {L : QL} {rest : List CV} {M1 : QM} {b : Nat} (hb : q_kd M b = (1, 13)) (hC : C iX13_keeps [qr b] M none M1) (hw : (rest.map q_wd).sum ≤ 8) (k : Rr C mX13_run (155, L, rest, M1) x) : Rr C mX13_run (152, L, qr b :: rest, M) x := g_cv (ow := 13) (e := (0, 211, 13, [1407, 1409, 36, 94])) (as := []) (show decode cX13_run 152 = .ok (.invokevirtual 140, 3) by decide +kernel) rfl rfl rfl (Or.inl rfl) rfl hb hC hw k
set_option maxRecDepth 20000 in
theorem kX13_run_155 {C : QC} {x : QP} {M : QM} {st : List CV} {L : QL} {l0 l1 l2 : Option CV} {r : Option Nat} : Rr C mX13_run (155, [some (.inr (.inr r)), l1, l2], st, M) x = Rr C mX13_run (156, [some (.inr (.inr r)), l1, l2], .inr (.inr r) :: st, M) x := g_pl (show decode cX13_run 155 = .ok (.aload_n 0, 1) by decide +kernel) rfl
set_option maxRecDepth 20000 in
theorem kX13_run_156 {C : QC} {x : QP} {M : QM} {st : List CV} {L : QL} : Rr C mX13_run (156, L, st, M) x = Rr C mX13_run (158, L, qi 8 :: st, M) x := g_pl (show decode cX13_run 156 = .ok (.bipush 8, 2) by decide +kernel) rfl
set_option maxRecDepth 20000 in
theorem kX13_run_158 {C : QC} {x : QP} {M : QM} {st : List CV} {L : QL} {l0 l1 l2 : Option CV} {r : Option Nat} : Rr C mX13_run (158, [some (.inr (.inr r)), l1, l2], st, M) x = Rr C mX13_run (159, [some (.inr (.inr r)), l1, l2], .inr (.inr r) :: st, M) x := g_pl (show decode cX13_run 158 = .ok (.aload_n 0, 1) by decide +kernel) rfl
set_option maxRecDepth 20000 in
theorem kX13_run_159 {C : QC} {x : QP} {M : QM} {st : List CV} {L : QL} {a : Nat} (hk : q_kd M a = (1, 13)) : Rr C mX13_run (159, L, qr a :: st, M) x = Rr C mX13_run (162, L, q_fv M a 1 :: st, M) x := g_getf (ow := 13) (e := (13, 1, RX13, 1302, 0)) (show decode cX13_run 159 = .ok (.getfield 36, 3) by decide +kernel) rfl hk
set_option maxRecDepth 20000 in
theorem kX13_run_162 {C : QC} {x : QP} {M : QM} {L : QL} {rest : List CV} {a0 a1 : CV} {M1 : QM} {b : Nat} (hb : q_kd M b = (1, 13)) (hC : C iX13_copies [qr b, a0, a1] M none M1) (hw : (rest.map q_wd).sum ≤ 8) (k : Rr C mX13_run (165, L, rest, M1) x) : Rr C mX13_run (162, L, a1 :: a0 :: qr b :: rest, M) x := g_cv (ow := 13) (e := (0, 212, 13, [1411, 1413, 37, 94])) (as := [a0, a1]) (show decode cX13_run 162 = .ok (.invokevirtual 39, 3) by decide +kernel) rfl rfl rfl (Or.inl rfl) rfl hb hC hw k
set_option maxRecDepth 20000 in
theorem kX13_run_165 {C : QC} {x : QP} {M : QM} {st : List CV} {L : QL} {l0 l1 l2 : Option CV} {r : Option Nat} : Rr C mX13_run (165, [some (.inr (.inr r)), l1, l2], st, M) x = Rr C mX13_run (166, [some (.inr (.inr r)), l1, l2], .inr (.inr r) :: st, M) x := g_pl (show decode cX13_run 165 = .ok (.aload_n 0, 1) by decide +kernel) rfl
set_option maxRecDepth 20000 in
theorem kX13_run_166 {C : QC} {x : QP} {M : QM} {st : List CV} {L : QL} {a : Nat} (hk : q_kd M a = (1, 13)) : Rr C mX13_run (166, L, qr a :: st, M) x = Rr C mX13_run (169, L, q_fv M a 11 :: st, M) x := g_getf (ow := 13) (e := (13, 11, RX13, 1312, 0)) (show decode cX13_run 166 = .ok (.getfield 170, 3) by decide +kernel) rfl hk
set_option maxRecDepth 20000 in
theorem kX13_run_169 {C : QC} {x : QP} {M : QM} {st : List CV} {L : QL} {z : Int} : Rr C mX13_run (169, L, [qi z], M) x = x (some (qi z)) M := g_iret (show decode cX13_run 169 = .ok (.ireturn, 1) by decide +kernel) rfl
set_option maxRecDepth 20000 in
theorem eX13_run {d : Nat} {M : QM} {x : QP} {a : Nat} : q_T (d + 1) iX13_run [qr a] M x = Rr (q_C d) mX13_run (0, [some (qr a), none, none], [], M) x := g_entryT (e := _) rfl (Nat.le_of_ble_eq_true rfl) rfl rfl
def mX13_reason : QI := (13, cX13_reason, false, some .int)
set_option maxRecDepth 20000 in
theorem kX13_reason_0 {C : QC} {x : QP} {M : QM} {st : List CV} {L : QL} {r : Option Nat} : Rr C mX13_reason (0, [some (.inr (.inr r))], st, M) x = Rr C mX13_reason (1, [some (.inr (.inr r))], .inr (.inr r) :: st, M) x := g_pl (show decode cX13_reason 0 = .ok (.aload_n 0, 1) by decide +kernel) rfl
set_option maxRecDepth 20000 in
theorem kX13_reason_1 {C : QC} {x : QP} {M : QM} {st : List CV} {L : QL} {a : Nat} (hk : q_kd M a = (1, 13)) : Rr C mX13_reason (1, L, qr a :: st, M) x = Rr C mX13_reason (4, L, q_fv M a 7 :: st, M) x := g_getf (ow := 13) (e := (13, 7, RX13, 1308, 0)) (show decode cX13_reason 1 = .ok (.getfield 17, 3) by decide +kernel) rfl hk
set_option maxRecDepth 20000 in
theorem kX13_reason_4 {C : QC} {x : QP} {M : QM} {st : List CV} {L : QL} {z : Int} : Rr C mX13_reason (4, L, [qi z], M) x = x (some (qi z)) M := g_iret (show decode cX13_reason 4 = .ok (.ireturn, 1) by decide +kernel) rfl
set_option maxRecDepth 20000 in
theorem eX13_reason {d : Nat} {M : QM} {x : QP} {a : Nat} : q_T (d + 1) iX13_reason [qr a] M x = Rr (q_C d) mX13_reason (0, [some (qr a)], [], M) x := g_entryT (e := _) rfl (Nat.le_of_ble_eq_true rfl) rfl rfl
def mX13_heir : QI := (13, cX13_heir, false, some .int)
set_option maxRecDepth 20000 in
theorem kX13_heir_0 {C : QC} {x : QP} {M : QM} {st : List CV} {L : QL} {l0 l1 l2 l3 : Option CV} {z : Int} : Rr C mX13_heir (0, [l0, some (qi z), l2, l3], st, M) x = Rr C mX13_heir (1, [l0, some (qi z), l2, l3], qi z :: st, M) x := g_pl (show decode cX13_heir 0 = .ok (.iload_n 1, 1) by decide +kernel) rfl
set_option maxRecDepth 20000 in
theorem kX13_heir_1 {C : QC} {x : QP} {M : QM} {st : List CV} {L : QL} {l0 l1 l2 l3 : Option CV} {z : Int} : Rr C mX13_heir (1, [l0, l1, l2, l3], qi z :: st, M) x = Rr C mX13_heir (2, [l0, l1, q_cut l2, some (qi z)], st, M) x := g_pl (show decode cX13_heir 1 = .ok (.istore_n 3, 1) by decide +kernel) rfl
set_option maxRecDepth 20000 in
theorem kX13_heir_2 {C : QC} {x : QP} {M : QM} {st : List CV} {L : QL} {l0 l1 l2 l3 : Option CV} {r : Option Nat} : Rr C mX13_heir (2, [some (.inr (.inr r)), l1, l2, l3], st, M) x = Rr C mX13_heir (3, [some (.inr (.inr r)), l1, l2, l3], .inr (.inr r) :: st, M) x := g_pl (show decode cX13_heir 2 = .ok (.aload_n 0, 1) by decide +kernel) rfl
set_option maxRecDepth 20000 in
theorem kX13_heir_3 {C : QC} {x : QP} {M : QM} {st : List CV} {L : QL} {l0 l1 l2 l3 : Option CV} {z : Int} : Rr C mX13_heir (3, [l0, l1, l2, some (qi z)], st, M) x = Rr C mX13_heir (4, [l0, l1, l2, some (qi z)], qi z :: st, M) x := g_pl (show decode cX13_heir 3 = .ok (.iload_n 3, 1) by decide +kernel) rfl
set_option maxRecDepth 20000 in
theorem kX13_heir_4 {C : QC} {x : QP} {M : QM} {st : List CV} {L : QL} {l0 l1 l2 l3 : Option CV} {z : Int} : Rr C mX13_heir (4, [l0, l1, some (qi z), l3], st, M) x = Rr C mX13_heir (5, [l0, l1, some (qi z), l3], qi z :: st, M) x := g_pl (show decode cX13_heir 4 = .ok (.iload_n 2, 1) by decide +kernel) rfl
set_option maxRecDepth 20000 in
theorem kX13_heir_5 {C : QC} {x : QP} {M : QM} {L : QL} {rest : List CV} {a0 a1 : CV} {v : CV} {M1 : QM} {b : Nat} (hb : q_kd M b = (1, 13)) (hC : C iX13_exists [qr b, a0, a1] M (some v) M1) (hw : (rest.map q_wd).sum ≤ 8) (k : Rr C mX13_heir (8, L, v :: rest, M1) x) : Rr C mX13_heir (5, L, a1 :: a0 :: qr b :: rest, M) x := g_cv (ow := 13) (e := (0, 235, 13, [1503, 1505, 56, 94])) (as := [a0, a1]) (show decode cX13_heir 5 = .ok (.invokevirtual 62, 3) by decide +kernel) rfl rfl rfl (Or.inl rfl) rfl hb hC hw k
set_option maxRecDepth 20000 in
theorem kX13_heir_8 {C : QC} {x : QP} {M : QM} {st : List CV} {L : QL} {a : Int} (ha1 : -2147483648 ≤ a) (ha2 : a < 2147483648) : Rr C mX13_heir (8, L, qi a :: st, M) x = (if a = 0 then Rr C mX13_heir (11, L, st, M) x else Rr C mX13_heir (44, L, st, M) x) := (g_if (show decode cX13_heir 8 = .ok (.ifCond .ne 36, 3) by decide +kernel) rfl ha1 ha2).trans (g_itn c_ne)
set_option maxRecDepth 20000 in
theorem kX13_heir_11 {C : QC} {x : QP} {M : QM} {st : List CV} {L : QL} {l0 l1 l2 l3 : Option CV} {r : Option Nat} : Rr C mX13_heir (11, [some (.inr (.inr r)), l1, l2, l3], st, M) x = Rr C mX13_heir (12, [some (.inr (.inr r)), l1, l2, l3], .inr (.inr r) :: st, M) x := g_pl (show decode cX13_heir 11 = .ok (.aload_n 0, 1) by decide +kernel) rfl
set_option maxRecDepth 20000 in
theorem kX13_heir_12 {C : QC} {x : QP} {M : QM} {st : List CV} {L : QL} {l0 l1 l2 l3 : Option CV} {z : Int} : Rr C mX13_heir (12, [l0, l1, l2, some (qi z)], st, M) x = Rr C mX13_heir (13, [l0, l1, l2, some (qi z)], qi z :: st, M) x := g_pl (show decode cX13_heir 12 = .ok (.iload_n 3, 1) by decide +kernel) rfl
set_option maxRecDepth 20000 in
theorem kX13_heir_13 {C : QC} {x : QP} {M : QM} {st : List CV} {L : QL} : Rr C mX13_heir (13, L, st, M) x = Rr C mX13_heir (14, L, qi 1 :: st, M) x := g_pl (show decode cX13_heir 13 = .ok (.iconst 1, 1) by decide +kernel) rfl
set_option maxRecDepth 20000 in
theorem kX13_heir_14 {C : QC} {x : QP} {M : QM} {L : QL} {rest : List CV} {a0 a1 : CV} {v : CV} {M1 : QM} {b : Nat} (hb : q_kd M b = (1, 13)) (hC : C iX13_has [qr b, a0, a1] M (some v) M1) (hw : (rest.map q_wd).sum ≤ 8) (k : Rr C mX13_heir (17, L, v :: rest, M1) x) : Rr C mX13_heir (14, L, a1 :: a0 :: qr b :: rest, M) x := g_cv (ow := 13) (e := (0, 207, 13, [1391, 1393, 32, 94])) (as := [a0, a1]) (show decode cX13_heir 14 = .ok (.invokevirtual 47, 3) by decide +kernel) rfl rfl rfl (Or.inl rfl) rfl hb hC hw k
set_option maxRecDepth 20000 in
theorem kX13_heir_17 {C : QC} {x : QP} {M : QM} {st : List CV} {L : QL} {l0 l1 l2 l3 : Option CV} {z : Int} : Rr C mX13_heir (17, [l0, l1, some (qi z), l3], st, M) x = Rr C mX13_heir (18, [l0, l1, some (qi z), l3], qi z :: st, M) x := g_pl (show decode cX13_heir 17 = .ok (.iload_n 2, 1) by decide +kernel) rfl
set_option maxRecDepth 20000 in
theorem kX13_heir_18 {C : QC} {x : QP} {M : QM} {st : List CV} {L : QL} {a b : Int} (ha1 : -2147483648 ≤ a) (ha2 : a < 2147483648) (hb1 : -2147483648 ≤ b) (hb2 : b < 2147483648) : Rr C mX13_heir (18, L, qi b :: qi a :: st, M) x = (if b < a then Rr C mX13_heir (44, L, st, M) x else Rr C mX13_heir (21, L, st, M) x) := (g_icmp (show decode cX13_heir 18 = .ok (.if_icmp .gt 26, 3) by decide +kernel) rfl ha1 ha2 hb1 hb2).trans (g_ite c_gt)
set_option maxRecDepth 20000 in
theorem kX13_heir_21 {C : QC} {x : QP} {M : QM} {st : List CV} {L : QL} {l0 l1 l2 l3 : Option CV} {r : Option Nat} : Rr C mX13_heir (21, [some (.inr (.inr r)), l1, l2, l3], st, M) x = Rr C mX13_heir (22, [some (.inr (.inr r)), l1, l2, l3], .inr (.inr r) :: st, M) x := g_pl (show decode cX13_heir 21 = .ok (.aload_n 0, 1) by decide +kernel) rfl
set_option maxRecDepth 20000 in
theorem kX13_heir_22 {C : QC} {x : QP} {M : QM} {st : List CV} {L : QL} {l0 l1 l2 l3 : Option CV} {z : Int} : Rr C mX13_heir (22, [l0, l1, l2, some (qi z)], st, M) x = Rr C mX13_heir (23, [l0, l1, l2, some (qi z)], qi z :: st, M) x := g_pl (show decode cX13_heir 22 = .ok (.iload_n 3, 1) by decide +kernel) rfl
set_option maxRecDepth 20000 in
theorem kX13_heir_23 {C : QC} {x : QP} {M : QM} {st : List CV} {L : QL} : Rr C mX13_heir (23, L, st, M) x = Rr C mX13_heir (24, L, qi 3 :: st, M) x := g_pl (show decode cX13_heir 23 = .ok (.iconst 3, 1) by decide +kernel) rfl
set_option maxRecDepth 20000 in
theorem kX13_heir_24 {C : QC} {x : QP} {M : QM} {L : QL} {rest : List CV} {a0 a1 : CV} {v : CV} {M1 : QM} {b : Nat} (hb : q_kd M b = (1, 13)) (hC : C iX13_has [qr b, a0, a1] M (some v) M1) (hw : (rest.map q_wd).sum ≤ 8) (k : Rr C mX13_heir (27, L, v :: rest, M1) x) : Rr C mX13_heir (24, L, a1 :: a0 :: qr b :: rest, M) x := g_cv (ow := 13) (e := (0, 207, 13, [1391, 1393, 32, 94])) (as := [a0, a1]) (show decode cX13_heir 24 = .ok (.invokevirtual 47, 3) by decide +kernel) rfl rfl rfl (Or.inl rfl) rfl hb hC hw k
set_option maxRecDepth 20000 in
theorem kX13_heir_27 {C : QC} {x : QP} {M : QM} {st : List CV} {L : QL} : Rr C mX13_heir (27, L, st, M) x = Rr C mX13_heir (28, L, qi (-1) :: st, M) x := g_pl (show decode cX13_heir 27 = .ok (.iconst (-1), 1) by decide +kernel) rfl
set_option maxRecDepth 20000 in
theorem kX13_heir_28 {C : QC} {x : QP} {M : QM} {st : List CV} {L : QL} {a b : Int} (ha1 : -2147483648 ≤ a) (ha2 : a < 2147483648) (hb1 : -2147483648 ≤ b) (hb2 : b < 2147483648) : Rr C mX13_heir (28, L, qi b :: qi a :: st, M) x = (if a = b then Rr C mX13_heir (31, L, st, M) x else Rr C mX13_heir (34, L, st, M) x) := (g_icmp (show decode cX13_heir 28 = .ok (.if_icmp .ne 6, 3) by decide +kernel) rfl ha1 ha2 hb1 hb2).trans (g_itn c_ne)
set_option maxRecDepth 20000 in
theorem kX13_heir_31 {C : QC} {x : QP} {M : QM} {st : List CV} {L : QL} : Rr C mX13_heir (31, L, st, M) x = Rr C mX13_heir (33, L, qi (-5) :: st, M) x := g_pl (show decode cX13_heir 31 = .ok (.bipush (-5), 2) by decide +kernel) rfl
set_option maxRecDepth 20000 in
theorem kX13_heir_33 {C : QC} {x : QP} {M : QM} {st : List CV} {L : QL} {z : Int} : Rr C mX13_heir (33, L, [qi z], M) x = x (some (qi z)) M := g_iret (show decode cX13_heir 33 = .ok (.ireturn, 1) by decide +kernel) rfl
set_option maxRecDepth 20000 in
theorem kX13_heir_34 {C : QC} {x : QP} {M : QM} {st : List CV} {L : QL} {l0 l1 l2 l3 : Option CV} {r : Option Nat} : Rr C mX13_heir (34, [some (.inr (.inr r)), l1, l2, l3], st, M) x = Rr C mX13_heir (35, [some (.inr (.inr r)), l1, l2, l3], .inr (.inr r) :: st, M) x := g_pl (show decode cX13_heir 34 = .ok (.aload_n 0, 1) by decide +kernel) rfl
set_option maxRecDepth 20000 in
theorem kX13_heir_35 {C : QC} {x : QP} {M : QM} {st : List CV} {L : QL} {l0 l1 l2 l3 : Option CV} {z : Int} : Rr C mX13_heir (35, [l0, l1, l2, some (qi z)], st, M) x = Rr C mX13_heir (36, [l0, l1, l2, some (qi z)], qi z :: st, M) x := g_pl (show decode cX13_heir 35 = .ok (.iload_n 3, 1) by decide +kernel) rfl
set_option maxRecDepth 20000 in
theorem kX13_heir_36 {C : QC} {x : QP} {M : QM} {st : List CV} {L : QL} : Rr C mX13_heir (36, L, st, M) x = Rr C mX13_heir (37, L, qi 3 :: st, M) x := g_pl (show decode cX13_heir 36 = .ok (.iconst 3, 1) by decide +kernel) rfl
set_option maxRecDepth 20000 in
theorem kX13_heir_37 {C : QC} {x : QP} {M : QM} {L : QL} {rest : List CV} {a0 a1 : CV} {v : CV} {M1 : QM} {b : Nat} (hb : q_kd M b = (1, 13)) (hC : C iX13_has [qr b, a0, a1] M (some v) M1) (hw : (rest.map q_wd).sum ≤ 8) (k : Rr C mX13_heir (40, L, v :: rest, M1) x) : Rr C mX13_heir (37, L, a1 :: a0 :: qr b :: rest, M) x := g_cv (ow := 13) (e := (0, 207, 13, [1391, 1393, 32, 94])) (as := [a0, a1]) (show decode cX13_heir 37 = .ok (.invokevirtual 47, 3) by decide +kernel) rfl rfl rfl (Or.inl rfl) rfl hb hC hw k
set_option maxRecDepth 20000 in
theorem kX13_heir_40 {C : QC} {x : QP} {M : QM} {st : List CV} {L : QL} {l0 l1 l2 l3 : Option CV} {z : Int} : Rr C mX13_heir (40, [l0, l1, l2, l3], qi z :: st, M) x = Rr C mX13_heir (41, [l0, l1, q_cut l2, some (qi z)], st, M) x := g_pl (show decode cX13_heir 40 = .ok (.istore_n 3, 1) by decide +kernel) rfl
set_option maxRecDepth 20000 in
theorem kX13_heir_41 {C : QC} {x : QP} {M : QM} {st : List CV} {L : QL} : Rr C mX13_heir (41, L, st, M) x = Rr C mX13_heir (2, L, st, M) x := g_pl (show decode cX13_heir 41 = .ok (.goto (-39), 3) by decide +kernel) rfl
set_option maxRecDepth 20000 in
theorem kX13_heir_44 {C : QC} {x : QP} {M : QM} {st : List CV} {L : QL} {l0 l1 l2 l3 : Option CV} {z : Int} : Rr C mX13_heir (44, [l0, l1, l2, some (qi z)], st, M) x = Rr C mX13_heir (45, [l0, l1, l2, some (qi z)], qi z :: st, M) x := g_pl (show decode cX13_heir 44 = .ok (.iload_n 3, 1) by decide +kernel) rfl
set_option maxRecDepth 20000 in
theorem kX13_heir_45 {C : QC} {x : QP} {M : QM} {st : List CV} {L : QL} {z : Int} : Rr C mX13_heir (45, L, [qi z], M) x = x (some (qi z)) M := g_iret (show decode cX13_heir 45 = .ok (.ireturn, 1) by decide +kernel) rfl
set_option maxRecDepth 20000 in
theorem eX13_heir {d : Nat} {M : QM} {x : QP} {a : Nat} {v0 : Int} {v1 : Int} : q_T (d + 1) iX13_heir [qr a, qi v0, qi v1] M x = Rr (q_C d) mX13_heir (0, [some (qr a), some (qi v0), some (qi v1), none], [], M) x := g_entryT (e := _) rfl (Nat.le_of_ble_eq_true rfl) rfl rfl
def mX13_depth : QI := (13, cX13_depth, false, some .int)
set_option maxRecDepth 20000 in
theorem kX13_depth_0 {C : QC} {x : QP} {M : QM} {st : List CV} {L : QL} : Rr C mX13_depth (0, L, st, M) x = Rr C mX13_depth (1, L, qi 0 :: st, M) x := g_pl (show decode cX13_depth 0 = .ok (.iconst 0, 1) by decide +kernel) rfl
set_option maxRecDepth 20000 in
theorem kX13_depth_1 {C : QC} {x : QP} {M : QM} {st : List CV} {L : QL} {l0 l1 l2 l3 l4 : Option CV} {z : Int} : Rr C mX13_depth (1, [l0, l1, l2, l3, l4], qi z :: st, M) x = Rr C mX13_depth (2, [l0, l1, q_cut l2, some (qi z), l4], st, M) x := g_pl (show decode cX13_depth 1 = .ok (.istore_n 3, 1) by decide +kernel) rfl
set_option maxRecDepth 20000 in
theorem kX13_depth_2 {C : QC} {x : QP} {M : QM} {st : List CV} {L : QL} {l0 l1 l2 l3 l4 : Option CV} {r : Option Nat} : Rr C mX13_depth (2, [some (.inr (.inr r)), l1, l2, l3, l4], st, M) x = Rr C mX13_depth (3, [some (.inr (.inr r)), l1, l2, l3, l4], .inr (.inr r) :: st, M) x := g_pl (show decode cX13_depth 2 = .ok (.aload_n 0, 1) by decide +kernel) rfl
set_option maxRecDepth 20000 in
theorem kX13_depth_3 {C : QC} {x : QP} {M : QM} {st : List CV} {L : QL} {l0 l1 l2 l3 l4 : Option CV} {z : Int} : Rr C mX13_depth (3, [l0, some (qi z), l2, l3, l4], st, M) x = Rr C mX13_depth (4, [l0, some (qi z), l2, l3, l4], qi z :: st, M) x := g_pl (show decode cX13_depth 3 = .ok (.iload_n 1, 1) by decide +kernel) rfl
set_option maxRecDepth 20000 in
theorem kX13_depth_4 {C : QC} {x : QP} {M : QM} {st : List CV} {L : QL} {l0 l1 l2 l3 l4 : Option CV} {z : Int} : Rr C mX13_depth (4, [l0, l1, some (qi z), l3, l4], st, M) x = Rr C mX13_depth (5, [l0, l1, some (qi z), l3, l4], qi z :: st, M) x := g_pl (show decode cX13_depth 4 = .ok (.iload_n 2, 1) by decide +kernel) rfl
set_option maxRecDepth 20000 in
theorem kX13_depth_5 {C : QC} {x : QP} {M : QM} {L : QL} {rest : List CV} {a0 a1 : CV} {v : CV} {M1 : QM} {b : Nat} (hb : q_kd M b = (1, 13)) (hC : C iX13_parentOn [qr b, a0, a1] M (some v) M1) (hw : (rest.map q_wd).sum ≤ 8) (k : Rr C mX13_depth (8, L, v :: rest, M1) x) : Rr C mX13_depth (5, L, a1 :: a0 :: qr b :: rest, M) x := g_cv (ow := 13) (e := (0, 227, 13, [1471, 1473, 50, 94])) (as := [a0, a1]) (show decode cX13_depth 5 = .ok (.invokevirtual 66, 3) by decide +kernel) rfl rfl rfl (Or.inl rfl) rfl hb hC hw k
set_option maxRecDepth 20000 in
theorem kX13_depth_8 {C : QC} {x : QP} {M : QM} {st : List CV} {L : QL} {l0 l1 l2 l3 l4 : Option CV} {z : Int} : Rr C mX13_depth (8, [l0, l1, l2, l3, l4], qi z :: st, M) x = Rr C mX13_depth (10, [l0, l1, l2, q_cut l3, some (qi z)], st, M) x := g_pl (show decode cX13_depth 8 = .ok (.istore 4, 2) by decide +kernel) rfl
set_option maxRecDepth 20000 in
theorem kX13_depth_10 {C : QC} {x : QP} {M : QM} {st : List CV} {L : QL} {l0 l1 l2 l3 l4 : Option CV} {z : Int} : Rr C mX13_depth (10, [l0, l1, l2, l3, some (qi z)], st, M) x = Rr C mX13_depth (12, [l0, l1, l2, l3, some (qi z)], qi z :: st, M) x := g_pl (show decode cX13_depth 10 = .ok (.iload 4, 2) by decide +kernel) rfl
set_option maxRecDepth 20000 in
theorem kX13_depth_12 {C : QC} {x : QP} {M : QM} {st : List CV} {L : QL} {a : Int} (ha1 : -2147483648 ≤ a) (ha2 : a < 2147483648) : Rr C mX13_depth (12, L, qi a :: st, M) x = (if a < 0 then Rr C mX13_depth (30, L, st, M) x else Rr C mX13_depth (15, L, st, M) x) := (g_if (show decode cX13_depth 12 = .ok (.ifCond .lt 18, 3) by decide +kernel) rfl ha1 ha2).trans (g_ite c_lt)
set_option maxRecDepth 20000 in
theorem kX13_depth_15 {C : QC} {x : QP} {M : QM} {st : List CV} {L : QL} {l0 l1 l2 l3 l4 : Option CV} {z : Int} : Rr C mX13_depth (15, [l0, l1, l2, some (qi z), l4], st, M) x = Rr C mX13_depth (18, [l0, l1, q_cut l2, some (qi (z + 1)), l4], st, M) x := g_pl (show decode cX13_depth 15 = .ok (.iinc 3 1, 3) by decide +kernel) rfl
set_option maxRecDepth 20000 in
theorem kX13_depth_18 {C : QC} {x : QP} {M : QM} {st : List CV} {L : QL} {l0 l1 l2 l3 l4 : Option CV} {r : Option Nat} : Rr C mX13_depth (18, [some (.inr (.inr r)), l1, l2, l3, l4], st, M) x = Rr C mX13_depth (19, [some (.inr (.inr r)), l1, l2, l3, l4], .inr (.inr r) :: st, M) x := g_pl (show decode cX13_depth 18 = .ok (.aload_n 0, 1) by decide +kernel) rfl
set_option maxRecDepth 20000 in
theorem kX13_depth_19 {C : QC} {x : QP} {M : QM} {st : List CV} {L : QL} {l0 l1 l2 l3 l4 : Option CV} {z : Int} : Rr C mX13_depth (19, [l0, l1, l2, l3, some (qi z)], st, M) x = Rr C mX13_depth (21, [l0, l1, l2, l3, some (qi z)], qi z :: st, M) x := g_pl (show decode cX13_depth 19 = .ok (.iload 4, 2) by decide +kernel) rfl
set_option maxRecDepth 20000 in
theorem kX13_depth_21 {C : QC} {x : QP} {M : QM} {st : List CV} {L : QL} {l0 l1 l2 l3 l4 : Option CV} {z : Int} : Rr C mX13_depth (21, [l0, l1, some (qi z), l3, l4], st, M) x = Rr C mX13_depth (22, [l0, l1, some (qi z), l3, l4], qi z :: st, M) x := g_pl (show decode cX13_depth 21 = .ok (.iload_n 2, 1) by decide +kernel) rfl
set_option maxRecDepth 20000 in
theorem kX13_depth_22 {C : QC} {x : QP} {M : QM} {L : QL} {rest : List CV} {a0 a1 : CV} {v : CV} {M1 : QM} {b : Nat} (hb : q_kd M b = (1, 13)) (hC : C iX13_parentOn [qr b, a0, a1] M (some v) M1) (hw : (rest.map q_wd).sum ≤ 8) (k : Rr C mX13_depth (25, L, v :: rest, M1) x) : Rr C mX13_depth (22, L, a1 :: a0 :: qr b :: rest, M) x := g_cv (ow := 13) (e := (0, 227, 13, [1471, 1473, 50, 94])) (as := [a0, a1]) (show decode cX13_depth 22 = .ok (.invokevirtual 66, 3) by decide +kernel) rfl rfl rfl (Or.inl rfl) rfl hb hC hw k
set_option maxRecDepth 20000 in
theorem kX13_depth_25 {C : QC} {x : QP} {M : QM} {st : List CV} {L : QL} {l0 l1 l2 l3 l4 : Option CV} {z : Int} : Rr C mX13_depth (25, [l0, l1, l2, l3, l4], qi z :: st, M) x = Rr C mX13_depth (27, [l0, l1, l2, q_cut l3, some (qi z)], st, M) x := g_pl (show decode cX13_depth 25 = .ok (.istore 4, 2) by decide +kernel) rfl
set_option maxRecDepth 20000 in
theorem kX13_depth_27 {C : QC} {x : QP} {M : QM} {st : List CV} {L : QL} : Rr C mX13_depth (27, L, st, M) x = Rr C mX13_depth (10, L, st, M) x := g_pl (show decode cX13_depth 27 = .ok (.goto (-17), 3) by decide +kernel) rfl
set_option maxRecDepth 20000 in
theorem kX13_depth_30 {C : QC} {x : QP} {M : QM} {st : List CV} {L : QL} {l0 l1 l2 l3 l4 : Option CV} {z : Int} : Rr C mX13_depth (30, [l0, l1, l2, some (qi z), l4], st, M) x = Rr C mX13_depth (31, [l0, l1, l2, some (qi z), l4], qi z :: st, M) x := g_pl (show decode cX13_depth 30 = .ok (.iload_n 3, 1) by decide +kernel) rfl
set_option maxRecDepth 20000 in
theorem kX13_depth_31 {C : QC} {x : QP} {M : QM} {st : List CV} {L : QL} {z : Int} : Rr C mX13_depth (31, L, [qi z], M) x = x (some (qi z)) M := g_iret (show decode cX13_depth 31 = .ok (.ireturn, 1) by decide +kernel) rfl
set_option maxRecDepth 20000 in
theorem eX13_depth {d : Nat} {M : QM} {x : QP} {a : Nat} {v0 : Int} {v1 : Int} : q_T (d + 1) iX13_depth [qr a, qi v0, qi v1] M x = Rr (q_C d) mX13_depth (0, [some (qr a), some (qi v0), some (qi v1), none, none], [], M) x := g_entryT (e := _) rfl (Nat.le_of_ble_eq_true rfl) rfl rfl
def mX13_children : QI := (13, cX13_children, false, some .int)
set_option maxRecDepth 20000 in
theorem kX13_children_0 {C : QC} {x : QP} {M : QM} {st : List CV} {L : QL} : Rr C mX13_children (0, L, st, M) x = Rr C mX13_children (1, L, qi 0 :: st, M) x := g_pl (show decode cX13_children 0 = .ok (.iconst 0, 1) by decide +kernel) rfl
set_option maxRecDepth 20000 in
theorem kX13_children_1 {C : QC} {x : QP} {M : QM} {st : List CV} {L : QL} {l0 l1 l2 l3 l4 : Option CV} {z : Int} : Rr C mX13_children (1, [l0, l1, l2, l3, l4], qi z :: st, M) x = Rr C mX13_children (2, [l0, l1, q_cut l2, some (qi z), l4], st, M) x := g_pl (show decode cX13_children 1 = .ok (.istore_n 3, 1) by decide +kernel) rfl
set_option maxRecDepth 20000 in
theorem kX13_children_2 {C : QC} {x : QP} {M : QM} {st : List CV} {L : QL} : Rr C mX13_children (2, L, st, M) x = Rr C mX13_children (3, L, qi 0 :: st, M) x := g_pl (show decode cX13_children 2 = .ok (.iconst 0, 1) by decide +kernel) rfl
set_option maxRecDepth 20000 in
theorem kX13_children_3 {C : QC} {x : QP} {M : QM} {st : List CV} {L : QL} {l0 l1 l2 l3 l4 : Option CV} {z : Int} : Rr C mX13_children (3, [l0, l1, l2, l3, l4], qi z :: st, M) x = Rr C mX13_children (5, [l0, l1, l2, q_cut l3, some (qi z)], st, M) x := g_pl (show decode cX13_children 3 = .ok (.istore 4, 2) by decide +kernel) rfl
set_option maxRecDepth 20000 in
theorem kX13_children_5 {C : QC} {x : QP} {M : QM} {st : List CV} {L : QL} {l0 l1 l2 l3 l4 : Option CV} {z : Int} : Rr C mX13_children (5, [l0, l1, l2, l3, some (qi z)], st, M) x = Rr C mX13_children (7, [l0, l1, l2, l3, some (qi z)], qi z :: st, M) x := g_pl (show decode cX13_children 5 = .ok (.iload 4, 2) by decide +kernel) rfl
set_option maxRecDepth 20000 in
theorem kX13_children_7 {C : QC} {x : QP} {M : QM} {st : List CV} {L : QL} {l0 l1 l2 l3 l4 : Option CV} {r : Option Nat} : Rr C mX13_children (7, [some (.inr (.inr r)), l1, l2, l3, l4], st, M) x = Rr C mX13_children (8, [some (.inr (.inr r)), l1, l2, l3, l4], .inr (.inr r) :: st, M) x := g_pl (show decode cX13_children 7 = .ok (.aload_n 0, 1) by decide +kernel) rfl
set_option maxRecDepth 20000 in
theorem kX13_children_8 {C : QC} {x : QP} {M : QM} {st : List CV} {L : QL} {a : Nat} (hk : q_kd M a = (1, 13)) : Rr C mX13_children (8, L, qr a :: st, M) x = Rr C mX13_children (11, L, q_fv M a 0 :: st, M) x := g_getf (ow := 13) (e := (13, 0, RX13, 1301, 0)) (show decode cX13_children 8 = .ok (.getfield 10, 3) by decide +kernel) rfl hk
set_option maxRecDepth 20000 in
theorem kX13_children_11 {C : QC} {x : QP} {M : QM} {st : List CV} {L : QL} : Rr C mX13_children (11, L, st, M) x = Rr C mX13_children (12, L, qi 0 :: st, M) x := g_pl (show decode cX13_children 11 = .ok (.iconst 0, 1) by decide +kernel) rfl
set_option maxRecDepth 20000 in
theorem kX13_children_12 {C : QC} {x : QP} {M : QM} {st : List CV} {L : QL} {a : Nat} {j : Int} (hk : (q_kd M a).1 = 2) (h0 : 0 ≤ j) (h1 : j < ((q_kd M a).2 : Int)) : Rr C mX13_children (12, L, qi j :: qr a :: st, M) x = Rr C mX13_children (13, L, q_fv M a j.toNat :: st, M) x := g_iald (show decode cX13_children 12 = .ok (.iaload, 1) by decide +kernel) hk h0 h1
set_option maxRecDepth 20000 in
theorem kX13_children_13 {C : QC} {x : QP} {M : QM} {st : List CV} {L : QL} {a b : Int} (ha1 : -2147483648 ≤ a) (ha2 : a < 2147483648) (hb1 : -2147483648 ≤ b) (hb2 : b < 2147483648) : Rr C mX13_children (13, L, qi b :: qi a :: st, M) x = (if a < b then Rr C mX13_children (16, L, st, M) x else Rr C mX13_children (51, L, st, M) x) := (g_icmp (show decode cX13_children 13 = .ok (.if_icmp .ge 38, 3) by decide +kernel) rfl ha1 ha2 hb1 hb2).trans (g_itn c_ge)
set_option maxRecDepth 20000 in
theorem kX13_children_16 {C : QC} {x : QP} {M : QM} {st : List CV} {L : QL} {l0 l1 l2 l3 l4 : Option CV} {z : Int} : Rr C mX13_children (16, [l0, l1, l2, some (qi z), l4], st, M) x = Rr C mX13_children (17, [l0, l1, l2, some (qi z), l4], qi z :: st, M) x := g_pl (show decode cX13_children 16 = .ok (.iload_n 3, 1) by decide +kernel) rfl
set_option maxRecDepth 20000 in
theorem kX13_children_17 {C : QC} {x : QP} {M : QM} {st : List CV} {L : QL} {l0 l1 l2 l3 l4 : Option CV} {r : Option Nat} : Rr C mX13_children (17, [some (.inr (.inr r)), l1, l2, l3, l4], st, M) x = Rr C mX13_children (18, [some (.inr (.inr r)), l1, l2, l3, l4], .inr (.inr r) :: st, M) x := g_pl (show decode cX13_children 17 = .ok (.aload_n 0, 1) by decide +kernel) rfl
set_option maxRecDepth 20000 in
theorem kX13_children_18 {C : QC} {x : QP} {M : QM} {st : List CV} {L : QL} {l0 l1 l2 l3 l4 : Option CV} {z : Int} : Rr C mX13_children (18, [l0, l1, l2, l3, some (qi z)], st, M) x = Rr C mX13_children (20, [l0, l1, l2, l3, some (qi z)], qi z :: st, M) x := g_pl (show decode cX13_children 18 = .ok (.iload 4, 2) by decide +kernel) rfl
set_option maxRecDepth 20000 in
theorem kX13_children_20 {C : QC} {x : QP} {M : QM} {st : List CV} {L : QL} {l0 l1 l2 l3 l4 : Option CV} {z : Int} : Rr C mX13_children (20, [l0, l1, some (qi z), l3, l4], st, M) x = Rr C mX13_children (21, [l0, l1, some (qi z), l3, l4], qi z :: st, M) x := g_pl (show decode cX13_children 20 = .ok (.iload_n 2, 1) by decide +kernel) rfl
set_option maxRecDepth 20000 in
theorem kX13_children_21 {C : QC} {x : QP} {M : QM} {L : QL} {rest : List CV} {a0 a1 : CV} {v : CV} {M1 : QM} {b : Nat} (hb : q_kd M b = (1, 13)) (hC : C iX13_exists [qr b, a0, a1] M (some v) M1) (hw : (rest.map q_wd).sum ≤ 8) (k : Rr C mX13_children (24, L, v :: rest, M1) x) : Rr C mX13_children (21, L, a1 :: a0 :: qr b :: rest, M) x := g_cv (ow := 13) (e := (0, 235, 13, [1503, 1505, 56, 94])) (as := [a0, a1]) (show decode cX13_children 21 = .ok (.invokevirtual 62, 3) by decide +kernel) rfl rfl rfl (Or.inl rfl) rfl hb hC hw k
set_option maxRecDepth 20000 in
theorem kX13_children_24 {C : QC} {x : QP} {M : QM} {st : List CV} {L : QL} {a : Int} (ha1 : -2147483648 ≤ a) (ha2 : a < 2147483648) : Rr C mX13_children (24, L, qi a :: st, M) x = (if a = 0 then Rr C mX13_children (42, L, st, M) x else Rr C mX13_children (27, L, st, M) x) := (g_if (show decode cX13_children 24 = .ok (.ifCond .eq 18, 3) by decide +kernel) rfl ha1 ha2).trans (g_ite c_eq)
set_option maxRecDepth 20000 in
theorem kX13_children_27 {C : QC} {x : QP} {M : QM} {st : List CV} {L : QL} {l0 l1 l2 l3 l4 : Option CV} {r : Option Nat} : Rr C mX13_children (27, [some (.inr (.inr r)), l1, l2, l3, l4], st, M) x = Rr C mX13_children (28, [some (.inr (.inr r)), l1, l2, l3, l4], .inr (.inr r) :: st, M) x := g_pl (show decode cX13_children 27 = .ok (.aload_n 0, 1) by decide +kernel) rfl
set_option maxRecDepth 20000 in
theorem kX13_children_28 {C : QC} {x : QP} {M : QM} {st : List CV} {L : QL} {l0 l1 l2 l3 l4 : Option CV} {z : Int} : Rr C mX13_children (28, [l0, l1, l2, l3, some (qi z)], st, M) x = Rr C mX13_children (30, [l0, l1, l2, l3, some (qi z)], qi z :: st, M) x := g_pl (show decode cX13_children 28 = .ok (.iload 4, 2) by decide +kernel) rfl
set_option maxRecDepth 20000 in
theorem kX13_children_30 {C : QC} {x : QP} {M : QM} {st : List CV} {L : QL} {l0 l1 l2 l3 l4 : Option CV} {z : Int} : Rr C mX13_children (30, [l0, l1, some (qi z), l3, l4], st, M) x = Rr C mX13_children (31, [l0, l1, some (qi z), l3, l4], qi z :: st, M) x := g_pl (show decode cX13_children 30 = .ok (.iload_n 2, 1) by decide +kernel) rfl
set_option maxRecDepth 20000 in
theorem kX13_children_31 {C : QC} {x : QP} {M : QM} {L : QL} {rest : List CV} {a0 a1 : CV} {v : CV} {M1 : QM} {b : Nat} (hb : q_kd M b = (1, 13)) (hC : C iX13_parentOn [qr b, a0, a1] M (some v) M1) (hw : (rest.map q_wd).sum ≤ 8) (k : Rr C mX13_children (34, L, v :: rest, M1) x) : Rr C mX13_children (31, L, a1 :: a0 :: qr b :: rest, M) x := g_cv (ow := 13) (e := (0, 227, 13, [1471, 1473, 50, 94])) (as := [a0, a1]) (show decode cX13_children 31 = .ok (.invokevirtual 66, 3) by decide +kernel) rfl rfl rfl (Or.inl rfl) rfl hb hC hw k
set_option maxRecDepth 20000 in
theorem kX13_children_34 {C : QC} {x : QP} {M : QM} {st : List CV} {L : QL} {l0 l1 l2 l3 l4 : Option CV} {z : Int} : Rr C mX13_children (34, [l0, some (qi z), l2, l3, l4], st, M) x = Rr C mX13_children (35, [l0, some (qi z), l2, l3, l4], qi z :: st, M) x := g_pl (show decode cX13_children 34 = .ok (.iload_n 1, 1) by decide +kernel) rfl
set_option maxRecDepth 20000 in
theorem kX13_children_35 {C : QC} {x : QP} {M : QM} {st : List CV} {L : QL} {a b : Int} (ha1 : -2147483648 ≤ a) (ha2 : a < 2147483648) (hb1 : -2147483648 ≤ b) (hb2 : b < 2147483648) : Rr C mX13_children (35, L, qi b :: qi a :: st, M) x = (if a = b then Rr C mX13_children (38, L, st, M) x else Rr C mX13_children (42, L, st, M) x) := (g_icmp (show decode cX13_children 35 = .ok (.if_icmp .ne 7, 3) by decide +kernel) rfl ha1 ha2 hb1 hb2).trans (g_itn c_ne)
set_option maxRecDepth 20000 in
theorem kX13_children_38 {C : QC} {x : QP} {M : QM} {st : List CV} {L : QL} : Rr C mX13_children (38, L, st, M) x = Rr C mX13_children (39, L, qi 1 :: st, M) x := g_pl (show decode cX13_children 38 = .ok (.iconst 1, 1) by decide +kernel) rfl
set_option maxRecDepth 20000 in
theorem kX13_children_39 {C : QC} {x : QP} {M : QM} {st : List CV} {L : QL} : Rr C mX13_children (39, L, st, M) x = Rr C mX13_children (43, L, st, M) x := g_pl (show decode cX13_children 39 = .ok (.goto 4, 3) by decide +kernel) rfl
set_option maxRecDepth 20000 in
theorem kX13_children_42 {C : QC} {x : QP} {M : QM} {st : List CV} {L : QL} : Rr C mX13_children (42, L, st, M) x = Rr C mX13_children (43, L, qi 0 :: st, M) x := g_pl (show decode cX13_children 42 = .ok (.iconst 0, 1) by decide +kernel) rfl
set_option maxRecDepth 20000 in
theorem kX13_children_43 {C : QC} {x : QP} {M : QM} {st : List CV} {L : QL} {a b : Int} : Rr C mX13_children (43, L, qi b :: qi a :: st, M) x = Rr C mX13_children (44, L, qi (a + b) :: st, M) x := g_pl (show decode cX13_children 43 = .ok (.iadd, 1) by decide +kernel) rfl
set_option maxRecDepth 20000 in
theorem kX13_children_44 {C : QC} {x : QP} {M : QM} {st : List CV} {L : QL} {l0 l1 l2 l3 l4 : Option CV} {z : Int} : Rr C mX13_children (44, [l0, l1, l2, l3, l4], qi z :: st, M) x = Rr C mX13_children (45, [l0, l1, q_cut l2, some (qi z), l4], st, M) x := g_pl (show decode cX13_children 44 = .ok (.istore_n 3, 1) by decide +kernel) rfl
set_option maxRecDepth 20000 in
theorem kX13_children_45 {C : QC} {x : QP} {M : QM} {st : List CV} {L : QL} {l0 l1 l2 l3 l4 : Option CV} {z : Int} : Rr C mX13_children (45, [l0, l1, l2, l3, some (qi z)], st, M) x = Rr C mX13_children (48, [l0, l1, l2, q_cut l3, some (qi (z + 1))], st, M) x := g_pl (show decode cX13_children 45 = .ok (.iinc 4 1, 3) by decide +kernel) rfl
set_option maxRecDepth 20000 in
theorem kX13_children_48 {C : QC} {x : QP} {M : QM} {st : List CV} {L : QL} : Rr C mX13_children (48, L, st, M) x = Rr C mX13_children (5, L, st, M) x := g_pl (show decode cX13_children 48 = .ok (.goto (-43), 3) by decide +kernel) rfl
set_option maxRecDepth 20000 in
theorem kX13_children_51 {C : QC} {x : QP} {M : QM} {st : List CV} {L : QL} {l0 l1 l2 l3 l4 : Option CV} {z : Int} : Rr C mX13_children (51, [l0, l1, l2, some (qi z), l4], st, M) x = Rr C mX13_children (52, [l0, l1, l2, some (qi z), l4], qi z :: st, M) x := g_pl (show decode cX13_children 51 = .ok (.iload_n 3, 1) by decide +kernel) rfl
set_option maxRecDepth 20000 in
theorem kX13_children_52 {C : QC} {x : QP} {M : QM} {st : List CV} {L : QL} {z : Int} : Rr C mX13_children (52, L, [qi z], M) x = x (some (qi z)) M := g_iret (show decode cX13_children 52 = .ok (.ireturn, 1) by decide +kernel) rfl
set_option maxRecDepth 20000 in
theorem eX13_children {d : Nat} {M : QM} {x : QP} {a : Nat} {v0 : Int} {v1 : Int} : q_T (d + 1) iX13_children [qr a, qi v0, qi v1] M x = Rr (q_C d) mX13_children (0, [some (qr a), some (qi v0), some (qi v1), none, none], [], M) x := g_entryT (e := _) rfl (Nat.le_of_ble_eq_true rfl) rfl rfl
def mX13_on : QI := (13, cX13_on, false, some .int)
set_option maxRecDepth 20000 in
theorem kX13_on_0 {C : QC} {x : QP} {M : QM} {st : List CV} {L : QL} {l0 l1 l2 l3 l4 l5 : Option CV} {r : Option Nat} : Rr C mX13_on (0, [some (.inr (.inr r)), l1, l2, l3, l4, l5], st, M) x = Rr C mX13_on (1, [some (.inr (.inr r)), l1, l2, l3, l4, l5], .inr (.inr r) :: st, M) x := g_pl (show decode cX13_on 0 = .ok (.aload_n 0, 1) by decide +kernel) rfl
set_option maxRecDepth 20000 in
theorem kX13_on_1 {C : QC} {x : QP} {M : QM} {st : List CV} {L : QL} {l0 l1 l2 l3 l4 l5 : Option CV} {z : Int} : Rr C mX13_on (1, [l0, some (qi z), l2, l3, l4, l5], st, M) x = Rr C mX13_on (2, [l0, some (qi z), l2, l3, l4, l5], qi z :: st, M) x := g_pl (show decode cX13_on 1 = .ok (.iload_n 1, 1) by decide +kernel) rfl
set_option maxRecDepth 20000 in
theorem kX13_on_2 {C : QC} {x : QP} {M : QM} {L : QL} {rest : List CV} {a0 : CV} {v : CV} {M1 : QM} {b : Nat} (hb : q_kd M b = (1, 13)) (hC : C iX13_isPlace [qr b, a0] M (some v) M1) (hw : (rest.map q_wd).sum ≤ 8) (k : Rr C mX13_on (5, L, v :: rest, M1) x) : Rr C mX13_on (2, L, a0 :: qr b :: rest, M) x := g_cv (ow := 13) (e := (0, 205, 13, [1384, 1386, 31, 94])) (as := [a0]) (show decode cX13_on 2 = .ok (.invokevirtual 94, 3) by decide +kernel) rfl rfl rfl (Or.inl rfl) rfl hb hC hw k
set_option maxRecDepth 20000 in
theorem kX13_on_5 {C : QC} {x : QP} {M : QM} {st : List CV} {L : QL} {a : Int} (ha1 : -2147483648 ≤ a) (ha2 : a < 2147483648) : Rr C mX13_on (5, L, qi a :: st, M) x = (if a = 0 then Rr C mX13_on (24, L, st, M) x else Rr C mX13_on (8, L, st, M) x) := (g_if (show decode cX13_on 5 = .ok (.ifCond .eq 19, 3) by decide +kernel) rfl ha1 ha2).trans (g_ite c_eq)
set_option maxRecDepth 20000 in
theorem kX13_on_8 {C : QC} {x : QP} {M : QM} {st : List CV} {L : QL} {l0 l1 l2 l3 l4 l5 : Option CV} {z : Int} : Rr C mX13_on (8, [l0, l1, l2, some (qi z), l4, l5], st, M) x = Rr C mX13_on (9, [l0, l1, l2, some (qi z), l4, l5], qi z :: st, M) x := g_pl (show decode cX13_on 8 = .ok (.iload_n 3, 1) by decide +kernel) rfl
set_option maxRecDepth 20000 in
theorem kX13_on_9 {C : QC} {x : QP} {M : QM} {st : List CV} {L : QL} : Rr C mX13_on (9, L, st, M) x = Rr C mX13_on (10, L, qi 0 :: st, M) x := g_pl (show decode cX13_on 9 = .ok (.iconst 0, 1) by decide +kernel) rfl
set_option maxRecDepth 20000 in
theorem kX13_on_10 {C : QC} {x : QP} {M : QM} {st : List CV} {L : QL} : Rr C mX13_on (10, L, st, M) x = Rr C mX13_on (12, L, qi 6 :: st, M) x := g_pl (show decode cX13_on 10 = .ok (.bipush 6, 2) by decide +kernel) rfl
set_option maxRecDepth 20000 in
theorem kX13_on_12 {C : QC} {x : QP} {M : QM} {L : QL} {rest : List CV} {a0 a1 a2 : CV} {v : CV} {M1 : QM} (hC : C iX13_in [a0, a1, a2] M (some v) M1) (hw : (rest.map q_wd).sum ≤ 8) (k : Rr C mX13_on (15, L, v :: rest, M1) x) : Rr C mX13_on (12, L, a2 :: a1 :: a0 :: rest, M) x := g_cs (ow := 13) (e := (1, 198, 0, [1357, 1358, 94])) (as := [a0, a1, a2]) (show decode cX13_on 12 = .ok (.invokestatic 43, 3) by decide +kernel) rfl rfl rfl rfl (Or.inl rfl) rfl hC hw k
set_option maxRecDepth 20000 in
theorem kX13_on_15 {C : QC} {x : QP} {M : QM} {st : List CV} {L : QL} {a : Int} (ha1 : -2147483648 ≤ a) (ha2 : a < 2147483648) : Rr C mX13_on (15, L, qi a :: st, M) x = (if a = 0 then Rr C mX13_on (18, L, st, M) x else Rr C mX13_on (26, L, st, M) x) := (g_if (show decode cX13_on 15 = .ok (.ifCond .ne 11, 3) by decide +kernel) rfl ha1 ha2).trans (g_itn c_ne)
set_option maxRecDepth 20000 in
theorem kX13_on_18 {C : QC} {x : QP} {M : QM} {st : List CV} {L : QL} {l0 l1 l2 l3 l4 l5 : Option CV} {z : Int} : Rr C mX13_on (18, [l0, l1, l2, some (qi z), l4, l5], st, M) x = Rr C mX13_on (19, [l0, l1, l2, some (qi z), l4, l5], qi z :: st, M) x := g_pl (show decode cX13_on 18 = .ok (.iload_n 3, 1) by decide +kernel) rfl
set_option maxRecDepth 20000 in
theorem kX13_on_19 {C : QC} {x : QP} {M : QM} {st : List CV} {L : QL} : Rr C mX13_on (19, L, st, M) x = Rr C mX13_on (21, L, qi 10 :: st, M) x := g_pl (show decode cX13_on 19 = .ok (.bipush 10, 2) by decide +kernel) rfl
set_option maxRecDepth 20000 in
theorem kX13_on_21 {C : QC} {x : QP} {M : QM} {st : List CV} {L : QL} {a b : Int} (ha1 : -2147483648 ≤ a) (ha2 : a < 2147483648) (hb1 : -2147483648 ≤ b) (hb2 : b < 2147483648) : Rr C mX13_on (21, L, qi b :: qi a :: st, M) x = (if a < b then Rr C mX13_on (24, L, st, M) x else Rr C mX13_on (26, L, st, M) x) := (g_icmp (show decode cX13_on 21 = .ok (.if_icmp .ge 5, 3) by decide +kernel) rfl ha1 ha2 hb1 hb2).trans (g_itn c_ge)
set_option maxRecDepth 20000 in
theorem kX13_on_24 {C : QC} {x : QP} {M : QM} {st : List CV} {L : QL} : Rr C mX13_on (24, L, st, M) x = Rr C mX13_on (25, L, qi (-1) :: st, M) x := g_pl (show decode cX13_on 24 = .ok (.iconst (-1), 1) by decide +kernel) rfl
set_option maxRecDepth 20000 in
theorem kX13_on_25 {C : QC} {x : QP} {M : QM} {st : List CV} {L : QL} {z : Int} : Rr C mX13_on (25, L, [qi z], M) x = x (some (qi z)) M := g_iret (show decode cX13_on 25 = .ok (.ireturn, 1) by decide +kernel) rfl
set_option maxRecDepth 20000 in
theorem kX13_on_26 {C : QC} {x : QP} {M : QM} {st : List CV} {L : QL} {l0 l1 l2 l3 l4 l5 : Option CV} {z : Int} : Rr C mX13_on (26, [l0, l1, some (qi z), l3, l4, l5], st, M) x = Rr C mX13_on (27, [l0, l1, some (qi z), l3, l4, l5], qi z :: st, M) x := g_pl (show decode cX13_on 26 = .ok (.iload_n 2, 1) by decide +kernel) rfl
set_option maxRecDepth 20000 in
theorem kX13_on_27 {C : QC} {x : QP} {M : QM} {L : QL} {rest : List CV} {a0 : CV} {v : CV} {M1 : QM} (hC : C iX13_isDay [a0] M (some v) M1) (hw : (rest.map q_wd).sum ≤ 8) (k : Rr C mX13_on (30, L, v :: rest, M1) x) : Rr C mX13_on (27, L, a0 :: rest, M) x := g_cs (ow := 13) (e := (1, 206, 0, [1388, 1389, 94])) (as := [a0]) (show decode cX13_on 27 = .ok (.invokestatic 97, 3) by decide +kernel) rfl rfl rfl rfl (Or.inl rfl) rfl hC hw k
set_option maxRecDepth 20000 in
theorem kX13_on_30 {C : QC} {x : QP} {M : QM} {st : List CV} {L : QL} {a : Int} (ha1 : -2147483648 ≤ a) (ha2 : a < 2147483648) : Rr C mX13_on (30, L, qi a :: st, M) x = (if a = 0 then Rr C mX13_on (33, L, st, M) x else Rr C mX13_on (36, L, st, M) x) := (g_if (show decode cX13_on 30 = .ok (.ifCond .ne 6, 3) by decide +kernel) rfl ha1 ha2).trans (g_itn c_ne)
set_option maxRecDepth 20000 in
theorem kX13_on_33 {C : QC} {x : QP} {M : QM} {st : List CV} {L : QL} : Rr C mX13_on (33, L, st, M) x = Rr C mX13_on (35, L, qi (-2) :: st, M) x := g_pl (show decode cX13_on 33 = .ok (.bipush (-2), 2) by decide +kernel) rfl
set_option maxRecDepth 20000 in
theorem kX13_on_35 {C : QC} {x : QP} {M : QM} {st : List CV} {L : QL} {z : Int} : Rr C mX13_on (35, L, [qi z], M) x = x (some (qi z)) M := g_iret (show decode cX13_on 35 = .ok (.ireturn, 1) by decide +kernel) rfl
set_option maxRecDepth 20000 in
theorem kX13_on_36 {C : QC} {x : QP} {M : QM} {st : List CV} {L : QL} {l0 l1 l2 l3 l4 l5 : Option CV} {r : Option Nat} : Rr C mX13_on (36, [some (.inr (.inr r)), l1, l2, l3, l4, l5], st, M) x = Rr C mX13_on (37, [some (.inr (.inr r)), l1, l2, l3, l4, l5], .inr (.inr r) :: st, M) x := g_pl (show decode cX13_on 36 = .ok (.aload_n 0, 1) by decide +kernel) rfl
set_option maxRecDepth 20000 in
theorem kX13_on_37 {C : QC} {x : QP} {M : QM} {st : List CV} {L : QL} {l0 l1 l2 l3 l4 l5 : Option CV} {z : Int} : Rr C mX13_on (37, [l0, some (qi z), l2, l3, l4, l5], st, M) x = Rr C mX13_on (38, [l0, some (qi z), l2, l3, l4, l5], qi z :: st, M) x := g_pl (show decode cX13_on 37 = .ok (.iload_n 1, 1) by decide +kernel) rfl
set_option maxRecDepth 20000 in
theorem kX13_on_38 {C : QC} {x : QP} {M : QM} {st : List CV} {L : QL} {l0 l1 l2 l3 l4 l5 : Option CV} {z : Int} : Rr C mX13_on (38, [l0, l1, some (qi z), l3, l4, l5], st, M) x = Rr C mX13_on (39, [l0, l1, some (qi z), l3, l4, l5], qi z :: st, M) x := g_pl (show decode cX13_on 38 = .ok (.iload_n 2, 1) by decide +kernel) rfl
set_option maxRecDepth 20000 in
theorem kX13_on_39 {C : QC} {x : QP} {M : QM} {L : QL} {rest : List CV} {a0 a1 : CV} {v : CV} {M1 : QM} {b : Nat} (hb : q_kd M b = (1, 13)) (hC : C iX13_exists [qr b, a0, a1] M (some v) M1) (hw : (rest.map q_wd).sum ≤ 8) (k : Rr C mX13_on (42, L, v :: rest, M1) x) : Rr C mX13_on (39, L, a1 :: a0 :: qr b :: rest, M) x := g_cv (ow := 13) (e := (0, 235, 13, [1503, 1505, 56, 94])) (as := [a0, a1]) (show decode cX13_on 39 = .ok (.invokevirtual 62, 3) by decide +kernel) rfl rfl rfl (Or.inl rfl) rfl hb hC hw k
set_option maxRecDepth 20000 in
theorem kX13_on_42 {C : QC} {x : QP} {M : QM} {st : List CV} {L : QL} {l0 l1 l2 l3 l4 l5 : Option CV} {z : Int} : Rr C mX13_on (42, [l0, l1, l2, l3, l4, l5], qi z :: st, M) x = Rr C mX13_on (44, [l0, l1, l2, q_cut l3, some (qi z), l5], st, M) x := g_pl (show decode cX13_on 42 = .ok (.istore 4, 2) by decide +kernel) rfl
set_option maxRecDepth 20000 in
theorem kX13_on_44 {C : QC} {x : QP} {M : QM} {st : List CV} {L : QL} {l0 l1 l2 l3 l4 l5 : Option CV} {z : Int} : Rr C mX13_on (44, [l0, l1, l2, some (qi z), l4, l5], st, M) x = Rr C mX13_on (45, [l0, l1, l2, some (qi z), l4, l5], qi z :: st, M) x := g_pl (show decode cX13_on 44 = .ok (.iload_n 3, 1) by decide +kernel) rfl
set_option maxRecDepth 20000 in
theorem kX13_on_45 {C : QC} {x : QP} {M : QM} {st : List CV} {L : QL} {a : Int} (ha1 : -2147483648 ≤ a) (ha2 : a < 2147483648) : Rr C mX13_on (45, L, qi a :: st, M) x = (if a = 0 then Rr C mX13_on (80, L, st, M) x else if a = 1 then Rr C mX13_on (91, L, st, M) x else if a = 6 then Rr C mX13_on (98, L, st, M) x else Rr C mX13_on (105, L, st, M) x) := by
  by_cases h0 : a = 0
  · subst h0; rw [if_pos rfl]; exact g_lsw (off := 35) (show decode cX13_on 45 = .ok (.lookupswitch 60 #[(0, 35), (1, 46), (6, 53)], 35) by decide +kernel) (by decide) (by decide) (by decide) rfl
  rw [if_neg h0]
  by_cases h1 : a = 1
  · subst h1; rw [if_pos rfl]; exact g_lsw (off := 46) (show decode cX13_on 45 = .ok (.lookupswitch 60 #[(0, 35), (1, 46), (6, 53)], 35) by decide +kernel) (by decide) (by decide) (by decide) rfl
  rw [if_neg h1]
  by_cases h2 : a = 6
  · subst h2; rw [if_pos rfl]; exact g_lsw (off := 53) (show decode cX13_on 45 = .ok (.lookupswitch 60 #[(0, 35), (1, 46), (6, 53)], 35) by decide +kernel) (by decide) (by decide) (by decide) rfl
  rw [if_neg h2]
  exact g_lsw (off := 60) (show decode cX13_on 45 = .ok (.lookupswitch 60 #[(0, 35), (1, 46), (6, 53)], 35) by decide +kernel) ⟨ha1, ha2⟩ (by decide) (by simp only [Op.lookupswitch.offset_cons, Op.lookupswitch.offset]; simp [Ne.symm, *]) rfl
set_option maxRecDepth 20000 in
theorem kX13_on_80 {C : QC} {x : QP} {M : QM} {st : List CV} {L : QL} {l0 l1 l2 l3 l4 l5 : Option CV} {z : Int} : Rr C mX13_on (80, [l0, l1, l2, l3, some (qi z), l5], st, M) x = Rr C mX13_on (82, [l0, l1, l2, l3, some (qi z), l5], qi z :: st, M) x := g_pl (show decode cX13_on 80 = .ok (.iload 4, 2) by decide +kernel) rfl
set_option maxRecDepth 20000 in
theorem kX13_on_82 {C : QC} {x : QP} {M : QM} {st : List CV} {L : QL} {a : Int} (ha1 : -2147483648 ≤ a) (ha2 : a < 2147483648) : Rr C mX13_on (82, L, qi a :: st, M) x = (if a = 0 then Rr C mX13_on (89, L, st, M) x else Rr C mX13_on (85, L, st, M) x) := (g_if (show decode cX13_on 82 = .ok (.ifCond .eq 7, 3) by decide +kernel) rfl ha1 ha2).trans (g_ite c_eq)
set_option maxRecDepth 20000 in
theorem kX13_on_85 {C : QC} {x : QP} {M : QM} {st : List CV} {L : QL} : Rr C mX13_on (85, L, st, M) x = Rr C mX13_on (86, L, qi 1 :: st, M) x := g_pl (show decode cX13_on 85 = .ok (.iconst 1, 1) by decide +kernel) rfl
set_option maxRecDepth 20000 in
theorem kX13_on_86 {C : QC} {x : QP} {M : QM} {st : List CV} {L : QL} : Rr C mX13_on (86, L, st, M) x = Rr C mX13_on (90, L, st, M) x := g_pl (show decode cX13_on 86 = .ok (.goto 4, 3) by decide +kernel) rfl
set_option maxRecDepth 20000 in
theorem kX13_on_89 {C : QC} {x : QP} {M : QM} {st : List CV} {L : QL} : Rr C mX13_on (89, L, st, M) x = Rr C mX13_on (90, L, qi 0 :: st, M) x := g_pl (show decode cX13_on 89 = .ok (.iconst 0, 1) by decide +kernel) rfl
set_option maxRecDepth 20000 in
theorem kX13_on_90 {C : QC} {x : QP} {M : QM} {st : List CV} {L : QL} {z : Int} : Rr C mX13_on (90, L, [qi z], M) x = x (some (qi z)) M := g_iret (show decode cX13_on 90 = .ok (.ireturn, 1) by decide +kernel) rfl
set_option maxRecDepth 20000 in
theorem kX13_on_91 {C : QC} {x : QP} {M : QM} {st : List CV} {L : QL} {l0 l1 l2 l3 l4 l5 : Option CV} {r : Option Nat} : Rr C mX13_on (91, [some (.inr (.inr r)), l1, l2, l3, l4, l5], st, M) x = Rr C mX13_on (92, [some (.inr (.inr r)), l1, l2, l3, l4, l5], .inr (.inr r) :: st, M) x := g_pl (show decode cX13_on 91 = .ok (.aload_n 0, 1) by decide +kernel) rfl
set_option maxRecDepth 20000 in
theorem kX13_on_92 {C : QC} {x : QP} {M : QM} {st : List CV} {L : QL} {l0 l1 l2 l3 l4 l5 : Option CV} {z : Int} : Rr C mX13_on (92, [l0, some (qi z), l2, l3, l4, l5], st, M) x = Rr C mX13_on (93, [l0, some (qi z), l2, l3, l4, l5], qi z :: st, M) x := g_pl (show decode cX13_on 92 = .ok (.iload_n 1, 1) by decide +kernel) rfl
set_option maxRecDepth 20000 in
theorem kX13_on_93 {C : QC} {x : QP} {M : QM} {st : List CV} {L : QL} : Rr C mX13_on (93, L, st, M) x = Rr C mX13_on (94, L, qi 0 :: st, M) x := g_pl (show decode cX13_on 93 = .ok (.iconst 0, 1) by decide +kernel) rfl
set_option maxRecDepth 20000 in
theorem kX13_on_94 {C : QC} {x : QP} {M : QM} {L : QL} {rest : List CV} {a0 a1 : CV} {v : CV} {M1 : QM} {b : Nat} (hb : q_kd M b = (1, 13)) (hC : C iX13_has [qr b, a0, a1] M (some v) M1) (hw : (rest.map q_wd).sum ≤ 8) (k : Rr C mX13_on (97, L, v :: rest, M1) x) : Rr C mX13_on (94, L, a1 :: a0 :: qr b :: rest, M) x := g_cv (ow := 13) (e := (0, 207, 13, [1391, 1393, 32, 94])) (as := [a0, a1]) (show decode cX13_on 94 = .ok (.invokevirtual 47, 3) by decide +kernel) rfl rfl rfl (Or.inl rfl) rfl hb hC hw k
set_option maxRecDepth 20000 in
theorem kX13_on_97 {C : QC} {x : QP} {M : QM} {st : List CV} {L : QL} {z : Int} : Rr C mX13_on (97, L, [qi z], M) x = x (some (qi z)) M := g_iret (show decode cX13_on 97 = .ok (.ireturn, 1) by decide +kernel) rfl
set_option maxRecDepth 20000 in
theorem kX13_on_98 {C : QC} {x : QP} {M : QM} {st : List CV} {L : QL} {l0 l1 l2 l3 l4 l5 : Option CV} {r : Option Nat} : Rr C mX13_on (98, [some (.inr (.inr r)), l1, l2, l3, l4, l5], st, M) x = Rr C mX13_on (99, [some (.inr (.inr r)), l1, l2, l3, l4, l5], .inr (.inr r) :: st, M) x := g_pl (show decode cX13_on 98 = .ok (.aload_n 0, 1) by decide +kernel) rfl
set_option maxRecDepth 20000 in
theorem kX13_on_99 {C : QC} {x : QP} {M : QM} {st : List CV} {L : QL} {l0 l1 l2 l3 l4 l5 : Option CV} {z : Int} : Rr C mX13_on (99, [l0, some (qi z), l2, l3, l4, l5], st, M) x = Rr C mX13_on (100, [l0, some (qi z), l2, l3, l4, l5], qi z :: st, M) x := g_pl (show decode cX13_on 99 = .ok (.iload_n 1, 1) by decide +kernel) rfl
set_option maxRecDepth 20000 in
theorem kX13_on_100 {C : QC} {x : QP} {M : QM} {st : List CV} {L : QL} {l0 l1 l2 l3 l4 l5 : Option CV} {z : Int} : Rr C mX13_on (100, [l0, l1, some (qi z), l3, l4, l5], st, M) x = Rr C mX13_on (101, [l0, l1, some (qi z), l3, l4, l5], qi z :: st, M) x := g_pl (show decode cX13_on 100 = .ok (.iload_n 2, 1) by decide +kernel) rfl
set_option maxRecDepth 20000 in
theorem kX13_on_101 {C : QC} {x : QP} {M : QM} {L : QL} {rest : List CV} {a0 a1 : CV} {v : CV} {M1 : QM} {b : Nat} (hb : q_kd M b = (1, 13)) (hC : C iX13_heir [qr b, a0, a1] M (some v) M1) (hw : (rest.map q_wd).sum ≤ 8) (k : Rr C mX13_on (104, L, v :: rest, M1) x) : Rr C mX13_on (101, L, a1 :: a0 :: qr b :: rest, M) x := g_cv (ow := 13) (e := (0, 247, 13, [1551, 1553, 64, 94])) (as := [a0, a1]) (show decode cX13_on 101 = .ok (.invokevirtual 186, 3) by decide +kernel) rfl rfl rfl (Or.inl rfl) rfl hb hC hw k
set_option maxRecDepth 20000 in
theorem kX13_on_104 {C : QC} {x : QP} {M : QM} {st : List CV} {L : QL} {z : Int} : Rr C mX13_on (104, L, [qi z], M) x = x (some (qi z)) M := g_iret (show decode cX13_on 104 = .ok (.ireturn, 1) by decide +kernel) rfl
set_option maxRecDepth 20000 in
theorem kX13_on_105 {C : QC} {x : QP} {M : QM} {st : List CV} {L : QL} {l0 l1 l2 l3 l4 l5 : Option CV} {z : Int} : Rr C mX13_on (105, [l0, l1, l2, l3, some (qi z), l5], st, M) x = Rr C mX13_on (107, [l0, l1, l2, l3, some (qi z), l5], qi z :: st, M) x := g_pl (show decode cX13_on 105 = .ok (.iload 4, 2) by decide +kernel) rfl
set_option maxRecDepth 20000 in
theorem kX13_on_107 {C : QC} {x : QP} {M : QM} {st : List CV} {L : QL} {a : Int} (ha1 : -2147483648 ≤ a) (ha2 : a < 2147483648) : Rr C mX13_on (107, L, qi a :: st, M) x = (if a = 0 then Rr C mX13_on (110, L, st, M) x else Rr C mX13_on (113, L, st, M) x) := (g_if (show decode cX13_on 107 = .ok (.ifCond .ne 6, 3) by decide +kernel) rfl ha1 ha2).trans (g_itn c_ne)
set_option maxRecDepth 20000 in
theorem kX13_on_110 {C : QC} {x : QP} {M : QM} {st : List CV} {L : QL} : Rr C mX13_on (110, L, st, M) x = Rr C mX13_on (112, L, qi (-5) :: st, M) x := g_pl (show decode cX13_on 110 = .ok (.bipush (-5), 2) by decide +kernel) rfl
set_option maxRecDepth 20000 in
theorem kX13_on_112 {C : QC} {x : QP} {M : QM} {st : List CV} {L : QL} {z : Int} : Rr C mX13_on (112, L, [qi z], M) x = x (some (qi z)) M := g_iret (show decode cX13_on 112 = .ok (.ireturn, 1) by decide +kernel) rfl
set_option maxRecDepth 20000 in
theorem kX13_on_113 {C : QC} {x : QP} {M : QM} {st : List CV} {L : QL} {l0 l1 l2 l3 l4 l5 : Option CV} {r : Option Nat} : Rr C mX13_on (113, [some (.inr (.inr r)), l1, l2, l3, l4, l5], st, M) x = Rr C mX13_on (114, [some (.inr (.inr r)), l1, l2, l3, l4, l5], .inr (.inr r) :: st, M) x := g_pl (show decode cX13_on 113 = .ok (.aload_n 0, 1) by decide +kernel) rfl
set_option maxRecDepth 20000 in
theorem kX13_on_114 {C : QC} {x : QP} {M : QM} {st : List CV} {L : QL} {l0 l1 l2 l3 l4 l5 : Option CV} {z : Int} : Rr C mX13_on (114, [l0, some (qi z), l2, l3, l4, l5], st, M) x = Rr C mX13_on (115, [l0, some (qi z), l2, l3, l4, l5], qi z :: st, M) x := g_pl (show decode cX13_on 114 = .ok (.iload_n 1, 1) by decide +kernel) rfl
set_option maxRecDepth 20000 in
theorem kX13_on_115 {C : QC} {x : QP} {M : QM} {st : List CV} {L : QL} {l0 l1 l2 l3 l4 l5 : Option CV} {z : Int} : Rr C mX13_on (115, [l0, l1, some (qi z), l3, l4, l5], st, M) x = Rr C mX13_on (116, [l0, l1, some (qi z), l3, l4, l5], qi z :: st, M) x := g_pl (show decode cX13_on 115 = .ok (.iload_n 2, 1) by decide +kernel) rfl
set_option maxRecDepth 20000 in
theorem kX13_on_116 {C : QC} {x : QP} {M : QM} {L : QL} {rest : List CV} {a0 a1 : CV} {v : CV} {M1 : QM} {b : Nat} (hb : q_kd M b = (1, 13)) (hC : C iX13_nameOn [qr b, a0, a1] M (some v) M1) (hw : (rest.map q_wd).sum ≤ 8) (k : Rr C mX13_on (119, L, v :: rest, M1) x) : Rr C mX13_on (116, L, a1 :: a0 :: qr b :: rest, M) x := g_cv (ow := 13) (e := (0, 223, 13, [1455, 1457, 47, 94])) (as := [a0, a1]) (show decode cX13_on 116 = .ok (.invokevirtual 59, 3) by decide +kernel) rfl rfl rfl (Or.inl rfl) rfl hb hC hw k
set_option maxRecDepth 20000 in
theorem kX13_on_119 {C : QC} {x : QP} {M : QM} {st : List CV} {L : QL} {l0 l1 l2 l3 l4 l5 : Option CV} {z : Int} : Rr C mX13_on (119, [l0, l1, l2, l3, l4, l5], qi z :: st, M) x = Rr C mX13_on (121, [l0, l1, l2, l3, q_cut l4, some (qi z)], st, M) x := g_pl (show decode cX13_on 119 = .ok (.istore 5, 2) by decide +kernel) rfl
set_option maxRecDepth 20000 in
theorem kX13_on_121 {C : QC} {x : QP} {M : QM} {st : List CV} {L : QL} {l0 l1 l2 l3 l4 l5 : Option CV} {z : Int} : Rr C mX13_on (121, [l0, l1, l2, some (qi z), l4, l5], st, M) x = Rr C mX13_on (122, [l0, l1, l2, some (qi z), l4, l5], qi z :: st, M) x := g_pl (show decode cX13_on 121 = .ok (.iload_n 3, 1) by decide +kernel) rfl
set_option maxRecDepth 20000 in
theorem kX13_on_122 {C : QC} {x : QP} {M : QM} {st : List CV} {L : QL} {a : Int} (ha1 : -2147483648 ≤ a) (ha2 : a < 2147483648) : Rr C mX13_on (122, L, qi a :: st, M) x = (if a = 2 then Rr C mX13_on (152, L, st, M) x else if a = 3 then Rr C mX13_on (159, L, st, M) x else if a = 4 then Rr C mX13_on (169, L, st, M) x else if a = 5 then Rr C mX13_on (176, L, st, M) x else Rr C mX13_on (183, L, st, M) x) := by
  by_cases h0 : a = 2
  · subst h0; rw [if_pos rfl]; exact g_tsI (show decode cX13_on 122 = .ok (.tableswitch 61 2 5 #[30, 37, 47, 54], 30) by decide +kernel) (by decide) (by decide) rfl rfl
  rw [if_neg h0]
  by_cases h1 : a = 3
  · subst h1; rw [if_pos rfl]; exact g_tsI (show decode cX13_on 122 = .ok (.tableswitch 61 2 5 #[30, 37, 47, 54], 30) by decide +kernel) (by decide) (by decide) rfl rfl
  rw [if_neg h1]
  by_cases h2 : a = 4
  · subst h2; rw [if_pos rfl]; exact g_tsI (show decode cX13_on 122 = .ok (.tableswitch 61 2 5 #[30, 37, 47, 54], 30) by decide +kernel) (by decide) (by decide) rfl rfl
  rw [if_neg h2]
  by_cases h3 : a = 5
  · subst h3; rw [if_pos rfl]; exact g_tsI (show decode cX13_on 122 = .ok (.tableswitch 61 2 5 #[30, 37, 47, 54], 30) by decide +kernel) (by decide) (by decide) rfl rfl
  rw [if_neg h3]
  exact g_tsO (show decode cX13_on 122 = .ok (.tableswitch 61 2 5 #[30, 37, 47, 54], 30) by decide +kernel) ⟨ha1, ha2⟩ (by omega) rfl
set_option maxRecDepth 20000 in
theorem kX13_on_152 {C : QC} {x : QP} {M : QM} {st : List CV} {L : QL} {l0 l1 l2 l3 l4 l5 : Option CV} {r : Option Nat} : Rr C mX13_on (152, [some (.inr (.inr r)), l1, l2, l3, l4, l5], st, M) x = Rr C mX13_on (153, [some (.inr (.inr r)), l1, l2, l3, l4, l5], .inr (.inr r) :: st, M) x := g_pl (show decode cX13_on 152 = .ok (.aload_n 0, 1) by decide +kernel) rfl
set_option maxRecDepth 20000 in
theorem kX13_on_153 {C : QC} {x : QP} {M : QM} {st : List CV} {L : QL} {l0 l1 l2 l3 l4 l5 : Option CV} {z : Int} : Rr C mX13_on (153, [l0, some (qi z), l2, l3, l4, l5], st, M) x = Rr C mX13_on (154, [l0, some (qi z), l2, l3, l4, l5], qi z :: st, M) x := g_pl (show decode cX13_on 153 = .ok (.iload_n 1, 1) by decide +kernel) rfl
set_option maxRecDepth 20000 in
theorem kX13_on_154 {C : QC} {x : QP} {M : QM} {st : List CV} {L : QL} {l0 l1 l2 l3 l4 l5 : Option CV} {z : Int} : Rr C mX13_on (154, [l0, l1, some (qi z), l3, l4, l5], st, M) x = Rr C mX13_on (155, [l0, l1, some (qi z), l3, l4, l5], qi z :: st, M) x := g_pl (show decode cX13_on 154 = .ok (.iload_n 2, 1) by decide +kernel) rfl
set_option maxRecDepth 20000 in
theorem kX13_on_155 {C : QC} {x : QP} {M : QM} {L : QL} {rest : List CV} {a0 a1 : CV} {v : CV} {M1 : QM} {b : Nat} (hb : q_kd M b = (1, 13)) (hC : C iX13_parentOn [qr b, a0, a1] M (some v) M1) (hw : (rest.map q_wd).sum ≤ 8) (k : Rr C mX13_on (158, L, v :: rest, M1) x) : Rr C mX13_on (155, L, a1 :: a0 :: qr b :: rest, M) x := g_cv (ow := 13) (e := (0, 227, 13, [1471, 1473, 50, 94])) (as := [a0, a1]) (show decode cX13_on 155 = .ok (.invokevirtual 66, 3) by decide +kernel) rfl rfl rfl (Or.inl rfl) rfl hb hC hw k
set_option maxRecDepth 20000 in
theorem kX13_on_158 {C : QC} {x : QP} {M : QM} {st : List CV} {L : QL} {z : Int} : Rr C mX13_on (158, L, [qi z], M) x = x (some (qi z)) M := g_iret (show decode cX13_on 158 = .ok (.ireturn, 1) by decide +kernel) rfl
set_option maxRecDepth 20000 in
theorem kX13_on_159 {C : QC} {x : QP} {M : QM} {st : List CV} {L : QL} {l0 l1 l2 l3 l4 l5 : Option CV} {r : Option Nat} : Rr C mX13_on (159, [some (.inr (.inr r)), l1, l2, l3, l4, l5], st, M) x = Rr C mX13_on (160, [some (.inr (.inr r)), l1, l2, l3, l4, l5], .inr (.inr r) :: st, M) x := g_pl (show decode cX13_on 159 = .ok (.aload_n 0, 1) by decide +kernel) rfl
set_option maxRecDepth 20000 in
theorem kX13_on_160 {C : QC} {x : QP} {M : QM} {st : List CV} {L : QL} {a : Nat} (hk : q_kd M a = (1, 13)) : Rr C mX13_on (160, L, qr a :: st, M) x = Rr C mX13_on (163, L, q_fv M a 0 :: st, M) x := g_getf (ow := 13) (e := (13, 0, RX13, 1301, 0)) (show decode cX13_on 160 = .ok (.getfield 10, 3) by decide +kernel) rfl hk
set_option maxRecDepth 20000 in
theorem kX13_on_163 {C : QC} {x : QP} {M : QM} {st : List CV} {L : QL} {l0 l1 l2 l3 l4 l5 : Option CV} {z : Int} : Rr C mX13_on (163, [l0, l1, l2, l3, l4, some (qi z)], st, M) x = Rr C mX13_on (165, [l0, l1, l2, l3, l4, some (qi z)], qi z :: st, M) x := g_pl (show decode cX13_on 163 = .ok (.iload 5, 2) by decide +kernel) rfl
set_option maxRecDepth 20000 in
theorem kX13_on_165 {C : QC} {x : QP} {M : QM} {st : List CV} {L : QL} : Rr C mX13_on (165, L, st, M) x = Rr C mX13_on (166, L, qi 2 :: st, M) x := g_pl (show decode cX13_on 165 = .ok (.iconst 2, 1) by decide +kernel) rfl
set_option maxRecDepth 20000 in
theorem kX13_on_166 {C : QC} {x : QP} {M : QM} {st : List CV} {L : QL} {a b : Int} : Rr C mX13_on (166, L, qi b :: qi a :: st, M) x = Rr C mX13_on (167, L, qi (a + b) :: st, M) x := g_pl (show decode cX13_on 166 = .ok (.iadd, 1) by decide +kernel) rfl
set_option maxRecDepth 20000 in
theorem kX13_on_167 {C : QC} {x : QP} {M : QM} {st : List CV} {L : QL} {a : Nat} {j : Int} (hk : (q_kd M a).1 = 2) (h0 : 0 ≤ j) (h1 : j < ((q_kd M a).2 : Int)) : Rr C mX13_on (167, L, qi j :: qr a :: st, M) x = Rr C mX13_on (168, L, q_fv M a j.toNat :: st, M) x := g_iald (show decode cX13_on 167 = .ok (.iaload, 1) by decide +kernel) hk h0 h1
set_option maxRecDepth 20000 in
theorem kX13_on_168 {C : QC} {x : QP} {M : QM} {st : List CV} {L : QL} {z : Int} : Rr C mX13_on (168, L, [qi z], M) x = x (some (qi z)) M := g_iret (show decode cX13_on 168 = .ok (.ireturn, 1) by decide +kernel) rfl
set_option maxRecDepth 20000 in
theorem kX13_on_169 {C : QC} {x : QP} {M : QM} {st : List CV} {L : QL} {l0 l1 l2 l3 l4 l5 : Option CV} {r : Option Nat} : Rr C mX13_on (169, [some (.inr (.inr r)), l1, l2, l3, l4, l5], st, M) x = Rr C mX13_on (170, [some (.inr (.inr r)), l1, l2, l3, l4, l5], .inr (.inr r) :: st, M) x := g_pl (show decode cX13_on 169 = .ok (.aload_n 0, 1) by decide +kernel) rfl
set_option maxRecDepth 20000 in
theorem kX13_on_170 {C : QC} {x : QP} {M : QM} {st : List CV} {L : QL} {l0 l1 l2 l3 l4 l5 : Option CV} {z : Int} : Rr C mX13_on (170, [l0, some (qi z), l2, l3, l4, l5], st, M) x = Rr C mX13_on (171, [l0, some (qi z), l2, l3, l4, l5], qi z :: st, M) x := g_pl (show decode cX13_on 170 = .ok (.iload_n 1, 1) by decide +kernel) rfl
set_option maxRecDepth 20000 in
theorem kX13_on_171 {C : QC} {x : QP} {M : QM} {st : List CV} {L : QL} {l0 l1 l2 l3 l4 l5 : Option CV} {z : Int} : Rr C mX13_on (171, [l0, l1, some (qi z), l3, l4, l5], st, M) x = Rr C mX13_on (172, [l0, l1, some (qi z), l3, l4, l5], qi z :: st, M) x := g_pl (show decode cX13_on 171 = .ok (.iload_n 2, 1) by decide +kernel) rfl
set_option maxRecDepth 20000 in
theorem kX13_on_172 {C : QC} {x : QP} {M : QM} {L : QL} {rest : List CV} {a0 a1 : CV} {v : CV} {M1 : QM} {b : Nat} (hb : q_kd M b = (1, 13)) (hC : C iX13_depth [qr b, a0, a1] M (some v) M1) (hw : (rest.map q_wd).sum ≤ 8) (k : Rr C mX13_on (175, L, v :: rest, M1) x) : Rr C mX13_on (172, L, a1 :: a0 :: qr b :: rest, M) x := g_cv (ow := 13) (e := (0, 248, 13, [1555, 1557, 65, 94])) (as := [a0, a1]) (show decode cX13_on 172 = .ok (.invokevirtual 189, 3) by decide +kernel) rfl rfl rfl (Or.inl rfl) rfl hb hC hw k
set_option maxRecDepth 20000 in
theorem kX13_on_175 {C : QC} {x : QP} {M : QM} {st : List CV} {L : QL} {z : Int} : Rr C mX13_on (175, L, [qi z], M) x = x (some (qi z)) M := g_iret (show decode cX13_on 175 = .ok (.ireturn, 1) by decide +kernel) rfl
set_option maxRecDepth 20000 in
theorem kX13_on_176 {C : QC} {x : QP} {M : QM} {st : List CV} {L : QL} {l0 l1 l2 l3 l4 l5 : Option CV} {r : Option Nat} : Rr C mX13_on (176, [some (.inr (.inr r)), l1, l2, l3, l4, l5], st, M) x = Rr C mX13_on (177, [some (.inr (.inr r)), l1, l2, l3, l4, l5], .inr (.inr r) :: st, M) x := g_pl (show decode cX13_on 176 = .ok (.aload_n 0, 1) by decide +kernel) rfl
set_option maxRecDepth 20000 in
theorem kX13_on_177 {C : QC} {x : QP} {M : QM} {st : List CV} {L : QL} {l0 l1 l2 l3 l4 l5 : Option CV} {z : Int} : Rr C mX13_on (177, [l0, some (qi z), l2, l3, l4, l5], st, M) x = Rr C mX13_on (178, [l0, some (qi z), l2, l3, l4, l5], qi z :: st, M) x := g_pl (show decode cX13_on 177 = .ok (.iload_n 1, 1) by decide +kernel) rfl
set_option maxRecDepth 20000 in
theorem kX13_on_178 {C : QC} {x : QP} {M : QM} {st : List CV} {L : QL} {l0 l1 l2 l3 l4 l5 : Option CV} {z : Int} : Rr C mX13_on (178, [l0, l1, some (qi z), l3, l4, l5], st, M) x = Rr C mX13_on (179, [l0, l1, some (qi z), l3, l4, l5], qi z :: st, M) x := g_pl (show decode cX13_on 178 = .ok (.iload_n 2, 1) by decide +kernel) rfl
set_option maxRecDepth 20000 in
theorem kX13_on_179 {C : QC} {x : QP} {M : QM} {L : QL} {rest : List CV} {a0 a1 : CV} {v : CV} {M1 : QM} {b : Nat} (hb : q_kd M b = (1, 13)) (hC : C iX13_children [qr b, a0, a1] M (some v) M1) (hw : (rest.map q_wd).sum ≤ 8) (k : Rr C mX13_on (182, L, v :: rest, M1) x) : Rr C mX13_on (179, L, a1 :: a0 :: qr b :: rest, M) x := g_cv (ow := 13) (e := (0, 249, 13, [1559, 1561, 66, 94])) (as := [a0, a1]) (show decode cX13_on 179 = .ok (.invokevirtual 192, 3) by decide +kernel) rfl rfl rfl (Or.inl rfl) rfl hb hC hw k
set_option maxRecDepth 20000 in
theorem kX13_on_182 {C : QC} {x : QP} {M : QM} {st : List CV} {L : QL} {z : Int} : Rr C mX13_on (182, L, [qi z], M) x = x (some (qi z)) M := g_iret (show decode cX13_on 182 = .ok (.ireturn, 1) by decide +kernel) rfl
set_option maxRecDepth 20000 in
theorem kX13_on_183 {C : QC} {x : QP} {M : QM} {st : List CV} {L : QL} {l0 l1 l2 l3 l4 l5 : Option CV} {z : Int} : Rr C mX13_on (183, [l0, l1, l2, some (qi z), l4, l5], st, M) x = Rr C mX13_on (184, [l0, l1, l2, some (qi z), l4, l5], qi z :: st, M) x := g_pl (show decode cX13_on 183 = .ok (.iload_n 3, 1) by decide +kernel) rfl
set_option maxRecDepth 20000 in
theorem kX13_on_184 {C : QC} {x : QP} {M : QM} {st : List CV} {L : QL} : Rr C mX13_on (184, L, st, M) x = Rr C mX13_on (186, L, qi 10 :: st, M) x := g_pl (show decode cX13_on 184 = .ok (.bipush 10, 2) by decide +kernel) rfl
set_option maxRecDepth 20000 in
theorem kX13_on_186 {C : QC} {x : QP} {M : QM} {st : List CV} {L : QL} {a b : Int} : Rr C mX13_on (186, L, qi b :: qi a :: st, M) x = Rr C mX13_on (187, L, qi (a - b) :: st, M) x := g_pl (show decode cX13_on 186 = .ok (.isub, 1) by decide +kernel) rfl
set_option maxRecDepth 20000 in
theorem kX13_on_187 {C : QC} {x : QP} {M : QM} {st : List CV} {L : QL} {l0 l1 l2 l3 l4 l5 : Option CV} {r : Option Nat} : Rr C mX13_on (187, [some (.inr (.inr r)), l1, l2, l3, l4, l5], st, M) x = Rr C mX13_on (188, [some (.inr (.inr r)), l1, l2, l3, l4, l5], .inr (.inr r) :: st, M) x := g_pl (show decode cX13_on 187 = .ok (.aload_n 0, 1) by decide +kernel) rfl
set_option maxRecDepth 20000 in
theorem kX13_on_188 {C : QC} {x : QP} {M : QM} {st : List CV} {L : QL} {a : Nat} (hk : q_kd M a = (1, 13)) : Rr C mX13_on (188, L, qr a :: st, M) x = Rr C mX13_on (191, L, q_fv M a 0 :: st, M) x := g_getf (ow := 13) (e := (13, 0, RX13, 1301, 0)) (show decode cX13_on 188 = .ok (.getfield 10, 3) by decide +kernel) rfl hk
set_option maxRecDepth 20000 in
theorem kX13_on_191 {C : QC} {x : QP} {M : QM} {st : List CV} {L : QL} {l0 l1 l2 l3 l4 l5 : Option CV} {z : Int} : Rr C mX13_on (191, [l0, l1, l2, l3, l4, some (qi z)], st, M) x = Rr C mX13_on (193, [l0, l1, l2, l3, l4, some (qi z)], qi z :: st, M) x := g_pl (show decode cX13_on 191 = .ok (.iload 5, 2) by decide +kernel) rfl
set_option maxRecDepth 20000 in
theorem kX13_on_193 {C : QC} {x : QP} {M : QM} {st : List CV} {L : QL} : Rr C mX13_on (193, L, st, M) x = Rr C mX13_on (194, L, qi 2 :: st, M) x := g_pl (show decode cX13_on 193 = .ok (.iconst 2, 1) by decide +kernel) rfl
set_option maxRecDepth 20000 in
theorem kX13_on_194 {C : QC} {x : QP} {M : QM} {st : List CV} {L : QL} {a b : Int} : Rr C mX13_on (194, L, qi b :: qi a :: st, M) x = Rr C mX13_on (195, L, qi (a + b) :: st, M) x := g_pl (show decode cX13_on 194 = .ok (.iadd, 1) by decide +kernel) rfl
set_option maxRecDepth 20000 in
theorem kX13_on_195 {C : QC} {x : QP} {M : QM} {st : List CV} {L : QL} {a : Nat} {j : Int} (hk : (q_kd M a).1 = 2) (h0 : 0 ≤ j) (h1 : j < ((q_kd M a).2 : Int)) : Rr C mX13_on (195, L, qi j :: qr a :: st, M) x = Rr C mX13_on (196, L, q_fv M a j.toNat :: st, M) x := g_iald (show decode cX13_on 195 = .ok (.iaload, 1) by decide +kernel) hk h0 h1
set_option maxRecDepth 20000 in
theorem kX13_on_196 {C : QC} {x : QP} {M : QM} {st : List CV} {L : QL} {a b : Int} (ha1 : -2147483648 ≤ a) (ha2 : a < 2147483648) (hb1 : -2147483648 ≤ b) (hb2 : b < 2147483648) : Rr C mX13_on (196, L, qi b :: qi a :: st, M) x = (if a < b then Rr C mX13_on (199, L, st, M) x else Rr C mX13_on (216, L, st, M) x) := (g_icmp (show decode cX13_on 196 = .ok (.if_icmp .ge 20, 3) by decide +kernel) rfl ha1 ha2 hb1 hb2).trans (g_itn c_ge)
set_option maxRecDepth 20000 in
theorem kX13_on_199 {C : QC} {x : QP} {M : QM} {st : List CV} {L : QL} {l0 l1 l2 l3 l4 l5 : Option CV} {r : Option Nat} : Rr C mX13_on (199, [some (.inr (.inr r)), l1, l2, l3, l4, l5], st, M) x = Rr C mX13_on (200, [some (.inr (.inr r)), l1, l2, l3, l4, l5], .inr (.inr r) :: st, M) x := g_pl (show decode cX13_on 199 = .ok (.aload_n 0, 1) by decide +kernel) rfl
set_option maxRecDepth 20000 in
theorem kX13_on_200 {C : QC} {x : QP} {M : QM} {st : List CV} {L : QL} {a : Nat} (hk : q_kd M a = (1, 13)) : Rr C mX13_on (200, L, qr a :: st, M) x = Rr C mX13_on (203, L, q_fv M a 0 :: st, M) x := g_getf (ow := 13) (e := (13, 0, RX13, 1301, 0)) (show decode cX13_on 200 = .ok (.getfield 10, 3) by decide +kernel) rfl hk
set_option maxRecDepth 20000 in
theorem kX13_on_203 {C : QC} {x : QP} {M : QM} {st : List CV} {L : QL} {l0 l1 l2 l3 l4 l5 : Option CV} {z : Int} : Rr C mX13_on (203, [l0, l1, l2, l3, l4, some (qi z)], st, M) x = Rr C mX13_on (205, [l0, l1, l2, l3, l4, some (qi z)], qi z :: st, M) x := g_pl (show decode cX13_on 203 = .ok (.iload 5, 2) by decide +kernel) rfl
set_option maxRecDepth 20000 in
theorem kX13_on_205 {C : QC} {x : QP} {M : QM} {st : List CV} {L : QL} : Rr C mX13_on (205, L, st, M) x = Rr C mX13_on (206, L, qi 3 :: st, M) x := g_pl (show decode cX13_on 205 = .ok (.iconst 3, 1) by decide +kernel) rfl
set_option maxRecDepth 20000 in
theorem kX13_on_206 {C : QC} {x : QP} {M : QM} {st : List CV} {L : QL} {a b : Int} : Rr C mX13_on (206, L, qi b :: qi a :: st, M) x = Rr C mX13_on (207, L, qi (a + b) :: st, M) x := g_pl (show decode cX13_on 206 = .ok (.iadd, 1) by decide +kernel) rfl
set_option maxRecDepth 20000 in
theorem kX13_on_207 {C : QC} {x : QP} {M : QM} {st : List CV} {L : QL} {l0 l1 l2 l3 l4 l5 : Option CV} {z : Int} : Rr C mX13_on (207, [l0, l1, l2, some (qi z), l4, l5], st, M) x = Rr C mX13_on (208, [l0, l1, l2, some (qi z), l4, l5], qi z :: st, M) x := g_pl (show decode cX13_on 207 = .ok (.iload_n 3, 1) by decide +kernel) rfl
set_option maxRecDepth 20000 in
theorem kX13_on_208 {C : QC} {x : QP} {M : QM} {st : List CV} {L : QL} {a b : Int} : Rr C mX13_on (208, L, qi b :: qi a :: st, M) x = Rr C mX13_on (209, L, qi (a + b) :: st, M) x := g_pl (show decode cX13_on 208 = .ok (.iadd, 1) by decide +kernel) rfl
set_option maxRecDepth 20000 in
theorem kX13_on_209 {C : QC} {x : QP} {M : QM} {st : List CV} {L : QL} : Rr C mX13_on (209, L, st, M) x = Rr C mX13_on (211, L, qi 10 :: st, M) x := g_pl (show decode cX13_on 209 = .ok (.bipush 10, 2) by decide +kernel) rfl
set_option maxRecDepth 20000 in
theorem kX13_on_211 {C : QC} {x : QP} {M : QM} {st : List CV} {L : QL} {a b : Int} : Rr C mX13_on (211, L, qi b :: qi a :: st, M) x = Rr C mX13_on (212, L, qi (a - b) :: st, M) x := g_pl (show decode cX13_on 211 = .ok (.isub, 1) by decide +kernel) rfl
set_option maxRecDepth 20000 in
theorem kX13_on_212 {C : QC} {x : QP} {M : QM} {st : List CV} {L : QL} {a : Nat} {j : Int} (hk : (q_kd M a).1 = 2) (h0 : 0 ≤ j) (h1 : j < ((q_kd M a).2 : Int)) : Rr C mX13_on (212, L, qi j :: qr a :: st, M) x = Rr C mX13_on (213, L, q_fv M a j.toNat :: st, M) x := g_iald (show decode cX13_on 212 = .ok (.iaload, 1) by decide +kernel) hk h0 h1
set_option maxRecDepth 20000 in
theorem kX13_on_213 {C : QC} {x : QP} {M : QM} {st : List CV} {L : QL} : Rr C mX13_on (213, L, st, M) x = Rr C mX13_on (218, L, st, M) x := g_pl (show decode cX13_on 213 = .ok (.goto 5, 3) by decide +kernel) rfl
set_option maxRecDepth 20000 in
theorem kX13_on_216 {C : QC} {x : QP} {M : QM} {st : List CV} {L : QL} : Rr C mX13_on (216, L, st, M) x = Rr C mX13_on (218, L, qi (-5) :: st, M) x := g_pl (show decode cX13_on 216 = .ok (.bipush (-5), 2) by decide +kernel) rfl
set_option maxRecDepth 20000 in
theorem kX13_on_218 {C : QC} {x : QP} {M : QM} {st : List CV} {L : QL} {z : Int} : Rr C mX13_on (218, L, [qi z], M) x = x (some (qi z)) M := g_iret (show decode cX13_on 218 = .ok (.ireturn, 1) by decide +kernel) rfl
set_option maxRecDepth 20000 in
theorem eX13_on {d : Nat} {M : QM} {x : QP} {a : Nat} {v0 : Int} {v1 : Int} {v2 : Int} : q_T (d + 1) iX13_on [qr a, qi v0, qi v1, qi v2] M x = Rr (q_C d) mX13_on (0, [some (qr a), some (qi v0), some (qi v1), some (qi v2), none, none], [], M) x := g_entryT (e := _) rfl (Nat.le_of_ble_eq_true rfl) rfl rfl
def mX13_toldOf : QI := (13, cX13_toldOf, false, some .int)
set_option maxRecDepth 20000 in
theorem kX13_toldOf_0 {C : QC} {x : QP} {M : QM} {st : List CV} {L : QL} : Rr C mX13_toldOf (0, L, st, M) x = Rr C mX13_toldOf (1, L, qi 0 :: st, M) x := g_pl (show decode cX13_toldOf 0 = .ok (.iconst 0, 1) by decide +kernel) rfl
set_option maxRecDepth 20000 in
theorem kX13_toldOf_1 {C : QC} {x : QP} {M : QM} {st : List CV} {L : QL} {l0 l1 l2 l3 l4 l5 l6 : Option CV} {z : Int} : Rr C mX13_toldOf (1, [l0, l1, l2, l3, l4, l5, l6], qi z :: st, M) x = Rr C mX13_toldOf (3, [l0, l1, l2, l3, q_cut l4, some (qi z), l6], st, M) x := g_pl (show decode cX13_toldOf 1 = .ok (.istore 5, 2) by decide +kernel) rfl
set_option maxRecDepth 20000 in
theorem kX13_toldOf_3 {C : QC} {x : QP} {M : QM} {st : List CV} {L : QL} : Rr C mX13_toldOf (3, L, st, M) x = Rr C mX13_toldOf (4, L, qi 0 :: st, M) x := g_pl (show decode cX13_toldOf 3 = .ok (.iconst 0, 1) by decide +kernel) rfl
set_option maxRecDepth 20000 in
theorem kX13_toldOf_4 {C : QC} {x : QP} {M : QM} {st : List CV} {L : QL} {l0 l1 l2 l3 l4 l5 l6 : Option CV} {z : Int} : Rr C mX13_toldOf (4, [l0, l1, l2, l3, l4, l5, l6], qi z :: st, M) x = Rr C mX13_toldOf (6, [l0, l1, l2, l3, l4, q_cut l5, some (qi z)], st, M) x := g_pl (show decode cX13_toldOf 4 = .ok (.istore 6, 2) by decide +kernel) rfl
set_option maxRecDepth 20000 in
theorem kX13_toldOf_6 {C : QC} {x : QP} {M : QM} {st : List CV} {L : QL} {l0 l1 l2 l3 l4 l5 l6 : Option CV} {z : Int} : Rr C mX13_toldOf (6, [l0, l1, l2, l3, l4, l5, some (qi z)], st, M) x = Rr C mX13_toldOf (8, [l0, l1, l2, l3, l4, l5, some (qi z)], qi z :: st, M) x := g_pl (show decode cX13_toldOf 6 = .ok (.iload 6, 2) by decide +kernel) rfl
set_option maxRecDepth 20000 in
theorem kX13_toldOf_8 {C : QC} {x : QP} {M : QM} {st : List CV} {L : QL} {l0 l1 l2 l3 l4 l5 l6 : Option CV} {z : Int} : Rr C mX13_toldOf (8, [l0, l1, some (qi z), l3, l4, l5, l6], st, M) x = Rr C mX13_toldOf (9, [l0, l1, some (qi z), l3, l4, l5, l6], qi z :: st, M) x := g_pl (show decode cX13_toldOf 8 = .ok (.iload_n 2, 1) by decide +kernel) rfl
set_option maxRecDepth 20000 in
theorem kX13_toldOf_9 {C : QC} {x : QP} {M : QM} {st : List CV} {L : QL} {a b : Int} (ha1 : -2147483648 ≤ a) (ha2 : a < 2147483648) (hb1 : -2147483648 ≤ b) (hb2 : b < 2147483648) : Rr C mX13_toldOf (9, L, qi b :: qi a :: st, M) x = (if a < b then Rr C mX13_toldOf (12, L, st, M) x else Rr C mX13_toldOf (44, L, st, M) x) := (g_icmp (show decode cX13_toldOf 9 = .ok (.if_icmp .ge 35, 3) by decide +kernel) rfl ha1 ha2 hb1 hb2).trans (g_itn c_ge)
set_option maxRecDepth 20000 in
theorem kX13_toldOf_12 {C : QC} {x : QP} {M : QM} {st : List CV} {L : QL} {l0 l1 l2 l3 l4 l5 l6 : Option CV} {z : Int} : Rr C mX13_toldOf (12, [l0, l1, l2, l3, l4, some (qi z), l6], st, M) x = Rr C mX13_toldOf (14, [l0, l1, l2, l3, l4, some (qi z), l6], qi z :: st, M) x := g_pl (show decode cX13_toldOf 12 = .ok (.iload 5, 2) by decide +kernel) rfl
set_option maxRecDepth 20000 in
theorem kX13_toldOf_14 {C : QC} {x : QP} {M : QM} {st : List CV} {L : QL} {l0 l1 l2 l3 l4 l5 l6 : Option CV} {r : Option Nat} : Rr C mX13_toldOf (14, [some (.inr (.inr r)), l1, l2, l3, l4, l5, l6], st, M) x = Rr C mX13_toldOf (15, [some (.inr (.inr r)), l1, l2, l3, l4, l5, l6], .inr (.inr r) :: st, M) x := g_pl (show decode cX13_toldOf 14 = .ok (.aload_n 0, 1) by decide +kernel) rfl
set_option maxRecDepth 20000 in
theorem kX13_toldOf_15 {C : QC} {x : QP} {M : QM} {st : List CV} {L : QL} {a : Nat} (hk : q_kd M a = (1, 13)) : Rr C mX13_toldOf (15, L, qr a :: st, M) x = Rr C mX13_toldOf (18, L, q_fv M a 0 :: st, M) x := g_getf (ow := 13) (e := (13, 0, RX13, 1301, 0)) (show decode cX13_toldOf 15 = .ok (.getfield 10, 3) by decide +kernel) rfl hk
set_option maxRecDepth 20000 in
theorem kX13_toldOf_18 {C : QC} {x : QP} {M : QM} {st : List CV} {L : QL} {l0 l1 l2 l3 l4 l5 l6 : Option CV} {z : Int} : Rr C mX13_toldOf (18, [l0, some (qi z), l2, l3, l4, l5, l6], st, M) x = Rr C mX13_toldOf (19, [l0, some (qi z), l2, l3, l4, l5, l6], qi z :: st, M) x := g_pl (show decode cX13_toldOf 18 = .ok (.iload_n 1, 1) by decide +kernel) rfl
set_option maxRecDepth 20000 in
theorem kX13_toldOf_19 {C : QC} {x : QP} {M : QM} {st : List CV} {L : QL} {l0 l1 l2 l3 l4 l5 l6 : Option CV} {z : Int} : Rr C mX13_toldOf (19, [l0, l1, l2, some (qi z), l4, l5, l6], st, M) x = Rr C mX13_toldOf (20, [l0, l1, l2, some (qi z), l4, l5, l6], qi z :: st, M) x := g_pl (show decode cX13_toldOf 19 = .ok (.iload_n 3, 1) by decide +kernel) rfl
set_option maxRecDepth 20000 in
theorem kX13_toldOf_20 {C : QC} {x : QP} {M : QM} {st : List CV} {L : QL} {l0 l1 l2 l3 l4 l5 l6 : Option CV} {z : Int} : Rr C mX13_toldOf (20, [l0, l1, l2, l3, l4, l5, some (qi z)], st, M) x = Rr C mX13_toldOf (22, [l0, l1, l2, l3, l4, l5, some (qi z)], qi z :: st, M) x := g_pl (show decode cX13_toldOf 20 = .ok (.iload 6, 2) by decide +kernel) rfl
set_option maxRecDepth 20000 in
theorem kX13_toldOf_22 {C : QC} {x : QP} {M : QM} {st : List CV} {L : QL} {a b : Int} : Rr C mX13_toldOf (22, L, qi b :: qi a :: st, M) x = Rr C mX13_toldOf (23, L, qi (a * b) :: st, M) x := g_pl (show decode cX13_toldOf 22 = .ok (.imul, 1) by decide +kernel) rfl
set_option maxRecDepth 20000 in
theorem kX13_toldOf_23 {C : QC} {x : QP} {M : QM} {st : List CV} {L : QL} {a b : Int} : Rr C mX13_toldOf (23, L, qi b :: qi a :: st, M) x = Rr C mX13_toldOf (24, L, qi (a + b) :: st, M) x := g_pl (show decode cX13_toldOf 23 = .ok (.iadd, 1) by decide +kernel) rfl
set_option maxRecDepth 20000 in
theorem kX13_toldOf_24 {C : QC} {x : QP} {M : QM} {st : List CV} {L : QL} {a : Nat} {j : Int} (hk : (q_kd M a).1 = 2) (h0 : 0 ≤ j) (h1 : j < ((q_kd M a).2 : Int)) : Rr C mX13_toldOf (24, L, qi j :: qr a :: st, M) x = Rr C mX13_toldOf (25, L, q_fv M a j.toNat :: st, M) x := g_iald (show decode cX13_toldOf 24 = .ok (.iaload, 1) by decide +kernel) hk h0 h1
set_option maxRecDepth 20000 in
theorem kX13_toldOf_25 {C : QC} {x : QP} {M : QM} {st : List CV} {L : QL} {l0 l1 l2 l3 l4 l5 l6 : Option CV} {z : Int} : Rr C mX13_toldOf (25, [l0, l1, l2, l3, some (qi z), l5, l6], st, M) x = Rr C mX13_toldOf (27, [l0, l1, l2, l3, some (qi z), l5, l6], qi z :: st, M) x := g_pl (show decode cX13_toldOf 25 = .ok (.iload 4, 2) by decide +kernel) rfl
set_option maxRecDepth 20000 in
theorem kX13_toldOf_27 {C : QC} {x : QP} {M : QM} {st : List CV} {L : QL} {a b : Int} (ha1 : -2147483648 ≤ a) (ha2 : a < 2147483648) (hb1 : -2147483648 ≤ b) (hb2 : b < 2147483648) : Rr C mX13_toldOf (27, L, qi b :: qi a :: st, M) x = (if a = b then Rr C mX13_toldOf (30, L, st, M) x else Rr C mX13_toldOf (34, L, st, M) x) := (g_icmp (show decode cX13_toldOf 27 = .ok (.if_icmp .ne 7, 3) by decide +kernel) rfl ha1 ha2 hb1 hb2).trans (g_itn c_ne)
set_option maxRecDepth 20000 in
theorem kX13_toldOf_30 {C : QC} {x : QP} {M : QM} {st : List CV} {L : QL} : Rr C mX13_toldOf (30, L, st, M) x = Rr C mX13_toldOf (31, L, qi 1 :: st, M) x := g_pl (show decode cX13_toldOf 30 = .ok (.iconst 1, 1) by decide +kernel) rfl
set_option maxRecDepth 20000 in
theorem kX13_toldOf_31 {C : QC} {x : QP} {M : QM} {st : List CV} {L : QL} : Rr C mX13_toldOf (31, L, st, M) x = Rr C mX13_toldOf (35, L, st, M) x := g_pl (show decode cX13_toldOf 31 = .ok (.goto 4, 3) by decide +kernel) rfl
set_option maxRecDepth 20000 in
theorem kX13_toldOf_34 {C : QC} {x : QP} {M : QM} {st : List CV} {L : QL} : Rr C mX13_toldOf (34, L, st, M) x = Rr C mX13_toldOf (35, L, qi 0 :: st, M) x := g_pl (show decode cX13_toldOf 34 = .ok (.iconst 0, 1) by decide +kernel) rfl
set_option maxRecDepth 20000 in
theorem kX13_toldOf_35 {C : QC} {x : QP} {M : QM} {st : List CV} {L : QL} {a b : Int} : Rr C mX13_toldOf (35, L, qi b :: qi a :: st, M) x = Rr C mX13_toldOf (36, L, qi (a + b) :: st, M) x := g_pl (show decode cX13_toldOf 35 = .ok (.iadd, 1) by decide +kernel) rfl
set_option maxRecDepth 20000 in
theorem kX13_toldOf_36 {C : QC} {x : QP} {M : QM} {st : List CV} {L : QL} {l0 l1 l2 l3 l4 l5 l6 : Option CV} {z : Int} : Rr C mX13_toldOf (36, [l0, l1, l2, l3, l4, l5, l6], qi z :: st, M) x = Rr C mX13_toldOf (38, [l0, l1, l2, l3, q_cut l4, some (qi z), l6], st, M) x := g_pl (show decode cX13_toldOf 36 = .ok (.istore 5, 2) by decide +kernel) rfl
set_option maxRecDepth 20000 in
theorem kX13_toldOf_38 {C : QC} {x : QP} {M : QM} {st : List CV} {L : QL} {l0 l1 l2 l3 l4 l5 l6 : Option CV} {z : Int} : Rr C mX13_toldOf (38, [l0, l1, l2, l3, l4, l5, some (qi z)], st, M) x = Rr C mX13_toldOf (41, [l0, l1, l2, l3, l4, q_cut l5, some (qi (z + 1))], st, M) x := g_pl (show decode cX13_toldOf 38 = .ok (.iinc 6 1, 3) by decide +kernel) rfl
set_option maxRecDepth 20000 in
theorem kX13_toldOf_41 {C : QC} {x : QP} {M : QM} {st : List CV} {L : QL} : Rr C mX13_toldOf (41, L, st, M) x = Rr C mX13_toldOf (6, L, st, M) x := g_pl (show decode cX13_toldOf 41 = .ok (.goto (-35), 3) by decide +kernel) rfl
set_option maxRecDepth 20000 in
theorem kX13_toldOf_44 {C : QC} {x : QP} {M : QM} {st : List CV} {L : QL} {l0 l1 l2 l3 l4 l5 l6 : Option CV} {z : Int} : Rr C mX13_toldOf (44, [l0, l1, l2, l3, l4, some (qi z), l6], st, M) x = Rr C mX13_toldOf (46, [l0, l1, l2, l3, l4, some (qi z), l6], qi z :: st, M) x := g_pl (show decode cX13_toldOf 44 = .ok (.iload 5, 2) by decide +kernel) rfl
set_option maxRecDepth 20000 in
theorem kX13_toldOf_46 {C : QC} {x : QP} {M : QM} {st : List CV} {L : QL} {z : Int} : Rr C mX13_toldOf (46, L, [qi z], M) x = x (some (qi z)) M := g_iret (show decode cX13_toldOf 46 = .ok (.ireturn, 1) by decide +kernel) rfl
set_option maxRecDepth 20000 in
theorem eX13_toldOf {d : Nat} {M : QM} {x : QP} {a : Nat} {v0 : Int} {v1 : Int} {v2 : Int} {v3 : Int} : q_T (d + 1) iX13_toldOf [qr a, qi v0, qi v1, qi v2, qi v3] M x = Rr (q_C d) mX13_toldOf (0, [some (qr a), some (qi v0), some (qi v1), some (qi v2), some (qi v3), none, none], [], M) x := g_entryT (e := _) rfl (Nat.le_of_ble_eq_true rfl) rfl rfl
def mX13_of : QI := (13, cX13_of, false, some .int)
set_option maxRecDepth 20000 in
theorem kX13_of_0 {C : QC} {x : QP} {M : QM} {st : List CV} {L : QL} {l0 l1 l2 : Option CV} {r : Option Nat} : Rr C mX13_of (0, [some (.inr (.inr r)), l1, l2], st, M) x = Rr C mX13_of (1, [some (.inr (.inr r)), l1, l2], .inr (.inr r) :: st, M) x := g_pl (show decode cX13_of 0 = .ok (.aload_n 0, 1) by decide +kernel) rfl
set_option maxRecDepth 20000 in
theorem kX13_of_1 {C : QC} {x : QP} {M : QM} {st : List CV} {L : QL} {l0 l1 l2 : Option CV} {z : Int} : Rr C mX13_of (1, [l0, some (qi z), l2], st, M) x = Rr C mX13_of (2, [l0, some (qi z), l2], qi z :: st, M) x := g_pl (show decode cX13_of 1 = .ok (.iload_n 1, 1) by decide +kernel) rfl
set_option maxRecDepth 20000 in
theorem kX13_of_2 {C : QC} {x : QP} {M : QM} {L : QL} {rest : List CV} {a0 : CV} {v : CV} {M1 : QM} {b : Nat} (hb : q_kd M b = (1, 13)) (hC : C iX13_isPlace [qr b, a0] M (some v) M1) (hw : (rest.map q_wd).sum ≤ 8) (k : Rr C mX13_of (5, L, v :: rest, M1) x) : Rr C mX13_of (2, L, a0 :: qr b :: rest, M) x := g_cv (ow := 13) (e := (0, 205, 13, [1384, 1386, 31, 94])) (as := [a0]) (show decode cX13_of 2 = .ok (.invokevirtual 94, 3) by decide +kernel) rfl rfl rfl (Or.inl rfl) rfl hb hC hw k
set_option maxRecDepth 20000 in
theorem kX13_of_5 {C : QC} {x : QP} {M : QM} {st : List CV} {L : QL} {a : Int} (ha1 : -2147483648 ≤ a) (ha2 : a < 2147483648) : Rr C mX13_of (5, L, qi a :: st, M) x = (if a = 0 then Rr C mX13_of (17, L, st, M) x else Rr C mX13_of (8, L, st, M) x) := (g_if (show decode cX13_of 5 = .ok (.ifCond .eq 12, 3) by decide +kernel) rfl ha1 ha2).trans (g_ite c_eq)
set_option maxRecDepth 20000 in
theorem kX13_of_8 {C : QC} {x : QP} {M : QM} {st : List CV} {L : QL} {l0 l1 l2 : Option CV} {z : Int} : Rr C mX13_of (8, [l0, l1, some (qi z)], st, M) x = Rr C mX13_of (9, [l0, l1, some (qi z)], qi z :: st, M) x := g_pl (show decode cX13_of 8 = .ok (.iload_n 2, 1) by decide +kernel) rfl
set_option maxRecDepth 20000 in
theorem kX13_of_9 {C : QC} {x : QP} {M : QM} {st : List CV} {L : QL} : Rr C mX13_of (9, L, st, M) x = Rr C mX13_of (10, L, qi 0 :: st, M) x := g_pl (show decode cX13_of 9 = .ok (.iconst 0, 1) by decide +kernel) rfl
set_option maxRecDepth 20000 in
theorem kX13_of_10 {C : QC} {x : QP} {M : QM} {st : List CV} {L : QL} : Rr C mX13_of (10, L, st, M) x = Rr C mX13_of (11, L, qi 5 :: st, M) x := g_pl (show decode cX13_of 10 = .ok (.iconst 5, 1) by decide +kernel) rfl
set_option maxRecDepth 20000 in
theorem kX13_of_11 {C : QC} {x : QP} {M : QM} {L : QL} {rest : List CV} {a0 a1 a2 : CV} {v : CV} {M1 : QM} (hC : C iX13_in [a0, a1, a2] M (some v) M1) (hw : (rest.map q_wd).sum ≤ 8) (k : Rr C mX13_of (14, L, v :: rest, M1) x) : Rr C mX13_of (11, L, a2 :: a1 :: a0 :: rest, M) x := g_cs (ow := 13) (e := (1, 198, 0, [1357, 1358, 94])) (as := [a0, a1, a2]) (show decode cX13_of 11 = .ok (.invokestatic 43, 3) by decide +kernel) rfl rfl rfl rfl (Or.inl rfl) rfl hC hw k
set_option maxRecDepth 20000 in
theorem kX13_of_14 {C : QC} {x : QP} {M : QM} {st : List CV} {L : QL} {a : Int} (ha1 : -2147483648 ≤ a) (ha2 : a < 2147483648) : Rr C mX13_of (14, L, qi a :: st, M) x = (if a = 0 then Rr C mX13_of (17, L, st, M) x else Rr C mX13_of (19, L, st, M) x) := (g_if (show decode cX13_of 14 = .ok (.ifCond .ne 5, 3) by decide +kernel) rfl ha1 ha2).trans (g_itn c_ne)
set_option maxRecDepth 20000 in
theorem kX13_of_17 {C : QC} {x : QP} {M : QM} {st : List CV} {L : QL} : Rr C mX13_of (17, L, st, M) x = Rr C mX13_of (18, L, qi (-1) :: st, M) x := g_pl (show decode cX13_of 17 = .ok (.iconst (-1), 1) by decide +kernel) rfl
set_option maxRecDepth 20000 in
theorem kX13_of_18 {C : QC} {x : QP} {M : QM} {st : List CV} {L : QL} {z : Int} : Rr C mX13_of (18, L, [qi z], M) x = x (some (qi z)) M := g_iret (show decode cX13_of 18 = .ok (.ireturn, 1) by decide +kernel) rfl
set_option maxRecDepth 20000 in
theorem kX13_of_19 {C : QC} {x : QP} {M : QM} {st : List CV} {L : QL} {l0 l1 l2 : Option CV} {z : Int} : Rr C mX13_of (19, [l0, l1, some (qi z)], st, M) x = Rr C mX13_of (20, [l0, l1, some (qi z)], qi z :: st, M) x := g_pl (show decode cX13_of 19 = .ok (.iload_n 2, 1) by decide +kernel) rfl
set_option maxRecDepth 20000 in
theorem kX13_of_20 {C : QC} {x : QP} {M : QM} {st : List CV} {L : QL} {a : Int} (ha1 : -2147483648 ≤ a) (ha2 : a < 2147483648) : Rr C mX13_of (20, L, qi a :: st, M) x = (if a = 0 then Rr C mX13_of (56, L, st, M) x else if a = 1 then Rr C mX13_of (63, L, st, M) x else if a = 2 then Rr C mX13_of (83, L, st, M) x else if a = 3 then Rr C mX13_of (100, L, st, M) x else if a = 4 then Rr C mX13_of (116, L, st, M) x else Rr C mX13_of (123, L, st, M) x) := by
  by_cases h0 : a = 0
  · subst h0; rw [if_pos rfl]; exact g_tsI (show decode cX13_of 20 = .ok (.tableswitch 103 0 4 #[36, 43, 63, 80, 96], 36) by decide +kernel) (by decide) (by decide) rfl rfl
  rw [if_neg h0]
  by_cases h1 : a = 1
  · subst h1; rw [if_pos rfl]; exact g_tsI (show decode cX13_of 20 = .ok (.tableswitch 103 0 4 #[36, 43, 63, 80, 96], 36) by decide +kernel) (by decide) (by decide) rfl rfl
  rw [if_neg h1]
  by_cases h2 : a = 2
  · subst h2; rw [if_pos rfl]; exact g_tsI (show decode cX13_of 20 = .ok (.tableswitch 103 0 4 #[36, 43, 63, 80, 96], 36) by decide +kernel) (by decide) (by decide) rfl rfl
  rw [if_neg h2]
  by_cases h3 : a = 3
  · subst h3; rw [if_pos rfl]; exact g_tsI (show decode cX13_of 20 = .ok (.tableswitch 103 0 4 #[36, 43, 63, 80, 96], 36) by decide +kernel) (by decide) (by decide) rfl rfl
  rw [if_neg h3]
  by_cases h4 : a = 4
  · subst h4; rw [if_pos rfl]; exact g_tsI (show decode cX13_of 20 = .ok (.tableswitch 103 0 4 #[36, 43, 63, 80, 96], 36) by decide +kernel) (by decide) (by decide) rfl rfl
  rw [if_neg h4]
  exact g_tsO (show decode cX13_of 20 = .ok (.tableswitch 103 0 4 #[36, 43, 63, 80, 96], 36) by decide +kernel) ⟨ha1, ha2⟩ (by omega) rfl
set_option maxRecDepth 20000 in
theorem kX13_of_56 {C : QC} {x : QP} {M : QM} {st : List CV} {L : QL} {l0 l1 l2 : Option CV} {r : Option Nat} : Rr C mX13_of (56, [some (.inr (.inr r)), l1, l2], st, M) x = Rr C mX13_of (57, [some (.inr (.inr r)), l1, l2], .inr (.inr r) :: st, M) x := g_pl (show decode cX13_of 56 = .ok (.aload_n 0, 1) by decide +kernel) rfl
set_option maxRecDepth 20000 in
theorem kX13_of_57 {C : QC} {x : QP} {M : QM} {st : List CV} {L : QL} {l0 l1 l2 : Option CV} {z : Int} : Rr C mX13_of (57, [l0, some (qi z), l2], st, M) x = Rr C mX13_of (58, [l0, some (qi z), l2], qi z :: st, M) x := g_pl (show decode cX13_of 57 = .ok (.iload_n 1, 1) by decide +kernel) rfl
set_option maxRecDepth 20000 in
theorem kX13_of_58 {C : QC} {x : QP} {M : QM} {st : List CV} {L : QL} : Rr C mX13_of (58, L, st, M) x = Rr C mX13_of (59, L, qi 1 :: st, M) x := g_pl (show decode cX13_of 58 = .ok (.iconst 1, 1) by decide +kernel) rfl
set_option maxRecDepth 20000 in
theorem kX13_of_59 {C : QC} {x : QP} {M : QM} {L : QL} {rest : List CV} {a0 a1 : CV} {v : CV} {M1 : QM} {b : Nat} (hb : q_kd M b = (1, 13)) (hC : C iX13_has [qr b, a0, a1] M (some v) M1) (hw : (rest.map q_wd).sum ≤ 8) (k : Rr C mX13_of (62, L, v :: rest, M1) x) : Rr C mX13_of (59, L, a1 :: a0 :: qr b :: rest, M) x := g_cv (ow := 13) (e := (0, 207, 13, [1391, 1393, 32, 94])) (as := [a0, a1]) (show decode cX13_of 59 = .ok (.invokevirtual 47, 3) by decide +kernel) rfl rfl rfl (Or.inl rfl) rfl hb hC hw k
set_option maxRecDepth 20000 in
theorem kX13_of_62 {C : QC} {x : QP} {M : QM} {st : List CV} {L : QL} {z : Int} : Rr C mX13_of (62, L, [qi z], M) x = x (some (qi z)) M := g_iret (show decode cX13_of 62 = .ok (.ireturn, 1) by decide +kernel) rfl
set_option maxRecDepth 20000 in
theorem kX13_of_63 {C : QC} {x : QP} {M : QM} {st : List CV} {L : QL} {l0 l1 l2 : Option CV} {r : Option Nat} : Rr C mX13_of (63, [some (.inr (.inr r)), l1, l2], st, M) x = Rr C mX13_of (64, [some (.inr (.inr r)), l1, l2], .inr (.inr r) :: st, M) x := g_pl (show decode cX13_of 63 = .ok (.aload_n 0, 1) by decide +kernel) rfl
set_option maxRecDepth 20000 in
theorem kX13_of_64 {C : QC} {x : QP} {M : QM} {st : List CV} {L : QL} {l0 l1 l2 : Option CV} {z : Int} : Rr C mX13_of (64, [l0, some (qi z), l2], st, M) x = Rr C mX13_of (65, [l0, some (qi z), l2], qi z :: st, M) x := g_pl (show decode cX13_of 64 = .ok (.iload_n 1, 1) by decide +kernel) rfl
set_option maxRecDepth 20000 in
theorem kX13_of_65 {C : QC} {x : QP} {M : QM} {L : QL} {rest : List CV} {a0 : CV} {v : CV} {M1 : QM} {b : Nat} (hb : q_kd M b = (1, 13)) (hC : C iX13_hasEnded [qr b, a0] M (some v) M1) (hw : (rest.map q_wd).sum ≤ 8) (k : Rr C mX13_of (68, L, v :: rest, M1) x) : Rr C mX13_of (65, L, a0 :: qr b :: rest, M) x := g_cv (ow := 13) (e := (0, 209, 13, [1399, 1401, 34, 94])) (as := [a0]) (show decode cX13_of 65 = .ok (.invokevirtual 51, 3) by decide +kernel) rfl rfl rfl (Or.inl rfl) rfl hb hC hw k
set_option maxRecDepth 20000 in
theorem kX13_of_68 {C : QC} {x : QP} {M : QM} {st : List CV} {L : QL} {a : Int} (ha1 : -2147483648 ≤ a) (ha2 : a < 2147483648) : Rr C mX13_of (68, L, qi a :: st, M) x = (if a = 0 then Rr C mX13_of (80, L, st, M) x else Rr C mX13_of (71, L, st, M) x) := (g_if (show decode cX13_of 68 = .ok (.ifCond .eq 12, 3) by decide +kernel) rfl ha1 ha2).trans (g_ite c_eq)
set_option maxRecDepth 20000 in
theorem kX13_of_71 {C : QC} {x : QP} {M : QM} {st : List CV} {L : QL} {l0 l1 l2 : Option CV} {r : Option Nat} : Rr C mX13_of (71, [some (.inr (.inr r)), l1, l2], st, M) x = Rr C mX13_of (72, [some (.inr (.inr r)), l1, l2], .inr (.inr r) :: st, M) x := g_pl (show decode cX13_of 71 = .ok (.aload_n 0, 1) by decide +kernel) rfl
set_option maxRecDepth 20000 in
theorem kX13_of_72 {C : QC} {x : QP} {M : QM} {st : List CV} {L : QL} {l0 l1 l2 : Option CV} {z : Int} : Rr C mX13_of (72, [l0, some (qi z), l2], st, M) x = Rr C mX13_of (73, [l0, some (qi z), l2], qi z :: st, M) x := g_pl (show decode cX13_of 72 = .ok (.iload_n 1, 1) by decide +kernel) rfl
set_option maxRecDepth 20000 in
theorem kX13_of_73 {C : QC} {x : QP} {M : QM} {st : List CV} {L : QL} : Rr C mX13_of (73, L, st, M) x = Rr C mX13_of (74, L, qi 2 :: st, M) x := g_pl (show decode cX13_of 73 = .ok (.iconst 2, 1) by decide +kernel) rfl
set_option maxRecDepth 20000 in
theorem kX13_of_74 {C : QC} {x : QP} {M : QM} {L : QL} {rest : List CV} {a0 a1 : CV} {v : CV} {M1 : QM} {b : Nat} (hb : q_kd M b = (1, 13)) (hC : C iX13_has [qr b, a0, a1] M (some v) M1) (hw : (rest.map q_wd).sum ≤ 8) (k : Rr C mX13_of (77, L, v :: rest, M1) x) : Rr C mX13_of (74, L, a1 :: a0 :: qr b :: rest, M) x := g_cv (ow := 13) (e := (0, 207, 13, [1391, 1393, 32, 94])) (as := [a0, a1]) (show decode cX13_of 74 = .ok (.invokevirtual 47, 3) by decide +kernel) rfl rfl rfl (Or.inl rfl) rfl hb hC hw k
set_option maxRecDepth 20000 in
theorem kX13_of_77 {C : QC} {x : QP} {M : QM} {st : List CV} {L : QL} : Rr C mX13_of (77, L, st, M) x = Rr C mX13_of (82, L, st, M) x := g_pl (show decode cX13_of 77 = .ok (.goto 5, 3) by decide +kernel) rfl
set_option maxRecDepth 20000 in
theorem kX13_of_80 {C : QC} {x : QP} {M : QM} {st : List CV} {L : QL} : Rr C mX13_of (80, L, st, M) x = Rr C mX13_of (82, L, qi (-5) :: st, M) x := g_pl (show decode cX13_of 80 = .ok (.bipush (-5), 2) by decide +kernel) rfl
set_option maxRecDepth 20000 in
theorem kX13_of_82 {C : QC} {x : QP} {M : QM} {st : List CV} {L : QL} {z : Int} : Rr C mX13_of (82, L, [qi z], M) x = x (some (qi z)) M := g_iret (show decode cX13_of 82 = .ok (.ireturn, 1) by decide +kernel) rfl
set_option maxRecDepth 20000 in
theorem kX13_of_83 {C : QC} {x : QP} {M : QM} {st : List CV} {L : QL} {l0 l1 l2 : Option CV} {r : Option Nat} : Rr C mX13_of (83, [some (.inr (.inr r)), l1, l2], st, M) x = Rr C mX13_of (84, [some (.inr (.inr r)), l1, l2], .inr (.inr r) :: st, M) x := g_pl (show decode cX13_of 83 = .ok (.aload_n 0, 1) by decide +kernel) rfl
set_option maxRecDepth 20000 in
theorem kX13_of_84 {C : QC} {x : QP} {M : QM} {st : List CV} {L : QL} : Rr C mX13_of (84, L, st, M) x = Rr C mX13_of (87, L, qi 1575 :: st, M) x := g_pl (show decode cX13_of 84 = .ok (.sipush 1575, 3) by decide +kernel) rfl
set_option maxRecDepth 20000 in
theorem kX13_of_87 {C : QC} {x : QP} {M : QM} {st : List CV} {L : QL} {l0 l1 l2 : Option CV} {r : Option Nat} : Rr C mX13_of (87, [some (.inr (.inr r)), l1, l2], st, M) x = Rr C mX13_of (88, [some (.inr (.inr r)), l1, l2], .inr (.inr r) :: st, M) x := g_pl (show decode cX13_of 87 = .ok (.aload_n 0, 1) by decide +kernel) rfl
set_option maxRecDepth 20000 in
theorem kX13_of_88 {C : QC} {x : QP} {M : QM} {st : List CV} {L : QL} {a : Nat} (hk : q_kd M a = (1, 13)) : Rr C mX13_of (88, L, qr a :: st, M) x = Rr C mX13_of (91, L, q_fv M a 0 :: st, M) x := g_getf (ow := 13) (e := (13, 0, RX13, 1301, 0)) (show decode cX13_of 88 = .ok (.getfield 10, 3) by decide +kernel) rfl hk
set_option maxRecDepth 20000 in
theorem kX13_of_91 {C : QC} {x : QP} {M : QM} {st : List CV} {L : QL} : Rr C mX13_of (91, L, st, M) x = Rr C mX13_of (92, L, qi 1 :: st, M) x := g_pl (show decode cX13_of 91 = .ok (.iconst 1, 1) by decide +kernel) rfl
set_option maxRecDepth 20000 in
theorem kX13_of_92 {C : QC} {x : QP} {M : QM} {st : List CV} {L : QL} {a : Nat} {j : Int} (hk : (q_kd M a).1 = 2) (h0 : 0 ≤ j) (h1 : j < ((q_kd M a).2 : Int)) : Rr C mX13_of (92, L, qi j :: qr a :: st, M) x = Rr C mX13_of (93, L, q_fv M a j.toNat :: st, M) x := g_iald (show decode cX13_of 92 = .ok (.iaload, 1) by decide +kernel) hk h0 h1
set_option maxRecDepth 20000 in
theorem kX13_of_93 {C : QC} {x : QP} {M : QM} {st : List CV} {L : QL} : Rr C mX13_of (93, L, st, M) x = Rr C mX13_of (95, L, qi 11 :: st, M) x := g_pl (show decode cX13_of 93 = .ok (.bipush 11, 2) by decide +kernel) rfl
set_option maxRecDepth 20000 in
theorem kX13_of_95 {C : QC} {x : QP} {M : QM} {st : List CV} {L : QL} {l0 l1 l2 : Option CV} {z : Int} : Rr C mX13_of (95, [l0, some (qi z), l2], st, M) x = Rr C mX13_of (96, [l0, some (qi z), l2], qi z :: st, M) x := g_pl (show decode cX13_of 95 = .ok (.iload_n 1, 1) by decide +kernel) rfl
set_option maxRecDepth 20000 in
theorem kX13_of_96 {C : QC} {x : QP} {M : QM} {L : QL} {rest : List CV} {a0 a1 a2 a3 : CV} {v : CV} {M1 : QM} {b : Nat} (hb : q_kd M b = (1, 13)) (hC : C iX13_toldOf [qr b, a0, a1, a2, a3] M (some v) M1) (hw : (rest.map q_wd).sum ≤ 8) (k : Rr C mX13_of (99, L, v :: rest, M1) x) : Rr C mX13_of (96, L, a3 :: a2 :: a1 :: a0 :: qr b :: rest, M) x := g_cv (ow := 13) (e := (0, 251, 13, [1567, 1569, 67, 94])) (as := [a0, a1, a2, a3]) (show decode cX13_of 96 = .ok (.invokevirtual 195, 3) by decide +kernel) rfl rfl rfl (Or.inl rfl) rfl hb hC hw k
set_option maxRecDepth 20000 in
theorem kX13_of_99 {C : QC} {x : QP} {M : QM} {st : List CV} {L : QL} {z : Int} : Rr C mX13_of (99, L, [qi z], M) x = x (some (qi z)) M := g_iret (show decode cX13_of 99 = .ok (.ireturn, 1) by decide +kernel) rfl
set_option maxRecDepth 20000 in
theorem kX13_of_100 {C : QC} {x : QP} {M : QM} {st : List CV} {L : QL} {l0 l1 l2 : Option CV} {r : Option Nat} : Rr C mX13_of (100, [some (.inr (.inr r)), l1, l2], st, M) x = Rr C mX13_of (101, [some (.inr (.inr r)), l1, l2], .inr (.inr r) :: st, M) x := g_pl (show decode cX13_of 100 = .ok (.aload_n 0, 1) by decide +kernel) rfl
set_option maxRecDepth 20000 in
theorem kX13_of_101 {C : QC} {x : QP} {M : QM} {st : List CV} {L : QL} : Rr C mX13_of (101, L, st, M) x = Rr C mX13_of (104, L, qi 9275 :: st, M) x := g_pl (show decode cX13_of 101 = .ok (.sipush 9275, 3) by decide +kernel) rfl
set_option maxRecDepth 20000 in
theorem kX13_of_104 {C : QC} {x : QP} {M : QM} {st : List CV} {L : QL} {l0 l1 l2 : Option CV} {r : Option Nat} : Rr C mX13_of (104, [some (.inr (.inr r)), l1, l2], st, M) x = Rr C mX13_of (105, [some (.inr (.inr r)), l1, l2], .inr (.inr r) :: st, M) x := g_pl (show decode cX13_of 104 = .ok (.aload_n 0, 1) by decide +kernel) rfl
set_option maxRecDepth 20000 in
theorem kX13_of_105 {C : QC} {x : QP} {M : QM} {st : List CV} {L : QL} {a : Nat} (hk : q_kd M a = (1, 13)) : Rr C mX13_of (105, L, qr a :: st, M) x = Rr C mX13_of (108, L, q_fv M a 0 :: st, M) x := g_getf (ow := 13) (e := (13, 0, RX13, 1301, 0)) (show decode cX13_of 105 = .ok (.getfield 10, 3) by decide +kernel) rfl hk
set_option maxRecDepth 20000 in
theorem kX13_of_108 {C : QC} {x : QP} {M : QM} {st : List CV} {L : QL} : Rr C mX13_of (108, L, st, M) x = Rr C mX13_of (109, L, qi 2 :: st, M) x := g_pl (show decode cX13_of 108 = .ok (.iconst 2, 1) by decide +kernel) rfl
set_option maxRecDepth 20000 in
theorem kX13_of_109 {C : QC} {x : QP} {M : QM} {st : List CV} {L : QL} {a : Nat} {j : Int} (hk : (q_kd M a).1 = 2) (h0 : 0 ≤ j) (h1 : j < ((q_kd M a).2 : Int)) : Rr C mX13_of (109, L, qi j :: qr a :: st, M) x = Rr C mX13_of (110, L, q_fv M a j.toNat :: st, M) x := g_iald (show decode cX13_of 109 = .ok (.iaload, 1) by decide +kernel) hk h0 h1
set_option maxRecDepth 20000 in
theorem kX13_of_110 {C : QC} {x : QP} {M : QM} {st : List CV} {L : QL} : Rr C mX13_of (110, L, st, M) x = Rr C mX13_of (111, L, qi 3 :: st, M) x := g_pl (show decode cX13_of 110 = .ok (.iconst 3, 1) by decide +kernel) rfl
set_option maxRecDepth 20000 in
theorem kX13_of_111 {C : QC} {x : QP} {M : QM} {st : List CV} {L : QL} {l0 l1 l2 : Option CV} {z : Int} : Rr C mX13_of (111, [l0, some (qi z), l2], st, M) x = Rr C mX13_of (112, [l0, some (qi z), l2], qi z :: st, M) x := g_pl (show decode cX13_of 111 = .ok (.iload_n 1, 1) by decide +kernel) rfl
set_option maxRecDepth 20000 in
theorem kX13_of_112 {C : QC} {x : QP} {M : QM} {L : QL} {rest : List CV} {a0 a1 a2 a3 : CV} {v : CV} {M1 : QM} {b : Nat} (hb : q_kd M b = (1, 13)) (hC : C iX13_toldOf [qr b, a0, a1, a2, a3] M (some v) M1) (hw : (rest.map q_wd).sum ≤ 8) (k : Rr C mX13_of (115, L, v :: rest, M1) x) : Rr C mX13_of (112, L, a3 :: a2 :: a1 :: a0 :: qr b :: rest, M) x := g_cv (ow := 13) (e := (0, 251, 13, [1567, 1569, 67, 94])) (as := [a0, a1, a2, a3]) (show decode cX13_of 112 = .ok (.invokevirtual 195, 3) by decide +kernel) rfl rfl rfl (Or.inl rfl) rfl hb hC hw k
set_option maxRecDepth 20000 in
theorem kX13_of_115 {C : QC} {x : QP} {M : QM} {st : List CV} {L : QL} {z : Int} : Rr C mX13_of (115, L, [qi z], M) x = x (some (qi z)) M := g_iret (show decode cX13_of 115 = .ok (.ireturn, 1) by decide +kernel) rfl
set_option maxRecDepth 20000 in
theorem kX13_of_116 {C : QC} {x : QP} {M : QM} {st : List CV} {L : QL} {l0 l1 l2 : Option CV} {r : Option Nat} : Rr C mX13_of (116, [some (.inr (.inr r)), l1, l2], st, M) x = Rr C mX13_of (117, [some (.inr (.inr r)), l1, l2], .inr (.inr r) :: st, M) x := g_pl (show decode cX13_of 116 = .ok (.aload_n 0, 1) by decide +kernel) rfl
set_option maxRecDepth 20000 in
theorem kX13_of_117 {C : QC} {x : QP} {M : QM} {st : List CV} {L : QL} {l0 l1 l2 : Option CV} {z : Int} : Rr C mX13_of (117, [l0, some (qi z), l2], st, M) x = Rr C mX13_of (118, [l0, some (qi z), l2], qi z :: st, M) x := g_pl (show decode cX13_of 117 = .ok (.iload_n 1, 1) by decide +kernel) rfl
set_option maxRecDepth 20000 in
theorem kX13_of_118 {C : QC} {x : QP} {M : QM} {st : List CV} {L : QL} : Rr C mX13_of (118, L, st, M) x = Rr C mX13_of (119, L, qi 4 :: st, M) x := g_pl (show decode cX13_of 118 = .ok (.iconst 4, 1) by decide +kernel) rfl
set_option maxRecDepth 20000 in
theorem kX13_of_119 {C : QC} {x : QP} {M : QM} {L : QL} {rest : List CV} {a0 a1 : CV} {v : CV} {M1 : QM} {b : Nat} (hb : q_kd M b = (1, 13)) (hC : C iX13_has [qr b, a0, a1] M (some v) M1) (hw : (rest.map q_wd).sum ≤ 8) (k : Rr C mX13_of (122, L, v :: rest, M1) x) : Rr C mX13_of (119, L, a1 :: a0 :: qr b :: rest, M) x := g_cv (ow := 13) (e := (0, 207, 13, [1391, 1393, 32, 94])) (as := [a0, a1]) (show decode cX13_of 119 = .ok (.invokevirtual 47, 3) by decide +kernel) rfl rfl rfl (Or.inl rfl) rfl hb hC hw k
set_option maxRecDepth 20000 in
theorem kX13_of_122 {C : QC} {x : QP} {M : QM} {st : List CV} {L : QL} {z : Int} : Rr C mX13_of (122, L, [qi z], M) x = x (some (qi z)) M := g_iret (show decode cX13_of 122 = .ok (.ireturn, 1) by decide +kernel) rfl
set_option maxRecDepth 20000 in
theorem kX13_of_123 {C : QC} {x : QP} {M : QM} {st : List CV} {L : QL} {l0 l1 l2 : Option CV} {r : Option Nat} : Rr C mX13_of (123, [some (.inr (.inr r)), l1, l2], st, M) x = Rr C mX13_of (124, [some (.inr (.inr r)), l1, l2], .inr (.inr r) :: st, M) x := g_pl (show decode cX13_of 123 = .ok (.aload_n 0, 1) by decide +kernel) rfl
set_option maxRecDepth 20000 in
theorem kX13_of_124 {C : QC} {x : QP} {M : QM} {st : List CV} {L : QL} {l0 l1 l2 : Option CV} {z : Int} : Rr C mX13_of (124, [l0, some (qi z), l2], st, M) x = Rr C mX13_of (125, [l0, some (qi z), l2], qi z :: st, M) x := g_pl (show decode cX13_of 124 = .ok (.iload_n 1, 1) by decide +kernel) rfl
set_option maxRecDepth 20000 in
theorem kX13_of_125 {C : QC} {x : QP} {M : QM} {st : List CV} {L : QL} : Rr C mX13_of (125, L, st, M) x = Rr C mX13_of (126, L, qi 5 :: st, M) x := g_pl (show decode cX13_of 125 = .ok (.iconst 5, 1) by decide +kernel) rfl
set_option maxRecDepth 20000 in
theorem kX13_of_126 {C : QC} {x : QP} {M : QM} {L : QL} {rest : List CV} {a0 a1 : CV} {v : CV} {M1 : QM} {b : Nat} (hb : q_kd M b = (1, 13)) (hC : C iX13_has [qr b, a0, a1] M (some v) M1) (hw : (rest.map q_wd).sum ≤ 8) (k : Rr C mX13_of (129, L, v :: rest, M1) x) : Rr C mX13_of (126, L, a1 :: a0 :: qr b :: rest, M) x := g_cv (ow := 13) (e := (0, 207, 13, [1391, 1393, 32, 94])) (as := [a0, a1]) (show decode cX13_of 126 = .ok (.invokevirtual 47, 3) by decide +kernel) rfl rfl rfl (Or.inl rfl) rfl hb hC hw k
set_option maxRecDepth 20000 in
theorem kX13_of_129 {C : QC} {x : QP} {M : QM} {st : List CV} {L : QL} {z : Int} : Rr C mX13_of (129, L, [qi z], M) x = x (some (qi z)) M := g_iret (show decode cX13_of 129 = .ok (.ireturn, 1) by decide +kernel) rfl
set_option maxRecDepth 20000 in
theorem eX13_of {d : Nat} {M : QM} {x : QP} {a : Nat} {v0 : Int} {v1 : Int} : q_T (d + 1) iX13_of [qr a, qi v0, qi v1] M x = Rr (q_C d) mX13_of (0, [some (qr a), some (qi v0), some (qi v1)], [], M) x := g_entryT (e := _) rfl (Nat.le_of_ble_eq_true rfl) rfl rfl
def mX13_event : QI := (13, cX13_event, false, some .int)
set_option maxRecDepth 20000 in
theorem kX13_event_0 {C : QC} {x : QP} {M : QM} {st : List CV} {L : QL} {l0 l1 l2 l3 : Option CV} {r : Option Nat} : Rr C mX13_event (0, [some (.inr (.inr r)), l1, l2, l3], st, M) x = Rr C mX13_event (1, [some (.inr (.inr r)), l1, l2, l3], .inr (.inr r) :: st, M) x := g_pl (show decode cX13_event 0 = .ok (.aload_n 0, 1) by decide +kernel) rfl
set_option maxRecDepth 20000 in
theorem kX13_event_1 {C : QC} {x : QP} {M : QM} {st : List CV} {L : QL} {l0 l1 l2 l3 : Option CV} {z : Int} : Rr C mX13_event (1, [l0, some (qi z), l2, l3], st, M) x = Rr C mX13_event (2, [l0, some (qi z), l2, l3], qi z :: st, M) x := g_pl (show decode cX13_event 1 = .ok (.iload_n 1, 1) by decide +kernel) rfl
set_option maxRecDepth 20000 in
theorem kX13_event_2 {C : QC} {x : QP} {M : QM} {L : QL} {rest : List CV} {a0 : CV} {v : CV} {M1 : QM} {b : Nat} (hb : q_kd M b = (1, 13)) (hC : C iX13_isPlace [qr b, a0] M (some v) M1) (hw : (rest.map q_wd).sum ≤ 8) (k : Rr C mX13_event (5, L, v :: rest, M1) x) : Rr C mX13_event (2, L, a0 :: qr b :: rest, M) x := g_cv (ow := 13) (e := (0, 205, 13, [1384, 1386, 31, 94])) (as := [a0]) (show decode cX13_event 2 = .ok (.invokevirtual 94, 3) by decide +kernel) rfl rfl rfl (Or.inl rfl) rfl hb hC hw k
set_option maxRecDepth 20000 in
theorem kX13_event_5 {C : QC} {x : QP} {M : QM} {st : List CV} {L : QL} {a : Int} (ha1 : -2147483648 ≤ a) (ha2 : a < 2147483648) : Rr C mX13_event (5, L, qi a :: st, M) x = (if a = 0 then Rr C mX13_event (37, L, st, M) x else Rr C mX13_event (8, L, st, M) x) := (g_if (show decode cX13_event 5 = .ok (.ifCond .eq 32, 3) by decide +kernel) rfl ha1 ha2).trans (g_ite c_eq)
set_option maxRecDepth 20000 in
theorem kX13_event_8 {C : QC} {x : QP} {M : QM} {st : List CV} {L : QL} {l0 l1 l2 l3 : Option CV} {z : Int} : Rr C mX13_event (8, [l0, l1, some (qi z), l3], st, M) x = Rr C mX13_event (9, [l0, l1, some (qi z), l3], qi z :: st, M) x := g_pl (show decode cX13_event 8 = .ok (.iload_n 2, 1) by decide +kernel) rfl
set_option maxRecDepth 20000 in
theorem kX13_event_9 {C : QC} {x : QP} {M : QM} {st : List CV} {L : QL} : Rr C mX13_event (9, L, st, M) x = Rr C mX13_event (10, L, qi 0 :: st, M) x := g_pl (show decode cX13_event 9 = .ok (.iconst 0, 1) by decide +kernel) rfl
set_option maxRecDepth 20000 in
theorem kX13_event_10 {C : QC} {x : QP} {M : QM} {st : List CV} {L : QL} : Rr C mX13_event (10, L, st, M) x = Rr C mX13_event (12, L, qi 23 :: st, M) x := g_pl (show decode cX13_event 10 = .ok (.bipush 23, 2) by decide +kernel) rfl
set_option maxRecDepth 20000 in
theorem kX13_event_12 {C : QC} {x : QP} {M : QM} {L : QL} {rest : List CV} {a0 a1 a2 : CV} {v : CV} {M1 : QM} (hC : C iX13_in [a0, a1, a2] M (some v) M1) (hw : (rest.map q_wd).sum ≤ 8) (k : Rr C mX13_event (15, L, v :: rest, M1) x) : Rr C mX13_event (12, L, a2 :: a1 :: a0 :: rest, M) x := g_cs (ow := 13) (e := (1, 198, 0, [1357, 1358, 94])) (as := [a0, a1, a2]) (show decode cX13_event 12 = .ok (.invokestatic 43, 3) by decide +kernel) rfl rfl rfl rfl (Or.inl rfl) rfl hC hw k
set_option maxRecDepth 20000 in
theorem kX13_event_15 {C : QC} {x : QP} {M : QM} {st : List CV} {L : QL} {a : Int} (ha1 : -2147483648 ≤ a) (ha2 : a < 2147483648) : Rr C mX13_event (15, L, qi a :: st, M) x = (if a = 0 then Rr C mX13_event (37, L, st, M) x else Rr C mX13_event (18, L, st, M) x) := (g_if (show decode cX13_event 15 = .ok (.ifCond .eq 22, 3) by decide +kernel) rfl ha1 ha2).trans (g_ite c_eq)
set_option maxRecDepth 20000 in
theorem kX13_event_18 {C : QC} {x : QP} {M : QM} {st : List CV} {L : QL} {l0 l1 l2 l3 : Option CV} {z : Int} : Rr C mX13_event (18, [l0, l1, some (qi z), l3], st, M) x = Rr C mX13_event (19, [l0, l1, some (qi z), l3], qi z :: st, M) x := g_pl (show decode cX13_event 18 = .ok (.iload_n 2, 1) by decide +kernel) rfl
set_option maxRecDepth 20000 in
theorem kX13_event_19 {C : QC} {x : QP} {M : QM} {st : List CV} {L : QL} {l0 l1 l2 l3 : Option CV} {r : Option Nat} : Rr C mX13_event (19, [some (.inr (.inr r)), l1, l2, l3], st, M) x = Rr C mX13_event (20, [some (.inr (.inr r)), l1, l2, l3], .inr (.inr r) :: st, M) x := g_pl (show decode cX13_event 19 = .ok (.aload_n 0, 1) by decide +kernel) rfl
set_option maxRecDepth 20000 in
theorem kX13_event_20 {C : QC} {x : QP} {M : QM} {st : List CV} {L : QL} {l0 l1 l2 l3 : Option CV} {z : Int} : Rr C mX13_event (20, [l0, some (qi z), l2, l3], st, M) x = Rr C mX13_event (21, [l0, some (qi z), l2, l3], qi z :: st, M) x := g_pl (show decode cX13_event 20 = .ok (.iload_n 1, 1) by decide +kernel) rfl
set_option maxRecDepth 20000 in
theorem kX13_event_21 {C : QC} {x : QP} {M : QM} {st : List CV} {L : QL} : Rr C mX13_event (21, L, st, M) x = Rr C mX13_event (22, L, qi 5 :: st, M) x := g_pl (show decode cX13_event 21 = .ok (.iconst 5, 1) by decide +kernel) rfl
set_option maxRecDepth 20000 in
theorem kX13_event_22 {C : QC} {x : QP} {M : QM} {L : QL} {rest : List CV} {a0 a1 : CV} {v : CV} {M1 : QM} {b : Nat} (hb : q_kd M b = (1, 13)) (hC : C iX13_has [qr b, a0, a1] M (some v) M1) (hw : (rest.map q_wd).sum ≤ 8) (k : Rr C mX13_event (25, L, v :: rest, M1) x) : Rr C mX13_event (22, L, a1 :: a0 :: qr b :: rest, M) x := g_cv (ow := 13) (e := (0, 207, 13, [1391, 1393, 32, 94])) (as := [a0, a1]) (show decode cX13_event 22 = .ok (.invokevirtual 47, 3) by decide +kernel) rfl rfl rfl (Or.inl rfl) rfl hb hC hw k
set_option maxRecDepth 20000 in
theorem kX13_event_25 {C : QC} {x : QP} {M : QM} {st : List CV} {L : QL} {a b : Int} (ha1 : -2147483648 ≤ a) (ha2 : a < 2147483648) (hb1 : -2147483648 ≤ b) (hb2 : b < 2147483648) : Rr C mX13_event (25, L, qi b :: qi a :: st, M) x = (if a < b then Rr C mX13_event (28, L, st, M) x else Rr C mX13_event (37, L, st, M) x) := (g_icmp (show decode cX13_event 25 = .ok (.if_icmp .ge 12, 3) by decide +kernel) rfl ha1 ha2 hb1 hb2).trans (g_itn c_ge)
set_option maxRecDepth 20000 in
theorem kX13_event_28 {C : QC} {x : QP} {M : QM} {st : List CV} {L : QL} {l0 l1 l2 l3 : Option CV} {z : Int} : Rr C mX13_event (28, [l0, l1, l2, some (qi z)], st, M) x = Rr C mX13_event (29, [l0, l1, l2, some (qi z)], qi z :: st, M) x := g_pl (show decode cX13_event 28 = .ok (.iload_n 3, 1) by decide +kernel) rfl
set_option maxRecDepth 20000 in
theorem kX13_event_29 {C : QC} {x : QP} {M : QM} {st : List CV} {L : QL} : Rr C mX13_event (29, L, st, M) x = Rr C mX13_event (30, L, qi 0 :: st, M) x := g_pl (show decode cX13_event 29 = .ok (.iconst 0, 1) by decide +kernel) rfl
set_option maxRecDepth 20000 in
theorem kX13_event_30 {C : QC} {x : QP} {M : QM} {st : List CV} {L : QL} : Rr C mX13_event (30, L, st, M) x = Rr C mX13_event (31, L, qi 2 :: st, M) x := g_pl (show decode cX13_event 30 = .ok (.iconst 2, 1) by decide +kernel) rfl
set_option maxRecDepth 20000 in
theorem kX13_event_31 {C : QC} {x : QP} {M : QM} {L : QL} {rest : List CV} {a0 a1 a2 : CV} {v : CV} {M1 : QM} (hC : C iX13_in [a0, a1, a2] M (some v) M1) (hw : (rest.map q_wd).sum ≤ 8) (k : Rr C mX13_event (34, L, v :: rest, M1) x) : Rr C mX13_event (31, L, a2 :: a1 :: a0 :: rest, M) x := g_cs (ow := 13) (e := (1, 198, 0, [1357, 1358, 94])) (as := [a0, a1, a2]) (show decode cX13_event 31 = .ok (.invokestatic 43, 3) by decide +kernel) rfl rfl rfl rfl (Or.inl rfl) rfl hC hw k
set_option maxRecDepth 20000 in
theorem kX13_event_34 {C : QC} {x : QP} {M : QM} {st : List CV} {L : QL} {a : Int} (ha1 : -2147483648 ≤ a) (ha2 : a < 2147483648) : Rr C mX13_event (34, L, qi a :: st, M) x = (if a = 0 then Rr C mX13_event (37, L, st, M) x else Rr C mX13_event (39, L, st, M) x) := (g_if (show decode cX13_event 34 = .ok (.ifCond .ne 5, 3) by decide +kernel) rfl ha1 ha2).trans (g_itn c_ne)
set_option maxRecDepth 20000 in
theorem kX13_event_37 {C : QC} {x : QP} {M : QM} {st : List CV} {L : QL} : Rr C mX13_event (37, L, st, M) x = Rr C mX13_event (38, L, qi (-1) :: st, M) x := g_pl (show decode cX13_event 37 = .ok (.iconst (-1), 1) by decide +kernel) rfl
set_option maxRecDepth 20000 in
theorem kX13_event_38 {C : QC} {x : QP} {M : QM} {st : List CV} {L : QL} {z : Int} : Rr C mX13_event (38, L, [qi z], M) x = x (some (qi z)) M := g_iret (show decode cX13_event 38 = .ok (.ireturn, 1) by decide +kernel) rfl
set_option maxRecDepth 20000 in
theorem kX13_event_39 {C : QC} {x : QP} {M : QM} {st : List CV} {L : QL} {l0 l1 l2 l3 : Option CV} {r : Option Nat} : Rr C mX13_event (39, [some (.inr (.inr r)), l1, l2, l3], st, M) x = Rr C mX13_event (40, [some (.inr (.inr r)), l1, l2, l3], .inr (.inr r) :: st, M) x := g_pl (show decode cX13_event 39 = .ok (.aload_n 0, 1) by decide +kernel) rfl
set_option maxRecDepth 20000 in
theorem kX13_event_40 {C : QC} {x : QP} {M : QM} {st : List CV} {L : QL} {l0 l1 l2 l3 : Option CV} {z : Int} : Rr C mX13_event (40, [l0, some (qi z), l2, l3], st, M) x = Rr C mX13_event (41, [l0, some (qi z), l2, l3], qi z :: st, M) x := g_pl (show decode cX13_event 40 = .ok (.iload_n 1, 1) by decide +kernel) rfl
set_option maxRecDepth 20000 in
theorem kX13_event_41 {C : QC} {x : QP} {M : QM} {st : List CV} {L : QL} : Rr C mX13_event (41, L, st, M) x = Rr C mX13_event (43, L, qi 6 :: st, M) x := g_pl (show decode cX13_event 41 = .ok (.bipush 6, 2) by decide +kernel) rfl
set_option maxRecDepth 20000 in
theorem kX13_event_43 {C : QC} {x : QP} {M : QM} {st : List CV} {L : QL} : Rr C mX13_event (43, L, st, M) x = Rr C mX13_event (44, L, qi 3 :: st, M) x := g_pl (show decode cX13_event 43 = .ok (.iconst 3, 1) by decide +kernel) rfl
set_option maxRecDepth 20000 in
theorem kX13_event_44 {C : QC} {x : QP} {M : QM} {st : List CV} {L : QL} {l0 l1 l2 l3 : Option CV} {z : Int} : Rr C mX13_event (44, [l0, l1, some (qi z), l3], st, M) x = Rr C mX13_event (45, [l0, l1, some (qi z), l3], qi z :: st, M) x := g_pl (show decode cX13_event 44 = .ok (.iload_n 2, 1) by decide +kernel) rfl
set_option maxRecDepth 20000 in
theorem kX13_event_45 {C : QC} {x : QP} {M : QM} {st : List CV} {L : QL} {a b : Int} : Rr C mX13_event (45, L, qi b :: qi a :: st, M) x = Rr C mX13_event (46, L, qi (a * b) :: st, M) x := g_pl (show decode cX13_event 45 = .ok (.imul, 1) by decide +kernel) rfl
set_option maxRecDepth 20000 in
theorem kX13_event_46 {C : QC} {x : QP} {M : QM} {st : List CV} {L : QL} {a b : Int} : Rr C mX13_event (46, L, qi b :: qi a :: st, M) x = Rr C mX13_event (47, L, qi (a + b) :: st, M) x := g_pl (show decode cX13_event 46 = .ok (.iadd, 1) by decide +kernel) rfl
set_option maxRecDepth 20000 in
theorem kX13_event_47 {C : QC} {x : QP} {M : QM} {st : List CV} {L : QL} {l0 l1 l2 l3 : Option CV} {z : Int} : Rr C mX13_event (47, [l0, l1, l2, some (qi z)], st, M) x = Rr C mX13_event (48, [l0, l1, l2, some (qi z)], qi z :: st, M) x := g_pl (show decode cX13_event 47 = .ok (.iload_n 3, 1) by decide +kernel) rfl
set_option maxRecDepth 20000 in
theorem kX13_event_48 {C : QC} {x : QP} {M : QM} {st : List CV} {L : QL} {a b : Int} : Rr C mX13_event (48, L, qi b :: qi a :: st, M) x = Rr C mX13_event (49, L, qi (a + b) :: st, M) x := g_pl (show decode cX13_event 48 = .ok (.iadd, 1) by decide +kernel) rfl
set_option maxRecDepth 20000 in
theorem kX13_event_49 {C : QC} {x : QP} {M : QM} {L : QL} {rest : List CV} {a0 a1 : CV} {v : CV} {M1 : QM} {b : Nat} (hb : q_kd M b = (1, 13)) (hC : C iX13_has [qr b, a0, a1] M (some v) M1) (hw : (rest.map q_wd).sum ≤ 8) (k : Rr C mX13_event (52, L, v :: rest, M1) x) : Rr C mX13_event (49, L, a1 :: a0 :: qr b :: rest, M) x := g_cv (ow := 13) (e := (0, 207, 13, [1391, 1393, 32, 94])) (as := [a0, a1]) (show decode cX13_event 49 = .ok (.invokevirtual 47, 3) by decide +kernel) rfl rfl rfl (Or.inl rfl) rfl hb hC hw k
set_option maxRecDepth 20000 in
theorem kX13_event_52 {C : QC} {x : QP} {M : QM} {st : List CV} {L : QL} {z : Int} : Rr C mX13_event (52, L, [qi z], M) x = x (some (qi z)) M := g_iret (show decode cX13_event 52 = .ok (.ireturn, 1) by decide +kernel) rfl
set_option maxRecDepth 20000 in
theorem eX13_event {d : Nat} {M : QM} {x : QP} {a : Nat} {v0 : Int} {v1 : Int} {v2 : Int} : q_T (d + 1) iX13_event [qr a, qi v0, qi v1, qi v2] M x = Rr (q_C d) mX13_event (0, [some (qr a), some (qi v0), some (qi v1), some (qi v2)], [], M) x := g_entryT (e := _) rfl (Nat.le_of_ble_eq_true rfl) rfl rfl
def mX13_again : QI := (13, cX13_again, false, some .int)
set_option maxRecDepth 20000 in
theorem kX13_again_0 {C : QC} {x : QP} {M : QM} {st : List CV} {L : QL} {l0 l1 l2 : Option CV} {r : Option Nat} : Rr C mX13_again (0, [some (.inr (.inr r)), l1, l2], st, M) x = Rr C mX13_again (1, [some (.inr (.inr r)), l1, l2], .inr (.inr r) :: st, M) x := g_pl (show decode cX13_again 0 = .ok (.aload_n 0, 1) by decide +kernel) rfl
set_option maxRecDepth 20000 in
theorem kX13_again_1 {C : QC} {x : QP} {M : QM} {st : List CV} {L : QL} {l0 l1 l2 : Option CV} {z : Int} : Rr C mX13_again (1, [l0, some (qi z), l2], st, M) x = Rr C mX13_again (2, [l0, some (qi z), l2], qi z :: st, M) x := g_pl (show decode cX13_again 1 = .ok (.iload_n 1, 1) by decide +kernel) rfl
set_option maxRecDepth 20000 in
theorem kX13_again_2 {C : QC} {x : QP} {M : QM} {L : QL} {rest : List CV} {a0 : CV} {v : CV} {M1 : QM} {b : Nat} (hb : q_kd M b = (1, 13)) (hC : C iX13_isPlace [qr b, a0] M (some v) M1) (hw : (rest.map q_wd).sum ≤ 8) (k : Rr C mX13_again (5, L, v :: rest, M1) x) : Rr C mX13_again (2, L, a0 :: qr b :: rest, M) x := g_cv (ow := 13) (e := (0, 205, 13, [1384, 1386, 31, 94])) (as := [a0]) (show decode cX13_again 2 = .ok (.invokevirtual 94, 3) by decide +kernel) rfl rfl rfl (Or.inl rfl) rfl hb hC hw k
set_option maxRecDepth 20000 in
theorem kX13_again_5 {C : QC} {x : QP} {M : QM} {st : List CV} {L : QL} {a : Int} (ha1 : -2147483648 ≤ a) (ha2 : a < 2147483648) : Rr C mX13_again (5, L, qi a :: st, M) x = (if a = 0 then Rr C mX13_again (8, L, st, M) x else Rr C mX13_again (10, L, st, M) x) := (g_if (show decode cX13_again 5 = .ok (.ifCond .ne 5, 3) by decide +kernel) rfl ha1 ha2).trans (g_itn c_ne)
set_option maxRecDepth 20000 in
theorem kX13_again_8 {C : QC} {x : QP} {M : QM} {st : List CV} {L : QL} : Rr C mX13_again (8, L, st, M) x = Rr C mX13_again (9, L, qi (-1) :: st, M) x := g_pl (show decode cX13_again 8 = .ok (.iconst (-1), 1) by decide +kernel) rfl
set_option maxRecDepth 20000 in
theorem kX13_again_9 {C : QC} {x : QP} {M : QM} {st : List CV} {L : QL} {z : Int} : Rr C mX13_again (9, L, [qi z], M) x = x (some (qi z)) M := g_iret (show decode cX13_again 9 = .ok (.ireturn, 1) by decide +kernel) rfl
set_option maxRecDepth 20000 in
theorem kX13_again_10 {C : QC} {x : QP} {M : QM} {st : List CV} {L : QL} {l0 l1 l2 : Option CV} {z : Int} : Rr C mX13_again (10, [l0, l1, some (qi z)], st, M) x = Rr C mX13_again (11, [l0, l1, some (qi z)], qi z :: st, M) x := g_pl (show decode cX13_again 10 = .ok (.iload_n 2, 1) by decide +kernel) rfl
set_option maxRecDepth 20000 in
theorem kX13_again_11 {C : QC} {x : QP} {M : QM} {L : QL} {rest : List CV} {a0 : CV} {v : CV} {M1 : QM} (hC : C iX13_isDay [a0] M (some v) M1) (hw : (rest.map q_wd).sum ≤ 8) (k : Rr C mX13_again (14, L, v :: rest, M1) x) : Rr C mX13_again (11, L, a0 :: rest, M) x := g_cs (ow := 13) (e := (1, 206, 0, [1388, 1389, 94])) (as := [a0]) (show decode cX13_again 11 = .ok (.invokestatic 97, 3) by decide +kernel) rfl rfl rfl rfl (Or.inl rfl) rfl hC hw k
set_option maxRecDepth 20000 in
theorem kX13_again_14 {C : QC} {x : QP} {M : QM} {st : List CV} {L : QL} {a : Int} (ha1 : -2147483648 ≤ a) (ha2 : a < 2147483648) : Rr C mX13_again (14, L, qi a :: st, M) x = (if a = 0 then Rr C mX13_again (17, L, st, M) x else Rr C mX13_again (20, L, st, M) x) := (g_if (show decode cX13_again 14 = .ok (.ifCond .ne 6, 3) by decide +kernel) rfl ha1 ha2).trans (g_itn c_ne)
set_option maxRecDepth 20000 in
theorem kX13_again_17 {C : QC} {x : QP} {M : QM} {st : List CV} {L : QL} : Rr C mX13_again (17, L, st, M) x = Rr C mX13_again (19, L, qi (-2) :: st, M) x := g_pl (show decode cX13_again 17 = .ok (.bipush (-2), 2) by decide +kernel) rfl
set_option maxRecDepth 20000 in
theorem kX13_again_19 {C : QC} {x : QP} {M : QM} {st : List CV} {L : QL} {z : Int} : Rr C mX13_again (19, L, [qi z], M) x = x (some (qi z)) M := g_iret (show decode cX13_again 19 = .ok (.ireturn, 1) by decide +kernel) rfl
set_option maxRecDepth 20000 in
theorem kX13_again_20 {C : QC} {x : QP} {M : QM} {st : List CV} {L : QL} {l0 l1 l2 : Option CV} {r : Option Nat} : Rr C mX13_again (20, [some (.inr (.inr r)), l1, l2], st, M) x = Rr C mX13_again (21, [some (.inr (.inr r)), l1, l2], .inr (.inr r) :: st, M) x := g_pl (show decode cX13_again 20 = .ok (.aload_n 0, 1) by decide +kernel) rfl
set_option maxRecDepth 20000 in
theorem kX13_again_21 {C : QC} {x : QP} {M : QM} {st : List CV} {L : QL} {l0 l1 l2 : Option CV} {z : Int} : Rr C mX13_again (21, [l0, some (qi z), l2], st, M) x = Rr C mX13_again (22, [l0, some (qi z), l2], qi z :: st, M) x := g_pl (show decode cX13_again 21 = .ok (.iload_n 1, 1) by decide +kernel) rfl
set_option maxRecDepth 20000 in
theorem kX13_again_22 {C : QC} {x : QP} {M : QM} {st : List CV} {L : QL} : Rr C mX13_again (22, L, st, M) x = Rr C mX13_again (23, L, qi 5 :: st, M) x := g_pl (show decode cX13_again 22 = .ok (.iconst 5, 1) by decide +kernel) rfl
set_option maxRecDepth 20000 in
theorem kX13_again_23 {C : QC} {x : QP} {M : QM} {L : QL} {rest : List CV} {a0 a1 : CV} {v : CV} {M1 : QM} {b : Nat} (hb : q_kd M b = (1, 13)) (hC : C iX13_has [qr b, a0, a1] M (some v) M1) (hw : (rest.map q_wd).sum ≤ 8) (k : Rr C mX13_again (26, L, v :: rest, M1) x) : Rr C mX13_again (23, L, a1 :: a0 :: qr b :: rest, M) x := g_cv (ow := 13) (e := (0, 207, 13, [1391, 1393, 32, 94])) (as := [a0, a1]) (show decode cX13_again 23 = .ok (.invokevirtual 47, 3) by decide +kernel) rfl rfl rfl (Or.inl rfl) rfl hb hC hw k
set_option maxRecDepth 20000 in
theorem kX13_again_26 {C : QC} {x : QP} {M : QM} {st : List CV} {L : QL} : Rr C mX13_again (26, L, st, M) x = Rr C mX13_again (28, L, qi 24 :: st, M) x := g_pl (show decode cX13_again 26 = .ok (.bipush 24, 2) by decide +kernel) rfl
set_option maxRecDepth 20000 in
theorem kX13_again_28 {C : QC} {x : QP} {M : QM} {st : List CV} {L : QL} {a b : Int} (ha1 : -2147483648 ≤ a) (ha2 : a < 2147483648) (hb1 : -2147483648 ≤ b) (hb2 : b < 2147483648) : Rr C mX13_again (28, L, qi b :: qi a :: st, M) x = (if b < a then Rr C mX13_again (31, L, st, M) x else Rr C mX13_again (34, L, st, M) x) := (g_icmp (show decode cX13_again 28 = .ok (.if_icmp .le 6, 3) by decide +kernel) rfl ha1 ha2 hb1 hb2).trans (g_itn c_le)
set_option maxRecDepth 20000 in
theorem kX13_again_31 {C : QC} {x : QP} {M : QM} {st : List CV} {L : QL} : Rr C mX13_again (31, L, st, M) x = Rr C mX13_again (33, L, qi (-3) :: st, M) x := g_pl (show decode cX13_again 31 = .ok (.bipush (-3), 2) by decide +kernel) rfl
set_option maxRecDepth 20000 in
theorem kX13_again_33 {C : QC} {x : QP} {M : QM} {st : List CV} {L : QL} {z : Int} : Rr C mX13_again (33, L, [qi z], M) x = x (some (qi z)) M := g_iret (show decode cX13_again 33 = .ok (.ireturn, 1) by decide +kernel) rfl
set_option maxRecDepth 20000 in
theorem kX13_again_34 {C : QC} {x : QP} {M : QM} {st : List CV} {L : QL} {l0 l1 l2 : Option CV} {r : Option Nat} : Rr C mX13_again (34, [some (.inr (.inr r)), l1, l2], st, M) x = Rr C mX13_again (35, [some (.inr (.inr r)), l1, l2], .inr (.inr r) :: st, M) x := g_pl (show decode cX13_again 34 = .ok (.aload_n 0, 1) by decide +kernel) rfl
set_option maxRecDepth 20000 in
theorem kX13_again_35 {C : QC} {x : QP} {M : QM} {st : List CV} {L : QL} {l0 l1 l2 : Option CV} {z : Int} : Rr C mX13_again (35, [l0, some (qi z), l2], st, M) x = Rr C mX13_again (36, [l0, some (qi z), l2], qi z :: st, M) x := g_pl (show decode cX13_again 35 = .ok (.iload_n 1, 1) by decide +kernel) rfl
set_option maxRecDepth 20000 in
theorem kX13_again_36 {C : QC} {x : QP} {M : QM} {st : List CV} {L : QL} {l0 l1 l2 : Option CV} {z : Int} : Rr C mX13_again (36, [l0, l1, some (qi z)], st, M) x = Rr C mX13_again (37, [l0, l1, some (qi z)], qi z :: st, M) x := g_pl (show decode cX13_again 36 = .ok (.iload_n 2, 1) by decide +kernel) rfl
set_option maxRecDepth 20000 in
theorem kX13_again_37 {C : QC} {x : QP} {M : QM} {L : QL} {rest : List CV} {a0 a1 : CV} {v : CV} {M1 : QM} {b : Nat} (hb : q_kd M b = (1, 13)) (hC : C iX13_exists [qr b, a0, a1] M (some v) M1) (hw : (rest.map q_wd).sum ≤ 8) (k : Rr C mX13_again (40, L, v :: rest, M1) x) : Rr C mX13_again (37, L, a1 :: a0 :: qr b :: rest, M) x := g_cv (ow := 13) (e := (0, 235, 13, [1503, 1505, 56, 94])) (as := [a0, a1]) (show decode cX13_again 37 = .ok (.invokevirtual 62, 3) by decide +kernel) rfl rfl rfl (Or.inl rfl) rfl hb hC hw k
set_option maxRecDepth 20000 in
theorem kX13_again_40 {C : QC} {x : QP} {M : QM} {st : List CV} {L : QL} {a : Int} (ha1 : -2147483648 ≤ a) (ha2 : a < 2147483648) : Rr C mX13_again (40, L, qi a :: st, M) x = (if a = 0 then Rr C mX13_again (52, L, st, M) x else Rr C mX13_again (43, L, st, M) x) := (g_if (show decode cX13_again 40 = .ok (.ifCond .eq 12, 3) by decide +kernel) rfl ha1 ha2).trans (g_ite c_eq)
set_option maxRecDepth 20000 in
theorem kX13_again_43 {C : QC} {x : QP} {M : QM} {st : List CV} {L : QL} {l0 l1 l2 : Option CV} {r : Option Nat} : Rr C mX13_again (43, [some (.inr (.inr r)), l1, l2], st, M) x = Rr C mX13_again (44, [some (.inr (.inr r)), l1, l2], .inr (.inr r) :: st, M) x := g_pl (show decode cX13_again 43 = .ok (.aload_n 0, 1) by decide +kernel) rfl
set_option maxRecDepth 20000 in
theorem kX13_again_44 {C : QC} {x : QP} {M : QM} {st : List CV} {L : QL} {l0 l1 l2 : Option CV} {z : Int} : Rr C mX13_again (44, [l0, some (qi z), l2], st, M) x = Rr C mX13_again (45, [l0, some (qi z), l2], qi z :: st, M) x := g_pl (show decode cX13_again 44 = .ok (.iload_n 1, 1) by decide +kernel) rfl
set_option maxRecDepth 20000 in
theorem kX13_again_45 {C : QC} {x : QP} {M : QM} {st : List CV} {L : QL} {l0 l1 l2 : Option CV} {z : Int} : Rr C mX13_again (45, [l0, l1, some (qi z)], st, M) x = Rr C mX13_again (46, [l0, l1, some (qi z)], qi z :: st, M) x := g_pl (show decode cX13_again 45 = .ok (.iload_n 2, 1) by decide +kernel) rfl
set_option maxRecDepth 20000 in
theorem kX13_again_46 {C : QC} {x : QP} {M : QM} {L : QL} {rest : List CV} {a0 a1 : CV} {v : CV} {M1 : QM} {b : Nat} (hb : q_kd M b = (1, 13)) (hC : C iX13_parentOn [qr b, a0, a1] M (some v) M1) (hw : (rest.map q_wd).sum ≤ 8) (k : Rr C mX13_again (49, L, v :: rest, M1) x) : Rr C mX13_again (46, L, a1 :: a0 :: qr b :: rest, M) x := g_cv (ow := 13) (e := (0, 227, 13, [1471, 1473, 50, 94])) (as := [a0, a1]) (show decode cX13_again 46 = .ok (.invokevirtual 66, 3) by decide +kernel) rfl rfl rfl (Or.inl rfl) rfl hb hC hw k
set_option maxRecDepth 20000 in
theorem kX13_again_49 {C : QC} {x : QP} {M : QM} {st : List CV} {L : QL} : Rr C mX13_again (49, L, st, M) x = Rr C mX13_again (54, L, st, M) x := g_pl (show decode cX13_again 49 = .ok (.goto 5, 3) by decide +kernel) rfl
set_option maxRecDepth 20000 in
theorem kX13_again_52 {C : QC} {x : QP} {M : QM} {st : List CV} {L : QL} : Rr C mX13_again (52, L, st, M) x = Rr C mX13_again (54, L, qi (-5) :: st, M) x := g_pl (show decode cX13_again 52 = .ok (.bipush (-5), 2) by decide +kernel) rfl
set_option maxRecDepth 20000 in
theorem kX13_again_54 {C : QC} {x : QP} {M : QM} {st : List CV} {L : QL} {z : Int} : Rr C mX13_again (54, L, [qi z], M) x = x (some (qi z)) M := g_iret (show decode cX13_again 54 = .ok (.ireturn, 1) by decide +kernel) rfl
set_option maxRecDepth 20000 in
theorem eX13_again {d : Nat} {M : QM} {x : QP} {a : Nat} {v0 : Int} {v1 : Int} : q_T (d + 1) iX13_again [qr a, qi v0, qi v1] M x = Rr (q_C d) mX13_again (0, [some (qr a), some (qi v0), some (qi v1)], [], M) x := g_entryT (e := _) rfl (Nat.le_of_ble_eq_true rfl) rfl rfl
def mX13_distance : QI := (13, cX13_distance, false, some .int)
set_option maxRecDepth 20000 in
theorem kX13_distance_0 {C : QC} {x : QP} {M : QM} {st : List CV} {L : QL} {l0 l1 l2 l3 l4 l5 l6 : Option CV} {r : Option Nat} : Rr C mX13_distance (0, [some (.inr (.inr r)), l1, l2, l3, l4, l5, l6], st, M) x = Rr C mX13_distance (1, [some (.inr (.inr r)), l1, l2, l3, l4, l5, l6], .inr (.inr r) :: st, M) x := g_pl (show decode cX13_distance 0 = .ok (.aload_n 0, 1) by decide +kernel) rfl
set_option maxRecDepth 20000 in
theorem kX13_distance_1 {C : QC} {x : QP} {M : QM} {st : List CV} {L : QL} {a : Nat} (hk : q_kd M a = (1, 13)) : Rr C mX13_distance (1, L, qr a :: st, M) x = Rr C mX13_distance (4, L, q_fv M a 0 :: st, M) x := g_getf (ow := 13) (e := (13, 0, RX13, 1301, 0)) (show decode cX13_distance 1 = .ok (.getfield 10, 3) by decide +kernel) rfl hk
set_option maxRecDepth 20000 in
theorem kX13_distance_4 {C : QC} {x : QP} {M : QM} {st : List CV} {L : QL} {l0 l1 l2 l3 l4 l5 l6 : Option CV} {z : Int} : Rr C mX13_distance (4, [l0, some (qi z), l2, l3, l4, l5, l6], st, M) x = Rr C mX13_distance (5, [l0, some (qi z), l2, l3, l4, l5, l6], qi z :: st, M) x := g_pl (show decode cX13_distance 4 = .ok (.iload_n 1, 1) by decide +kernel) rfl
set_option maxRecDepth 20000 in
theorem kX13_distance_5 {C : QC} {x : QP} {M : QM} {st : List CV} {L : QL} : Rr C mX13_distance (5, L, st, M) x = Rr C mX13_distance (6, L, qi 2 :: st, M) x := g_pl (show decode cX13_distance 5 = .ok (.iconst 2, 1) by decide +kernel) rfl
set_option maxRecDepth 20000 in
theorem kX13_distance_6 {C : QC} {x : QP} {M : QM} {st : List CV} {L : QL} {a b : Int} : Rr C mX13_distance (6, L, qi b :: qi a :: st, M) x = Rr C mX13_distance (7, L, qi (a + b) :: st, M) x := g_pl (show decode cX13_distance 6 = .ok (.iadd, 1) by decide +kernel) rfl
set_option maxRecDepth 20000 in
theorem kX13_distance_7 {C : QC} {x : QP} {M : QM} {st : List CV} {L : QL} {a : Nat} {j : Int} (hk : (q_kd M a).1 = 2) (h0 : 0 ≤ j) (h1 : j < ((q_kd M a).2 : Int)) : Rr C mX13_distance (7, L, qi j :: qr a :: st, M) x = Rr C mX13_distance (8, L, q_fv M a j.toNat :: st, M) x := g_iald (show decode cX13_distance 7 = .ok (.iaload, 1) by decide +kernel) hk h0 h1
set_option maxRecDepth 20000 in
theorem kX13_distance_8 {C : QC} {x : QP} {M : QM} {st : List CV} {L : QL} {l0 l1 l2 l3 l4 l5 l6 : Option CV} {z : Int} : Rr C mX13_distance (8, [l0, l1, l2, l3, l4, l5, l6], qi z :: st, M) x = Rr C mX13_distance (9, [l0, q_cut l1, some (qi z), l3, l4, l5, l6], st, M) x := g_pl (show decode cX13_distance 8 = .ok (.istore_n 2, 1) by decide +kernel) rfl
set_option maxRecDepth 20000 in
theorem kX13_distance_9 {C : QC} {x : QP} {M : QM} {st : List CV} {L : QL} : Rr C mX13_distance (9, L, st, M) x = Rr C mX13_distance (10, L, qi 0 :: st, M) x := g_pl (show decode cX13_distance 9 = .ok (.iconst 0, 1) by decide +kernel) rfl
set_option maxRecDepth 20000 in
theorem kX13_distance_10 {C : QC} {x : QP} {M : QM} {st : List CV} {L : QL} {l0 l1 l2 l3 l4 l5 l6 : Option CV} {z : Int} : Rr C mX13_distance (10, [l0, l1, l2, l3, l4, l5, l6], qi z :: st, M) x = Rr C mX13_distance (11, [l0, l1, q_cut l2, some (qi z), l4, l5, l6], st, M) x := g_pl (show decode cX13_distance 10 = .ok (.istore_n 3, 1) by decide +kernel) rfl
set_option maxRecDepth 20000 in
theorem kX13_distance_11 {C : QC} {x : QP} {M : QM} {st : List CV} {L : QL} {l0 l1 l2 l3 l4 l5 l6 : Option CV} {z : Int} : Rr C mX13_distance (11, [l0, l1, l2, some (qi z), l4, l5, l6], st, M) x = Rr C mX13_distance (12, [l0, l1, l2, some (qi z), l4, l5, l6], qi z :: st, M) x := g_pl (show decode cX13_distance 11 = .ok (.iload_n 3, 1) by decide +kernel) rfl
set_option maxRecDepth 20000 in
theorem kX13_distance_12 {C : QC} {x : QP} {M : QM} {st : List CV} {L : QL} {l0 l1 l2 l3 l4 l5 l6 : Option CV} {z : Int} : Rr C mX13_distance (12, [l0, l1, some (qi z), l3, l4, l5, l6], st, M) x = Rr C mX13_distance (13, [l0, l1, some (qi z), l3, l4, l5, l6], qi z :: st, M) x := g_pl (show decode cX13_distance 12 = .ok (.iload_n 2, 1) by decide +kernel) rfl
set_option maxRecDepth 20000 in
theorem kX13_distance_13 {C : QC} {x : QP} {M : QM} {st : List CV} {L : QL} {a b : Int} (ha1 : -2147483648 ≤ a) (ha2 : a < 2147483648) (hb1 : -2147483648 ≤ b) (hb2 : b < 2147483648) : Rr C mX13_distance (13, L, qi b :: qi a :: st, M) x = (if b < a then Rr C mX13_distance (29, L, st, M) x else Rr C mX13_distance (16, L, st, M) x) := (g_icmp (show decode cX13_distance 13 = .ok (.if_icmp .gt 16, 3) by decide +kernel) rfl ha1 ha2 hb1 hb2).trans (g_ite c_gt)
set_option maxRecDepth 20000 in
theorem kX13_distance_16 {C : QC} {x : QP} {M : QM} {st : List CV} {L : QL} {l0 l1 l2 l3 l4 l5 l6 : Option CV} {r : Option Nat} : Rr C mX13_distance (16, [some (.inr (.inr r)), l1, l2, l3, l4, l5, l6], st, M) x = Rr C mX13_distance (17, [some (.inr (.inr r)), l1, l2, l3, l4, l5, l6], .inr (.inr r) :: st, M) x := g_pl (show decode cX13_distance 16 = .ok (.aload_n 0, 1) by decide +kernel) rfl
set_option maxRecDepth 20000 in
theorem kX13_distance_17 {C : QC} {x : QP} {M : QM} {st : List CV} {L : QL} {a : Nat} (hk : q_kd M a = (1, 13)) : Rr C mX13_distance (17, L, qr a :: st, M) x = Rr C mX13_distance (20, L, q_fv M a 14 :: st, M) x := g_getf (ow := 13) (e := (13, 14, RX13, 1315, 0)) (show decode cX13_distance 17 = .ok (.getfield 30, 3) by decide +kernel) rfl hk
set_option maxRecDepth 20000 in
theorem kX13_distance_20 {C : QC} {x : QP} {M : QM} {st : List CV} {L : QL} {l0 l1 l2 l3 l4 l5 l6 : Option CV} {z : Int} : Rr C mX13_distance (20, [l0, l1, l2, some (qi z), l4, l5, l6], st, M) x = Rr C mX13_distance (21, [l0, l1, l2, some (qi z), l4, l5, l6], qi z :: st, M) x := g_pl (show decode cX13_distance 20 = .ok (.iload_n 3, 1) by decide +kernel) rfl
set_option maxRecDepth 20000 in
theorem kX13_distance_21 {C : QC} {x : QP} {M : QM} {st : List CV} {L : QL} {l0 l1 l2 l3 l4 l5 l6 : Option CV} {z : Int} : Rr C mX13_distance (21, [l0, l1, l2, some (qi z), l4, l5, l6], st, M) x = Rr C mX13_distance (22, [l0, l1, l2, some (qi z), l4, l5, l6], qi z :: st, M) x := g_pl (show decode cX13_distance 21 = .ok (.iload_n 3, 1) by decide +kernel) rfl
set_option maxRecDepth 20000 in
theorem kX13_distance_22 {C : QC} {x : QP} {M : QM} {st : List CV} {L : QL} {a : Nat} {j v : Int} (hk : (q_kd M a).1 = 2) (h0 : 0 ≤ j) (h1 : j < ((q_kd M a).2 : Int)) : Rr C mX13_distance (22, L, qi v :: qi j :: qr a :: st, M) x = Rr C mX13_distance (23, L, st, q_wr M a j.toNat (qi v)) x := g_iast (show decode cX13_distance 22 = .ok (.iastore, 1) by decide +kernel) hk h0 h1
set_option maxRecDepth 20000 in
theorem kX13_distance_23 {C : QC} {x : QP} {M : QM} {st : List CV} {L : QL} {l0 l1 l2 l3 l4 l5 l6 : Option CV} {z : Int} : Rr C mX13_distance (23, [l0, l1, l2, some (qi z), l4, l5, l6], st, M) x = Rr C mX13_distance (26, [l0, l1, q_cut l2, some (qi (z + 1)), l4, l5, l6], st, M) x := g_pl (show decode cX13_distance 23 = .ok (.iinc 3 1, 3) by decide +kernel) rfl
set_option maxRecDepth 20000 in
theorem kX13_distance_26 {C : QC} {x : QP} {M : QM} {st : List CV} {L : QL} : Rr C mX13_distance (26, L, st, M) x = Rr C mX13_distance (11, L, st, M) x := g_pl (show decode cX13_distance 26 = .ok (.goto (-15), 3) by decide +kernel) rfl
set_option maxRecDepth 20000 in
theorem kX13_distance_29 {C : QC} {x : QP} {M : QM} {st : List CV} {L : QL} : Rr C mX13_distance (29, L, st, M) x = Rr C mX13_distance (30, L, qi 1 :: st, M) x := g_pl (show decode cX13_distance 29 = .ok (.iconst 1, 1) by decide +kernel) rfl
set_option maxRecDepth 20000 in
theorem kX13_distance_30 {C : QC} {x : QP} {M : QM} {st : List CV} {L : QL} {l0 l1 l2 l3 l4 l5 l6 : Option CV} {z : Int} : Rr C mX13_distance (30, [l0, l1, l2, l3, l4, l5, l6], qi z :: st, M) x = Rr C mX13_distance (31, [l0, l1, q_cut l2, some (qi z), l4, l5, l6], st, M) x := g_pl (show decode cX13_distance 30 = .ok (.istore_n 3, 1) by decide +kernel) rfl
set_option maxRecDepth 20000 in
theorem kX13_distance_31 {C : QC} {x : QP} {M : QM} {st : List CV} {L : QL} {l0 l1 l2 l3 l4 l5 l6 : Option CV} {z : Int} : Rr C mX13_distance (31, [l0, l1, l2, some (qi z), l4, l5, l6], st, M) x = Rr C mX13_distance (32, [l0, l1, l2, some (qi z), l4, l5, l6], qi z :: st, M) x := g_pl (show decode cX13_distance 31 = .ok (.iload_n 3, 1) by decide +kernel) rfl
set_option maxRecDepth 20000 in
theorem kX13_distance_32 {C : QC} {x : QP} {M : QM} {st : List CV} {L : QL} {l0 l1 l2 l3 l4 l5 l6 : Option CV} {r : Option Nat} : Rr C mX13_distance (32, [some (.inr (.inr r)), l1, l2, l3, l4, l5, l6], st, M) x = Rr C mX13_distance (33, [some (.inr (.inr r)), l1, l2, l3, l4, l5, l6], .inr (.inr r) :: st, M) x := g_pl (show decode cX13_distance 32 = .ok (.aload_n 0, 1) by decide +kernel) rfl
set_option maxRecDepth 20000 in
theorem kX13_distance_33 {C : QC} {x : QP} {M : QM} {st : List CV} {L : QL} {a : Nat} (hk : q_kd M a = (1, 13)) : Rr C mX13_distance (33, L, qr a :: st, M) x = Rr C mX13_distance (36, L, q_fv M a 9 :: st, M) x := g_getf (ow := 13) (e := (13, 9, RX13, 1310, 0)) (show decode cX13_distance 33 = .ok (.getfield 88, 3) by decide +kernel) rfl hk
set_option maxRecDepth 20000 in
theorem kX13_distance_36 {C : QC} {x : QP} {M : QM} {st : List CV} {L : QL} {a b : Int} (ha1 : -2147483648 ≤ a) (ha2 : a < 2147483648) (hb1 : -2147483648 ≤ b) (hb2 : b < 2147483648) : Rr C mX13_distance (36, L, qi b :: qi a :: st, M) x = (if b < a then Rr C mX13_distance (185, L, st, M) x else Rr C mX13_distance (39, L, st, M) x) := (g_icmp (show decode cX13_distance 36 = .ok (.if_icmp .gt 149, 3) by decide +kernel) rfl ha1 ha2 hb1 hb2).trans (g_ite c_gt)
set_option maxRecDepth 20000 in
theorem kX13_distance_39 {C : QC} {x : QP} {M : QM} {st : List CV} {L : QL} {l0 l1 l2 l3 l4 l5 l6 : Option CV} {r : Option Nat} : Rr C mX13_distance (39, [some (.inr (.inr r)), l1, l2, l3, l4, l5, l6], st, M) x = Rr C mX13_distance (40, [some (.inr (.inr r)), l1, l2, l3, l4, l5, l6], .inr (.inr r) :: st, M) x := g_pl (show decode cX13_distance 39 = .ok (.aload_n 0, 1) by decide +kernel) rfl
set_option maxRecDepth 20000 in
theorem kX13_distance_40 {C : QC} {x : QP} {M : QM} {st : List CV} {L : QL} {a : Nat} (hk : q_kd M a = (1, 13)) : Rr C mX13_distance (40, L, qr a :: st, M) x = Rr C mX13_distance (43, L, q_fv M a 14 :: st, M) x := g_getf (ow := 13) (e := (13, 14, RX13, 1315, 0)) (show decode cX13_distance 40 = .ok (.getfield 30, 3) by decide +kernel) rfl hk
set_option maxRecDepth 20000 in
theorem kX13_distance_43 {C : QC} {x : QP} {M : QM} {st : List CV} {L : QL} : Rr C mX13_distance (43, L, st, M) x = Rr C mX13_distance (44, L, qi 0 :: st, M) x := g_pl (show decode cX13_distance 43 = .ok (.iconst 0, 1) by decide +kernel) rfl
set_option maxRecDepth 20000 in
theorem kX13_distance_44 {C : QC} {x : QP} {M : QM} {st : List CV} {L : QL} {a : Nat} {j : Int} (hk : (q_kd M a).1 = 2) (h0 : 0 ≤ j) (h1 : j < ((q_kd M a).2 : Int)) : Rr C mX13_distance (44, L, qi j :: qr a :: st, M) x = Rr C mX13_distance (45, L, q_fv M a j.toNat :: st, M) x := g_iald (show decode cX13_distance 44 = .ok (.iaload, 1) by decide +kernel) hk h0 h1
set_option maxRecDepth 20000 in
theorem kX13_distance_45 {C : QC} {x : QP} {M : QM} {st : List CV} {L : QL} {l0 l1 l2 l3 l4 l5 l6 : Option CV} {z : Int} : Rr C mX13_distance (45, [l0, l1, l2, l3, l4, l5, l6], qi z :: st, M) x = Rr C mX13_distance (47, [l0, l1, l2, q_cut l3, some (qi z), l5, l6], st, M) x := g_pl (show decode cX13_distance 45 = .ok (.istore 4, 2) by decide +kernel) rfl
set_option maxRecDepth 20000 in
theorem kX13_distance_47 {C : QC} {x : QP} {M : QM} {st : List CV} {L : QL} {l0 l1 l2 l3 l4 l5 l6 : Option CV} {r : Option Nat} : Rr C mX13_distance (47, [some (.inr (.inr r)), l1, l2, l3, l4, l5, l6], st, M) x = Rr C mX13_distance (48, [some (.inr (.inr r)), l1, l2, l3, l4, l5, l6], .inr (.inr r) :: st, M) x := g_pl (show decode cX13_distance 47 = .ok (.aload_n 0, 1) by decide +kernel) rfl
set_option maxRecDepth 20000 in
theorem kX13_distance_48 {C : QC} {x : QP} {M : QM} {st : List CV} {L : QL} {a : Nat} (hk : q_kd M a = (1, 13)) : Rr C mX13_distance (48, L, qr a :: st, M) x = Rr C mX13_distance (51, L, q_fv M a 14 :: st, M) x := g_getf (ow := 13) (e := (13, 14, RX13, 1315, 0)) (show decode cX13_distance 48 = .ok (.getfield 30, 3) by decide +kernel) rfl hk
set_option maxRecDepth 20000 in
theorem kX13_distance_51 {C : QC} {x : QP} {M : QM} {st : List CV} {L : QL} : Rr C mX13_distance (51, L, st, M) x = Rr C mX13_distance (52, L, qi 0 :: st, M) x := g_pl (show decode cX13_distance 51 = .ok (.iconst 0, 1) by decide +kernel) rfl
set_option maxRecDepth 20000 in
theorem kX13_distance_52 {C : QC} {x : QP} {M : QM} {st : List CV} {L : QL} {l0 l1 l2 l3 l4 l5 l6 : Option CV} {z : Int} : Rr C mX13_distance (52, [l0, l1, l2, some (qi z), l4, l5, l6], st, M) x = Rr C mX13_distance (53, [l0, l1, l2, some (qi z), l4, l5, l6], qi z :: st, M) x := g_pl (show decode cX13_distance 52 = .ok (.iload_n 3, 1) by decide +kernel) rfl
set_option maxRecDepth 20000 in
theorem kX13_distance_53 {C : QC} {x : QP} {M : QM} {st : List CV} {L : QL} {a : Nat} {j v : Int} (hk : (q_kd M a).1 = 2) (h0 : 0 ≤ j) (h1 : j < ((q_kd M a).2 : Int)) : Rr C mX13_distance (53, L, qi v :: qi j :: qr a :: st, M) x = Rr C mX13_distance (54, L, st, q_wr M a j.toNat (qi v)) x := g_iast (show decode cX13_distance 53 = .ok (.iastore, 1) by decide +kernel) hk h0 h1
set_option maxRecDepth 20000 in
theorem kX13_distance_54 {C : QC} {x : QP} {M : QM} {st : List CV} {L : QL} : Rr C mX13_distance (54, L, st, M) x = Rr C mX13_distance (55, L, qi 1 :: st, M) x := g_pl (show decode cX13_distance 54 = .ok (.iconst 1, 1) by decide +kernel) rfl
set_option maxRecDepth 20000 in
theorem kX13_distance_55 {C : QC} {x : QP} {M : QM} {st : List CV} {L : QL} {l0 l1 l2 l3 l4 l5 l6 : Option CV} {z : Int} : Rr C mX13_distance (55, [l0, l1, l2, l3, l4, l5, l6], qi z :: st, M) x = Rr C mX13_distance (57, [l0, l1, l2, l3, q_cut l4, some (qi z), l6], st, M) x := g_pl (show decode cX13_distance 55 = .ok (.istore 5, 2) by decide +kernel) rfl
set_option maxRecDepth 20000 in
theorem kX13_distance_57 {C : QC} {x : QP} {M : QM} {st : List CV} {L : QL} {l0 l1 l2 l3 l4 l5 l6 : Option CV} {z : Int} : Rr C mX13_distance (57, [l0, l1, l2, l3, l4, some (qi z), l6], st, M) x = Rr C mX13_distance (59, [l0, l1, l2, l3, l4, some (qi z), l6], qi z :: st, M) x := g_pl (show decode cX13_distance 57 = .ok (.iload 5, 2) by decide +kernel) rfl
set_option maxRecDepth 20000 in
theorem kX13_distance_59 {C : QC} {x : QP} {M : QM} {st : List CV} {L : QL} {l0 l1 l2 l3 l4 l5 l6 : Option CV} {z : Int} : Rr C mX13_distance (59, [l0, l1, some (qi z), l3, l4, l5, l6], st, M) x = Rr C mX13_distance (60, [l0, l1, some (qi z), l3, l4, l5, l6], qi z :: st, M) x := g_pl (show decode cX13_distance 59 = .ok (.iload_n 2, 1) by decide +kernel) rfl
set_option maxRecDepth 20000 in
theorem kX13_distance_60 {C : QC} {x : QP} {M : QM} {st : List CV} {L : QL} {a b : Int} (ha1 : -2147483648 ≤ a) (ha2 : a < 2147483648) (hb1 : -2147483648 ≤ b) (hb2 : b < 2147483648) : Rr C mX13_distance (60, L, qi b :: qi a :: st, M) x = (if b < a then Rr C mX13_distance (179, L, st, M) x else Rr C mX13_distance (63, L, st, M) x) := (g_icmp (show decode cX13_distance 60 = .ok (.if_icmp .gt 119, 3) by decide +kernel) rfl ha1 ha2 hb1 hb2).trans (g_ite c_gt)
set_option maxRecDepth 20000 in
theorem kX13_distance_63 {C : QC} {x : QP} {M : QM} {st : List CV} {L : QL} {l0 l1 l2 l3 l4 l5 l6 : Option CV} {z : Int} : Rr C mX13_distance (63, [l0, l1, l2, l3, some (qi z), l5, l6], st, M) x = Rr C mX13_distance (65, [l0, l1, l2, l3, some (qi z), l5, l6], qi z :: st, M) x := g_pl (show decode cX13_distance 63 = .ok (.iload 4, 2) by decide +kernel) rfl
set_option maxRecDepth 20000 in
theorem kX13_distance_65 {C : QC} {x : QP} {M : QM} {st : List CV} {L : QL} {l0 l1 l2 l3 l4 l5 l6 : Option CV} {r : Option Nat} : Rr C mX13_distance (65, [some (.inr (.inr r)), l1, l2, l3, l4, l5, l6], st, M) x = Rr C mX13_distance (66, [some (.inr (.inr r)), l1, l2, l3, l4, l5, l6], .inr (.inr r) :: st, M) x := g_pl (show decode cX13_distance 65 = .ok (.aload_n 0, 1) by decide +kernel) rfl
set_option maxRecDepth 20000 in
theorem kX13_distance_66 {C : QC} {x : QP} {M : QM} {st : List CV} {L : QL} {a : Nat} (hk : q_kd M a = (1, 13)) : Rr C mX13_distance (66, L, qr a :: st, M) x = Rr C mX13_distance (69, L, q_fv M a 8 :: st, M) x := g_getf (ow := 13) (e := (13, 8, RX13, 1309, 0)) (show decode cX13_distance 66 = .ok (.getfield 21, 3) by decide +kernel) rfl hk
set_option maxRecDepth 20000 in
theorem kX13_distance_69 {C : QC} {x : QP} {M : QM} {st : List CV} {L : QL} {l0 l1 l2 l3 l4 l5 l6 : Option CV} {z : Int} : Rr C mX13_distance (69, [l0, l1, l2, some (qi z), l4, l5, l6], st, M) x = Rr C mX13_distance (70, [l0, l1, l2, some (qi z), l4, l5, l6], qi z :: st, M) x := g_pl (show decode cX13_distance 69 = .ok (.iload_n 3, 1) by decide +kernel) rfl
set_option maxRecDepth 20000 in
theorem kX13_distance_70 {C : QC} {x : QP} {M : QM} {st : List CV} {L : QL} : Rr C mX13_distance (70, L, st, M) x = Rr C mX13_distance (71, L, qi 1 :: st, M) x := g_pl (show decode cX13_distance 70 = .ok (.iconst 1, 1) by decide +kernel) rfl
set_option maxRecDepth 20000 in
theorem kX13_distance_71 {C : QC} {x : QP} {M : QM} {st : List CV} {L : QL} {a b : Int} : Rr C mX13_distance (71, L, qi b :: qi a :: st, M) x = Rr C mX13_distance (72, L, qi (a - b) :: st, M) x := g_pl (show decode cX13_distance 71 = .ok (.isub, 1) by decide +kernel) rfl
set_option maxRecDepth 20000 in
theorem kX13_distance_72 {C : QC} {x : QP} {M : QM} {st : List CV} {L : QL} {a : Nat} {j : Int} (hk : (q_kd M a).1 = 2) (h0 : 0 ≤ j) (h1 : j < ((q_kd M a).2 : Int)) : Rr C mX13_distance (72, L, qi j :: qr a :: st, M) x = Rr C mX13_distance (73, L, q_fv M a j.toNat :: st, M) x := g_iald (show decode cX13_distance 72 = .ok (.iaload, 1) by decide +kernel) hk h0 h1
set_option maxRecDepth 20000 in
theorem kX13_distance_73 {C : QC} {x : QP} {M : QM} {st : List CV} {L : QL} {l0 l1 l2 l3 l4 l5 l6 : Option CV} {r : Option Nat} : Rr C mX13_distance (73, [some (.inr (.inr r)), l1, l2, l3, l4, l5, l6], st, M) x = Rr C mX13_distance (74, [some (.inr (.inr r)), l1, l2, l3, l4, l5, l6], .inr (.inr r) :: st, M) x := g_pl (show decode cX13_distance 73 = .ok (.aload_n 0, 1) by decide +kernel) rfl
set_option maxRecDepth 20000 in
theorem kX13_distance_74 {C : QC} {x : QP} {M : QM} {st : List CV} {L : QL} {a : Nat} (hk : q_kd M a = (1, 13)) : Rr C mX13_distance (74, L, qr a :: st, M) x = Rr C mX13_distance (77, L, q_fv M a 0 :: st, M) x := g_getf (ow := 13) (e := (13, 0, RX13, 1301, 0)) (show decode cX13_distance 74 = .ok (.getfield 10, 3) by decide +kernel) rfl hk
set_option maxRecDepth 20000 in
theorem kX13_distance_77 {C : QC} {x : QP} {M : QM} {st : List CV} {L : QL} {l0 l1 l2 l3 l4 l5 l6 : Option CV} {z : Int} : Rr C mX13_distance (77, [l0, some (qi z), l2, l3, l4, l5, l6], st, M) x = Rr C mX13_distance (78, [l0, some (qi z), l2, l3, l4, l5, l6], qi z :: st, M) x := g_pl (show decode cX13_distance 77 = .ok (.iload_n 1, 1) by decide +kernel) rfl
set_option maxRecDepth 20000 in
theorem kX13_distance_78 {C : QC} {x : QP} {M : QM} {st : List CV} {L : QL} : Rr C mX13_distance (78, L, st, M) x = Rr C mX13_distance (79, L, qi 2 :: st, M) x := g_pl (show decode cX13_distance 78 = .ok (.iconst 2, 1) by decide +kernel) rfl
set_option maxRecDepth 20000 in
theorem kX13_distance_79 {C : QC} {x : QP} {M : QM} {st : List CV} {L : QL} {a b : Int} : Rr C mX13_distance (79, L, qi b :: qi a :: st, M) x = Rr C mX13_distance (80, L, qi (a + b) :: st, M) x := g_pl (show decode cX13_distance 79 = .ok (.iadd, 1) by decide +kernel) rfl
set_option maxRecDepth 20000 in
theorem kX13_distance_80 {C : QC} {x : QP} {M : QM} {st : List CV} {L : QL} {l0 l1 l2 l3 l4 l5 l6 : Option CV} {z : Int} : Rr C mX13_distance (80, [l0, l1, l2, l3, l4, some (qi z), l6], st, M) x = Rr C mX13_distance (82, [l0, l1, l2, l3, l4, some (qi z), l6], qi z :: st, M) x := g_pl (show decode cX13_distance 80 = .ok (.iload 5, 2) by decide +kernel) rfl
set_option maxRecDepth 20000 in
theorem kX13_distance_82 {C : QC} {x : QP} {M : QM} {st : List CV} {L : QL} {a b : Int} : Rr C mX13_distance (82, L, qi b :: qi a :: st, M) x = Rr C mX13_distance (83, L, qi (a + b) :: st, M) x := g_pl (show decode cX13_distance 82 = .ok (.iadd, 1) by decide +kernel) rfl
set_option maxRecDepth 20000 in
theorem kX13_distance_83 {C : QC} {x : QP} {M : QM} {st : List CV} {L : QL} {a : Nat} {j : Int} (hk : (q_kd M a).1 = 2) (h0 : 0 ≤ j) (h1 : j < ((q_kd M a).2 : Int)) : Rr C mX13_distance (83, L, qi j :: qr a :: st, M) x = Rr C mX13_distance (84, L, q_fv M a j.toNat :: st, M) x := g_iald (show decode cX13_distance 83 = .ok (.iaload, 1) by decide +kernel) hk h0 h1
set_option maxRecDepth 20000 in
theorem kX13_distance_84 {C : QC} {x : QP} {M : QM} {st : List CV} {L : QL} {a b : Int} (ha1 : -2147483648 ≤ a) (ha2 : a < 2147483648) (hb1 : -2147483648 ≤ b) (hb2 : b < 2147483648) : Rr C mX13_distance (84, L, qi b :: qi a :: st, M) x = (if a = b then Rr C mX13_distance (87, L, st, M) x else Rr C mX13_distance (91, L, st, M) x) := (g_icmp (show decode cX13_distance 84 = .ok (.if_icmp .ne 7, 3) by decide +kernel) rfl ha1 ha2 hb1 hb2).trans (g_itn c_ne)
set_option maxRecDepth 20000 in
theorem kX13_distance_87 {C : QC} {x : QP} {M : QM} {st : List CV} {L : QL} : Rr C mX13_distance (87, L, st, M) x = Rr C mX13_distance (88, L, qi 0 :: st, M) x := g_pl (show decode cX13_distance 87 = .ok (.iconst 0, 1) by decide +kernel) rfl
set_option maxRecDepth 20000 in
theorem kX13_distance_88 {C : QC} {x : QP} {M : QM} {st : List CV} {L : QL} : Rr C mX13_distance (88, L, st, M) x = Rr C mX13_distance (92, L, st, M) x := g_pl (show decode cX13_distance 88 = .ok (.goto 4, 3) by decide +kernel) rfl
set_option maxRecDepth 20000 in
theorem kX13_distance_91 {C : QC} {x : QP} {M : QM} {st : List CV} {L : QL} : Rr C mX13_distance (91, L, st, M) x = Rr C mX13_distance (92, L, qi 1 :: st, M) x := g_pl (show decode cX13_distance 91 = .ok (.iconst 1, 1) by decide +kernel) rfl
set_option maxRecDepth 20000 in
theorem kX13_distance_92 {C : QC} {x : QP} {M : QM} {st : List CV} {L : QL} {a b : Int} : Rr C mX13_distance (92, L, qi b :: qi a :: st, M) x = Rr C mX13_distance (93, L, qi (a + b) :: st, M) x := g_pl (show decode cX13_distance 92 = .ok (.iadd, 1) by decide +kernel) rfl
set_option maxRecDepth 20000 in
theorem kX13_distance_93 {C : QC} {x : QP} {M : QM} {st : List CV} {L : QL} {l0 l1 l2 l3 l4 l5 l6 : Option CV} {z : Int} : Rr C mX13_distance (93, [l0, l1, l2, l3, l4, l5, l6], qi z :: st, M) x = Rr C mX13_distance (95, [l0, l1, l2, l3, l4, q_cut l5, some (qi z)], st, M) x := g_pl (show decode cX13_distance 93 = .ok (.istore 6, 2) by decide +kernel) rfl
set_option maxRecDepth 20000 in
theorem kX13_distance_95 {C : QC} {x : QP} {M : QM} {st : List CV} {L : QL} {l0 l1 l2 l3 l4 l5 l6 : Option CV} {r : Option Nat} : Rr C mX13_distance (95, [some (.inr (.inr r)), l1, l2, l3, l4, l5, l6], st, M) x = Rr C mX13_distance (96, [some (.inr (.inr r)), l1, l2, l3, l4, l5, l6], .inr (.inr r) :: st, M) x := g_pl (show decode cX13_distance 95 = .ok (.aload_n 0, 1) by decide +kernel) rfl
set_option maxRecDepth 20000 in
theorem kX13_distance_96 {C : QC} {x : QP} {M : QM} {st : List CV} {L : QL} {a : Nat} (hk : q_kd M a = (1, 13)) : Rr C mX13_distance (96, L, qr a :: st, M) x = Rr C mX13_distance (99, L, q_fv M a 14 :: st, M) x := g_getf (ow := 13) (e := (13, 14, RX13, 1315, 0)) (show decode cX13_distance 96 = .ok (.getfield 30, 3) by decide +kernel) rfl hk
set_option maxRecDepth 20000 in
theorem kX13_distance_99 {C : QC} {x : QP} {M : QM} {st : List CV} {L : QL} {l0 l1 l2 l3 l4 l5 l6 : Option CV} {z : Int} : Rr C mX13_distance (99, [l0, l1, l2, l3, l4, some (qi z), l6], st, M) x = Rr C mX13_distance (101, [l0, l1, l2, l3, l4, some (qi z), l6], qi z :: st, M) x := g_pl (show decode cX13_distance 99 = .ok (.iload 5, 2) by decide +kernel) rfl
set_option maxRecDepth 20000 in
theorem kX13_distance_101 {C : QC} {x : QP} {M : QM} {st : List CV} {L : QL} {a : Nat} {j : Int} (hk : (q_kd M a).1 = 2) (h0 : 0 ≤ j) (h1 : j < ((q_kd M a).2 : Int)) : Rr C mX13_distance (101, L, qi j :: qr a :: st, M) x = Rr C mX13_distance (102, L, q_fv M a j.toNat :: st, M) x := g_iald (show decode cX13_distance 101 = .ok (.iaload, 1) by decide +kernel) hk h0 h1
set_option maxRecDepth 20000 in
theorem kX13_distance_102 {C : QC} {x : QP} {M : QM} {st : List CV} {L : QL} {l0 l1 l2 l3 l4 l5 l6 : Option CV} {z : Int} : Rr C mX13_distance (102, [l0, l1, l2, l3, l4, l5, l6], qi z :: st, M) x = Rr C mX13_distance (104, [l0, l1, l2, q_cut l3, some (qi z), l5, l6], st, M) x := g_pl (show decode cX13_distance 102 = .ok (.istore 4, 2) by decide +kernel) rfl
set_option maxRecDepth 20000 in
theorem kX13_distance_104 {C : QC} {x : QP} {M : QM} {st : List CV} {L : QL} {l0 l1 l2 l3 l4 l5 l6 : Option CV} {r : Option Nat} : Rr C mX13_distance (104, [some (.inr (.inr r)), l1, l2, l3, l4, l5, l6], st, M) x = Rr C mX13_distance (105, [some (.inr (.inr r)), l1, l2, l3, l4, l5, l6], .inr (.inr r) :: st, M) x := g_pl (show decode cX13_distance 104 = .ok (.aload_n 0, 1) by decide +kernel) rfl
set_option maxRecDepth 20000 in
theorem kX13_distance_105 {C : QC} {x : QP} {M : QM} {st : List CV} {L : QL} {a : Nat} (hk : q_kd M a = (1, 13)) : Rr C mX13_distance (105, L, qr a :: st, M) x = Rr C mX13_distance (108, L, q_fv M a 14 :: st, M) x := g_getf (ow := 13) (e := (13, 14, RX13, 1315, 0)) (show decode cX13_distance 105 = .ok (.getfield 30, 3) by decide +kernel) rfl hk
set_option maxRecDepth 20000 in
theorem kX13_distance_108 {C : QC} {x : QP} {M : QM} {st : List CV} {L : QL} {l0 l1 l2 l3 l4 l5 l6 : Option CV} {z : Int} : Rr C mX13_distance (108, [l0, l1, l2, l3, l4, some (qi z), l6], st, M) x = Rr C mX13_distance (110, [l0, l1, l2, l3, l4, some (qi z), l6], qi z :: st, M) x := g_pl (show decode cX13_distance 108 = .ok (.iload 5, 2) by decide +kernel) rfl
set_option maxRecDepth 20000 in
theorem kX13_distance_110 {C : QC} {x : QP} {M : QM} {st : List CV} {L : QL} {a : Nat} {j : Int} (hk : (q_kd M a).1 = 2) (h0 : 0 ≤ j) (h1 : j < ((q_kd M a).2 : Int)) : Rr C mX13_distance (110, L, qi j :: qr a :: st, M) x = Rr C mX13_distance (111, L, q_fv M a j.toNat :: st, M) x := g_iald (show decode cX13_distance 110 = .ok (.iaload, 1) by decide +kernel) hk h0 h1
set_option maxRecDepth 20000 in
theorem kX13_distance_111 {C : QC} {x : QP} {M : QM} {st : List CV} {L : QL} : Rr C mX13_distance (111, L, st, M) x = Rr C mX13_distance (112, L, qi 1 :: st, M) x := g_pl (show decode cX13_distance 111 = .ok (.iconst 1, 1) by decide +kernel) rfl
set_option maxRecDepth 20000 in
theorem kX13_distance_112 {C : QC} {x : QP} {M : QM} {st : List CV} {L : QL} {a b : Int} : Rr C mX13_distance (112, L, qi b :: qi a :: st, M) x = Rr C mX13_distance (113, L, qi (a + b) :: st, M) x := g_pl (show decode cX13_distance 112 = .ok (.iadd, 1) by decide +kernel) rfl
set_option maxRecDepth 20000 in
theorem kX13_distance_113 {C : QC} {x : QP} {M : QM} {st : List CV} {L : QL} {l0 l1 l2 l3 l4 l5 l6 : Option CV} {z : Int} : Rr C mX13_distance (113, [l0, l1, l2, l3, l4, l5, some (qi z)], st, M) x = Rr C mX13_distance (115, [l0, l1, l2, l3, l4, l5, some (qi z)], qi z :: st, M) x := g_pl (show decode cX13_distance 113 = .ok (.iload 6, 2) by decide +kernel) rfl
set_option maxRecDepth 20000 in
theorem kX13_distance_115 {C : QC} {x : QP} {M : QM} {st : List CV} {L : QL} {a b : Int} (ha1 : -2147483648 ≤ a) (ha2 : a < 2147483648) (hb1 : -2147483648 ≤ b) (hb2 : b < 2147483648) : Rr C mX13_distance (115, L, qi b :: qi a :: st, M) x = (if a < b then Rr C mX13_distance (118, L, st, M) x else Rr C mX13_distance (130, L, st, M) x) := (g_icmp (show decode cX13_distance 115 = .ok (.if_icmp .ge 15, 3) by decide +kernel) rfl ha1 ha2 hb1 hb2).trans (g_itn c_ge)
set_option maxRecDepth 20000 in
theorem kX13_distance_118 {C : QC} {x : QP} {M : QM} {st : List CV} {L : QL} {l0 l1 l2 l3 l4 l5 l6 : Option CV} {r : Option Nat} : Rr C mX13_distance (118, [some (.inr (.inr r)), l1, l2, l3, l4, l5, l6], st, M) x = Rr C mX13_distance (119, [some (.inr (.inr r)), l1, l2, l3, l4, l5, l6], .inr (.inr r) :: st, M) x := g_pl (show decode cX13_distance 118 = .ok (.aload_n 0, 1) by decide +kernel) rfl
set_option maxRecDepth 20000 in
theorem kX13_distance_119 {C : QC} {x : QP} {M : QM} {st : List CV} {L : QL} {a : Nat} (hk : q_kd M a = (1, 13)) : Rr C mX13_distance (119, L, qr a :: st, M) x = Rr C mX13_distance (122, L, q_fv M a 14 :: st, M) x := g_getf (ow := 13) (e := (13, 14, RX13, 1315, 0)) (show decode cX13_distance 119 = .ok (.getfield 30, 3) by decide +kernel) rfl hk
set_option maxRecDepth 20000 in
theorem kX13_distance_122 {C : QC} {x : QP} {M : QM} {st : List CV} {L : QL} {l0 l1 l2 l3 l4 l5 l6 : Option CV} {z : Int} : Rr C mX13_distance (122, [l0, l1, l2, l3, l4, some (qi z), l6], st, M) x = Rr C mX13_distance (124, [l0, l1, l2, l3, l4, some (qi z), l6], qi z :: st, M) x := g_pl (show decode cX13_distance 122 = .ok (.iload 5, 2) by decide +kernel) rfl
set_option maxRecDepth 20000 in
theorem kX13_distance_124 {C : QC} {x : QP} {M : QM} {st : List CV} {L : QL} {a : Nat} {j : Int} (hk : (q_kd M a).1 = 2) (h0 : 0 ≤ j) (h1 : j < ((q_kd M a).2 : Int)) : Rr C mX13_distance (124, L, qi j :: qr a :: st, M) x = Rr C mX13_distance (125, L, q_fv M a j.toNat :: st, M) x := g_iald (show decode cX13_distance 124 = .ok (.iaload, 1) by decide +kernel) hk h0 h1
set_option maxRecDepth 20000 in
theorem kX13_distance_125 {C : QC} {x : QP} {M : QM} {st : List CV} {L : QL} : Rr C mX13_distance (125, L, st, M) x = Rr C mX13_distance (126, L, qi 1 :: st, M) x := g_pl (show decode cX13_distance 125 = .ok (.iconst 1, 1) by decide +kernel) rfl
set_option maxRecDepth 20000 in
theorem kX13_distance_126 {C : QC} {x : QP} {M : QM} {st : List CV} {L : QL} {a b : Int} : Rr C mX13_distance (126, L, qi b :: qi a :: st, M) x = Rr C mX13_distance (127, L, qi (a + b) :: st, M) x := g_pl (show decode cX13_distance 126 = .ok (.iadd, 1) by decide +kernel) rfl
set_option maxRecDepth 20000 in
theorem kX13_distance_127 {C : QC} {x : QP} {M : QM} {st : List CV} {L : QL} : Rr C mX13_distance (127, L, st, M) x = Rr C mX13_distance (132, L, st, M) x := g_pl (show decode cX13_distance 127 = .ok (.goto 5, 3) by decide +kernel) rfl
set_option maxRecDepth 20000 in
theorem kX13_distance_130 {C : QC} {x : QP} {M : QM} {st : List CV} {L : QL} {l0 l1 l2 l3 l4 l5 l6 : Option CV} {z : Int} : Rr C mX13_distance (130, [l0, l1, l2, l3, l4, l5, some (qi z)], st, M) x = Rr C mX13_distance (132, [l0, l1, l2, l3, l4, l5, some (qi z)], qi z :: st, M) x := g_pl (show decode cX13_distance 130 = .ok (.iload 6, 2) by decide +kernel) rfl
set_option maxRecDepth 20000 in
theorem kX13_distance_132 {C : QC} {x : QP} {M : QM} {st : List CV} {L : QL} {l0 l1 l2 l3 l4 l5 l6 : Option CV} {z : Int} : Rr C mX13_distance (132, [l0, l1, l2, l3, l4, l5, l6], qi z :: st, M) x = Rr C mX13_distance (134, [l0, l1, l2, l3, l4, q_cut l5, some (qi z)], st, M) x := g_pl (show decode cX13_distance 132 = .ok (.istore 6, 2) by decide +kernel) rfl
set_option maxRecDepth 20000 in
theorem kX13_distance_134 {C : QC} {x : QP} {M : QM} {st : List CV} {L : QL} {l0 l1 l2 l3 l4 l5 l6 : Option CV} {r : Option Nat} : Rr C mX13_distance (134, [some (.inr (.inr r)), l1, l2, l3, l4, l5, l6], st, M) x = Rr C mX13_distance (135, [some (.inr (.inr r)), l1, l2, l3, l4, l5, l6], .inr (.inr r) :: st, M) x := g_pl (show decode cX13_distance 134 = .ok (.aload_n 0, 1) by decide +kernel) rfl
set_option maxRecDepth 20000 in
theorem kX13_distance_135 {C : QC} {x : QP} {M : QM} {st : List CV} {L : QL} {a : Nat} (hk : q_kd M a = (1, 13)) : Rr C mX13_distance (135, L, qr a :: st, M) x = Rr C mX13_distance (138, L, q_fv M a 14 :: st, M) x := g_getf (ow := 13) (e := (13, 14, RX13, 1315, 0)) (show decode cX13_distance 135 = .ok (.getfield 30, 3) by decide +kernel) rfl hk
set_option maxRecDepth 20000 in
theorem kX13_distance_138 {C : QC} {x : QP} {M : QM} {st : List CV} {L : QL} {l0 l1 l2 l3 l4 l5 l6 : Option CV} {z : Int} : Rr C mX13_distance (138, [l0, l1, l2, l3, l4, some (qi z), l6], st, M) x = Rr C mX13_distance (140, [l0, l1, l2, l3, l4, some (qi z), l6], qi z :: st, M) x := g_pl (show decode cX13_distance 138 = .ok (.iload 5, 2) by decide +kernel) rfl
set_option maxRecDepth 20000 in
theorem kX13_distance_140 {C : QC} {x : QP} {M : QM} {st : List CV} {L : QL} {l0 l1 l2 l3 l4 l5 l6 : Option CV} {r : Option Nat} : Rr C mX13_distance (140, [some (.inr (.inr r)), l1, l2, l3, l4, l5, l6], st, M) x = Rr C mX13_distance (141, [some (.inr (.inr r)), l1, l2, l3, l4, l5, l6], .inr (.inr r) :: st, M) x := g_pl (show decode cX13_distance 140 = .ok (.aload_n 0, 1) by decide +kernel) rfl
set_option maxRecDepth 20000 in
theorem kX13_distance_141 {C : QC} {x : QP} {M : QM} {st : List CV} {L : QL} {a : Nat} (hk : q_kd M a = (1, 13)) : Rr C mX13_distance (141, L, qr a :: st, M) x = Rr C mX13_distance (144, L, q_fv M a 14 :: st, M) x := g_getf (ow := 13) (e := (13, 14, RX13, 1315, 0)) (show decode cX13_distance 141 = .ok (.getfield 30, 3) by decide +kernel) rfl hk
set_option maxRecDepth 20000 in
theorem kX13_distance_144 {C : QC} {x : QP} {M : QM} {st : List CV} {L : QL} {l0 l1 l2 l3 l4 l5 l6 : Option CV} {z : Int} : Rr C mX13_distance (144, [l0, l1, l2, l3, l4, some (qi z), l6], st, M) x = Rr C mX13_distance (146, [l0, l1, l2, l3, l4, some (qi z), l6], qi z :: st, M) x := g_pl (show decode cX13_distance 144 = .ok (.iload 5, 2) by decide +kernel) rfl
set_option maxRecDepth 20000 in
theorem kX13_distance_146 {C : QC} {x : QP} {M : QM} {st : List CV} {L : QL} : Rr C mX13_distance (146, L, st, M) x = Rr C mX13_distance (147, L, qi 1 :: st, M) x := g_pl (show decode cX13_distance 146 = .ok (.iconst 1, 1) by decide +kernel) rfl
set_option maxRecDepth 20000 in
theorem kX13_distance_147 {C : QC} {x : QP} {M : QM} {st : List CV} {L : QL} {a b : Int} : Rr C mX13_distance (147, L, qi b :: qi a :: st, M) x = Rr C mX13_distance (148, L, qi (a - b) :: st, M) x := g_pl (show decode cX13_distance 147 = .ok (.isub, 1) by decide +kernel) rfl
set_option maxRecDepth 20000 in
theorem kX13_distance_148 {C : QC} {x : QP} {M : QM} {st : List CV} {L : QL} {a : Nat} {j : Int} (hk : (q_kd M a).1 = 2) (h0 : 0 ≤ j) (h1 : j < ((q_kd M a).2 : Int)) : Rr C mX13_distance (148, L, qi j :: qr a :: st, M) x = Rr C mX13_distance (149, L, q_fv M a j.toNat :: st, M) x := g_iald (show decode cX13_distance 148 = .ok (.iaload, 1) by decide +kernel) hk h0 h1
set_option maxRecDepth 20000 in
theorem kX13_distance_149 {C : QC} {x : QP} {M : QM} {st : List CV} {L : QL} : Rr C mX13_distance (149, L, st, M) x = Rr C mX13_distance (150, L, qi 1 :: st, M) x := g_pl (show decode cX13_distance 149 = .ok (.iconst 1, 1) by decide +kernel) rfl
set_option maxRecDepth 20000 in
theorem kX13_distance_150 {C : QC} {x : QP} {M : QM} {st : List CV} {L : QL} {a b : Int} : Rr C mX13_distance (150, L, qi b :: qi a :: st, M) x = Rr C mX13_distance (151, L, qi (a + b) :: st, M) x := g_pl (show decode cX13_distance 150 = .ok (.iadd, 1) by decide +kernel) rfl
set_option maxRecDepth 20000 in
theorem kX13_distance_151 {C : QC} {x : QP} {M : QM} {st : List CV} {L : QL} {l0 l1 l2 l3 l4 l5 l6 : Option CV} {z : Int} : Rr C mX13_distance (151, [l0, l1, l2, l3, l4, l5, some (qi z)], st, M) x = Rr C mX13_distance (153, [l0, l1, l2, l3, l4, l5, some (qi z)], qi z :: st, M) x := g_pl (show decode cX13_distance 151 = .ok (.iload 6, 2) by decide +kernel) rfl
set_option maxRecDepth 20000 in
theorem kX13_distance_153 {C : QC} {x : QP} {M : QM} {st : List CV} {L : QL} {a b : Int} (ha1 : -2147483648 ≤ a) (ha2 : a < 2147483648) (hb1 : -2147483648 ≤ b) (hb2 : b < 2147483648) : Rr C mX13_distance (153, L, qi b :: qi a :: st, M) x = (if a < b then Rr C mX13_distance (156, L, st, M) x else Rr C mX13_distance (170, L, st, M) x) := (g_icmp (show decode cX13_distance 153 = .ok (.if_icmp .ge 17, 3) by decide +kernel) rfl ha1 ha2 hb1 hb2).trans (g_itn c_ge)
set_option maxRecDepth 20000 in
theorem kX13_distance_156 {C : QC} {x : QP} {M : QM} {st : List CV} {L : QL} {l0 l1 l2 l3 l4 l5 l6 : Option CV} {r : Option Nat} : Rr C mX13_distance (156, [some (.inr (.inr r)), l1, l2, l3, l4, l5, l6], st, M) x = Rr C mX13_distance (157, [some (.inr (.inr r)), l1, l2, l3, l4, l5, l6], .inr (.inr r) :: st, M) x := g_pl (show decode cX13_distance 156 = .ok (.aload_n 0, 1) by decide +kernel) rfl
set_option maxRecDepth 20000 in
theorem kX13_distance_157 {C : QC} {x : QP} {M : QM} {st : List CV} {L : QL} {a : Nat} (hk : q_kd M a = (1, 13)) : Rr C mX13_distance (157, L, qr a :: st, M) x = Rr C mX13_distance (160, L, q_fv M a 14 :: st, M) x := g_getf (ow := 13) (e := (13, 14, RX13, 1315, 0)) (show decode cX13_distance 157 = .ok (.getfield 30, 3) by decide +kernel) rfl hk
set_option maxRecDepth 20000 in
theorem kX13_distance_160 {C : QC} {x : QP} {M : QM} {st : List CV} {L : QL} {l0 l1 l2 l3 l4 l5 l6 : Option CV} {z : Int} : Rr C mX13_distance (160, [l0, l1, l2, l3, l4, some (qi z), l6], st, M) x = Rr C mX13_distance (162, [l0, l1, l2, l3, l4, some (qi z), l6], qi z :: st, M) x := g_pl (show decode cX13_distance 160 = .ok (.iload 5, 2) by decide +kernel) rfl
set_option maxRecDepth 20000 in
theorem kX13_distance_162 {C : QC} {x : QP} {M : QM} {st : List CV} {L : QL} : Rr C mX13_distance (162, L, st, M) x = Rr C mX13_distance (163, L, qi 1 :: st, M) x := g_pl (show decode cX13_distance 162 = .ok (.iconst 1, 1) by decide +kernel) rfl
set_option maxRecDepth 20000 in
theorem kX13_distance_163 {C : QC} {x : QP} {M : QM} {st : List CV} {L : QL} {a b : Int} : Rr C mX13_distance (163, L, qi b :: qi a :: st, M) x = Rr C mX13_distance (164, L, qi (a - b) :: st, M) x := g_pl (show decode cX13_distance 163 = .ok (.isub, 1) by decide +kernel) rfl
set_option maxRecDepth 20000 in
theorem kX13_distance_164 {C : QC} {x : QP} {M : QM} {st : List CV} {L : QL} {a : Nat} {j : Int} (hk : (q_kd M a).1 = 2) (h0 : 0 ≤ j) (h1 : j < ((q_kd M a).2 : Int)) : Rr C mX13_distance (164, L, qi j :: qr a :: st, M) x = Rr C mX13_distance (165, L, q_fv M a j.toNat :: st, M) x := g_iald (show decode cX13_distance 164 = .ok (.iaload, 1) by decide +kernel) hk h0 h1
set_option maxRecDepth 20000 in
theorem kX13_distance_165 {C : QC} {x : QP} {M : QM} {st : List CV} {L : QL} : Rr C mX13_distance (165, L, st, M) x = Rr C mX13_distance (166, L, qi 1 :: st, M) x := g_pl (show decode cX13_distance 165 = .ok (.iconst 1, 1) by decide +kernel) rfl
set_option maxRecDepth 20000 in
theorem kX13_distance_166 {C : QC} {x : QP} {M : QM} {st : List CV} {L : QL} {a b : Int} : Rr C mX13_distance (166, L, qi b :: qi a :: st, M) x = Rr C mX13_distance (167, L, qi (a + b) :: st, M) x := g_pl (show decode cX13_distance 166 = .ok (.iadd, 1) by decide +kernel) rfl
set_option maxRecDepth 20000 in
theorem kX13_distance_167 {C : QC} {x : QP} {M : QM} {st : List CV} {L : QL} : Rr C mX13_distance (167, L, st, M) x = Rr C mX13_distance (172, L, st, M) x := g_pl (show decode cX13_distance 167 = .ok (.goto 5, 3) by decide +kernel) rfl
set_option maxRecDepth 20000 in
theorem kX13_distance_170 {C : QC} {x : QP} {M : QM} {st : List CV} {L : QL} {l0 l1 l2 l3 l4 l5 l6 : Option CV} {z : Int} : Rr C mX13_distance (170, [l0, l1, l2, l3, l4, l5, some (qi z)], st, M) x = Rr C mX13_distance (172, [l0, l1, l2, l3, l4, l5, some (qi z)], qi z :: st, M) x := g_pl (show decode cX13_distance 170 = .ok (.iload 6, 2) by decide +kernel) rfl
set_option maxRecDepth 20000 in
theorem kX13_distance_172 {C : QC} {x : QP} {M : QM} {st : List CV} {L : QL} {a : Nat} {j v : Int} (hk : (q_kd M a).1 = 2) (h0 : 0 ≤ j) (h1 : j < ((q_kd M a).2 : Int)) : Rr C mX13_distance (172, L, qi v :: qi j :: qr a :: st, M) x = Rr C mX13_distance (173, L, st, q_wr M a j.toNat (qi v)) x := g_iast (show decode cX13_distance 172 = .ok (.iastore, 1) by decide +kernel) hk h0 h1
set_option maxRecDepth 20000 in
theorem kX13_distance_173 {C : QC} {x : QP} {M : QM} {st : List CV} {L : QL} {l0 l1 l2 l3 l4 l5 l6 : Option CV} {z : Int} : Rr C mX13_distance (173, [l0, l1, l2, l3, l4, some (qi z), l6], st, M) x = Rr C mX13_distance (176, [l0, l1, l2, l3, q_cut l4, some (qi (z + 1)), l6], st, M) x := g_pl (show decode cX13_distance 173 = .ok (.iinc 5 1, 3) by decide +kernel) rfl
set_option maxRecDepth 20000 in
theorem kX13_distance_176 {C : QC} {x : QP} {M : QM} {st : List CV} {L : QL} : Rr C mX13_distance (176, L, st, M) x = Rr C mX13_distance (57, L, st, M) x := g_pl (show decode cX13_distance 176 = .ok (.goto (-119), 3) by decide +kernel) rfl
set_option maxRecDepth 20000 in
theorem kX13_distance_179 {C : QC} {x : QP} {M : QM} {st : List CV} {L : QL} {l0 l1 l2 l3 l4 l5 l6 : Option CV} {z : Int} : Rr C mX13_distance (179, [l0, l1, l2, some (qi z), l4, l5, l6], st, M) x = Rr C mX13_distance (182, [l0, l1, q_cut l2, some (qi (z + 1)), l4, l5, l6], st, M) x := g_pl (show decode cX13_distance 179 = .ok (.iinc 3 1, 3) by decide +kernel) rfl
set_option maxRecDepth 20000 in
theorem kX13_distance_182 {C : QC} {x : QP} {M : QM} {st : List CV} {L : QL} : Rr C mX13_distance (182, L, st, M) x = Rr C mX13_distance (31, L, st, M) x := g_pl (show decode cX13_distance 182 = .ok (.goto (-151), 3) by decide +kernel) rfl
set_option maxRecDepth 20000 in
theorem kX13_distance_185 {C : QC} {x : QP} {M : QM} {st : List CV} {L : QL} {l0 l1 l2 l3 l4 l5 l6 : Option CV} {r : Option Nat} : Rr C mX13_distance (185, [some (.inr (.inr r)), l1, l2, l3, l4, l5, l6], st, M) x = Rr C mX13_distance (186, [some (.inr (.inr r)), l1, l2, l3, l4, l5, l6], .inr (.inr r) :: st, M) x := g_pl (show decode cX13_distance 185 = .ok (.aload_n 0, 1) by decide +kernel) rfl
set_option maxRecDepth 20000 in
theorem kX13_distance_186 {C : QC} {x : QP} {M : QM} {st : List CV} {L : QL} {a : Nat} (hk : q_kd M a = (1, 13)) : Rr C mX13_distance (186, L, qr a :: st, M) x = Rr C mX13_distance (189, L, q_fv M a 14 :: st, M) x := g_getf (ow := 13) (e := (13, 14, RX13, 1315, 0)) (show decode cX13_distance 186 = .ok (.getfield 30, 3) by decide +kernel) rfl hk
set_option maxRecDepth 20000 in
theorem kX13_distance_189 {C : QC} {x : QP} {M : QM} {st : List CV} {L : QL} {l0 l1 l2 l3 l4 l5 l6 : Option CV} {z : Int} : Rr C mX13_distance (189, [l0, l1, some (qi z), l3, l4, l5, l6], st, M) x = Rr C mX13_distance (190, [l0, l1, some (qi z), l3, l4, l5, l6], qi z :: st, M) x := g_pl (show decode cX13_distance 189 = .ok (.iload_n 2, 1) by decide +kernel) rfl
set_option maxRecDepth 20000 in
theorem kX13_distance_190 {C : QC} {x : QP} {M : QM} {st : List CV} {L : QL} {a : Nat} {j : Int} (hk : (q_kd M a).1 = 2) (h0 : 0 ≤ j) (h1 : j < ((q_kd M a).2 : Int)) : Rr C mX13_distance (190, L, qi j :: qr a :: st, M) x = Rr C mX13_distance (191, L, q_fv M a j.toNat :: st, M) x := g_iald (show decode cX13_distance 190 = .ok (.iaload, 1) by decide +kernel) hk h0 h1
set_option maxRecDepth 20000 in
theorem kX13_distance_191 {C : QC} {x : QP} {M : QM} {st : List CV} {L : QL} {z : Int} : Rr C mX13_distance (191, L, [qi z], M) x = x (some (qi z)) M := g_iret (show decode cX13_distance 191 = .ok (.ireturn, 1) by decide +kernel) rfl
set_option maxRecDepth 20000 in
theorem eX13_distance {d : Nat} {M : QM} {x : QP} {a : Nat} {v0 : Int} : q_T (d + 1) iX13_distance [qr a, qi v0] M x = Rr (q_C d) mX13_distance (0, [some (qr a), some (qi v0), none, none, none, none, none], [], M) x := g_entryT (e := _) rfl (Nat.le_of_ble_eq_true rfl) rfl rfl
def mX13_lookup : QI := (13, cX13_lookup, false, some .int)
set_option maxRecDepth 20000 in
theorem kX13_lookup_0 {C : QC} {x : QP} {M : QM} {st : List CV} {L : QL} {l0 l1 l2 l3 l4 l5 : Option CV} {r : Option Nat} : Rr C mX13_lookup (0, [some (.inr (.inr r)), l1, l2, l3, l4, l5], st, M) x = Rr C mX13_lookup (1, [some (.inr (.inr r)), l1, l2, l3, l4, l5], .inr (.inr r) :: st, M) x := g_pl (show decode cX13_lookup 0 = .ok (.aload_n 0, 1) by decide +kernel) rfl
set_option maxRecDepth 20000 in
theorem kX13_lookup_1 {C : QC} {x : QP} {M : QM} {L : QL} {rest : List CV} {v : CV} {M1 : QM} {b : Nat} (hb : q_kd M b = (1, 13)) (hC : C iX13_isOneWord [qr b] M (some v) M1) (hw : (rest.map q_wd).sum ≤ 8) (k : Rr C mX13_lookup (4, L, v :: rest, M1) x) : Rr C mX13_lookup (1, L, qr b :: rest, M) x := g_cv (ow := 13) (e := (0, 200, 13, [1364, 1366, 26, 94])) (as := []) (show decode cX13_lookup 1 = .ok (.invokevirtual 129, 3) by decide +kernel) rfl rfl rfl (Or.inl rfl) rfl hb hC hw k
set_option maxRecDepth 20000 in
theorem kX13_lookup_4 {C : QC} {x : QP} {M : QM} {st : List CV} {L : QL} {l0 l1 l2 l3 l4 l5 : Option CV} {z : Int} : Rr C mX13_lookup (4, [l0, l1, l2, l3, l4, l5], qi z :: st, M) x = Rr C mX13_lookup (5, [l0, l1, q_cut l2, some (qi z), l4, l5], st, M) x := g_pl (show decode cX13_lookup 4 = .ok (.istore_n 3, 1) by decide +kernel) rfl
set_option maxRecDepth 20000 in
theorem kX13_lookup_5 {C : QC} {x : QP} {M : QM} {st : List CV} {L : QL} {l0 l1 l2 l3 l4 l5 : Option CV} {z : Int} : Rr C mX13_lookup (5, [l0, some (qi z), l2, l3, l4, l5], st, M) x = Rr C mX13_lookup (6, [l0, some (qi z), l2, l3, l4, l5], qi z :: st, M) x := g_pl (show decode cX13_lookup 5 = .ok (.iload_n 1, 1) by decide +kernel) rfl
set_option maxRecDepth 20000 in
theorem kX13_lookup_6 {C : QC} {x : QP} {M : QM} {L : QL} {rest : List CV} {a0 : CV} {v : CV} {M1 : QM} (hC : C iX13_isDay [a0] M (some v) M1) (hw : (rest.map q_wd).sum ≤ 8) (k : Rr C mX13_lookup (9, L, v :: rest, M1) x) : Rr C mX13_lookup (6, L, a0 :: rest, M) x := g_cs (ow := 13) (e := (1, 206, 0, [1388, 1389, 94])) (as := [a0]) (show decode cX13_lookup 6 = .ok (.invokestatic 97, 3) by decide +kernel) rfl rfl rfl rfl (Or.inl rfl) rfl hC hw k
set_option maxRecDepth 20000 in
theorem kX13_lookup_9 {C : QC} {x : QP} {M : QM} {st : List CV} {L : QL} {a : Int} (ha1 : -2147483648 ≤ a) (ha2 : a < 2147483648) : Rr C mX13_lookup (9, L, qi a :: st, M) x = (if a = 0 then Rr C mX13_lookup (21, L, st, M) x else Rr C mX13_lookup (12, L, st, M) x) := (g_if (show decode cX13_lookup 9 = .ok (.ifCond .eq 12, 3) by decide +kernel) rfl ha1 ha2).trans (g_ite c_eq)
set_option maxRecDepth 20000 in
theorem kX13_lookup_12 {C : QC} {x : QP} {M : QM} {st : List CV} {L : QL} {l0 l1 l2 l3 l4 l5 : Option CV} {z : Int} : Rr C mX13_lookup (12, [l0, l1, some (qi z), l3, l4, l5], st, M) x = Rr C mX13_lookup (13, [l0, l1, some (qi z), l3, l4, l5], qi z :: st, M) x := g_pl (show decode cX13_lookup 12 = .ok (.iload_n 2, 1) by decide +kernel) rfl
set_option maxRecDepth 20000 in
theorem kX13_lookup_13 {C : QC} {x : QP} {M : QM} {st : List CV} {L : QL} : Rr C mX13_lookup (13, L, st, M) x = Rr C mX13_lookup (14, L, qi 0 :: st, M) x := g_pl (show decode cX13_lookup 13 = .ok (.iconst 0, 1) by decide +kernel) rfl
set_option maxRecDepth 20000 in
theorem kX13_lookup_14 {C : QC} {x : QP} {M : QM} {st : List CV} {L : QL} : Rr C mX13_lookup (14, L, st, M) x = Rr C mX13_lookup (15, L, qi 3 :: st, M) x := g_pl (show decode cX13_lookup 14 = .ok (.iconst 3, 1) by decide +kernel) rfl
set_option maxRecDepth 20000 in
theorem kX13_lookup_15 {C : QC} {x : QP} {M : QM} {L : QL} {rest : List CV} {a0 a1 a2 : CV} {v : CV} {M1 : QM} (hC : C iX13_in [a0, a1, a2] M (some v) M1) (hw : (rest.map q_wd).sum ≤ 8) (k : Rr C mX13_lookup (18, L, v :: rest, M1) x) : Rr C mX13_lookup (15, L, a2 :: a1 :: a0 :: rest, M) x := g_cs (ow := 13) (e := (1, 198, 0, [1357, 1358, 94])) (as := [a0, a1, a2]) (show decode cX13_lookup 15 = .ok (.invokestatic 43, 3) by decide +kernel) rfl rfl rfl rfl (Or.inl rfl) rfl hC hw k
set_option maxRecDepth 20000 in
theorem kX13_lookup_18 {C : QC} {x : QP} {M : QM} {st : List CV} {L : QL} {a : Int} (ha1 : -2147483648 ≤ a) (ha2 : a < 2147483648) : Rr C mX13_lookup (18, L, qi a :: st, M) x = (if a = 0 then Rr C mX13_lookup (21, L, st, M) x else Rr C mX13_lookup (24, L, st, M) x) := (g_if (show decode cX13_lookup 18 = .ok (.ifCond .ne 6, 3) by decide +kernel) rfl ha1 ha2).trans (g_itn c_ne)
set_option maxRecDepth 20000 in
theorem kX13_lookup_21 {C : QC} {x : QP} {M : QM} {st : List CV} {L : QL} : Rr C mX13_lookup (21, L, st, M) x = Rr C mX13_lookup (23, L, qi (-2) :: st, M) x := g_pl (show decode cX13_lookup 21 = .ok (.bipush (-2), 2) by decide +kernel) rfl
set_option maxRecDepth 20000 in
theorem kX13_lookup_23 {C : QC} {x : QP} {M : QM} {st : List CV} {L : QL} {z : Int} : Rr C mX13_lookup (23, L, [qi z], M) x = x (some (qi z)) M := g_iret (show decode cX13_lookup 23 = .ok (.ireturn, 1) by decide +kernel) rfl
set_option maxRecDepth 20000 in
theorem kX13_lookup_24 {C : QC} {x : QP} {M : QM} {st : List CV} {L : QL} {l0 l1 l2 l3 l4 l5 : Option CV} {z : Int} : Rr C mX13_lookup (24, [l0, l1, l2, some (qi z), l4, l5], st, M) x = Rr C mX13_lookup (25, [l0, l1, l2, some (qi z), l4, l5], qi z :: st, M) x := g_pl (show decode cX13_lookup 24 = .ok (.iload_n 3, 1) by decide +kernel) rfl
set_option maxRecDepth 20000 in
theorem kX13_lookup_25 {C : QC} {x : QP} {M : QM} {st : List CV} {L : QL} {a : Int} (ha1 : -2147483648 ≤ a) (ha2 : a < 2147483648) : Rr C mX13_lookup (25, L, qi a :: st, M) x = (if a = 0 then Rr C mX13_lookup (28, L, st, M) x else Rr C mX13_lookup (35, L, st, M) x) := (g_if (show decode cX13_lookup 25 = .ok (.ifCond .ne 10, 3) by decide +kernel) rfl ha1 ha2).trans (g_itn c_ne)
set_option maxRecDepth 20000 in
theorem kX13_lookup_28 {C : QC} {x : QP} {M : QM} {st : List CV} {L : QL} {l0 l1 l2 l3 l4 l5 : Option CV} {r : Option Nat} : Rr C mX13_lookup (28, [some (.inr (.inr r)), l1, l2, l3, l4, l5], st, M) x = Rr C mX13_lookup (29, [some (.inr (.inr r)), l1, l2, l3, l4, l5], .inr (.inr r) :: st, M) x := g_pl (show decode cX13_lookup 28 = .ok (.aload_n 0, 1) by decide +kernel) rfl
set_option maxRecDepth 20000 in
theorem kX13_lookup_29 {C : QC} {x : QP} {M : QM} {st : List CV} {L : QL} : Rr C mX13_lookup (29, L, st, M) x = Rr C mX13_lookup (31, L, qi 9 :: st, M) x := g_pl (show decode cX13_lookup 29 = .ok (.bipush 9, 2) by decide +kernel) rfl
set_option maxRecDepth 20000 in
theorem kX13_lookup_31 {C : QC} {x : QP} {M : QM} {L : QL} {rest : List CV} {a0 : CV} {v : CV} {M1 : QM} {b : Nat} (hb : q_kd M b = (1, 13)) (hC : C iX13_refuse [qr b, a0] M (some v) M1) (hw : (rest.map q_wd).sum ≤ 8) (k : Rr C mX13_lookup (34, L, v :: rest, M1) x) : Rr C mX13_lookup (31, L, a0 :: qr b :: rest, M) x := g_cv (ow := 13) (e := (0, 210, 13, [1403, 1405, 35, 94])) (as := [a0]) (show decode cX13_lookup 31 = .ok (.invokevirtual 136, 3) by decide +kernel) rfl rfl rfl (Or.inl rfl) rfl hb hC hw k
set_option maxRecDepth 20000 in
theorem kX13_lookup_34 {C : QC} {x : QP} {M : QM} {st : List CV} {L : QL} {z : Int} : Rr C mX13_lookup (34, L, [qi z], M) x = x (some (qi z)) M := g_iret (show decode cX13_lookup 34 = .ok (.ireturn, 1) by decide +kernel) rfl
set_option maxRecDepth 20000 in
theorem kX13_lookup_35 {C : QC} {x : QP} {M : QM} {st : List CV} {L : QL} {l0 l1 l2 l3 l4 l5 : Option CV} {r : Option Nat} : Rr C mX13_lookup (35, [some (.inr (.inr r)), l1, l2, l3, l4, l5], st, M) x = Rr C mX13_lookup (36, [some (.inr (.inr r)), l1, l2, l3, l4, l5], .inr (.inr r) :: st, M) x := g_pl (show decode cX13_lookup 35 = .ok (.aload_n 0, 1) by decide +kernel) rfl
set_option maxRecDepth 20000 in
theorem kX13_lookup_36 {C : QC} {x : QP} {M : QM} {st : List CV} {L : QL} : Rr C mX13_lookup (36, L, st, M) x = Rr C mX13_lookup (37, L, qi 0 :: st, M) x := g_pl (show decode cX13_lookup 36 = .ok (.iconst 0, 1) by decide +kernel) rfl
set_option maxRecDepth 20000 in
theorem kX13_lookup_37 {C : QC} {x : QP} {M : QM} {st : List CV} {L : QL} {z : Int} {a : Nat} (hk : q_kd M a = (1, 13)) : Rr C mX13_lookup (37, L, qi z :: qr a :: st, M) x = Rr C mX13_lookup (40, L, st, q_wr M a 13 (qi z)) x := g_putf (ow := 13) (ini := false) (e := (13, 13, RX13, 1314, 0)) (r := (RX13, TX13, 17)) (t := tyX13) (show decode cX13_lookup 37 = .ok (.putfield 199, 3) by decide +kernel) rfl rfl rfl rfl (by decide +kernel) hk
set_option maxRecDepth 20000 in
theorem kX13_lookup_40 {C : QC} {x : QP} {M : QM} {st : List CV} {L : QL} : Rr C mX13_lookup (40, L, st, M) x = Rr C mX13_lookup (41, L, qi 0 :: st, M) x := g_pl (show decode cX13_lookup 40 = .ok (.iconst 0, 1) by decide +kernel) rfl
set_option maxRecDepth 20000 in
theorem kX13_lookup_41 {C : QC} {x : QP} {M : QM} {st : List CV} {L : QL} {l0 l1 l2 l3 l4 l5 : Option CV} {z : Int} : Rr C mX13_lookup (41, [l0, l1, l2, l3, l4, l5], qi z :: st, M) x = Rr C mX13_lookup (43, [l0, l1, l2, q_cut l3, some (qi z), l5], st, M) x := g_pl (show decode cX13_lookup 41 = .ok (.istore 4, 2) by decide +kernel) rfl
set_option maxRecDepth 20000 in
theorem kX13_lookup_43 {C : QC} {x : QP} {M : QM} {st : List CV} {L : QL} {l0 l1 l2 l3 l4 l5 : Option CV} {z : Int} : Rr C mX13_lookup (43, [l0, l1, l2, l3, some (qi z), l5], st, M) x = Rr C mX13_lookup (45, [l0, l1, l2, l3, some (qi z), l5], qi z :: st, M) x := g_pl (show decode cX13_lookup 43 = .ok (.iload 4, 2) by decide +kernel) rfl
set_option maxRecDepth 20000 in
theorem kX13_lookup_45 {C : QC} {x : QP} {M : QM} {st : List CV} {L : QL} {l0 l1 l2 l3 l4 l5 : Option CV} {z : Int} : Rr C mX13_lookup (45, [l0, l1, some (qi z), l3, l4, l5], st, M) x = Rr C mX13_lookup (46, [l0, l1, some (qi z), l3, l4, l5], qi z :: st, M) x := g_pl (show decode cX13_lookup 45 = .ok (.iload_n 2, 1) by decide +kernel) rfl
set_option maxRecDepth 20000 in
theorem kX13_lookup_46 {C : QC} {x : QP} {M : QM} {st : List CV} {L : QL} {a b : Int} (ha1 : -2147483648 ≤ a) (ha2 : a < 2147483648) (hb1 : -2147483648 ≤ b) (hb2 : b < 2147483648) : Rr C mX13_lookup (46, L, qi b :: qi a :: st, M) x = (if b < a then Rr C mX13_lookup (125, L, st, M) x else Rr C mX13_lookup (49, L, st, M) x) := (g_icmp (show decode cX13_lookup 46 = .ok (.if_icmp .gt 79, 3) by decide +kernel) rfl ha1 ha2 hb1 hb2).trans (g_ite c_gt)
set_option maxRecDepth 20000 in
theorem kX13_lookup_49 {C : QC} {x : QP} {M : QM} {st : List CV} {L : QL} : Rr C mX13_lookup (49, L, st, M) x = Rr C mX13_lookup (50, L, qi 0 :: st, M) x := g_pl (show decode cX13_lookup 49 = .ok (.iconst 0, 1) by decide +kernel) rfl
set_option maxRecDepth 20000 in
theorem kX13_lookup_50 {C : QC} {x : QP} {M : QM} {st : List CV} {L : QL} {l0 l1 l2 l3 l4 l5 : Option CV} {z : Int} : Rr C mX13_lookup (50, [l0, l1, l2, l3, l4, l5], qi z :: st, M) x = Rr C mX13_lookup (52, [l0, l1, l2, l3, q_cut l4, some (qi z)], st, M) x := g_pl (show decode cX13_lookup 50 = .ok (.istore 5, 2) by decide +kernel) rfl
set_option maxRecDepth 20000 in
theorem kX13_lookup_52 {C : QC} {x : QP} {M : QM} {st : List CV} {L : QL} {l0 l1 l2 l3 l4 l5 : Option CV} {z : Int} : Rr C mX13_lookup (52, [l0, l1, l2, l3, l4, some (qi z)], st, M) x = Rr C mX13_lookup (54, [l0, l1, l2, l3, l4, some (qi z)], qi z :: st, M) x := g_pl (show decode cX13_lookup 52 = .ok (.iload 5, 2) by decide +kernel) rfl
set_option maxRecDepth 20000 in
theorem kX13_lookup_54 {C : QC} {x : QP} {M : QM} {st : List CV} {L : QL} {l0 l1 l2 l3 l4 l5 : Option CV} {r : Option Nat} : Rr C mX13_lookup (54, [some (.inr (.inr r)), l1, l2, l3, l4, l5], st, M) x = Rr C mX13_lookup (55, [some (.inr (.inr r)), l1, l2, l3, l4, l5], .inr (.inr r) :: st, M) x := g_pl (show decode cX13_lookup 54 = .ok (.aload_n 0, 1) by decide +kernel) rfl
set_option maxRecDepth 20000 in
theorem kX13_lookup_55 {C : QC} {x : QP} {M : QM} {st : List CV} {L : QL} {a : Nat} (hk : q_kd M a = (1, 13)) : Rr C mX13_lookup (55, L, qr a :: st, M) x = Rr C mX13_lookup (58, L, q_fv M a 0 :: st, M) x := g_getf (ow := 13) (e := (13, 0, RX13, 1301, 0)) (show decode cX13_lookup 55 = .ok (.getfield 10, 3) by decide +kernel) rfl hk
set_option maxRecDepth 20000 in
theorem kX13_lookup_58 {C : QC} {x : QP} {M : QM} {st : List CV} {L : QL} : Rr C mX13_lookup (58, L, st, M) x = Rr C mX13_lookup (59, L, qi 0 :: st, M) x := g_pl (show decode cX13_lookup 58 = .ok (.iconst 0, 1) by decide +kernel) rfl
set_option maxRecDepth 20000 in
theorem kX13_lookup_59 {C : QC} {x : QP} {M : QM} {st : List CV} {L : QL} {a : Nat} {j : Int} (hk : (q_kd M a).1 = 2) (h0 : 0 ≤ j) (h1 : j < ((q_kd M a).2 : Int)) : Rr C mX13_lookup (59, L, qi j :: qr a :: st, M) x = Rr C mX13_lookup (60, L, q_fv M a j.toNat :: st, M) x := g_iald (show decode cX13_lookup 59 = .ok (.iaload, 1) by decide +kernel) hk h0 h1
set_option maxRecDepth 20000 in
theorem kX13_lookup_60 {C : QC} {x : QP} {M : QM} {st : List CV} {L : QL} {a b : Int} (ha1 : -2147483648 ≤ a) (ha2 : a < 2147483648) (hb1 : -2147483648 ≤ b) (hb2 : b < 2147483648) : Rr C mX13_lookup (60, L, qi b :: qi a :: st, M) x = (if a < b then Rr C mX13_lookup (63, L, st, M) x else Rr C mX13_lookup (119, L, st, M) x) := (g_icmp (show decode cX13_lookup 60 = .ok (.if_icmp .ge 59, 3) by decide +kernel) rfl ha1 ha2 hb1 hb2).trans (g_itn c_ge)
set_option maxRecDepth 20000 in
theorem kX13_lookup_63 {C : QC} {x : QP} {M : QM} {st : List CV} {L : QL} {l0 l1 l2 l3 l4 l5 : Option CV} {r : Option Nat} : Rr C mX13_lookup (63, [some (.inr (.inr r)), l1, l2, l3, l4, l5], st, M) x = Rr C mX13_lookup (64, [some (.inr (.inr r)), l1, l2, l3, l4, l5], .inr (.inr r) :: st, M) x := g_pl (show decode cX13_lookup 63 = .ok (.aload_n 0, 1) by decide +kernel) rfl
set_option maxRecDepth 20000 in
theorem kX13_lookup_64 {C : QC} {x : QP} {M : QM} {st : List CV} {L : QL} {l0 l1 l2 l3 l4 l5 : Option CV} {z : Int} : Rr C mX13_lookup (64, [l0, l1, l2, l3, l4, some (qi z)], st, M) x = Rr C mX13_lookup (66, [l0, l1, l2, l3, l4, some (qi z)], qi z :: st, M) x := g_pl (show decode cX13_lookup 64 = .ok (.iload 5, 2) by decide +kernel) rfl
set_option maxRecDepth 20000 in
theorem kX13_lookup_66 {C : QC} {x : QP} {M : QM} {st : List CV} {L : QL} {l0 l1 l2 l3 l4 l5 : Option CV} {z : Int} : Rr C mX13_lookup (66, [l0, some (qi z), l2, l3, l4, l5], st, M) x = Rr C mX13_lookup (67, [l0, some (qi z), l2, l3, l4, l5], qi z :: st, M) x := g_pl (show decode cX13_lookup 66 = .ok (.iload_n 1, 1) by decide +kernel) rfl
set_option maxRecDepth 20000 in
theorem kX13_lookup_67 {C : QC} {x : QP} {M : QM} {L : QL} {rest : List CV} {a0 a1 : CV} {v : CV} {M1 : QM} {b : Nat} (hb : q_kd M b = (1, 13)) (hC : C iX13_exists [qr b, a0, a1] M (some v) M1) (hw : (rest.map q_wd).sum ≤ 8) (k : Rr C mX13_lookup (70, L, v :: rest, M1) x) : Rr C mX13_lookup (67, L, a1 :: a0 :: qr b :: rest, M) x := g_cv (ow := 13) (e := (0, 235, 13, [1503, 1505, 56, 94])) (as := [a0, a1]) (show decode cX13_lookup 67 = .ok (.invokevirtual 62, 3) by decide +kernel) rfl rfl rfl (Or.inl rfl) rfl hb hC hw k
set_option maxRecDepth 20000 in
theorem kX13_lookup_70 {C : QC} {x : QP} {M : QM} {st : List CV} {L : QL} {a : Int} (ha1 : -2147483648 ≤ a) (ha2 : a < 2147483648) : Rr C mX13_lookup (70, L, qi a :: st, M) x = (if a = 0 then Rr C mX13_lookup (113, L, st, M) x else Rr C mX13_lookup (73, L, st, M) x) := (g_if (show decode cX13_lookup 70 = .ok (.ifCond .eq 43, 3) by decide +kernel) rfl ha1 ha2).trans (g_ite c_eq)
set_option maxRecDepth 20000 in
theorem kX13_lookup_73 {C : QC} {x : QP} {M : QM} {st : List CV} {L : QL} {l0 l1 l2 l3 l4 l5 : Option CV} {r : Option Nat} : Rr C mX13_lookup (73, [some (.inr (.inr r)), l1, l2, l3, l4, l5], st, M) x = Rr C mX13_lookup (74, [some (.inr (.inr r)), l1, l2, l3, l4, l5], .inr (.inr r) :: st, M) x := g_pl (show decode cX13_lookup 73 = .ok (.aload_n 0, 1) by decide +kernel) rfl
set_option maxRecDepth 20000 in
theorem kX13_lookup_74 {C : QC} {x : QP} {M : QM} {st : List CV} {L : QL} {l0 l1 l2 l3 l4 l5 : Option CV} {r : Option Nat} : Rr C mX13_lookup (74, [some (.inr (.inr r)), l1, l2, l3, l4, l5], st, M) x = Rr C mX13_lookup (75, [some (.inr (.inr r)), l1, l2, l3, l4, l5], .inr (.inr r) :: st, M) x := g_pl (show decode cX13_lookup 74 = .ok (.aload_n 0, 1) by decide +kernel) rfl
set_option maxRecDepth 20000 in
theorem kX13_lookup_75 {C : QC} {x : QP} {M : QM} {st : List CV} {L : QL} {l0 l1 l2 l3 l4 l5 : Option CV} {z : Int} : Rr C mX13_lookup (75, [l0, l1, l2, l3, l4, some (qi z)], st, M) x = Rr C mX13_lookup (77, [l0, l1, l2, l3, l4, some (qi z)], qi z :: st, M) x := g_pl (show decode cX13_lookup 75 = .ok (.iload 5, 2) by decide +kernel) rfl
set_option maxRecDepth 20000 in
theorem kX13_lookup_77 {C : QC} {x : QP} {M : QM} {st : List CV} {L : QL} {l0 l1 l2 l3 l4 l5 : Option CV} {z : Int} : Rr C mX13_lookup (77, [l0, some (qi z), l2, l3, l4, l5], st, M) x = Rr C mX13_lookup (78, [l0, some (qi z), l2, l3, l4, l5], qi z :: st, M) x := g_pl (show decode cX13_lookup 77 = .ok (.iload_n 1, 1) by decide +kernel) rfl
set_option maxRecDepth 20000 in
theorem kX13_lookup_78 {C : QC} {x : QP} {M : QM} {L : QL} {rest : List CV} {a0 a1 : CV} {v : CV} {M1 : QM} {b : Nat} (hb : q_kd M b = (1, 13)) (hC : C iX13_nameOn [qr b, a0, a1] M (some v) M1) (hw : (rest.map q_wd).sum ≤ 8) (k : Rr C mX13_lookup (81, L, v :: rest, M1) x) : Rr C mX13_lookup (78, L, a1 :: a0 :: qr b :: rest, M) x := g_cv (ow := 13) (e := (0, 223, 13, [1455, 1457, 47, 94])) (as := [a0, a1]) (show decode cX13_lookup 78 = .ok (.invokevirtual 59, 3) by decide +kernel) rfl rfl rfl (Or.inl rfl) rfl hb hC hw k
set_option maxRecDepth 20000 in
theorem kX13_lookup_81 {C : QC} {x : QP} {M : QM} {L : QL} {rest : List CV} {a0 : CV} {v : CV} {M1 : QM} {b : Nat} (hb : q_kd M b = (1, 13)) (hC : C iX13_distance [qr b, a0] M (some v) M1) (hw : (rest.map q_wd).sum ≤ 8) (k : Rr C mX13_lookup (84, L, v :: rest, M1) x) : Rr C mX13_lookup (81, L, a0 :: qr b :: rest, M) x := g_cv (ow := 13) (e := (0, 255, 13, [1583, 1585, 68, 94])) (as := [a0]) (show decode cX13_lookup 81 = .ok (.invokevirtual 202, 3) by decide +kernel) rfl rfl rfl (Or.inl rfl) rfl hb hC hw k
set_option maxRecDepth 20000 in
theorem kX13_lookup_84 {C : QC} {x : QP} {M : QM} {st : List CV} {L : QL} {l0 l1 l2 l3 l4 l5 : Option CV} {z : Int} : Rr C mX13_lookup (84, [l0, l1, l2, l3, some (qi z), l5], st, M) x = Rr C mX13_lookup (86, [l0, l1, l2, l3, some (qi z), l5], qi z :: st, M) x := g_pl (show decode cX13_lookup 84 = .ok (.iload 4, 2) by decide +kernel) rfl
set_option maxRecDepth 20000 in
theorem kX13_lookup_86 {C : QC} {x : QP} {M : QM} {st : List CV} {L : QL} {a b : Int} (ha1 : -2147483648 ≤ a) (ha2 : a < 2147483648) (hb1 : -2147483648 ≤ b) (hb2 : b < 2147483648) : Rr C mX13_lookup (86, L, qi b :: qi a :: st, M) x = (if a = b then Rr C mX13_lookup (92, L, st, M) x else Rr C mX13_lookup (89, L, st, M) x) := (g_icmp (show decode cX13_lookup 86 = .ok (.if_icmp .eq 6, 3) by decide +kernel) rfl ha1 ha2 hb1 hb2).trans (g_ite c_eq)
set_option maxRecDepth 20000 in
theorem kX13_lookup_89 {C : QC} {x : QP} {M : QM} {st : List CV} {L : QL} : Rr C mX13_lookup (89, L, st, M) x = Rr C mX13_lookup (113, L, st, M) x := g_pl (show decode cX13_lookup 89 = .ok (.goto 24, 3) by decide +kernel) rfl
set_option maxRecDepth 20000 in
theorem kX13_lookup_92 {C : QC} {x : QP} {M : QM} {st : List CV} {L : QL} {l0 l1 l2 l3 l4 l5 : Option CV} {r : Option Nat} : Rr C mX13_lookup (92, [some (.inr (.inr r)), l1, l2, l3, l4, l5], st, M) x = Rr C mX13_lookup (93, [some (.inr (.inr r)), l1, l2, l3, l4, l5], .inr (.inr r) :: st, M) x := g_pl (show decode cX13_lookup 92 = .ok (.aload_n 0, 1) by decide +kernel) rfl
set_option maxRecDepth 20000 in
theorem kX13_lookup_93 {C : QC} {x : QP} {M : QM} {st : List CV} {L : QL} {a : Nat} (hk : q_kd M a = (1, 13)) : Rr C mX13_lookup (93, L, qr a :: st, M) x = Rr C mX13_lookup (96, L, q_fv M a 12 :: st, M) x := g_getf (ow := 13) (e := (13, 12, RX13, 1313, 0)) (show decode cX13_lookup 93 = .ok (.getfield 27, 3) by decide +kernel) rfl hk
set_option maxRecDepth 20000 in
theorem kX13_lookup_96 {C : QC} {x : QP} {M : QM} {st : List CV} {L : QL} {l0 l1 l2 l3 l4 l5 : Option CV} {r : Option Nat} : Rr C mX13_lookup (96, [some (.inr (.inr r)), l1, l2, l3, l4, l5], st, M) x = Rr C mX13_lookup (97, [some (.inr (.inr r)), l1, l2, l3, l4, l5], .inr (.inr r) :: st, M) x := g_pl (show decode cX13_lookup 96 = .ok (.aload_n 0, 1) by decide +kernel) rfl
set_option maxRecDepth 20000 in
theorem kX13_lookup_97 {C : QC} {x : QP} {M : QM} {st : List CV} {L : QL} {a : Nat} (hk : q_kd M a = (1, 13)) : Rr C mX13_lookup (97, L, qr a :: st, M) x = Rr C mX13_lookup (100, L, q_fv M a 13 :: st, M) x := g_getf (ow := 13) (e := (13, 13, RX13, 1314, 0)) (show decode cX13_lookup 97 = .ok (.getfield 199, 3) by decide +kernel) rfl hk
set_option maxRecDepth 20000 in
theorem kX13_lookup_100 {C : QC} {x : QP} {M : QM} {st : List CV} {L : QL} {l0 l1 l2 l3 l4 l5 : Option CV} {z : Int} : Rr C mX13_lookup (100, [l0, l1, l2, l3, l4, some (qi z)], st, M) x = Rr C mX13_lookup (102, [l0, l1, l2, l3, l4, some (qi z)], qi z :: st, M) x := g_pl (show decode cX13_lookup 100 = .ok (.iload 5, 2) by decide +kernel) rfl
set_option maxRecDepth 20000 in
theorem kX13_lookup_102 {C : QC} {x : QP} {M : QM} {st : List CV} {L : QL} {a : Nat} {j v : Int} (hk : (q_kd M a).1 = 2) (h0 : 0 ≤ j) (h1 : j < ((q_kd M a).2 : Int)) : Rr C mX13_lookup (102, L, qi v :: qi j :: qr a :: st, M) x = Rr C mX13_lookup (103, L, st, q_wr M a j.toNat (qi v)) x := g_iast (show decode cX13_lookup 102 = .ok (.iastore, 1) by decide +kernel) hk h0 h1
set_option maxRecDepth 20000 in
theorem kX13_lookup_103 {C : QC} {x : QP} {M : QM} {st : List CV} {L : QL} {l0 l1 l2 l3 l4 l5 : Option CV} {r : Option Nat} : Rr C mX13_lookup (103, [some (.inr (.inr r)), l1, l2, l3, l4, l5], st, M) x = Rr C mX13_lookup (104, [some (.inr (.inr r)), l1, l2, l3, l4, l5], .inr (.inr r) :: st, M) x := g_pl (show decode cX13_lookup 103 = .ok (.aload_n 0, 1) by decide +kernel) rfl
set_option maxRecDepth 20000 in
theorem kX13_lookup_104i {C : QC} {x : QP} {M : QM} {st : List CV} {L : QL} {a : Int} : Rr C mX13_lookup (104, L, qi a :: st, M) x = Rr C mX13_lookup (105, L, qi a :: qi a :: st, M) x := g_pl (show decode cX13_lookup 104 = .ok (.dup, 1) by decide +kernel) rfl
set_option maxRecDepth 20000 in
theorem kX13_lookup_104r {C : QC} {x : QP} {M : QM} {st : List CV} {L : QL} {a : Option Nat} : Rr C mX13_lookup (104, L, .inr (.inr a) :: st, M) x = Rr C mX13_lookup (105, L, .inr (.inr a) :: .inr (.inr a) :: st, M) x := g_pl (show decode cX13_lookup 104 = .ok (.dup, 1) by decide +kernel) rfl
set_option maxRecDepth 20000 in
theorem kX13_lookup_105 {C : QC} {x : QP} {M : QM} {st : List CV} {L : QL} {a : Nat} (hk : q_kd M a = (1, 13)) : Rr C mX13_lookup (105, L, qr a :: st, M) x = Rr C mX13_lookup (108, L, q_fv M a 13 :: st, M) x := g_getf (ow := 13) (e := (13, 13, RX13, 1314, 0)) (show decode cX13_lookup 105 = .ok (.getfield 199, 3) by decide +kernel) rfl hk
set_option maxRecDepth 20000 in
theorem kX13_lookup_108 {C : QC} {x : QP} {M : QM} {st : List CV} {L : QL} : Rr C mX13_lookup (108, L, st, M) x = Rr C mX13_lookup (109, L, qi 1 :: st, M) x := g_pl (show decode cX13_lookup 108 = .ok (.iconst 1, 1) by decide +kernel) rfl
set_option maxRecDepth 20000 in
theorem kX13_lookup_109 {C : QC} {x : QP} {M : QM} {st : List CV} {L : QL} {a b : Int} : Rr C mX13_lookup (109, L, qi b :: qi a :: st, M) x = Rr C mX13_lookup (110, L, qi (a + b) :: st, M) x := g_pl (show decode cX13_lookup 109 = .ok (.iadd, 1) by decide +kernel) rfl
set_option maxRecDepth 20000 in
theorem kX13_lookup_110 {C : QC} {x : QP} {M : QM} {st : List CV} {L : QL} {z : Int} {a : Nat} (hk : q_kd M a = (1, 13)) : Rr C mX13_lookup (110, L, qi z :: qr a :: st, M) x = Rr C mX13_lookup (113, L, st, q_wr M a 13 (qi z)) x := g_putf (ow := 13) (ini := false) (e := (13, 13, RX13, 1314, 0)) (r := (RX13, TX13, 17)) (t := tyX13) (show decode cX13_lookup 110 = .ok (.putfield 199, 3) by decide +kernel) rfl rfl rfl rfl (by decide +kernel) hk
set_option maxRecDepth 20000 in
theorem kX13_lookup_113 {C : QC} {x : QP} {M : QM} {st : List CV} {L : QL} {l0 l1 l2 l3 l4 l5 : Option CV} {z : Int} : Rr C mX13_lookup (113, [l0, l1, l2, l3, l4, some (qi z)], st, M) x = Rr C mX13_lookup (116, [l0, l1, l2, l3, q_cut l4, some (qi (z + 1))], st, M) x := g_pl (show decode cX13_lookup 113 = .ok (.iinc 5 1, 3) by decide +kernel) rfl
set_option maxRecDepth 20000 in
theorem kX13_lookup_116 {C : QC} {x : QP} {M : QM} {st : List CV} {L : QL} : Rr C mX13_lookup (116, L, st, M) x = Rr C mX13_lookup (52, L, st, M) x := g_pl (show decode cX13_lookup 116 = .ok (.goto (-64), 3) by decide +kernel) rfl
set_option maxRecDepth 20000 in
theorem kX13_lookup_119 {C : QC} {x : QP} {M : QM} {st : List CV} {L : QL} {l0 l1 l2 l3 l4 l5 : Option CV} {z : Int} : Rr C mX13_lookup (119, [l0, l1, l2, l3, some (qi z), l5], st, M) x = Rr C mX13_lookup (122, [l0, l1, l2, q_cut l3, some (qi (z + 1)), l5], st, M) x := g_pl (show decode cX13_lookup 119 = .ok (.iinc 4 1, 3) by decide +kernel) rfl
set_option maxRecDepth 20000 in
theorem kX13_lookup_122 {C : QC} {x : QP} {M : QM} {st : List CV} {L : QL} : Rr C mX13_lookup (122, L, st, M) x = Rr C mX13_lookup (43, L, st, M) x := g_pl (show decode cX13_lookup 122 = .ok (.goto (-79), 3) by decide +kernel) rfl
set_option maxRecDepth 20000 in
theorem kX13_lookup_125 {C : QC} {x : QP} {M : QM} {st : List CV} {L : QL} {l0 l1 l2 l3 l4 l5 : Option CV} {r : Option Nat} : Rr C mX13_lookup (125, [some (.inr (.inr r)), l1, l2, l3, l4, l5], st, M) x = Rr C mX13_lookup (126, [some (.inr (.inr r)), l1, l2, l3, l4, l5], .inr (.inr r) :: st, M) x := g_pl (show decode cX13_lookup 125 = .ok (.aload_n 0, 1) by decide +kernel) rfl
set_option maxRecDepth 20000 in
theorem kX13_lookup_126 {C : QC} {x : QP} {M : QM} {st : List CV} {L : QL} {a : Nat} (hk : q_kd M a = (1, 13)) : Rr C mX13_lookup (126, L, qr a :: st, M) x = Rr C mX13_lookup (129, L, q_fv M a 13 :: st, M) x := g_getf (ow := 13) (e := (13, 13, RX13, 1314, 0)) (show decode cX13_lookup 126 = .ok (.getfield 199, 3) by decide +kernel) rfl hk
set_option maxRecDepth 20000 in
theorem kX13_lookup_129 {C : QC} {x : QP} {M : QM} {st : List CV} {L : QL} {z : Int} : Rr C mX13_lookup (129, L, [qi z], M) x = x (some (qi z)) M := g_iret (show decode cX13_lookup 129 = .ok (.ireturn, 1) by decide +kernel) rfl
set_option maxRecDepth 20000 in
theorem eX13_lookup {d : Nat} {M : QM} {x : QP} {a : Nat} {v0 : Int} {v1 : Int} : q_T (d + 1) iX13_lookup [qr a, qi v0, qi v1] M x = Rr (q_C d) mX13_lookup (0, [some (qr a), some (qi v0), some (qi v1), none, none, none], [], M) x := g_entryT (e := _) rfl (Nat.le_of_ble_eq_true rfl) rfl rfl
def mX13_sought : QI := (13, cX13_sought, false, some .int)
set_option maxRecDepth 20000 in
theorem kX13_sought_0 {C : QC} {x : QP} {M : QM} {st : List CV} {L : QL} {l0 l1 : Option CV} {z : Int} : Rr C mX13_sought (0, [l0, some (qi z)], st, M) x = Rr C mX13_sought (1, [l0, some (qi z)], qi z :: st, M) x := g_pl (show decode cX13_sought 0 = .ok (.iload_n 1, 1) by decide +kernel) rfl
set_option maxRecDepth 20000 in
theorem kX13_sought_1 {C : QC} {x : QP} {M : QM} {st : List CV} {L : QL} {a : Int} (ha1 : -2147483648 ≤ a) (ha2 : a < 2147483648) : Rr C mX13_sought (1, L, qi a :: st, M) x = (if a < 0 then Rr C mX13_sought (4, L, st, M) x else Rr C mX13_sought (8, L, st, M) x) := (g_if (show decode cX13_sought 1 = .ok (.ifCond .ge 7, 3) by decide +kernel) rfl ha1 ha2).trans (g_itn c_ge)
set_option maxRecDepth 20000 in
theorem kX13_sought_4 {C : QC} {x : QP} {M : QM} {st : List CV} {L : QL} : Rr C mX13_sought (4, L, st, M) x = Rr C mX13_sought (5, L, qi (-1) :: st, M) x := g_pl (show decode cX13_sought 4 = .ok (.iconst (-1), 1) by decide +kernel) rfl
set_option maxRecDepth 20000 in
theorem kX13_sought_5 {C : QC} {x : QP} {M : QM} {st : List CV} {L : QL} : Rr C mX13_sought (5, L, st, M) x = Rr C mX13_sought (27, L, st, M) x := g_pl (show decode cX13_sought 5 = .ok (.goto 22, 3) by decide +kernel) rfl
set_option maxRecDepth 20000 in
theorem kX13_sought_8 {C : QC} {x : QP} {M : QM} {st : List CV} {L : QL} {l0 l1 : Option CV} {z : Int} : Rr C mX13_sought (8, [l0, some (qi z)], st, M) x = Rr C mX13_sought (9, [l0, some (qi z)], qi z :: st, M) x := g_pl (show decode cX13_sought 8 = .ok (.iload_n 1, 1) by decide +kernel) rfl
set_option maxRecDepth 20000 in
theorem kX13_sought_9 {C : QC} {x : QP} {M : QM} {st : List CV} {L : QL} {l0 l1 : Option CV} {r : Option Nat} : Rr C mX13_sought (9, [some (.inr (.inr r)), l1], st, M) x = Rr C mX13_sought (10, [some (.inr (.inr r)), l1], .inr (.inr r) :: st, M) x := g_pl (show decode cX13_sought 9 = .ok (.aload_n 0, 1) by decide +kernel) rfl
set_option maxRecDepth 20000 in
theorem kX13_sought_10 {C : QC} {x : QP} {M : QM} {st : List CV} {L : QL} {a : Nat} (hk : q_kd M a = (1, 13)) : Rr C mX13_sought (10, L, qr a :: st, M) x = Rr C mX13_sought (13, L, q_fv M a 13 :: st, M) x := g_getf (ow := 13) (e := (13, 13, RX13, 1314, 0)) (show decode cX13_sought 10 = .ok (.getfield 199, 3) by decide +kernel) rfl hk
set_option maxRecDepth 20000 in
theorem kX13_sought_13 {C : QC} {x : QP} {M : QM} {st : List CV} {L : QL} {a b : Int} (ha1 : -2147483648 ≤ a) (ha2 : a < 2147483648) (hb1 : -2147483648 ≤ b) (hb2 : b < 2147483648) : Rr C mX13_sought (13, L, qi b :: qi a :: st, M) x = (if a < b then Rr C mX13_sought (16, L, st, M) x else Rr C mX13_sought (25, L, st, M) x) := (g_icmp (show decode cX13_sought 13 = .ok (.if_icmp .ge 12, 3) by decide +kernel) rfl ha1 ha2 hb1 hb2).trans (g_itn c_ge)
set_option maxRecDepth 20000 in
theorem kX13_sought_16 {C : QC} {x : QP} {M : QM} {st : List CV} {L : QL} {l0 l1 : Option CV} {r : Option Nat} : Rr C mX13_sought (16, [some (.inr (.inr r)), l1], st, M) x = Rr C mX13_sought (17, [some (.inr (.inr r)), l1], .inr (.inr r) :: st, M) x := g_pl (show decode cX13_sought 16 = .ok (.aload_n 0, 1) by decide +kernel) rfl
set_option maxRecDepth 20000 in
theorem kX13_sought_17 {C : QC} {x : QP} {M : QM} {st : List CV} {L : QL} {a : Nat} (hk : q_kd M a = (1, 13)) : Rr C mX13_sought (17, L, qr a :: st, M) x = Rr C mX13_sought (20, L, q_fv M a 12 :: st, M) x := g_getf (ow := 13) (e := (13, 12, RX13, 1313, 0)) (show decode cX13_sought 17 = .ok (.getfield 27, 3) by decide +kernel) rfl hk
set_option maxRecDepth 20000 in
theorem kX13_sought_20 {C : QC} {x : QP} {M : QM} {st : List CV} {L : QL} {l0 l1 : Option CV} {z : Int} : Rr C mX13_sought (20, [l0, some (qi z)], st, M) x = Rr C mX13_sought (21, [l0, some (qi z)], qi z :: st, M) x := g_pl (show decode cX13_sought 20 = .ok (.iload_n 1, 1) by decide +kernel) rfl
set_option maxRecDepth 20000 in
theorem kX13_sought_21 {C : QC} {x : QP} {M : QM} {st : List CV} {L : QL} {a : Nat} {j : Int} (hk : (q_kd M a).1 = 2) (h0 : 0 ≤ j) (h1 : j < ((q_kd M a).2 : Int)) : Rr C mX13_sought (21, L, qi j :: qr a :: st, M) x = Rr C mX13_sought (22, L, q_fv M a j.toNat :: st, M) x := g_iald (show decode cX13_sought 21 = .ok (.iaload, 1) by decide +kernel) hk h0 h1
set_option maxRecDepth 20000 in
theorem kX13_sought_22 {C : QC} {x : QP} {M : QM} {st : List CV} {L : QL} : Rr C mX13_sought (22, L, st, M) x = Rr C mX13_sought (27, L, st, M) x := g_pl (show decode cX13_sought 22 = .ok (.goto 5, 3) by decide +kernel) rfl
set_option maxRecDepth 20000 in
theorem kX13_sought_25 {C : QC} {x : QP} {M : QM} {st : List CV} {L : QL} : Rr C mX13_sought (25, L, st, M) x = Rr C mX13_sought (27, L, qi (-5) :: st, M) x := g_pl (show decode cX13_sought 25 = .ok (.bipush (-5), 2) by decide +kernel) rfl
set_option maxRecDepth 20000 in
theorem kX13_sought_27 {C : QC} {x : QP} {M : QM} {st : List CV} {L : QL} {z : Int} : Rr C mX13_sought (27, L, [qi z], M) x = x (some (qi z)) M := g_iret (show decode cX13_sought 27 = .ok (.ireturn, 1) by decide +kernel) rfl
set_option maxRecDepth 20000 in
theorem eX13_sought {d : Nat} {M : QM} {x : QP} {a : Nat} {v0 : Int} : q_T (d + 1) iX13_sought [qr a, qi v0] M x = Rr (q_C d) mX13_sought (0, [some (qr a), some (qi v0)], [], M) x := g_entryT (e := _) rfl (Nat.le_of_ble_eq_true rfl) rfl rfl
def mX13_part : QI := (13, cX13_part, false, some .int)
set_option maxRecDepth 20000 in
theorem kX13_part_0 {C : QC} {x : QP} {M : QM} {st : List CV} {L : QL} : Rr C mX13_part (0, L, st, M) x = Rr C mX13_part (3, L, qi 11375 :: st, M) x := g_pl (show decode cX13_part 0 = .ok (.sipush 11375, 3) by decide +kernel) rfl
set_option maxRecDepth 20000 in
theorem kX13_part_3 {C : QC} {x : QP} {M : QM} {st : List CV} {L : QL} : Rr C mX13_part (3, L, st, M) x = Rr C mX13_part (4, L, qi 3 :: st, M) x := g_pl (show decode cX13_part 3 = .ok (.iconst 3, 1) by decide +kernel) rfl
set_option maxRecDepth 20000 in
theorem kX13_part_4 {C : QC} {x : QP} {M : QM} {st : List CV} {L : QL} {l0 l1 l2 l3 l4 : Option CV} {r : Option Nat} : Rr C mX13_part (4, [some (.inr (.inr r)), l1, l2, l3, l4], st, M) x = Rr C mX13_part (5, [some (.inr (.inr r)), l1, l2, l3, l4], .inr (.inr r) :: st, M) x := g_pl (show decode cX13_part 4 = .ok (.aload_n 0, 1) by decide +kernel) rfl
set_option maxRecDepth 20000 in
theorem kX13_part_5 {C : QC} {x : QP} {M : QM} {st : List CV} {L : QL} {a : Nat} (hk : q_kd M a = (1, 13)) : Rr C mX13_part (5, L, qr a :: st, M) x = Rr C mX13_part (8, L, q_fv M a 0 :: st, M) x := g_getf (ow := 13) (e := (13, 0, RX13, 1301, 0)) (show decode cX13_part 5 = .ok (.getfield 10, 3) by decide +kernel) rfl hk
set_option maxRecDepth 20000 in
theorem kX13_part_8 {C : QC} {x : QP} {M : QM} {st : List CV} {L : QL} : Rr C mX13_part (8, L, st, M) x = Rr C mX13_part (9, L, qi 3 :: st, M) x := g_pl (show decode cX13_part 8 = .ok (.iconst 3, 1) by decide +kernel) rfl
set_option maxRecDepth 20000 in
theorem kX13_part_9 {C : QC} {x : QP} {M : QM} {st : List CV} {L : QL} {a : Nat} {j : Int} (hk : (q_kd M a).1 = 2) (h0 : 0 ≤ j) (h1 : j < ((q_kd M a).2 : Int)) : Rr C mX13_part (9, L, qi j :: qr a :: st, M) x = Rr C mX13_part (10, L, q_fv M a j.toNat :: st, M) x := g_iald (show decode cX13_part 9 = .ok (.iaload, 1) by decide +kernel) hk h0 h1
set_option maxRecDepth 20000 in
theorem kX13_part_10 {C : QC} {x : QP} {M : QM} {st : List CV} {L : QL} {a b : Int} : Rr C mX13_part (10, L, qi b :: qi a :: st, M) x = Rr C mX13_part (11, L, qi (a * b) :: st, M) x := g_pl (show decode cX13_part 10 = .ok (.imul, 1) by decide +kernel) rfl
set_option maxRecDepth 20000 in
theorem kX13_part_11 {C : QC} {x : QP} {M : QM} {st : List CV} {L : QL} {a b : Int} : Rr C mX13_part (11, L, qi b :: qi a :: st, M) x = Rr C mX13_part (12, L, qi (a + b) :: st, M) x := g_pl (show decode cX13_part 11 = .ok (.iadd, 1) by decide +kernel) rfl
set_option maxRecDepth 20000 in
theorem kX13_part_12 {C : QC} {x : QP} {M : QM} {st : List CV} {L : QL} {l0 l1 l2 l3 l4 : Option CV} {z : Int} : Rr C mX13_part (12, [l0, l1, l2, l3, l4], qi z :: st, M) x = Rr C mX13_part (14, [l0, l1, l2, q_cut l3, some (qi z)], st, M) x := g_pl (show decode cX13_part 12 = .ok (.istore 4, 2) by decide +kernel) rfl
set_option maxRecDepth 20000 in
theorem kX13_part_14 {C : QC} {x : QP} {M : QM} {st : List CV} {L : QL} {l0 l1 l2 l3 l4 : Option CV} {r : Option Nat} : Rr C mX13_part (14, [some (.inr (.inr r)), l1, l2, l3, l4], st, M) x = Rr C mX13_part (15, [some (.inr (.inr r)), l1, l2, l3, l4], .inr (.inr r) :: st, M) x := g_pl (show decode cX13_part 14 = .ok (.aload_n 0, 1) by decide +kernel) rfl
set_option maxRecDepth 20000 in
theorem kX13_part_15 {C : QC} {x : QP} {M : QM} {st : List CV} {L : QL} {a : Nat} (hk : q_kd M a = (1, 13)) : Rr C mX13_part (15, L, qr a :: st, M) x = Rr C mX13_part (18, L, q_fv M a 0 :: st, M) x := g_getf (ow := 13) (e := (13, 0, RX13, 1301, 0)) (show decode cX13_part 15 = .ok (.getfield 10, 3) by decide +kernel) rfl hk
set_option maxRecDepth 20000 in
theorem kX13_part_18 {C : QC} {x : QP} {M : QM} {st : List CV} {L : QL} {l0 l1 l2 l3 l4 : Option CV} {z : Int} : Rr C mX13_part (18, [l0, l1, l2, l3, some (qi z)], st, M) x = Rr C mX13_part (20, [l0, l1, l2, l3, some (qi z)], qi z :: st, M) x := g_pl (show decode cX13_part 18 = .ok (.iload 4, 2) by decide +kernel) rfl
set_option maxRecDepth 20000 in
theorem kX13_part_20 {C : QC} {x : QP} {M : QM} {st : List CV} {L : QL} {l0 l1 l2 l3 l4 : Option CV} {z : Int} : Rr C mX13_part (20, [l0, some (qi z), l2, l3, l4], st, M) x = Rr C mX13_part (21, [l0, some (qi z), l2, l3, l4], qi z :: st, M) x := g_pl (show decode cX13_part 20 = .ok (.iload_n 1, 1) by decide +kernel) rfl
set_option maxRecDepth 20000 in
theorem kX13_part_21 {C : QC} {x : QP} {M : QM} {st : List CV} {L : QL} {a : Nat} {j v : Int} (hk : (q_kd M a).1 = 2) (h0 : 0 ≤ j) (h1 : j < ((q_kd M a).2 : Int)) : Rr C mX13_part (21, L, qi v :: qi j :: qr a :: st, M) x = Rr C mX13_part (22, L, st, q_wr M a j.toNat (qi v)) x := g_iast (show decode cX13_part 21 = .ok (.iastore, 1) by decide +kernel) hk h0 h1
set_option maxRecDepth 20000 in
theorem kX13_part_22 {C : QC} {x : QP} {M : QM} {st : List CV} {L : QL} {l0 l1 l2 l3 l4 : Option CV} {r : Option Nat} : Rr C mX13_part (22, [some (.inr (.inr r)), l1, l2, l3, l4], st, M) x = Rr C mX13_part (23, [some (.inr (.inr r)), l1, l2, l3, l4], .inr (.inr r) :: st, M) x := g_pl (show decode cX13_part 22 = .ok (.aload_n 0, 1) by decide +kernel) rfl
set_option maxRecDepth 20000 in
theorem kX13_part_23 {C : QC} {x : QP} {M : QM} {st : List CV} {L : QL} {a : Nat} (hk : q_kd M a = (1, 13)) : Rr C mX13_part (23, L, qr a :: st, M) x = Rr C mX13_part (26, L, q_fv M a 0 :: st, M) x := g_getf (ow := 13) (e := (13, 0, RX13, 1301, 0)) (show decode cX13_part 23 = .ok (.getfield 10, 3) by decide +kernel) rfl hk
set_option maxRecDepth 20000 in
theorem kX13_part_26 {C : QC} {x : QP} {M : QM} {st : List CV} {L : QL} {l0 l1 l2 l3 l4 : Option CV} {z : Int} : Rr C mX13_part (26, [l0, l1, l2, l3, some (qi z)], st, M) x = Rr C mX13_part (28, [l0, l1, l2, l3, some (qi z)], qi z :: st, M) x := g_pl (show decode cX13_part 26 = .ok (.iload 4, 2) by decide +kernel) rfl
set_option maxRecDepth 20000 in
theorem kX13_part_28 {C : QC} {x : QP} {M : QM} {st : List CV} {L : QL} : Rr C mX13_part (28, L, st, M) x = Rr C mX13_part (29, L, qi 1 :: st, M) x := g_pl (show decode cX13_part 28 = .ok (.iconst 1, 1) by decide +kernel) rfl
set_option maxRecDepth 20000 in
theorem kX13_part_29 {C : QC} {x : QP} {M : QM} {st : List CV} {L : QL} {a b : Int} : Rr C mX13_part (29, L, qi b :: qi a :: st, M) x = Rr C mX13_part (30, L, qi (a + b) :: st, M) x := g_pl (show decode cX13_part 29 = .ok (.iadd, 1) by decide +kernel) rfl
set_option maxRecDepth 20000 in
theorem kX13_part_30 {C : QC} {x : QP} {M : QM} {st : List CV} {L : QL} {l0 l1 l2 l3 l4 : Option CV} {z : Int} : Rr C mX13_part (30, [l0, l1, some (qi z), l3, l4], st, M) x = Rr C mX13_part (31, [l0, l1, some (qi z), l3, l4], qi z :: st, M) x := g_pl (show decode cX13_part 30 = .ok (.iload_n 2, 1) by decide +kernel) rfl
set_option maxRecDepth 20000 in
theorem kX13_part_31 {C : QC} {x : QP} {M : QM} {st : List CV} {L : QL} {a : Nat} {j v : Int} (hk : (q_kd M a).1 = 2) (h0 : 0 ≤ j) (h1 : j < ((q_kd M a).2 : Int)) : Rr C mX13_part (31, L, qi v :: qi j :: qr a :: st, M) x = Rr C mX13_part (32, L, st, q_wr M a j.toNat (qi v)) x := g_iast (show decode cX13_part 31 = .ok (.iastore, 1) by decide +kernel) hk h0 h1
set_option maxRecDepth 20000 in
theorem kX13_part_32 {C : QC} {x : QP} {M : QM} {st : List CV} {L : QL} {l0 l1 l2 l3 l4 : Option CV} {r : Option Nat} : Rr C mX13_part (32, [some (.inr (.inr r)), l1, l2, l3, l4], st, M) x = Rr C mX13_part (33, [some (.inr (.inr r)), l1, l2, l3, l4], .inr (.inr r) :: st, M) x := g_pl (show decode cX13_part 32 = .ok (.aload_n 0, 1) by decide +kernel) rfl
set_option maxRecDepth 20000 in
theorem kX13_part_33 {C : QC} {x : QP} {M : QM} {st : List CV} {L : QL} {a : Nat} (hk : q_kd M a = (1, 13)) : Rr C mX13_part (33, L, qr a :: st, M) x = Rr C mX13_part (36, L, q_fv M a 0 :: st, M) x := g_getf (ow := 13) (e := (13, 0, RX13, 1301, 0)) (show decode cX13_part 33 = .ok (.getfield 10, 3) by decide +kernel) rfl hk
set_option maxRecDepth 20000 in
theorem kX13_part_36 {C : QC} {x : QP} {M : QM} {st : List CV} {L : QL} {l0 l1 l2 l3 l4 : Option CV} {z : Int} : Rr C mX13_part (36, [l0, l1, l2, l3, some (qi z)], st, M) x = Rr C mX13_part (38, [l0, l1, l2, l3, some (qi z)], qi z :: st, M) x := g_pl (show decode cX13_part 36 = .ok (.iload 4, 2) by decide +kernel) rfl
set_option maxRecDepth 20000 in
theorem kX13_part_38 {C : QC} {x : QP} {M : QM} {st : List CV} {L : QL} : Rr C mX13_part (38, L, st, M) x = Rr C mX13_part (39, L, qi 2 :: st, M) x := g_pl (show decode cX13_part 38 = .ok (.iconst 2, 1) by decide +kernel) rfl
set_option maxRecDepth 20000 in
theorem kX13_part_39 {C : QC} {x : QP} {M : QM} {st : List CV} {L : QL} {a b : Int} : Rr C mX13_part (39, L, qi b :: qi a :: st, M) x = Rr C mX13_part (40, L, qi (a + b) :: st, M) x := g_pl (show decode cX13_part 39 = .ok (.iadd, 1) by decide +kernel) rfl
set_option maxRecDepth 20000 in
theorem kX13_part_40 {C : QC} {x : QP} {M : QM} {st : List CV} {L : QL} {l0 l1 l2 l3 l4 : Option CV} {z : Int} : Rr C mX13_part (40, [l0, l1, l2, some (qi z), l4], st, M) x = Rr C mX13_part (41, [l0, l1, l2, some (qi z), l4], qi z :: st, M) x := g_pl (show decode cX13_part 40 = .ok (.iload_n 3, 1) by decide +kernel) rfl
set_option maxRecDepth 20000 in
theorem kX13_part_41 {C : QC} {x : QP} {M : QM} {st : List CV} {L : QL} {a : Nat} {j v : Int} (hk : (q_kd M a).1 = 2) (h0 : 0 ≤ j) (h1 : j < ((q_kd M a).2 : Int)) : Rr C mX13_part (41, L, qi v :: qi j :: qr a :: st, M) x = Rr C mX13_part (42, L, st, q_wr M a j.toNat (qi v)) x := g_iast (show decode cX13_part 41 = .ok (.iastore, 1) by decide +kernel) hk h0 h1
set_option maxRecDepth 20000 in
theorem kX13_part_42 {C : QC} {x : QP} {M : QM} {st : List CV} {L : QL} {l0 l1 l2 l3 l4 : Option CV} {r : Option Nat} : Rr C mX13_part (42, [some (.inr (.inr r)), l1, l2, l3, l4], st, M) x = Rr C mX13_part (43, [some (.inr (.inr r)), l1, l2, l3, l4], .inr (.inr r) :: st, M) x := g_pl (show decode cX13_part 42 = .ok (.aload_n 0, 1) by decide +kernel) rfl
set_option maxRecDepth 20000 in
theorem kX13_part_43 {C : QC} {x : QP} {M : QM} {st : List CV} {L : QL} {a : Nat} (hk : q_kd M a = (1, 13)) : Rr C mX13_part (43, L, qr a :: st, M) x = Rr C mX13_part (46, L, q_fv M a 0 :: st, M) x := g_getf (ow := 13) (e := (13, 0, RX13, 1301, 0)) (show decode cX13_part 43 = .ok (.getfield 10, 3) by decide +kernel) rfl hk
set_option maxRecDepth 20000 in
theorem kX13_part_46 {C : QC} {x : QP} {M : QM} {st : List CV} {L : QL} : Rr C mX13_part (46, L, st, M) x = Rr C mX13_part (48, L, qi 7 :: st, M) x := g_pl (show decode cX13_part 46 = .ok (.bipush 7, 2) by decide +kernel) rfl
set_option maxRecDepth 20000 in
theorem kX13_part_48 {C : QC} {x : QP} {M : QM} {st : List CV} {L : QL} {l0 l1 l2 l3 l4 : Option CV} {r : Option Nat} : Rr C mX13_part (48, [some (.inr (.inr r)), l1, l2, l3, l4], st, M) x = Rr C mX13_part (49, [some (.inr (.inr r)), l1, l2, l3, l4], .inr (.inr r) :: st, M) x := g_pl (show decode cX13_part 48 = .ok (.aload_n 0, 1) by decide +kernel) rfl
set_option maxRecDepth 20000 in
theorem kX13_part_49 {C : QC} {x : QP} {M : QM} {st : List CV} {L : QL} {a : Nat} (hk : q_kd M a = (1, 13)) : Rr C mX13_part (49, L, qr a :: st, M) x = Rr C mX13_part (52, L, q_fv M a 0 :: st, M) x := g_getf (ow := 13) (e := (13, 0, RX13, 1301, 0)) (show decode cX13_part 49 = .ok (.getfield 10, 3) by decide +kernel) rfl hk
set_option maxRecDepth 20000 in
theorem kX13_part_52 {C : QC} {x : QP} {M : QM} {st : List CV} {L : QL} : Rr C mX13_part (52, L, st, M) x = Rr C mX13_part (53, L, qi 4 :: st, M) x := g_pl (show decode cX13_part 52 = .ok (.iconst 4, 1) by decide +kernel) rfl
set_option maxRecDepth 20000 in
theorem kX13_part_53 {C : QC} {x : QP} {M : QM} {st : List CV} {L : QL} {a : Nat} {j : Int} (hk : (q_kd M a).1 = 2) (h0 : 0 ≤ j) (h1 : j < ((q_kd M a).2 : Int)) : Rr C mX13_part (53, L, qi j :: qr a :: st, M) x = Rr C mX13_part (54, L, q_fv M a j.toNat :: st, M) x := g_iald (show decode cX13_part 53 = .ok (.iaload, 1) by decide +kernel) hk h0 h1
set_option maxRecDepth 20000 in
theorem kX13_part_54 {C : QC} {x : QP} {M : QM} {st : List CV} {L : QL} {a b : Int} : Rr C mX13_part (54, L, qi b :: qi a :: st, M) x = Rr C mX13_part (55, L, qi (a + b) :: st, M) x := g_pl (show decode cX13_part 54 = .ok (.iadd, 1) by decide +kernel) rfl
set_option maxRecDepth 20000 in
theorem kX13_part_55 {C : QC} {x : QP} {M : QM} {st : List CV} {L : QL} {l0 l1 l2 l3 l4 : Option CV} {r : Option Nat} : Rr C mX13_part (55, [some (.inr (.inr r)), l1, l2, l3, l4], st, M) x = Rr C mX13_part (56, [some (.inr (.inr r)), l1, l2, l3, l4], .inr (.inr r) :: st, M) x := g_pl (show decode cX13_part 55 = .ok (.aload_n 0, 1) by decide +kernel) rfl
set_option maxRecDepth 20000 in
theorem kX13_part_56 {C : QC} {x : QP} {M : QM} {st : List CV} {L : QL} {a : Nat} (hk : q_kd M a = (1, 13)) : Rr C mX13_part (56, L, qr a :: st, M) x = Rr C mX13_part (59, L, q_fv M a 0 :: st, M) x := g_getf (ow := 13) (e := (13, 0, RX13, 1301, 0)) (show decode cX13_part 56 = .ok (.getfield 10, 3) by decide +kernel) rfl hk
set_option maxRecDepth 20000 in
theorem kX13_part_59 {C : QC} {x : QP} {M : QM} {st : List CV} {L : QL} : Rr C mX13_part (59, L, st, M) x = Rr C mX13_part (60, L, qi 3 :: st, M) x := g_pl (show decode cX13_part 59 = .ok (.iconst 3, 1) by decide +kernel) rfl
set_option maxRecDepth 20000 in
theorem kX13_part_60 {C : QC} {x : QP} {M : QM} {st : List CV} {L : QL} {a : Nat} {j : Int} (hk : (q_kd M a).1 = 2) (h0 : 0 ≤ j) (h1 : j < ((q_kd M a).2 : Int)) : Rr C mX13_part (60, L, qi j :: qr a :: st, M) x = Rr C mX13_part (61, L, q_fv M a j.toNat :: st, M) x := g_iald (show decode cX13_part 60 = .ok (.iaload, 1) by decide +kernel) hk h0 h1
set_option maxRecDepth 20000 in
theorem kX13_part_61 {C : QC} {x : QP} {M : QM} {st : List CV} {L : QL} {a : Nat} {j v : Int} (hk : (q_kd M a).1 = 2) (h0 : 0 ≤ j) (h1 : j < ((q_kd M a).2 : Int)) : Rr C mX13_part (61, L, qi v :: qi j :: qr a :: st, M) x = Rr C mX13_part (62, L, st, q_wr M a j.toNat (qi v)) x := g_iast (show decode cX13_part 61 = .ok (.iastore, 1) by decide +kernel) hk h0 h1
set_option maxRecDepth 20000 in
theorem kX13_part_62 {C : QC} {x : QP} {M : QM} {st : List CV} {L : QL} {l0 l1 l2 l3 l4 : Option CV} {r : Option Nat} : Rr C mX13_part (62, [some (.inr (.inr r)), l1, l2, l3, l4], st, M) x = Rr C mX13_part (63, [some (.inr (.inr r)), l1, l2, l3, l4], .inr (.inr r) :: st, M) x := g_pl (show decode cX13_part 62 = .ok (.aload_n 0, 1) by decide +kernel) rfl
set_option maxRecDepth 20000 in
theorem kX13_part_63 {C : QC} {x : QP} {M : QM} {st : List CV} {L : QL} {a : Nat} (hk : q_kd M a = (1, 13)) : Rr C mX13_part (63, L, qr a :: st, M) x = Rr C mX13_part (66, L, q_fv M a 0 :: st, M) x := g_getf (ow := 13) (e := (13, 0, RX13, 1301, 0)) (show decode cX13_part 63 = .ok (.getfield 10, 3) by decide +kernel) rfl hk
set_option maxRecDepth 20000 in
theorem kX13_part_66 {C : QC} {x : QP} {M : QM} {st : List CV} {L : QL} : Rr C mX13_part (66, L, st, M) x = Rr C mX13_part (67, L, qi 3 :: st, M) x := g_pl (show decode cX13_part 66 = .ok (.iconst 3, 1) by decide +kernel) rfl
set_option maxRecDepth 20000 in
theorem kX13_part_67 {C : QC} {x : QP} {M : QM} {st : List CV} {L : QL} {a : Int} {b : Option Nat} : Rr C mX13_part (67, L, qi a :: .inr (.inr b) :: st, M) x = Rr C mX13_part (68, L, qi a :: .inr (.inr b) :: qi a :: .inr (.inr b) :: st, M) x := g_pl (show decode cX13_part 67 = .ok (.dup2, 1) by decide +kernel) rfl
set_option maxRecDepth 20000 in
theorem kX13_part_68 {C : QC} {x : QP} {M : QM} {st : List CV} {L : QL} {a : Nat} {j : Int} (hk : (q_kd M a).1 = 2) (h0 : 0 ≤ j) (h1 : j < ((q_kd M a).2 : Int)) : Rr C mX13_part (68, L, qi j :: qr a :: st, M) x = Rr C mX13_part (69, L, q_fv M a j.toNat :: st, M) x := g_iald (show decode cX13_part 68 = .ok (.iaload, 1) by decide +kernel) hk h0 h1
set_option maxRecDepth 20000 in
theorem kX13_part_69 {C : QC} {x : QP} {M : QM} {st : List CV} {L : QL} : Rr C mX13_part (69, L, st, M) x = Rr C mX13_part (70, L, qi 1 :: st, M) x := g_pl (show decode cX13_part 69 = .ok (.iconst 1, 1) by decide +kernel) rfl
set_option maxRecDepth 20000 in
theorem kX13_part_70 {C : QC} {x : QP} {M : QM} {st : List CV} {L : QL} {a b : Int} : Rr C mX13_part (70, L, qi b :: qi a :: st, M) x = Rr C mX13_part (71, L, qi (a + b) :: st, M) x := g_pl (show decode cX13_part 70 = .ok (.iadd, 1) by decide +kernel) rfl
set_option maxRecDepth 20000 in
theorem kX13_part_71 {C : QC} {x : QP} {M : QM} {st : List CV} {L : QL} {a : Nat} {j v : Int} (hk : (q_kd M a).1 = 2) (h0 : 0 ≤ j) (h1 : j < ((q_kd M a).2 : Int)) : Rr C mX13_part (71, L, qi v :: qi j :: qr a :: st, M) x = Rr C mX13_part (72, L, st, q_wr M a j.toNat (qi v)) x := g_iast (show decode cX13_part 71 = .ok (.iastore, 1) by decide +kernel) hk h0 h1
set_option maxRecDepth 20000 in
theorem kX13_part_72 {C : QC} {x : QP} {M : QM} {st : List CV} {L : QL} {l0 l1 l2 l3 l4 : Option CV} {r : Option Nat} : Rr C mX13_part (72, [some (.inr (.inr r)), l1, l2, l3, l4], st, M) x = Rr C mX13_part (73, [some (.inr (.inr r)), l1, l2, l3, l4], .inr (.inr r) :: st, M) x := g_pl (show decode cX13_part 72 = .ok (.aload_n 0, 1) by decide +kernel) rfl
set_option maxRecDepth 20000 in
theorem kX13_part_73 {C : QC} {x : QP} {M : QM} {st : List CV} {L : QL} {a : Nat} (hk : q_kd M a = (1, 13)) : Rr C mX13_part (73, L, qr a :: st, M) x = Rr C mX13_part (76, L, q_fv M a 0 :: st, M) x := g_getf (ow := 13) (e := (13, 0, RX13, 1301, 0)) (show decode cX13_part 73 = .ok (.getfield 10, 3) by decide +kernel) rfl hk
set_option maxRecDepth 20000 in
theorem kX13_part_76 {C : QC} {x : QP} {M : QM} {st : List CV} {L : QL} : Rr C mX13_part (76, L, st, M) x = Rr C mX13_part (77, L, qi 4 :: st, M) x := g_pl (show decode cX13_part 76 = .ok (.iconst 4, 1) by decide +kernel) rfl
set_option maxRecDepth 20000 in
theorem kX13_part_77 {C : QC} {x : QP} {M : QM} {st : List CV} {L : QL} {a : Int} {b : Option Nat} : Rr C mX13_part (77, L, qi a :: .inr (.inr b) :: st, M) x = Rr C mX13_part (78, L, qi a :: .inr (.inr b) :: qi a :: .inr (.inr b) :: st, M) x := g_pl (show decode cX13_part 77 = .ok (.dup2, 1) by decide +kernel) rfl
set_option maxRecDepth 20000 in
theorem kX13_part_78 {C : QC} {x : QP} {M : QM} {st : List CV} {L : QL} {a : Nat} {j : Int} (hk : (q_kd M a).1 = 2) (h0 : 0 ≤ j) (h1 : j < ((q_kd M a).2 : Int)) : Rr C mX13_part (78, L, qi j :: qr a :: st, M) x = Rr C mX13_part (79, L, q_fv M a j.toNat :: st, M) x := g_iald (show decode cX13_part 78 = .ok (.iaload, 1) by decide +kernel) hk h0 h1
set_option maxRecDepth 20000 in
theorem kX13_part_79 {C : QC} {x : QP} {M : QM} {st : List CV} {L : QL} : Rr C mX13_part (79, L, st, M) x = Rr C mX13_part (80, L, qi 1 :: st, M) x := g_pl (show decode cX13_part 79 = .ok (.iconst 1, 1) by decide +kernel) rfl
set_option maxRecDepth 20000 in
theorem kX13_part_80 {C : QC} {x : QP} {M : QM} {st : List CV} {L : QL} {a b : Int} : Rr C mX13_part (80, L, qi b :: qi a :: st, M) x = Rr C mX13_part (81, L, qi (a + b) :: st, M) x := g_pl (show decode cX13_part 80 = .ok (.iadd, 1) by decide +kernel) rfl
set_option maxRecDepth 20000 in
theorem kX13_part_81 {C : QC} {x : QP} {M : QM} {st : List CV} {L : QL} {a : Nat} {j v : Int} (hk : (q_kd M a).1 = 2) (h0 : 0 ≤ j) (h1 : j < ((q_kd M a).2 : Int)) : Rr C mX13_part (81, L, qi v :: qi j :: qr a :: st, M) x = Rr C mX13_part (82, L, st, q_wr M a j.toNat (qi v)) x := g_iast (show decode cX13_part 81 = .ok (.iastore, 1) by decide +kernel) hk h0 h1
set_option maxRecDepth 20000 in
theorem kX13_part_82 {C : QC} {x : QP} {M : QM} {st : List CV} {L : QL} {l0 l1 l2 l3 l4 : Option CV} {r : Option Nat} : Rr C mX13_part (82, [some (.inr (.inr r)), l1, l2, l3, l4], st, M) x = Rr C mX13_part (83, [some (.inr (.inr r)), l1, l2, l3, l4], .inr (.inr r) :: st, M) x := g_pl (show decode cX13_part 82 = .ok (.aload_n 0, 1) by decide +kernel) rfl
set_option maxRecDepth 20000 in
theorem kX13_part_83 {C : QC} {x : QP} {M : QM} {st : List CV} {L : QL} {a : Nat} (hk : q_kd M a = (1, 13)) : Rr C mX13_part (83, L, qr a :: st, M) x = Rr C mX13_part (86, L, q_fv M a 0 :: st, M) x := g_getf (ow := 13) (e := (13, 0, RX13, 1301, 0)) (show decode cX13_part 83 = .ok (.getfield 10, 3) by decide +kernel) rfl hk
set_option maxRecDepth 20000 in
theorem kX13_part_86 {C : QC} {x : QP} {M : QM} {st : List CV} {L : QL} : Rr C mX13_part (86, L, st, M) x = Rr C mX13_part (87, L, qi 4 :: st, M) x := g_pl (show decode cX13_part 86 = .ok (.iconst 4, 1) by decide +kernel) rfl
set_option maxRecDepth 20000 in
theorem kX13_part_87 {C : QC} {x : QP} {M : QM} {st : List CV} {L : QL} {a : Nat} {j : Int} (hk : (q_kd M a).1 = 2) (h0 : 0 ≤ j) (h1 : j < ((q_kd M a).2 : Int)) : Rr C mX13_part (87, L, qi j :: qr a :: st, M) x = Rr C mX13_part (88, L, q_fv M a j.toNat :: st, M) x := g_iald (show decode cX13_part 87 = .ok (.iaload, 1) by decide +kernel) hk h0 h1
set_option maxRecDepth 20000 in
theorem kX13_part_88 {C : QC} {x : QP} {M : QM} {st : List CV} {L : QL} : Rr C mX13_part (88, L, st, M) x = Rr C mX13_part (89, L, qi 1 :: st, M) x := g_pl (show decode cX13_part 88 = .ok (.iconst 1, 1) by decide +kernel) rfl
set_option maxRecDepth 20000 in
theorem kX13_part_89 {C : QC} {x : QP} {M : QM} {st : List CV} {L : QL} {a b : Int} : Rr C mX13_part (89, L, qi b :: qi a :: st, M) x = Rr C mX13_part (90, L, qi (a - b) :: st, M) x := g_pl (show decode cX13_part 89 = .ok (.isub, 1) by decide +kernel) rfl
set_option maxRecDepth 20000 in
theorem kX13_part_90 {C : QC} {x : QP} {M : QM} {st : List CV} {L : QL} {z : Int} : Rr C mX13_part (90, L, [qi z], M) x = x (some (qi z)) M := g_iret (show decode cX13_part 90 = .ok (.ireturn, 1) by decide +kernel) rfl
set_option maxRecDepth 20000 in
theorem eX13_part {d : Nat} {M : QM} {x : QP} {a : Nat} {v0 : Int} {v1 : Int} {v2 : Int} : q_T (d + 1) iX13_part [qr a, qi v0, qi v1, qi v2] M x = Rr (q_C d) mX13_part (0, [some (qr a), some (qi v0), some (qi v1), some (qi v2), none], [], M) x := g_entryT (e := _) rfl (Nat.le_of_ble_eq_true rfl) rfl rfl
def mX13_filter : QI := (13, cX13_filter, false, some .int)
set_option maxRecDepth 20000 in
theorem kX13_filter_0 {C : QC} {x : QP} {M : QM} {st : List CV} {L : QL} {l0 l1 l2 : Option CV} {z : Int} : Rr C mX13_filter (0, [l0, some (qi z), l2], st, M) x = Rr C mX13_filter (1, [l0, some (qi z), l2], qi z :: st, M) x := g_pl (show decode cX13_filter 0 = .ok (.iload_n 1, 1) by decide +kernel) rfl
set_option maxRecDepth 20000 in
theorem kX13_filter_1 {C : QC} {x : QP} {M : QM} {st : List CV} {L : QL} : Rr C mX13_filter (1, L, st, M) x = Rr C mX13_filter (2, L, qi 0 :: st, M) x := g_pl (show decode cX13_filter 1 = .ok (.iconst 0, 1) by decide +kernel) rfl
set_option maxRecDepth 20000 in
theorem kX13_filter_2 {C : QC} {x : QP} {M : QM} {st : List CV} {L : QL} : Rr C mX13_filter (2, L, st, M) x = Rr C mX13_filter (3, L, qi 4 :: st, M) x := g_pl (show decode cX13_filter 2 = .ok (.iconst 4, 1) by decide +kernel) rfl
set_option maxRecDepth 20000 in
theorem kX13_filter_3 {C : QC} {x : QP} {M : QM} {L : QL} {rest : List CV} {a0 a1 a2 : CV} {v : CV} {M1 : QM} (hC : C iX13_in [a0, a1, a2] M (some v) M1) (hw : (rest.map q_wd).sum ≤ 8) (k : Rr C mX13_filter (6, L, v :: rest, M1) x) : Rr C mX13_filter (3, L, a2 :: a1 :: a0 :: rest, M) x := g_cs (ow := 13) (e := (1, 198, 0, [1357, 1358, 94])) (as := [a0, a1, a2]) (show decode cX13_filter 3 = .ok (.invokestatic 43, 3) by decide +kernel) rfl rfl rfl rfl (Or.inl rfl) rfl hC hw k
set_option maxRecDepth 20000 in
theorem kX13_filter_6 {C : QC} {x : QP} {M : QM} {st : List CV} {L : QL} {a : Int} (ha1 : -2147483648 ≤ a) (ha2 : a < 2147483648) : Rr C mX13_filter (6, L, qi a :: st, M) x = (if a = 0 then Rr C mX13_filter (9, L, st, M) x else Rr C mX13_filter (11, L, st, M) x) := (g_if (show decode cX13_filter 6 = .ok (.ifCond .ne 5, 3) by decide +kernel) rfl ha1 ha2).trans (g_itn c_ne)
set_option maxRecDepth 20000 in
theorem kX13_filter_9 {C : QC} {x : QP} {M : QM} {st : List CV} {L : QL} : Rr C mX13_filter (9, L, st, M) x = Rr C mX13_filter (10, L, qi (-1) :: st, M) x := g_pl (show decode cX13_filter 9 = .ok (.iconst (-1), 1) by decide +kernel) rfl
set_option maxRecDepth 20000 in
theorem kX13_filter_10 {C : QC} {x : QP} {M : QM} {st : List CV} {L : QL} {z : Int} : Rr C mX13_filter (10, L, [qi z], M) x = x (some (qi z)) M := g_iret (show decode cX13_filter 10 = .ok (.ireturn, 1) by decide +kernel) rfl
set_option maxRecDepth 20000 in
theorem kX13_filter_11 {C : QC} {x : QP} {M : QM} {st : List CV} {L : QL} {l0 l1 l2 : Option CV} {z : Int} : Rr C mX13_filter (11, [l0, l1, some (qi z)], st, M) x = Rr C mX13_filter (12, [l0, l1, some (qi z)], qi z :: st, M) x := g_pl (show decode cX13_filter 11 = .ok (.iload_n 2, 1) by decide +kernel) rfl
set_option maxRecDepth 20000 in
theorem kX13_filter_12 {C : QC} {x : QP} {M : QM} {L : QL} {rest : List CV} {a0 : CV} {v : CV} {M1 : QM} (hC : C iX13_isDay [a0] M (some v) M1) (hw : (rest.map q_wd).sum ≤ 8) (k : Rr C mX13_filter (15, L, v :: rest, M1) x) : Rr C mX13_filter (12, L, a0 :: rest, M) x := g_cs (ow := 13) (e := (1, 206, 0, [1388, 1389, 94])) (as := [a0]) (show decode cX13_filter 12 = .ok (.invokestatic 97, 3) by decide +kernel) rfl rfl rfl rfl (Or.inl rfl) rfl hC hw k
set_option maxRecDepth 20000 in
theorem kX13_filter_15 {C : QC} {x : QP} {M : QM} {st : List CV} {L : QL} {a : Int} (ha1 : -2147483648 ≤ a) (ha2 : a < 2147483648) : Rr C mX13_filter (15, L, qi a :: st, M) x = (if a = 0 then Rr C mX13_filter (18, L, st, M) x else Rr C mX13_filter (21, L, st, M) x) := (g_if (show decode cX13_filter 15 = .ok (.ifCond .ne 6, 3) by decide +kernel) rfl ha1 ha2).trans (g_itn c_ne)
set_option maxRecDepth 20000 in
theorem kX13_filter_18 {C : QC} {x : QP} {M : QM} {st : List CV} {L : QL} : Rr C mX13_filter (18, L, st, M) x = Rr C mX13_filter (20, L, qi (-2) :: st, M) x := g_pl (show decode cX13_filter 18 = .ok (.bipush (-2), 2) by decide +kernel) rfl
set_option maxRecDepth 20000 in
theorem kX13_filter_20 {C : QC} {x : QP} {M : QM} {st : List CV} {L : QL} {z : Int} : Rr C mX13_filter (20, L, [qi z], M) x = x (some (qi z)) M := g_iret (show decode cX13_filter 20 = .ok (.ireturn, 1) by decide +kernel) rfl
set_option maxRecDepth 20000 in
theorem kX13_filter_21 {C : QC} {x : QP} {M : QM} {st : List CV} {L : QL} {l0 l1 l2 : Option CV} {r : Option Nat} : Rr C mX13_filter (21, [some (.inr (.inr r)), l1, l2], st, M) x = Rr C mX13_filter (22, [some (.inr (.inr r)), l1, l2], .inr (.inr r) :: st, M) x := g_pl (show decode cX13_filter 21 = .ok (.aload_n 0, 1) by decide +kernel) rfl
set_option maxRecDepth 20000 in
theorem kX13_filter_22 {C : QC} {x : QP} {M : QM} {st : List CV} {L : QL} {a : Nat} (hk : q_kd M a = (1, 13)) : Rr C mX13_filter (22, L, qr a :: st, M) x = Rr C mX13_filter (25, L, q_fv M a 0 :: st, M) x := g_getf (ow := 13) (e := (13, 0, RX13, 1301, 0)) (show decode cX13_filter 22 = .ok (.getfield 10, 3) by decide +kernel) rfl hk
set_option maxRecDepth 20000 in
theorem kX13_filter_25 {C : QC} {x : QP} {M : QM} {st : List CV} {L : QL} : Rr C mX13_filter (25, L, st, M) x = Rr C mX13_filter (26, L, qi 4 :: st, M) x := g_pl (show decode cX13_filter 25 = .ok (.iconst 4, 1) by decide +kernel) rfl
set_option maxRecDepth 20000 in
theorem kX13_filter_26 {C : QC} {x : QP} {M : QM} {st : List CV} {L : QL} {a : Nat} {j : Int} (hk : (q_kd M a).1 = 2) (h0 : 0 ≤ j) (h1 : j < ((q_kd M a).2 : Int)) : Rr C mX13_filter (26, L, qi j :: qr a :: st, M) x = Rr C mX13_filter (27, L, q_fv M a j.toNat :: st, M) x := g_iald (show decode cX13_filter 26 = .ok (.iaload, 1) by decide +kernel) hk h0 h1
set_option maxRecDepth 20000 in
theorem kX13_filter_27 {C : QC} {x : QP} {M : QM} {st : List CV} {L : QL} : Rr C mX13_filter (27, L, st, M) x = Rr C mX13_filter (29, L, qi 8 :: st, M) x := g_pl (show decode cX13_filter 27 = .ok (.bipush 8, 2) by decide +kernel) rfl
set_option maxRecDepth 20000 in
theorem kX13_filter_29 {C : QC} {x : QP} {M : QM} {st : List CV} {L : QL} {a b : Int} (ha1 : -2147483648 ≤ a) (ha2 : a < 2147483648) (hb1 : -2147483648 ≤ b) (hb2 : b < 2147483648) : Rr C mX13_filter (29, L, qi b :: qi a :: st, M) x = (if a = b then Rr C mX13_filter (32, L, st, M) x else Rr C mX13_filter (35, L, st, M) x) := (g_icmp (show decode cX13_filter 29 = .ok (.if_icmp .ne 6, 3) by decide +kernel) rfl ha1 ha2 hb1 hb2).trans (g_itn c_ne)
set_option maxRecDepth 20000 in
theorem kX13_filter_32 {C : QC} {x : QP} {M : QM} {st : List CV} {L : QL} : Rr C mX13_filter (32, L, st, M) x = Rr C mX13_filter (34, L, qi (-4) :: st, M) x := g_pl (show decode cX13_filter 32 = .ok (.bipush (-4), 2) by decide +kernel) rfl
set_option maxRecDepth 20000 in
theorem kX13_filter_34 {C : QC} {x : QP} {M : QM} {st : List CV} {L : QL} {z : Int} : Rr C mX13_filter (34, L, [qi z], M) x = x (some (qi z)) M := g_iret (show decode cX13_filter 34 = .ok (.ireturn, 1) by decide +kernel) rfl
set_option maxRecDepth 20000 in
theorem kX13_filter_35 {C : QC} {x : QP} {M : QM} {st : List CV} {L : QL} {l0 l1 l2 : Option CV} {r : Option Nat} : Rr C mX13_filter (35, [some (.inr (.inr r)), l1, l2], st, M) x = Rr C mX13_filter (36, [some (.inr (.inr r)), l1, l2], .inr (.inr r) :: st, M) x := g_pl (show decode cX13_filter 35 = .ok (.aload_n 0, 1) by decide +kernel) rfl
set_option maxRecDepth 20000 in
theorem kX13_filter_36 {C : QC} {x : QP} {M : QM} {L : QL} {rest : List CV} {M1 : QM} {b : Nat} (hb : q_kd M b = (1, 13)) (hC : C iX13_keeps [qr b] M none M1) (hw : (rest.map q_wd).sum ≤ 8) (k : Rr C mX13_filter (39, L, rest, M1) x) : Rr C mX13_filter (36, L, qr b :: rest, M) x := g_cv (ow := 13) (e := (0, 211, 13, [1407, 1409, 36, 94])) (as := []) (show decode cX13_filter 36 = .ok (.invokevirtual 140, 3) by decide +kernel) rfl rfl rfl (Or.inl rfl) rfl hb hC hw k
set_option maxRecDepth 20000 in
theorem kX13_filter_39 {C : QC} {x : QP} {M : QM} {st : List CV} {L : QL} {l0 l1 l2 : Option CV} {r : Option Nat} : Rr C mX13_filter (39, [some (.inr (.inr r)), l1, l2], st, M) x = Rr C mX13_filter (40, [some (.inr (.inr r)), l1, l2], .inr (.inr r) :: st, M) x := g_pl (show decode cX13_filter 39 = .ok (.aload_n 0, 1) by decide +kernel) rfl
set_option maxRecDepth 20000 in
theorem kX13_filter_40 {C : QC} {x : QP} {M : QM} {st : List CV} {L : QL} {l0 l1 l2 : Option CV} {z : Int} : Rr C mX13_filter (40, [l0, some (qi z), l2], st, M) x = Rr C mX13_filter (41, [l0, some (qi z), l2], qi z :: st, M) x := g_pl (show decode cX13_filter 40 = .ok (.iload_n 1, 1) by decide +kernel) rfl
set_option maxRecDepth 20000 in
theorem kX13_filter_41 {C : QC} {x : QP} {M : QM} {st : List CV} {L : QL} {l0 l1 l2 : Option CV} {z : Int} : Rr C mX13_filter (41, [l0, l1, some (qi z)], st, M) x = Rr C mX13_filter (42, [l0, l1, some (qi z)], qi z :: st, M) x := g_pl (show decode cX13_filter 41 = .ok (.iload_n 2, 1) by decide +kernel) rfl
set_option maxRecDepth 20000 in
theorem kX13_filter_42 {C : QC} {x : QP} {M : QM} {st : List CV} {L : QL} : Rr C mX13_filter (42, L, st, M) x = Rr C mX13_filter (43, L, qi 0 :: st, M) x := g_pl (show decode cX13_filter 42 = .ok (.iconst 0, 1) by decide +kernel) rfl
set_option maxRecDepth 20000 in
theorem kX13_filter_43 {C : QC} {x : QP} {M : QM} {L : QL} {rest : List CV} {a0 a1 a2 : CV} {v : CV} {M1 : QM} {b : Nat} (hb : q_kd M b = (1, 13)) (hC : C iX13_part [qr b, a0, a1, a2] M (some v) M1) (hw : (rest.map q_wd).sum ≤ 8) (k : Rr C mX13_filter (46, L, v :: rest, M1) x) : Rr C mX13_filter (43, L, a2 :: a1 :: a0 :: qr b :: rest, M) x := g_cv (ow := 13) (e := (0, 258, 13, [1595, 1597, 69, 94])) (as := [a0, a1, a2]) (show decode cX13_filter 43 = .ok (.invokevirtual 205, 3) by decide +kernel) rfl rfl rfl (Or.inl rfl) rfl hb hC hw k
set_option maxRecDepth 20000 in
theorem kX13_filter_46 {C : QC} {x : QP} {M : QM} {st : List CV} {L : QL} {z : Int} : Rr C mX13_filter (46, L, [qi z], M) x = x (some (qi z)) M := g_iret (show decode cX13_filter 46 = .ok (.ireturn, 1) by decide +kernel) rfl
set_option maxRecDepth 20000 in
theorem eX13_filter {d : Nat} {M : QM} {x : QP} {a : Nat} {v0 : Int} {v1 : Int} : q_T (d + 1) iX13_filter [qr a, qi v0, qi v1] M x = Rr (q_C d) mX13_filter (0, [some (qr a), some (qi v0), some (qi v1)], [], M) x := g_entryT (e := _) rfl (Nat.le_of_ble_eq_true rfl) rfl rfl
def mX13_isFilter : QI := (13, cX13_isFilter, false, some .boolean)
set_option maxRecDepth 20000 in
theorem kX13_isFilter_0 {C : QC} {x : QP} {M : QM} {st : List CV} {L : QL} {l0 l1 : Option CV} {z : Int} : Rr C mX13_isFilter (0, [l0, some (qi z)], st, M) x = Rr C mX13_isFilter (1, [l0, some (qi z)], qi z :: st, M) x := g_pl (show decode cX13_isFilter 0 = .ok (.iload_n 1, 1) by decide +kernel) rfl
set_option maxRecDepth 20000 in
theorem kX13_isFilter_1 {C : QC} {x : QP} {M : QM} {st : List CV} {L : QL} : Rr C mX13_isFilter (1, L, st, M) x = Rr C mX13_isFilter (2, L, qi 0 :: st, M) x := g_pl (show decode cX13_isFilter 1 = .ok (.iconst 0, 1) by decide +kernel) rfl
set_option maxRecDepth 20000 in
theorem kX13_isFilter_2 {C : QC} {x : QP} {M : QM} {st : List CV} {L : QL} {l0 l1 : Option CV} {r : Option Nat} : Rr C mX13_isFilter (2, [some (.inr (.inr r)), l1], st, M) x = Rr C mX13_isFilter (3, [some (.inr (.inr r)), l1], .inr (.inr r) :: st, M) x := g_pl (show decode cX13_isFilter 2 = .ok (.aload_n 0, 1) by decide +kernel) rfl
set_option maxRecDepth 20000 in
theorem kX13_isFilter_3 {C : QC} {x : QP} {M : QM} {st : List CV} {L : QL} {a : Nat} (hk : q_kd M a = (1, 13)) : Rr C mX13_isFilter (3, L, qr a :: st, M) x = Rr C mX13_isFilter (6, L, q_fv M a 0 :: st, M) x := g_getf (ow := 13) (e := (13, 0, RX13, 1301, 0)) (show decode cX13_isFilter 3 = .ok (.getfield 10, 3) by decide +kernel) rfl hk
set_option maxRecDepth 20000 in
theorem kX13_isFilter_6 {C : QC} {x : QP} {M : QM} {st : List CV} {L : QL} : Rr C mX13_isFilter (6, L, st, M) x = Rr C mX13_isFilter (7, L, qi 4 :: st, M) x := g_pl (show decode cX13_isFilter 6 = .ok (.iconst 4, 1) by decide +kernel) rfl
set_option maxRecDepth 20000 in
theorem kX13_isFilter_7 {C : QC} {x : QP} {M : QM} {st : List CV} {L : QL} {a : Nat} {j : Int} (hk : (q_kd M a).1 = 2) (h0 : 0 ≤ j) (h1 : j < ((q_kd M a).2 : Int)) : Rr C mX13_isFilter (7, L, qi j :: qr a :: st, M) x = Rr C mX13_isFilter (8, L, q_fv M a j.toNat :: st, M) x := g_iald (show decode cX13_isFilter 7 = .ok (.iaload, 1) by decide +kernel) hk h0 h1
set_option maxRecDepth 20000 in
theorem kX13_isFilter_8 {C : QC} {x : QP} {M : QM} {st : List CV} {L : QL} : Rr C mX13_isFilter (8, L, st, M) x = Rr C mX13_isFilter (9, L, qi 1 :: st, M) x := g_pl (show decode cX13_isFilter 8 = .ok (.iconst 1, 1) by decide +kernel) rfl
set_option maxRecDepth 20000 in
theorem kX13_isFilter_9 {C : QC} {x : QP} {M : QM} {st : List CV} {L : QL} {a b : Int} : Rr C mX13_isFilter (9, L, qi b :: qi a :: st, M) x = Rr C mX13_isFilter (10, L, qi (a - b) :: st, M) x := g_pl (show decode cX13_isFilter 9 = .ok (.isub, 1) by decide +kernel) rfl
set_option maxRecDepth 20000 in
theorem kX13_isFilter_10 {C : QC} {x : QP} {M : QM} {L : QL} {rest : List CV} {a0 a1 a2 : CV} {v : CV} {M1 : QM} (hC : C iX13_in [a0, a1, a2] M (some v) M1) (hw : (rest.map q_wd).sum ≤ 8) (k : Rr C mX13_isFilter (13, L, v :: rest, M1) x) : Rr C mX13_isFilter (10, L, a2 :: a1 :: a0 :: rest, M) x := g_cs (ow := 13) (e := (1, 198, 0, [1357, 1358, 94])) (as := [a0, a1, a2]) (show decode cX13_isFilter 10 = .ok (.invokestatic 43, 3) by decide +kernel) rfl rfl rfl rfl (Or.inl rfl) rfl hC hw k
set_option maxRecDepth 20000 in
theorem kX13_isFilter_13 {C : QC} {x : QP} {M : QM} {st : List CV} {L : QL} {z : Int} (hz : z = 0 ∨ z = 1) : Rr C mX13_isFilter (13, L, [qi z], M) x = x (some (qi z)) M := g_iret (show decode cX13_isFilter 13 = .ok (.ireturn, 1) by decide +kernel) (by rcases hz with rfl | rfl <;> rfl)
set_option maxRecDepth 20000 in
theorem eX13_isFilter {d : Nat} {M : QM} {x : QP} {a : Nat} {v0 : Int} : q_T (d + 1) iX13_isFilter [qr a, qi v0] M x = Rr (q_C d) mX13_isFilter (0, [some (qr a), some (qi v0)], [], M) x := g_entryT (e := _) rfl (Nat.le_of_ble_eq_true rfl) rfl rfl
def mX13_join : QI := (13, cX13_join, false, some .int)
set_option maxRecDepth 20000 in
theorem kX13_join_0 {C : QC} {x : QP} {M : QM} {st : List CV} {L : QL} {l0 l1 l2 l3 : Option CV} {z : Int} : Rr C mX13_join (0, [l0, some (qi z), l2, l3], st, M) x = Rr C mX13_join (1, [l0, some (qi z), l2, l3], qi z :: st, M) x := g_pl (show decode cX13_join 0 = .ok (.iload_n 1, 1) by decide +kernel) rfl
set_option maxRecDepth 20000 in
theorem kX13_join_1 {C : QC} {x : QP} {M : QM} {st : List CV} {L : QL} : Rr C mX13_join (1, L, st, M) x = Rr C mX13_join (2, L, qi 0 :: st, M) x := g_pl (show decode cX13_join 1 = .ok (.iconst 0, 1) by decide +kernel) rfl
set_option maxRecDepth 20000 in
theorem kX13_join_2 {C : QC} {x : QP} {M : QM} {st : List CV} {L : QL} : Rr C mX13_join (2, L, st, M) x = Rr C mX13_join (3, L, qi 2 :: st, M) x := g_pl (show decode cX13_join 2 = .ok (.iconst 2, 1) by decide +kernel) rfl
set_option maxRecDepth 20000 in
theorem kX13_join_3 {C : QC} {x : QP} {M : QM} {L : QL} {rest : List CV} {a0 a1 a2 : CV} {v : CV} {M1 : QM} (hC : C iX13_in [a0, a1, a2] M (some v) M1) (hw : (rest.map q_wd).sum ≤ 8) (k : Rr C mX13_join (6, L, v :: rest, M1) x) : Rr C mX13_join (3, L, a2 :: a1 :: a0 :: rest, M) x := g_cs (ow := 13) (e := (1, 198, 0, [1357, 1358, 94])) (as := [a0, a1, a2]) (show decode cX13_join 3 = .ok (.invokestatic 43, 3) by decide +kernel) rfl rfl rfl rfl (Or.inl rfl) rfl hC hw k
set_option maxRecDepth 20000 in
theorem kX13_join_6 {C : QC} {x : QP} {M : QM} {st : List CV} {L : QL} {a : Int} (ha1 : -2147483648 ≤ a) (ha2 : a < 2147483648) : Rr C mX13_join (6, L, qi a :: st, M) x = (if a = 0 then Rr C mX13_join (30, L, st, M) x else Rr C mX13_join (9, L, st, M) x) := (g_if (show decode cX13_join 6 = .ok (.ifCond .eq 24, 3) by decide +kernel) rfl ha1 ha2).trans (g_ite c_eq)
set_option maxRecDepth 20000 in
theorem kX13_join_9 {C : QC} {x : QP} {M : QM} {st : List CV} {L : QL} {l0 l1 l2 l3 : Option CV} {r : Option Nat} : Rr C mX13_join (9, [some (.inr (.inr r)), l1, l2, l3], st, M) x = Rr C mX13_join (10, [some (.inr (.inr r)), l1, l2, l3], .inr (.inr r) :: st, M) x := g_pl (show decode cX13_join 9 = .ok (.aload_n 0, 1) by decide +kernel) rfl
set_option maxRecDepth 20000 in
theorem kX13_join_10 {C : QC} {x : QP} {M : QM} {st : List CV} {L : QL} {l0 l1 l2 l3 : Option CV} {z : Int} : Rr C mX13_join (10, [l0, l1, some (qi z), l3], st, M) x = Rr C mX13_join (11, [l0, l1, some (qi z), l3], qi z :: st, M) x := g_pl (show decode cX13_join 10 = .ok (.iload_n 2, 1) by decide +kernel) rfl
set_option maxRecDepth 20000 in
theorem kX13_join_11 {C : QC} {x : QP} {M : QM} {L : QL} {rest : List CV} {a0 : CV} {v : CV} {M1 : QM} {b : Nat} (hb : q_kd M b = (1, 13)) (hC : C iX13_isFilter [qr b, a0] M (some v) M1) (hw : (rest.map q_wd).sum ≤ 8) (k : Rr C mX13_join (14, L, v :: rest, M1) x) : Rr C mX13_join (11, L, a0 :: qr b :: rest, M) x := g_cv (ow := 13) (e := (0, 260, 13, [1603, 1605, 70, 94])) (as := [a0]) (show decode cX13_join 11 = .ok (.invokevirtual 208, 3) by decide +kernel) rfl rfl rfl (Or.inl rfl) rfl hb hC hw k
set_option maxRecDepth 20000 in
theorem kX13_join_14 {C : QC} {x : QP} {M : QM} {st : List CV} {L : QL} {a : Int} (ha1 : -2147483648 ≤ a) (ha2 : a < 2147483648) : Rr C mX13_join (14, L, qi a :: st, M) x = (if a = 0 then Rr C mX13_join (30, L, st, M) x else Rr C mX13_join (17, L, st, M) x) := (g_if (show decode cX13_join 14 = .ok (.ifCond .eq 16, 3) by decide +kernel) rfl ha1 ha2).trans (g_ite c_eq)
set_option maxRecDepth 20000 in
theorem kX13_join_17 {C : QC} {x : QP} {M : QM} {st : List CV} {L : QL} {l0 l1 l2 l3 : Option CV} {z : Int} : Rr C mX13_join (17, [l0, some (qi z), l2, l3], st, M) x = Rr C mX13_join (18, [l0, some (qi z), l2, l3], qi z :: st, M) x := g_pl (show decode cX13_join 17 = .ok (.iload_n 1, 1) by decide +kernel) rfl
set_option maxRecDepth 20000 in
theorem kX13_join_18 {C : QC} {x : QP} {M : QM} {st : List CV} {L : QL} : Rr C mX13_join (18, L, st, M) x = Rr C mX13_join (19, L, qi 2 :: st, M) x := g_pl (show decode cX13_join 18 = .ok (.iconst 2, 1) by decide +kernel) rfl
set_option maxRecDepth 20000 in
theorem kX13_join_19 {C : QC} {x : QP} {M : QM} {st : List CV} {L : QL} {a b : Int} (ha1 : -2147483648 ≤ a) (ha2 : a < 2147483648) (hb1 : -2147483648 ≤ b) (hb2 : b < 2147483648) : Rr C mX13_join (19, L, qi b :: qi a :: st, M) x = (if a < b then Rr C mX13_join (22, L, st, M) x else Rr C mX13_join (32, L, st, M) x) := (g_icmp (show decode cX13_join 19 = .ok (.if_icmp .ge 13, 3) by decide +kernel) rfl ha1 ha2 hb1 hb2).trans (g_itn c_ge)
set_option maxRecDepth 20000 in
theorem kX13_join_22 {C : QC} {x : QP} {M : QM} {st : List CV} {L : QL} {l0 l1 l2 l3 : Option CV} {r : Option Nat} : Rr C mX13_join (22, [some (.inr (.inr r)), l1, l2, l3], st, M) x = Rr C mX13_join (23, [some (.inr (.inr r)), l1, l2, l3], .inr (.inr r) :: st, M) x := g_pl (show decode cX13_join 22 = .ok (.aload_n 0, 1) by decide +kernel) rfl
set_option maxRecDepth 20000 in
theorem kX13_join_23 {C : QC} {x : QP} {M : QM} {st : List CV} {L : QL} {l0 l1 l2 l3 : Option CV} {z : Int} : Rr C mX13_join (23, [l0, l1, l2, some (qi z)], st, M) x = Rr C mX13_join (24, [l0, l1, l2, some (qi z)], qi z :: st, M) x := g_pl (show decode cX13_join 23 = .ok (.iload_n 3, 1) by decide +kernel) rfl
set_option maxRecDepth 20000 in
theorem kX13_join_24 {C : QC} {x : QP} {M : QM} {L : QL} {rest : List CV} {a0 : CV} {v : CV} {M1 : QM} {b : Nat} (hb : q_kd M b = (1, 13)) (hC : C iX13_isFilter [qr b, a0] M (some v) M1) (hw : (rest.map q_wd).sum ≤ 8) (k : Rr C mX13_join (27, L, v :: rest, M1) x) : Rr C mX13_join (24, L, a0 :: qr b :: rest, M) x := g_cv (ow := 13) (e := (0, 260, 13, [1603, 1605, 70, 94])) (as := [a0]) (show decode cX13_join 24 = .ok (.invokevirtual 208, 3) by decide +kernel) rfl rfl rfl (Or.inl rfl) rfl hb hC hw k
set_option maxRecDepth 20000 in
theorem kX13_join_27 {C : QC} {x : QP} {M : QM} {st : List CV} {L : QL} {a : Int} (ha1 : -2147483648 ≤ a) (ha2 : a < 2147483648) : Rr C mX13_join (27, L, qi a :: st, M) x = (if a = 0 then Rr C mX13_join (30, L, st, M) x else Rr C mX13_join (32, L, st, M) x) := (g_if (show decode cX13_join 27 = .ok (.ifCond .ne 5, 3) by decide +kernel) rfl ha1 ha2).trans (g_itn c_ne)
set_option maxRecDepth 20000 in
theorem kX13_join_30 {C : QC} {x : QP} {M : QM} {st : List CV} {L : QL} : Rr C mX13_join (30, L, st, M) x = Rr C mX13_join (31, L, qi (-1) :: st, M) x := g_pl (show decode cX13_join 30 = .ok (.iconst (-1), 1) by decide +kernel) rfl
set_option maxRecDepth 20000 in
theorem kX13_join_31 {C : QC} {x : QP} {M : QM} {st : List CV} {L : QL} {z : Int} : Rr C mX13_join (31, L, [qi z], M) x = x (some (qi z)) M := g_iret (show decode cX13_join 31 = .ok (.ireturn, 1) by decide +kernel) rfl
set_option maxRecDepth 20000 in
theorem kX13_join_32 {C : QC} {x : QP} {M : QM} {st : List CV} {L : QL} {l0 l1 l2 l3 : Option CV} {r : Option Nat} : Rr C mX13_join (32, [some (.inr (.inr r)), l1, l2, l3], st, M) x = Rr C mX13_join (33, [some (.inr (.inr r)), l1, l2, l3], .inr (.inr r) :: st, M) x := g_pl (show decode cX13_join 32 = .ok (.aload_n 0, 1) by decide +kernel) rfl
set_option maxRecDepth 20000 in
theorem kX13_join_33 {C : QC} {x : QP} {M : QM} {st : List CV} {L : QL} {a : Nat} (hk : q_kd M a = (1, 13)) : Rr C mX13_join (33, L, qr a :: st, M) x = Rr C mX13_join (36, L, q_fv M a 0 :: st, M) x := g_getf (ow := 13) (e := (13, 0, RX13, 1301, 0)) (show decode cX13_join 33 = .ok (.getfield 10, 3) by decide +kernel) rfl hk
set_option maxRecDepth 20000 in
theorem kX13_join_36 {C : QC} {x : QP} {M : QM} {st : List CV} {L : QL} : Rr C mX13_join (36, L, st, M) x = Rr C mX13_join (37, L, qi 4 :: st, M) x := g_pl (show decode cX13_join 36 = .ok (.iconst 4, 1) by decide +kernel) rfl
set_option maxRecDepth 20000 in
theorem kX13_join_37 {C : QC} {x : QP} {M : QM} {st : List CV} {L : QL} {a : Nat} {j : Int} (hk : (q_kd M a).1 = 2) (h0 : 0 ≤ j) (h1 : j < ((q_kd M a).2 : Int)) : Rr C mX13_join (37, L, qi j :: qr a :: st, M) x = Rr C mX13_join (38, L, q_fv M a j.toNat :: st, M) x := g_iald (show decode cX13_join 37 = .ok (.iaload, 1) by decide +kernel) hk h0 h1
set_option maxRecDepth 20000 in
theorem kX13_join_38 {C : QC} {x : QP} {M : QM} {st : List CV} {L : QL} : Rr C mX13_join (38, L, st, M) x = Rr C mX13_join (40, L, qi 8 :: st, M) x := g_pl (show decode cX13_join 38 = .ok (.bipush 8, 2) by decide +kernel) rfl
set_option maxRecDepth 20000 in
theorem kX13_join_40 {C : QC} {x : QP} {M : QM} {st : List CV} {L : QL} {a b : Int} (ha1 : -2147483648 ≤ a) (ha2 : a < 2147483648) (hb1 : -2147483648 ≤ b) (hb2 : b < 2147483648) : Rr C mX13_join (40, L, qi b :: qi a :: st, M) x = (if a = b then Rr C mX13_join (43, L, st, M) x else Rr C mX13_join (46, L, st, M) x) := (g_icmp (show decode cX13_join 40 = .ok (.if_icmp .ne 6, 3) by decide +kernel) rfl ha1 ha2 hb1 hb2).trans (g_itn c_ne)
set_option maxRecDepth 20000 in
theorem kX13_join_43 {C : QC} {x : QP} {M : QM} {st : List CV} {L : QL} : Rr C mX13_join (43, L, st, M) x = Rr C mX13_join (45, L, qi (-4) :: st, M) x := g_pl (show decode cX13_join 43 = .ok (.bipush (-4), 2) by decide +kernel) rfl
set_option maxRecDepth 20000 in
theorem kX13_join_45 {C : QC} {x : QP} {M : QM} {st : List CV} {L : QL} {z : Int} : Rr C mX13_join (45, L, [qi z], M) x = x (some (qi z)) M := g_iret (show decode cX13_join 45 = .ok (.ireturn, 1) by decide +kernel) rfl
set_option maxRecDepth 20000 in
theorem kX13_join_46 {C : QC} {x : QP} {M : QM} {st : List CV} {L : QL} {l0 l1 l2 l3 : Option CV} {r : Option Nat} : Rr C mX13_join (46, [some (.inr (.inr r)), l1, l2, l3], st, M) x = Rr C mX13_join (47, [some (.inr (.inr r)), l1, l2, l3], .inr (.inr r) :: st, M) x := g_pl (show decode cX13_join 46 = .ok (.aload_n 0, 1) by decide +kernel) rfl
set_option maxRecDepth 20000 in
theorem kX13_join_47 {C : QC} {x : QP} {M : QM} {L : QL} {rest : List CV} {M1 : QM} {b : Nat} (hb : q_kd M b = (1, 13)) (hC : C iX13_keeps [qr b] M none M1) (hw : (rest.map q_wd).sum ≤ 8) (k : Rr C mX13_join (50, L, rest, M1) x) : Rr C mX13_join (47, L, qr b :: rest, M) x := g_cv (ow := 13) (e := (0, 211, 13, [1407, 1409, 36, 94])) (as := []) (show decode cX13_join 47 = .ok (.invokevirtual 140, 3) by decide +kernel) rfl rfl rfl (Or.inl rfl) rfl hb hC hw k
set_option maxRecDepth 20000 in
theorem kX13_join_50 {C : QC} {x : QP} {M : QM} {st : List CV} {L : QL} {l0 l1 l2 l3 : Option CV} {r : Option Nat} : Rr C mX13_join (50, [some (.inr (.inr r)), l1, l2, l3], st, M) x = Rr C mX13_join (51, [some (.inr (.inr r)), l1, l2, l3], .inr (.inr r) :: st, M) x := g_pl (show decode cX13_join 50 = .ok (.aload_n 0, 1) by decide +kernel) rfl
set_option maxRecDepth 20000 in
theorem kX13_join_51 {C : QC} {x : QP} {M : QM} {st : List CV} {L : QL} : Rr C mX13_join (51, L, st, M) x = Rr C mX13_join (52, L, qi 5 :: st, M) x := g_pl (show decode cX13_join 51 = .ok (.iconst 5, 1) by decide +kernel) rfl
set_option maxRecDepth 20000 in
theorem kX13_join_52 {C : QC} {x : QP} {M : QM} {st : List CV} {L : QL} {l0 l1 l2 l3 : Option CV} {z : Int} : Rr C mX13_join (52, [l0, some (qi z), l2, l3], st, M) x = Rr C mX13_join (53, [l0, some (qi z), l2, l3], qi z :: st, M) x := g_pl (show decode cX13_join 52 = .ok (.iload_n 1, 1) by decide +kernel) rfl
set_option maxRecDepth 20000 in
theorem kX13_join_53 {C : QC} {x : QP} {M : QM} {st : List CV} {L : QL} {a b : Int} : Rr C mX13_join (53, L, qi b :: qi a :: st, M) x = Rr C mX13_join (54, L, qi (a + b) :: st, M) x := g_pl (show decode cX13_join 53 = .ok (.iadd, 1) by decide +kernel) rfl
set_option maxRecDepth 20000 in
theorem kX13_join_54 {C : QC} {x : QP} {M : QM} {st : List CV} {L : QL} {l0 l1 l2 l3 : Option CV} {r : Option Nat} : Rr C mX13_join (54, [some (.inr (.inr r)), l1, l2, l3], st, M) x = Rr C mX13_join (55, [some (.inr (.inr r)), l1, l2, l3], .inr (.inr r) :: st, M) x := g_pl (show decode cX13_join 54 = .ok (.aload_n 0, 1) by decide +kernel) rfl
set_option maxRecDepth 20000 in
theorem kX13_join_55 {C : QC} {x : QP} {M : QM} {st : List CV} {L : QL} {a : Nat} (hk : q_kd M a = (1, 13)) : Rr C mX13_join (55, L, qr a :: st, M) x = Rr C mX13_join (58, L, q_fv M a 0 :: st, M) x := g_getf (ow := 13) (e := (13, 0, RX13, 1301, 0)) (show decode cX13_join 55 = .ok (.getfield 10, 3) by decide +kernel) rfl hk
set_option maxRecDepth 20000 in
theorem kX13_join_58 {C : QC} {x : QP} {M : QM} {st : List CV} {L : QL} : Rr C mX13_join (58, L, st, M) x = Rr C mX13_join (60, L, qi 7 :: st, M) x := g_pl (show decode cX13_join 58 = .ok (.bipush 7, 2) by decide +kernel) rfl
set_option maxRecDepth 20000 in
theorem kX13_join_60 {C : QC} {x : QP} {M : QM} {st : List CV} {L : QL} {l0 l1 l2 l3 : Option CV} {z : Int} : Rr C mX13_join (60, [l0, l1, some (qi z), l3], st, M) x = Rr C mX13_join (61, [l0, l1, some (qi z), l3], qi z :: st, M) x := g_pl (show decode cX13_join 60 = .ok (.iload_n 2, 1) by decide +kernel) rfl
set_option maxRecDepth 20000 in
theorem kX13_join_61 {C : QC} {x : QP} {M : QM} {st : List CV} {L : QL} {a b : Int} : Rr C mX13_join (61, L, qi b :: qi a :: st, M) x = Rr C mX13_join (62, L, qi (a + b) :: st, M) x := g_pl (show decode cX13_join 61 = .ok (.iadd, 1) by decide +kernel) rfl
set_option maxRecDepth 20000 in
theorem kX13_join_62 {C : QC} {x : QP} {M : QM} {st : List CV} {L : QL} {a : Nat} {j : Int} (hk : (q_kd M a).1 = 2) (h0 : 0 ≤ j) (h1 : j < ((q_kd M a).2 : Int)) : Rr C mX13_join (62, L, qi j :: qr a :: st, M) x = Rr C mX13_join (63, L, q_fv M a j.toNat :: st, M) x := g_iald (show decode cX13_join 62 = .ok (.iaload, 1) by decide +kernel) hk h0 h1
set_option maxRecDepth 20000 in
theorem kX13_join_63 {C : QC} {x : QP} {M : QM} {st : List CV} {L : QL} {l0 l1 l2 l3 : Option CV} {z : Int} : Rr C mX13_join (63, [l0, some (qi z), l2, l3], st, M) x = Rr C mX13_join (64, [l0, some (qi z), l2, l3], qi z :: st, M) x := g_pl (show decode cX13_join 63 = .ok (.iload_n 1, 1) by decide +kernel) rfl
set_option maxRecDepth 20000 in
theorem kX13_join_64 {C : QC} {x : QP} {M : QM} {st : List CV} {L : QL} : Rr C mX13_join (64, L, st, M) x = Rr C mX13_join (65, L, qi 2 :: st, M) x := g_pl (show decode cX13_join 64 = .ok (.iconst 2, 1) by decide +kernel) rfl
set_option maxRecDepth 20000 in
theorem kX13_join_65 {C : QC} {x : QP} {M : QM} {st : List CV} {L : QL} {a b : Int} (ha1 : -2147483648 ≤ a) (ha2 : a < 2147483648) (hb1 : -2147483648 ≤ b) (hb2 : b < 2147483648) : Rr C mX13_join (65, L, qi b :: qi a :: st, M) x = (if a = b then Rr C mX13_join (68, L, st, M) x else Rr C mX13_join (72, L, st, M) x) := (g_icmp (show decode cX13_join 65 = .ok (.if_icmp .ne 7, 3) by decide +kernel) rfl ha1 ha2 hb1 hb2).trans (g_itn c_ne)
set_option maxRecDepth 20000 in
theorem kX13_join_68 {C : QC} {x : QP} {M : QM} {st : List CV} {L : QL} : Rr C mX13_join (68, L, st, M) x = Rr C mX13_join (69, L, qi 0 :: st, M) x := g_pl (show decode cX13_join 68 = .ok (.iconst 0, 1) by decide +kernel) rfl
set_option maxRecDepth 20000 in
theorem kX13_join_69 {C : QC} {x : QP} {M : QM} {st : List CV} {L : QL} : Rr C mX13_join (69, L, st, M) x = Rr C mX13_join (81, L, st, M) x := g_pl (show decode cX13_join 69 = .ok (.goto 12, 3) by decide +kernel) rfl
set_option maxRecDepth 20000 in
theorem kX13_join_72 {C : QC} {x : QP} {M : QM} {st : List CV} {L : QL} {l0 l1 l2 l3 : Option CV} {r : Option Nat} : Rr C mX13_join (72, [some (.inr (.inr r)), l1, l2, l3], st, M) x = Rr C mX13_join (73, [some (.inr (.inr r)), l1, l2, l3], .inr (.inr r) :: st, M) x := g_pl (show decode cX13_join 72 = .ok (.aload_n 0, 1) by decide +kernel) rfl
set_option maxRecDepth 20000 in
theorem kX13_join_73 {C : QC} {x : QP} {M : QM} {st : List CV} {L : QL} {a : Nat} (hk : q_kd M a = (1, 13)) : Rr C mX13_join (73, L, qr a :: st, M) x = Rr C mX13_join (76, L, q_fv M a 0 :: st, M) x := g_getf (ow := 13) (e := (13, 0, RX13, 1301, 0)) (show decode cX13_join 73 = .ok (.getfield 10, 3) by decide +kernel) rfl hk
set_option maxRecDepth 20000 in
theorem kX13_join_76 {C : QC} {x : QP} {M : QM} {st : List CV} {L : QL} : Rr C mX13_join (76, L, st, M) x = Rr C mX13_join (78, L, qi 7 :: st, M) x := g_pl (show decode cX13_join 76 = .ok (.bipush 7, 2) by decide +kernel) rfl
set_option maxRecDepth 20000 in
theorem kX13_join_78 {C : QC} {x : QP} {M : QM} {st : List CV} {L : QL} {l0 l1 l2 l3 : Option CV} {z : Int} : Rr C mX13_join (78, [l0, l1, l2, some (qi z)], st, M) x = Rr C mX13_join (79, [l0, l1, l2, some (qi z)], qi z :: st, M) x := g_pl (show decode cX13_join 78 = .ok (.iload_n 3, 1) by decide +kernel) rfl
set_option maxRecDepth 20000 in
theorem kX13_join_79 {C : QC} {x : QP} {M : QM} {st : List CV} {L : QL} {a b : Int} : Rr C mX13_join (79, L, qi b :: qi a :: st, M) x = Rr C mX13_join (80, L, qi (a + b) :: st, M) x := g_pl (show decode cX13_join 79 = .ok (.iadd, 1) by decide +kernel) rfl
set_option maxRecDepth 20000 in
theorem kX13_join_80 {C : QC} {x : QP} {M : QM} {st : List CV} {L : QL} {a : Nat} {j : Int} (hk : (q_kd M a).1 = 2) (h0 : 0 ≤ j) (h1 : j < ((q_kd M a).2 : Int)) : Rr C mX13_join (80, L, qi j :: qr a :: st, M) x = Rr C mX13_join (81, L, q_fv M a j.toNat :: st, M) x := g_iald (show decode cX13_join 80 = .ok (.iaload, 1) by decide +kernel) hk h0 h1
set_option maxRecDepth 20000 in
theorem kX13_join_81 {C : QC} {x : QP} {M : QM} {L : QL} {rest : List CV} {a0 a1 a2 : CV} {v : CV} {M1 : QM} {b : Nat} (hb : q_kd M b = (1, 13)) (hC : C iX13_part [qr b, a0, a1, a2] M (some v) M1) (hw : (rest.map q_wd).sum ≤ 8) (k : Rr C mX13_join (84, L, v :: rest, M1) x) : Rr C mX13_join (81, L, a2 :: a1 :: a0 :: qr b :: rest, M) x := g_cv (ow := 13) (e := (0, 258, 13, [1595, 1597, 69, 94])) (as := [a0, a1, a2]) (show decode cX13_join 81 = .ok (.invokevirtual 205, 3) by decide +kernel) rfl rfl rfl (Or.inl rfl) rfl hb hC hw k
set_option maxRecDepth 20000 in
theorem kX13_join_84 {C : QC} {x : QP} {M : QM} {st : List CV} {L : QL} {z : Int} : Rr C mX13_join (84, L, [qi z], M) x = x (some (qi z)) M := g_iret (show decode cX13_join 84 = .ok (.ireturn, 1) by decide +kernel) rfl
set_option maxRecDepth 20000 in
theorem eX13_join {d : Nat} {M : QM} {x : QP} {a : Nat} {v0 : Int} {v1 : Int} {v2 : Int} : q_T (d + 1) iX13_join [qr a, qi v0, qi v1, qi v2] M x = Rr (q_C d) mX13_join (0, [some (qr a), some (qi v0), some (qi v1), some (qi v2)], [], M) x := g_entryT (e := _) rfl (Nat.le_of_ble_eq_true rfl) rfl rfl
def mX13_drop : QI := (13, cX13_drop, false, some .int)
set_option maxRecDepth 20000 in
theorem kX13_drop_0 {C : QC} {x : QP} {M : QM} {st : List CV} {L : QL} {l0 l1 l2 : Option CV} {r : Option Nat} : Rr C mX13_drop (0, [some (.inr (.inr r)), l1, l2], st, M) x = Rr C mX13_drop (1, [some (.inr (.inr r)), l1, l2], .inr (.inr r) :: st, M) x := g_pl (show decode cX13_drop 0 = .ok (.aload_n 0, 1) by decide +kernel) rfl
set_option maxRecDepth 20000 in
theorem kX13_drop_1 {C : QC} {x : QP} {M : QM} {st : List CV} {L : QL} {l0 l1 l2 : Option CV} {z : Int} : Rr C mX13_drop (1, [l0, some (qi z), l2], st, M) x = Rr C mX13_drop (2, [l0, some (qi z), l2], qi z :: st, M) x := g_pl (show decode cX13_drop 1 = .ok (.iload_n 1, 1) by decide +kernel) rfl
set_option maxRecDepth 20000 in
theorem kX13_drop_2 {C : QC} {x : QP} {M : QM} {L : QL} {rest : List CV} {a0 : CV} {v : CV} {M1 : QM} {b : Nat} (hb : q_kd M b = (1, 13)) (hC : C iX13_isFilter [qr b, a0] M (some v) M1) (hw : (rest.map q_wd).sum ≤ 8) (k : Rr C mX13_drop (5, L, v :: rest, M1) x) : Rr C mX13_drop (2, L, a0 :: qr b :: rest, M) x := g_cv (ow := 13) (e := (0, 260, 13, [1603, 1605, 70, 94])) (as := [a0]) (show decode cX13_drop 2 = .ok (.invokevirtual 208, 3) by decide +kernel) rfl rfl rfl (Or.inl rfl) rfl hb hC hw k
set_option maxRecDepth 20000 in
theorem kX13_drop_5 {C : QC} {x : QP} {M : QM} {st : List CV} {L : QL} {a : Int} (ha1 : -2147483648 ≤ a) (ha2 : a < 2147483648) : Rr C mX13_drop (5, L, qi a :: st, M) x = (if a = 0 then Rr C mX13_drop (8, L, st, M) x else Rr C mX13_drop (10, L, st, M) x) := (g_if (show decode cX13_drop 5 = .ok (.ifCond .ne 5, 3) by decide +kernel) rfl ha1 ha2).trans (g_itn c_ne)
set_option maxRecDepth 20000 in
theorem kX13_drop_8 {C : QC} {x : QP} {M : QM} {st : List CV} {L : QL} : Rr C mX13_drop (8, L, st, M) x = Rr C mX13_drop (9, L, qi (-1) :: st, M) x := g_pl (show decode cX13_drop 8 = .ok (.iconst (-1), 1) by decide +kernel) rfl
set_option maxRecDepth 20000 in
theorem kX13_drop_9 {C : QC} {x : QP} {M : QM} {st : List CV} {L : QL} {z : Int} : Rr C mX13_drop (9, L, [qi z], M) x = x (some (qi z)) M := g_iret (show decode cX13_drop 9 = .ok (.ireturn, 1) by decide +kernel) rfl
set_option maxRecDepth 20000 in
theorem kX13_drop_10 {C : QC} {x : QP} {M : QM} {st : List CV} {L : QL} {l0 l1 l2 : Option CV} {r : Option Nat} : Rr C mX13_drop (10, [some (.inr (.inr r)), l1, l2], st, M) x = Rr C mX13_drop (11, [some (.inr (.inr r)), l1, l2], .inr (.inr r) :: st, M) x := g_pl (show decode cX13_drop 10 = .ok (.aload_n 0, 1) by decide +kernel) rfl
set_option maxRecDepth 20000 in
theorem kX13_drop_11 {C : QC} {x : QP} {M : QM} {L : QL} {rest : List CV} {M1 : QM} {b : Nat} (hb : q_kd M b = (1, 13)) (hC : C iX13_keeps [qr b] M none M1) (hw : (rest.map q_wd).sum ≤ 8) (k : Rr C mX13_drop (14, L, rest, M1) x) : Rr C mX13_drop (11, L, qr b :: rest, M) x := g_cv (ow := 13) (e := (0, 211, 13, [1407, 1409, 36, 94])) (as := []) (show decode cX13_drop 11 = .ok (.invokevirtual 140, 3) by decide +kernel) rfl rfl rfl (Or.inl rfl) rfl hb hC hw k
set_option maxRecDepth 20000 in
theorem kX13_drop_14 {C : QC} {x : QP} {M : QM} {st : List CV} {L : QL} {l0 l1 l2 : Option CV} {r : Option Nat} : Rr C mX13_drop (14, [some (.inr (.inr r)), l1, l2], st, M) x = Rr C mX13_drop (15, [some (.inr (.inr r)), l1, l2], .inr (.inr r) :: st, M) x := g_pl (show decode cX13_drop 14 = .ok (.aload_n 0, 1) by decide +kernel) rfl
set_option maxRecDepth 20000 in
theorem kX13_drop_15 {C : QC} {x : QP} {M : QM} {st : List CV} {L : QL} {a : Nat} (hk : q_kd M a = (1, 13)) : Rr C mX13_drop (15, L, qr a :: st, M) x = Rr C mX13_drop (18, L, q_fv M a 0 :: st, M) x := g_getf (ow := 13) (e := (13, 0, RX13, 1301, 0)) (show decode cX13_drop 15 = .ok (.getfield 10, 3) by decide +kernel) rfl hk
set_option maxRecDepth 20000 in
theorem kX13_drop_18 {C : QC} {x : QP} {M : QM} {st : List CV} {L : QL} : Rr C mX13_drop (18, L, st, M) x = Rr C mX13_drop (19, L, qi 4 :: st, M) x := g_pl (show decode cX13_drop 18 = .ok (.iconst 4, 1) by decide +kernel) rfl
set_option maxRecDepth 20000 in
theorem kX13_drop_19 {C : QC} {x : QP} {M : QM} {st : List CV} {L : QL} {a : Int} {b : Option Nat} : Rr C mX13_drop (19, L, qi a :: .inr (.inr b) :: st, M) x = Rr C mX13_drop (20, L, qi a :: .inr (.inr b) :: qi a :: .inr (.inr b) :: st, M) x := g_pl (show decode cX13_drop 19 = .ok (.dup2, 1) by decide +kernel) rfl
set_option maxRecDepth 20000 in
theorem kX13_drop_20 {C : QC} {x : QP} {M : QM} {st : List CV} {L : QL} {a : Nat} {j : Int} (hk : (q_kd M a).1 = 2) (h0 : 0 ≤ j) (h1 : j < ((q_kd M a).2 : Int)) : Rr C mX13_drop (20, L, qi j :: qr a :: st, M) x = Rr C mX13_drop (21, L, q_fv M a j.toNat :: st, M) x := g_iald (show decode cX13_drop 20 = .ok (.iaload, 1) by decide +kernel) hk h0 h1
set_option maxRecDepth 20000 in
theorem kX13_drop_21 {C : QC} {x : QP} {M : QM} {st : List CV} {L : QL} : Rr C mX13_drop (21, L, st, M) x = Rr C mX13_drop (22, L, qi 1 :: st, M) x := g_pl (show decode cX13_drop 21 = .ok (.iconst 1, 1) by decide +kernel) rfl
set_option maxRecDepth 20000 in
theorem kX13_drop_22 {C : QC} {x : QP} {M : QM} {st : List CV} {L : QL} {a b : Int} : Rr C mX13_drop (22, L, qi b :: qi a :: st, M) x = Rr C mX13_drop (23, L, qi (a - b) :: st, M) x := g_pl (show decode cX13_drop 22 = .ok (.isub, 1) by decide +kernel) rfl
set_option maxRecDepth 20000 in
theorem kX13_drop_23 {C : QC} {x : QP} {M : QM} {st : List CV} {L : QL} {a : Nat} {j v : Int} (hk : (q_kd M a).1 = 2) (h0 : 0 ≤ j) (h1 : j < ((q_kd M a).2 : Int)) : Rr C mX13_drop (23, L, qi v :: qi j :: qr a :: st, M) x = Rr C mX13_drop (24, L, st, q_wr M a j.toNat (qi v)) x := g_iast (show decode cX13_drop 23 = .ok (.iastore, 1) by decide +kernel) hk h0 h1
set_option maxRecDepth 20000 in
theorem kX13_drop_24 {C : QC} {x : QP} {M : QM} {st : List CV} {L : QL} {l0 l1 l2 : Option CV} {z : Int} : Rr C mX13_drop (24, [l0, some (qi z), l2], st, M) x = Rr C mX13_drop (25, [l0, some (qi z), l2], qi z :: st, M) x := g_pl (show decode cX13_drop 24 = .ok (.iload_n 1, 1) by decide +kernel) rfl
set_option maxRecDepth 20000 in
theorem kX13_drop_25 {C : QC} {x : QP} {M : QM} {st : List CV} {L : QL} {l0 l1 l2 : Option CV} {z : Int} : Rr C mX13_drop (25, [l0, l1, l2], qi z :: st, M) x = Rr C mX13_drop (26, [l0, q_cut l1, some (qi z)], st, M) x := g_pl (show decode cX13_drop 25 = .ok (.istore_n 2, 1) by decide +kernel) rfl
set_option maxRecDepth 20000 in
theorem kX13_drop_26 {C : QC} {x : QP} {M : QM} {st : List CV} {L : QL} {l0 l1 l2 : Option CV} {z : Int} : Rr C mX13_drop (26, [l0, l1, some (qi z)], st, M) x = Rr C mX13_drop (27, [l0, l1, some (qi z)], qi z :: st, M) x := g_pl (show decode cX13_drop 26 = .ok (.iload_n 2, 1) by decide +kernel) rfl
set_option maxRecDepth 20000 in
theorem kX13_drop_27 {C : QC} {x : QP} {M : QM} {st : List CV} {L : QL} {l0 l1 l2 : Option CV} {r : Option Nat} : Rr C mX13_drop (27, [some (.inr (.inr r)), l1, l2], st, M) x = Rr C mX13_drop (28, [some (.inr (.inr r)), l1, l2], .inr (.inr r) :: st, M) x := g_pl (show decode cX13_drop 27 = .ok (.aload_n 0, 1) by decide +kernel) rfl
set_option maxRecDepth 20000 in
theorem kX13_drop_28 {C : QC} {x : QP} {M : QM} {st : List CV} {L : QL} {a : Nat} (hk : q_kd M a = (1, 13)) : Rr C mX13_drop (28, L, qr a :: st, M) x = Rr C mX13_drop (31, L, q_fv M a 0 :: st, M) x := g_getf (ow := 13) (e := (13, 0, RX13, 1301, 0)) (show decode cX13_drop 28 = .ok (.getfield 10, 3) by decide +kernel) rfl hk
set_option maxRecDepth 20000 in
theorem kX13_drop_31 {C : QC} {x : QP} {M : QM} {st : List CV} {L : QL} : Rr C mX13_drop (31, L, st, M) x = Rr C mX13_drop (32, L, qi 4 :: st, M) x := g_pl (show decode cX13_drop 31 = .ok (.iconst 4, 1) by decide +kernel) rfl
set_option maxRecDepth 20000 in
theorem kX13_drop_32 {C : QC} {x : QP} {M : QM} {st : List CV} {L : QL} {a : Nat} {j : Int} (hk : (q_kd M a).1 = 2) (h0 : 0 ≤ j) (h1 : j < ((q_kd M a).2 : Int)) : Rr C mX13_drop (32, L, qi j :: qr a :: st, M) x = Rr C mX13_drop (33, L, q_fv M a j.toNat :: st, M) x := g_iald (show decode cX13_drop 32 = .ok (.iaload, 1) by decide +kernel) hk h0 h1
set_option maxRecDepth 20000 in
theorem kX13_drop_33 {C : QC} {x : QP} {M : QM} {st : List CV} {L : QL} {a b : Int} (ha1 : -2147483648 ≤ a) (ha2 : a < 2147483648) (hb1 : -2147483648 ≤ b) (hb2 : b < 2147483648) : Rr C mX13_drop (33, L, qi b :: qi a :: st, M) x = (if a < b then Rr C mX13_drop (36, L, st, M) x else Rr C mX13_drop (62, L, st, M) x) := (g_icmp (show decode cX13_drop 33 = .ok (.if_icmp .ge 29, 3) by decide +kernel) rfl ha1 ha2 hb1 hb2).trans (g_itn c_ge)
set_option maxRecDepth 20000 in
theorem kX13_drop_36 {C : QC} {x : QP} {M : QM} {st : List CV} {L : QL} {l0 l1 l2 : Option CV} {r : Option Nat} : Rr C mX13_drop (36, [some (.inr (.inr r)), l1, l2], st, M) x = Rr C mX13_drop (37, [some (.inr (.inr r)), l1, l2], .inr (.inr r) :: st, M) x := g_pl (show decode cX13_drop 36 = .ok (.aload_n 0, 1) by decide +kernel) rfl
set_option maxRecDepth 20000 in
theorem kX13_drop_37 {C : QC} {x : QP} {M : QM} {st : List CV} {L : QL} {a : Nat} (hk : q_kd M a = (1, 13)) : Rr C mX13_drop (37, L, qr a :: st, M) x = Rr C mX13_drop (40, L, q_fv M a 0 :: st, M) x := g_getf (ow := 13) (e := (13, 0, RX13, 1301, 0)) (show decode cX13_drop 37 = .ok (.getfield 10, 3) by decide +kernel) rfl hk
set_option maxRecDepth 20000 in
theorem kX13_drop_40 {C : QC} {x : QP} {M : QM} {st : List CV} {L : QL} : Rr C mX13_drop (40, L, st, M) x = Rr C mX13_drop (42, L, qi 7 :: st, M) x := g_pl (show decode cX13_drop 40 = .ok (.bipush 7, 2) by decide +kernel) rfl
set_option maxRecDepth 20000 in
theorem kX13_drop_42 {C : QC} {x : QP} {M : QM} {st : List CV} {L : QL} {l0 l1 l2 : Option CV} {z : Int} : Rr C mX13_drop (42, [l0, l1, some (qi z)], st, M) x = Rr C mX13_drop (43, [l0, l1, some (qi z)], qi z :: st, M) x := g_pl (show decode cX13_drop 42 = .ok (.iload_n 2, 1) by decide +kernel) rfl
set_option maxRecDepth 20000 in
theorem kX13_drop_43 {C : QC} {x : QP} {M : QM} {st : List CV} {L : QL} {a b : Int} : Rr C mX13_drop (43, L, qi b :: qi a :: st, M) x = Rr C mX13_drop (44, L, qi (a + b) :: st, M) x := g_pl (show decode cX13_drop 43 = .ok (.iadd, 1) by decide +kernel) rfl
set_option maxRecDepth 20000 in
theorem kX13_drop_44 {C : QC} {x : QP} {M : QM} {st : List CV} {L : QL} {l0 l1 l2 : Option CV} {r : Option Nat} : Rr C mX13_drop (44, [some (.inr (.inr r)), l1, l2], st, M) x = Rr C mX13_drop (45, [some (.inr (.inr r)), l1, l2], .inr (.inr r) :: st, M) x := g_pl (show decode cX13_drop 44 = .ok (.aload_n 0, 1) by decide +kernel) rfl
set_option maxRecDepth 20000 in
theorem kX13_drop_45 {C : QC} {x : QP} {M : QM} {st : List CV} {L : QL} {a : Nat} (hk : q_kd M a = (1, 13)) : Rr C mX13_drop (45, L, qr a :: st, M) x = Rr C mX13_drop (48, L, q_fv M a 0 :: st, M) x := g_getf (ow := 13) (e := (13, 0, RX13, 1301, 0)) (show decode cX13_drop 45 = .ok (.getfield 10, 3) by decide +kernel) rfl hk
set_option maxRecDepth 20000 in
theorem kX13_drop_48 {C : QC} {x : QP} {M : QM} {st : List CV} {L : QL} : Rr C mX13_drop (48, L, st, M) x = Rr C mX13_drop (50, L, qi 7 :: st, M) x := g_pl (show decode cX13_drop 48 = .ok (.bipush 7, 2) by decide +kernel) rfl
set_option maxRecDepth 20000 in
theorem kX13_drop_50 {C : QC} {x : QP} {M : QM} {st : List CV} {L : QL} {l0 l1 l2 : Option CV} {z : Int} : Rr C mX13_drop (50, [l0, l1, some (qi z)], st, M) x = Rr C mX13_drop (51, [l0, l1, some (qi z)], qi z :: st, M) x := g_pl (show decode cX13_drop 50 = .ok (.iload_n 2, 1) by decide +kernel) rfl
set_option maxRecDepth 20000 in
theorem kX13_drop_51 {C : QC} {x : QP} {M : QM} {st : List CV} {L : QL} {a b : Int} : Rr C mX13_drop (51, L, qi b :: qi a :: st, M) x = Rr C mX13_drop (52, L, qi (a + b) :: st, M) x := g_pl (show decode cX13_drop 51 = .ok (.iadd, 1) by decide +kernel) rfl
set_option maxRecDepth 20000 in
theorem kX13_drop_52 {C : QC} {x : QP} {M : QM} {st : List CV} {L : QL} : Rr C mX13_drop (52, L, st, M) x = Rr C mX13_drop (53, L, qi 1 :: st, M) x := g_pl (show decode cX13_drop 52 = .ok (.iconst 1, 1) by decide +kernel) rfl
set_option maxRecDepth 20000 in
theorem kX13_drop_53 {C : QC} {x : QP} {M : QM} {st : List CV} {L : QL} {a b : Int} : Rr C mX13_drop (53, L, qi b :: qi a :: st, M) x = Rr C mX13_drop (54, L, qi (a + b) :: st, M) x := g_pl (show decode cX13_drop 53 = .ok (.iadd, 1) by decide +kernel) rfl
set_option maxRecDepth 20000 in
theorem kX13_drop_54 {C : QC} {x : QP} {M : QM} {st : List CV} {L : QL} {a : Nat} {j : Int} (hk : (q_kd M a).1 = 2) (h0 : 0 ≤ j) (h1 : j < ((q_kd M a).2 : Int)) : Rr C mX13_drop (54, L, qi j :: qr a :: st, M) x = Rr C mX13_drop (55, L, q_fv M a j.toNat :: st, M) x := g_iald (show decode cX13_drop 54 = .ok (.iaload, 1) by decide +kernel) hk h0 h1
set_option maxRecDepth 20000 in
theorem kX13_drop_55 {C : QC} {x : QP} {M : QM} {st : List CV} {L : QL} {a : Nat} {j v : Int} (hk : (q_kd M a).1 = 2) (h0 : 0 ≤ j) (h1 : j < ((q_kd M a).2 : Int)) : Rr C mX13_drop (55, L, qi v :: qi j :: qr a :: st, M) x = Rr C mX13_drop (56, L, st, q_wr M a j.toNat (qi v)) x := g_iast (show decode cX13_drop 55 = .ok (.iastore, 1) by decide +kernel) hk h0 h1
set_option maxRecDepth 20000 in
theorem kX13_drop_56 {C : QC} {x : QP} {M : QM} {st : List CV} {L : QL} {l0 l1 l2 : Option CV} {z : Int} : Rr C mX13_drop (56, [l0, l1, some (qi z)], st, M) x = Rr C mX13_drop (59, [l0, q_cut l1, some (qi (z + 1))], st, M) x := g_pl (show decode cX13_drop 56 = .ok (.iinc 2 1, 3) by decide +kernel) rfl
set_option maxRecDepth 20000 in
theorem kX13_drop_59 {C : QC} {x : QP} {M : QM} {st : List CV} {L : QL} : Rr C mX13_drop (59, L, st, M) x = Rr C mX13_drop (26, L, st, M) x := g_pl (show decode cX13_drop 59 = .ok (.goto (-33), 3) by decide +kernel) rfl
set_option maxRecDepth 20000 in
theorem kX13_drop_62 {C : QC} {x : QP} {M : QM} {st : List CV} {L : QL} {l0 l1 l2 : Option CV} {r : Option Nat} : Rr C mX13_drop (62, [some (.inr (.inr r)), l1, l2], st, M) x = Rr C mX13_drop (63, [some (.inr (.inr r)), l1, l2], .inr (.inr r) :: st, M) x := g_pl (show decode cX13_drop 62 = .ok (.aload_n 0, 1) by decide +kernel) rfl
set_option maxRecDepth 20000 in
theorem kX13_drop_63 {C : QC} {x : QP} {M : QM} {st : List CV} {L : QL} {a : Nat} (hk : q_kd M a = (1, 13)) : Rr C mX13_drop (63, L, qr a :: st, M) x = Rr C mX13_drop (66, L, q_fv M a 0 :: st, M) x := g_getf (ow := 13) (e := (13, 0, RX13, 1301, 0)) (show decode cX13_drop 63 = .ok (.getfield 10, 3) by decide +kernel) rfl hk
set_option maxRecDepth 20000 in
theorem kX13_drop_66 {C : QC} {x : QP} {M : QM} {st : List CV} {L : QL} : Rr C mX13_drop (66, L, st, M) x = Rr C mX13_drop (67, L, qi 4 :: st, M) x := g_pl (show decode cX13_drop 66 = .ok (.iconst 4, 1) by decide +kernel) rfl
set_option maxRecDepth 20000 in
theorem kX13_drop_67 {C : QC} {x : QP} {M : QM} {st : List CV} {L : QL} {a : Nat} {j : Int} (hk : (q_kd M a).1 = 2) (h0 : 0 ≤ j) (h1 : j < ((q_kd M a).2 : Int)) : Rr C mX13_drop (67, L, qi j :: qr a :: st, M) x = Rr C mX13_drop (68, L, q_fv M a j.toNat :: st, M) x := g_iald (show decode cX13_drop 67 = .ok (.iaload, 1) by decide +kernel) hk h0 h1
set_option maxRecDepth 20000 in
theorem kX13_drop_68 {C : QC} {x : QP} {M : QM} {st : List CV} {L : QL} {z : Int} : Rr C mX13_drop (68, L, [qi z], M) x = x (some (qi z)) M := g_iret (show decode cX13_drop 68 = .ok (.ireturn, 1) by decide +kernel) rfl
set_option maxRecDepth 20000 in
theorem eX13_drop {d : Nat} {M : QM} {x : QP} {a : Nat} {v0 : Int} : q_T (d + 1) iX13_drop [qr a, qi v0] M x = Rr (q_C d) mX13_drop (0, [some (qr a), some (qi v0), none], [], M) x := g_entryT (e := _) rfl (Nat.le_of_ble_eq_true rfl) rfl rfl
def mX13_isAbove : QI := (13, cX13_isAbove, false, some .boolean)
set_option maxRecDepth 20000 in
theorem kX13_isAbove_0 {C : QC} {x : QP} {M : QM} {st : List CV} {L : QL} {l0 l1 l2 l3 l4 : Option CV} {r : Option Nat} : Rr C mX13_isAbove (0, [some (.inr (.inr r)), l1, l2, l3, l4], st, M) x = Rr C mX13_isAbove (1, [some (.inr (.inr r)), l1, l2, l3, l4], .inr (.inr r) :: st, M) x := g_pl (show decode cX13_isAbove 0 = .ok (.aload_n 0, 1) by decide +kernel) rfl
set_option maxRecDepth 20000 in
theorem kX13_isAbove_1 {C : QC} {x : QP} {M : QM} {st : List CV} {L : QL} {l0 l1 l2 l3 l4 : Option CV} {z : Int} : Rr C mX13_isAbove (1, [l0, some (qi z), l2, l3, l4], st, M) x = Rr C mX13_isAbove (2, [l0, some (qi z), l2, l3, l4], qi z :: st, M) x := g_pl (show decode cX13_isAbove 1 = .ok (.iload_n 1, 1) by decide +kernel) rfl
set_option maxRecDepth 20000 in
theorem kX13_isAbove_2 {C : QC} {x : QP} {M : QM} {st : List CV} {L : QL} {l0 l1 l2 l3 l4 : Option CV} {z : Int} : Rr C mX13_isAbove (2, [l0, l1, some (qi z), l3, l4], st, M) x = Rr C mX13_isAbove (3, [l0, l1, some (qi z), l3, l4], qi z :: st, M) x := g_pl (show decode cX13_isAbove 2 = .ok (.iload_n 2, 1) by decide +kernel) rfl
set_option maxRecDepth 20000 in
theorem kX13_isAbove_3 {C : QC} {x : QP} {M : QM} {L : QL} {rest : List CV} {a0 a1 : CV} {v : CV} {M1 : QM} {b : Nat} (hb : q_kd M b = (1, 13)) (hC : C iX13_parentOn [qr b, a0, a1] M (some v) M1) (hw : (rest.map q_wd).sum ≤ 8) (k : Rr C mX13_isAbove (6, L, v :: rest, M1) x) : Rr C mX13_isAbove (3, L, a1 :: a0 :: qr b :: rest, M) x := g_cv (ow := 13) (e := (0, 227, 13, [1471, 1473, 50, 94])) (as := [a0, a1]) (show decode cX13_isAbove 3 = .ok (.invokevirtual 66, 3) by decide +kernel) rfl rfl rfl (Or.inl rfl) rfl hb hC hw k
set_option maxRecDepth 20000 in
theorem kX13_isAbove_6 {C : QC} {x : QP} {M : QM} {st : List CV} {L : QL} {l0 l1 l2 l3 l4 : Option CV} {z : Int} : Rr C mX13_isAbove (6, [l0, l1, l2, l3, l4], qi z :: st, M) x = Rr C mX13_isAbove (8, [l0, l1, l2, q_cut l3, some (qi z)], st, M) x := g_pl (show decode cX13_isAbove 6 = .ok (.istore 4, 2) by decide +kernel) rfl
set_option maxRecDepth 20000 in
theorem kX13_isAbove_8 {C : QC} {x : QP} {M : QM} {st : List CV} {L : QL} {l0 l1 l2 l3 l4 : Option CV} {z : Int} : Rr C mX13_isAbove (8, [l0, l1, l2, l3, some (qi z)], st, M) x = Rr C mX13_isAbove (10, [l0, l1, l2, l3, some (qi z)], qi z :: st, M) x := g_pl (show decode cX13_isAbove 8 = .ok (.iload 4, 2) by decide +kernel) rfl
set_option maxRecDepth 20000 in
theorem kX13_isAbove_10 {C : QC} {x : QP} {M : QM} {st : List CV} {L : QL} {a : Int} (ha1 : -2147483648 ≤ a) (ha2 : a < 2147483648) : Rr C mX13_isAbove (10, L, qi a :: st, M) x = (if a < 0 then Rr C mX13_isAbove (33, L, st, M) x else Rr C mX13_isAbove (13, L, st, M) x) := (g_if (show decode cX13_isAbove 10 = .ok (.ifCond .lt 23, 3) by decide +kernel) rfl ha1 ha2).trans (g_ite c_lt)
set_option maxRecDepth 20000 in
theorem kX13_isAbove_13 {C : QC} {x : QP} {M : QM} {st : List CV} {L : QL} {l0 l1 l2 l3 l4 : Option CV} {z : Int} : Rr C mX13_isAbove (13, [l0, l1, l2, l3, some (qi z)], st, M) x = Rr C mX13_isAbove (15, [l0, l1, l2, l3, some (qi z)], qi z :: st, M) x := g_pl (show decode cX13_isAbove 13 = .ok (.iload 4, 2) by decide +kernel) rfl
set_option maxRecDepth 20000 in
theorem kX13_isAbove_15 {C : QC} {x : QP} {M : QM} {st : List CV} {L : QL} {l0 l1 l2 l3 l4 : Option CV} {z : Int} : Rr C mX13_isAbove (15, [l0, l1, l2, some (qi z), l4], st, M) x = Rr C mX13_isAbove (16, [l0, l1, l2, some (qi z), l4], qi z :: st, M) x := g_pl (show decode cX13_isAbove 15 = .ok (.iload_n 3, 1) by decide +kernel) rfl
set_option maxRecDepth 20000 in
theorem kX13_isAbove_16 {C : QC} {x : QP} {M : QM} {st : List CV} {L : QL} {a b : Int} (ha1 : -2147483648 ≤ a) (ha2 : a < 2147483648) (hb1 : -2147483648 ≤ b) (hb2 : b < 2147483648) : Rr C mX13_isAbove (16, L, qi b :: qi a :: st, M) x = (if a = b then Rr C mX13_isAbove (19, L, st, M) x else Rr C mX13_isAbove (21, L, st, M) x) := (g_icmp (show decode cX13_isAbove 16 = .ok (.if_icmp .ne 5, 3) by decide +kernel) rfl ha1 ha2 hb1 hb2).trans (g_itn c_ne)
set_option maxRecDepth 20000 in
theorem kX13_isAbove_19 {C : QC} {x : QP} {M : QM} {st : List CV} {L : QL} : Rr C mX13_isAbove (19, L, st, M) x = Rr C mX13_isAbove (20, L, qi 1 :: st, M) x := g_pl (show decode cX13_isAbove 19 = .ok (.iconst 1, 1) by decide +kernel) rfl
set_option maxRecDepth 20000 in
theorem kX13_isAbove_20 {C : QC} {x : QP} {M : QM} {st : List CV} {L : QL} {z : Int} (hz : z = 0 ∨ z = 1) : Rr C mX13_isAbove (20, L, [qi z], M) x = x (some (qi z)) M := g_iret (show decode cX13_isAbove 20 = .ok (.ireturn, 1) by decide +kernel) (by rcases hz with rfl | rfl <;> rfl)
set_option maxRecDepth 20000 in
theorem kX13_isAbove_21 {C : QC} {x : QP} {M : QM} {st : List CV} {L : QL} {l0 l1 l2 l3 l4 : Option CV} {r : Option Nat} : Rr C mX13_isAbove (21, [some (.inr (.inr r)), l1, l2, l3, l4], st, M) x = Rr C mX13_isAbove (22, [some (.inr (.inr r)), l1, l2, l3, l4], .inr (.inr r) :: st, M) x := g_pl (show decode cX13_isAbove 21 = .ok (.aload_n 0, 1) by decide +kernel) rfl
set_option maxRecDepth 20000 in
theorem kX13_isAbove_22 {C : QC} {x : QP} {M : QM} {st : List CV} {L : QL} {l0 l1 l2 l3 l4 : Option CV} {z : Int} : Rr C mX13_isAbove (22, [l0, l1, l2, l3, some (qi z)], st, M) x = Rr C mX13_isAbove (24, [l0, l1, l2, l3, some (qi z)], qi z :: st, M) x := g_pl (show decode cX13_isAbove 22 = .ok (.iload 4, 2) by decide +kernel) rfl
set_option maxRecDepth 20000 in
theorem kX13_isAbove_24 {C : QC} {x : QP} {M : QM} {st : List CV} {L : QL} {l0 l1 l2 l3 l4 : Option CV} {z : Int} : Rr C mX13_isAbove (24, [l0, l1, some (qi z), l3, l4], st, M) x = Rr C mX13_isAbove (25, [l0, l1, some (qi z), l3, l4], qi z :: st, M) x := g_pl (show decode cX13_isAbove 24 = .ok (.iload_n 2, 1) by decide +kernel) rfl
set_option maxRecDepth 20000 in
theorem kX13_isAbove_25 {C : QC} {x : QP} {M : QM} {L : QL} {rest : List CV} {a0 a1 : CV} {v : CV} {M1 : QM} {b : Nat} (hb : q_kd M b = (1, 13)) (hC : C iX13_parentOn [qr b, a0, a1] M (some v) M1) (hw : (rest.map q_wd).sum ≤ 8) (k : Rr C mX13_isAbove (28, L, v :: rest, M1) x) : Rr C mX13_isAbove (25, L, a1 :: a0 :: qr b :: rest, M) x := g_cv (ow := 13) (e := (0, 227, 13, [1471, 1473, 50, 94])) (as := [a0, a1]) (show decode cX13_isAbove 25 = .ok (.invokevirtual 66, 3) by decide +kernel) rfl rfl rfl (Or.inl rfl) rfl hb hC hw k
set_option maxRecDepth 20000 in
theorem kX13_isAbove_28 {C : QC} {x : QP} {M : QM} {st : List CV} {L : QL} {l0 l1 l2 l3 l4 : Option CV} {z : Int} : Rr C mX13_isAbove (28, [l0, l1, l2, l3, l4], qi z :: st, M) x = Rr C mX13_isAbove (30, [l0, l1, l2, q_cut l3, some (qi z)], st, M) x := g_pl (show decode cX13_isAbove 28 = .ok (.istore 4, 2) by decide +kernel) rfl
set_option maxRecDepth 20000 in
theorem kX13_isAbove_30 {C : QC} {x : QP} {M : QM} {st : List CV} {L : QL} : Rr C mX13_isAbove (30, L, st, M) x = Rr C mX13_isAbove (8, L, st, M) x := g_pl (show decode cX13_isAbove 30 = .ok (.goto (-22), 3) by decide +kernel) rfl
set_option maxRecDepth 20000 in
theorem kX13_isAbove_33 {C : QC} {x : QP} {M : QM} {st : List CV} {L : QL} : Rr C mX13_isAbove (33, L, st, M) x = Rr C mX13_isAbove (34, L, qi 0 :: st, M) x := g_pl (show decode cX13_isAbove 33 = .ok (.iconst 0, 1) by decide +kernel) rfl
set_option maxRecDepth 20000 in
theorem kX13_isAbove_34 {C : QC} {x : QP} {M : QM} {st : List CV} {L : QL} {z : Int} (hz : z = 0 ∨ z = 1) : Rr C mX13_isAbove (34, L, [qi z], M) x = x (some (qi z)) M := g_iret (show decode cX13_isAbove 34 = .ok (.ireturn, 1) by decide +kernel) (by rcases hz with rfl | rfl <;> rfl)
set_option maxRecDepth 20000 in
theorem eX13_isAbove {d : Nat} {M : QM} {x : QP} {a : Nat} {v0 : Int} {v1 : Int} {v2 : Int} : q_T (d + 1) iX13_isAbove [qr a, qi v0, qi v1, qi v2] M x = Rr (q_C d) mX13_isAbove (0, [some (qr a), some (qi v0), some (qi v1), some (qi v2), none], [], M) x := g_entryT (e := _) rfl (Nat.le_of_ble_eq_true rfl) rfl rfl
def mX13_isFit : QI := (13, cX13_isFit, false, some .boolean)
set_option maxRecDepth 20000 in
theorem kX13_isFit_0 {C : QC} {x : QP} {M : QM} {st : List CV} {L : QL} {l0 l1 l2 l3 l4 l5 : Option CV} {r : Option Nat} : Rr C mX13_isFit (0, [some (.inr (.inr r)), l1, l2, l3, l4, l5], st, M) x = Rr C mX13_isFit (1, [some (.inr (.inr r)), l1, l2, l3, l4, l5], .inr (.inr r) :: st, M) x := g_pl (show decode cX13_isFit 0 = .ok (.aload_n 0, 1) by decide +kernel) rfl
set_option maxRecDepth 20000 in
theorem kX13_isFit_1 {C : QC} {x : QP} {M : QM} {st : List CV} {L : QL} {a : Nat} (hk : q_kd M a = (1, 13)) : Rr C mX13_isFit (1, L, qr a :: st, M) x = Rr C mX13_isFit (4, L, q_fv M a 0 :: st, M) x := g_getf (ow := 13) (e := (13, 0, RX13, 1301, 0)) (show decode cX13_isFit 1 = .ok (.getfield 10, 3) by decide +kernel) rfl hk
set_option maxRecDepth 20000 in
theorem kX13_isFit_4 {C : QC} {x : QP} {M : QM} {st : List CV} {L : QL} : Rr C mX13_isFit (4, L, st, M) x = Rr C mX13_isFit (7, L, qi 11375 :: st, M) x := g_pl (show decode cX13_isFit 4 = .ok (.sipush 11375, 3) by decide +kernel) rfl
set_option maxRecDepth 20000 in
theorem kX13_isFit_7 {C : QC} {x : QP} {M : QM} {st : List CV} {L : QL} : Rr C mX13_isFit (7, L, st, M) x = Rr C mX13_isFit (8, L, qi 3 :: st, M) x := g_pl (show decode cX13_isFit 7 = .ok (.iconst 3, 1) by decide +kernel) rfl
set_option maxRecDepth 20000 in
theorem kX13_isFit_8 {C : QC} {x : QP} {M : QM} {st : List CV} {L : QL} {l0 l1 l2 l3 l4 l5 : Option CV} {z : Int} : Rr C mX13_isFit (8, [l0, some (qi z), l2, l3, l4, l5], st, M) x = Rr C mX13_isFit (9, [l0, some (qi z), l2, l3, l4, l5], qi z :: st, M) x := g_pl (show decode cX13_isFit 8 = .ok (.iload_n 1, 1) by decide +kernel) rfl
set_option maxRecDepth 20000 in
theorem kX13_isFit_9 {C : QC} {x : QP} {M : QM} {st : List CV} {L : QL} {a b : Int} : Rr C mX13_isFit (9, L, qi b :: qi a :: st, M) x = Rr C mX13_isFit (10, L, qi (a * b) :: st, M) x := g_pl (show decode cX13_isFit 9 = .ok (.imul, 1) by decide +kernel) rfl
set_option maxRecDepth 20000 in
theorem kX13_isFit_10 {C : QC} {x : QP} {M : QM} {st : List CV} {L : QL} {a b : Int} : Rr C mX13_isFit (10, L, qi b :: qi a :: st, M) x = Rr C mX13_isFit (11, L, qi (a + b) :: st, M) x := g_pl (show decode cX13_isFit 10 = .ok (.iadd, 1) by decide +kernel) rfl
set_option maxRecDepth 20000 in
theorem kX13_isFit_11 {C : QC} {x : QP} {M : QM} {st : List CV} {L : QL} : Rr C mX13_isFit (11, L, st, M) x = Rr C mX13_isFit (12, L, qi 1 :: st, M) x := g_pl (show decode cX13_isFit 11 = .ok (.iconst 1, 1) by decide +kernel) rfl
set_option maxRecDepth 20000 in
theorem kX13_isFit_12 {C : QC} {x : QP} {M : QM} {st : List CV} {L : QL} {a b : Int} : Rr C mX13_isFit (12, L, qi b :: qi a :: st, M) x = Rr C mX13_isFit (13, L, qi (a + b) :: st, M) x := g_pl (show decode cX13_isFit 12 = .ok (.iadd, 1) by decide +kernel) rfl
set_option maxRecDepth 20000 in
theorem kX13_isFit_13 {C : QC} {x : QP} {M : QM} {st : List CV} {L : QL} {a : Nat} {j : Int} (hk : (q_kd M a).1 = 2) (h0 : 0 ≤ j) (h1 : j < ((q_kd M a).2 : Int)) : Rr C mX13_isFit (13, L, qi j :: qr a :: st, M) x = Rr C mX13_isFit (14, L, q_fv M a j.toNat :: st, M) x := g_iald (show decode cX13_isFit 13 = .ok (.iaload, 1) by decide +kernel) hk h0 h1
set_option maxRecDepth 20000 in
theorem kX13_isFit_14 {C : QC} {x : QP} {M : QM} {st : List CV} {L : QL} {l0 l1 l2 l3 l4 l5 : Option CV} {z : Int} : Rr C mX13_isFit (14, [l0, l1, l2, l3, l4, l5], qi z :: st, M) x = Rr C mX13_isFit (16, [l0, l1, l2, q_cut l3, some (qi z), l5], st, M) x := g_pl (show decode cX13_isFit 14 = .ok (.istore 4, 2) by decide +kernel) rfl
set_option maxRecDepth 20000 in
theorem kX13_isFit_16 {C : QC} {x : QP} {M : QM} {st : List CV} {L : QL} {l0 l1 l2 l3 l4 l5 : Option CV} {r : Option Nat} : Rr C mX13_isFit (16, [some (.inr (.inr r)), l1, l2, l3, l4, l5], st, M) x = Rr C mX13_isFit (17, [some (.inr (.inr r)), l1, l2, l3, l4, l5], .inr (.inr r) :: st, M) x := g_pl (show decode cX13_isFit 16 = .ok (.aload_n 0, 1) by decide +kernel) rfl
set_option maxRecDepth 20000 in
theorem kX13_isFit_17 {C : QC} {x : QP} {M : QM} {st : List CV} {L : QL} {a : Nat} (hk : q_kd M a = (1, 13)) : Rr C mX13_isFit (17, L, qr a :: st, M) x = Rr C mX13_isFit (20, L, q_fv M a 0 :: st, M) x := g_getf (ow := 13) (e := (13, 0, RX13, 1301, 0)) (show decode cX13_isFit 17 = .ok (.getfield 10, 3) by decide +kernel) rfl hk
set_option maxRecDepth 20000 in
theorem kX13_isFit_20 {C : QC} {x : QP} {M : QM} {st : List CV} {L : QL} : Rr C mX13_isFit (20, L, st, M) x = Rr C mX13_isFit (23, L, qi 11375 :: st, M) x := g_pl (show decode cX13_isFit 20 = .ok (.sipush 11375, 3) by decide +kernel) rfl
set_option maxRecDepth 20000 in
theorem kX13_isFit_23 {C : QC} {x : QP} {M : QM} {st : List CV} {L : QL} : Rr C mX13_isFit (23, L, st, M) x = Rr C mX13_isFit (24, L, qi 3 :: st, M) x := g_pl (show decode cX13_isFit 23 = .ok (.iconst 3, 1) by decide +kernel) rfl
set_option maxRecDepth 20000 in
theorem kX13_isFit_24 {C : QC} {x : QP} {M : QM} {st : List CV} {L : QL} {l0 l1 l2 l3 l4 l5 : Option CV} {z : Int} : Rr C mX13_isFit (24, [l0, some (qi z), l2, l3, l4, l5], st, M) x = Rr C mX13_isFit (25, [l0, some (qi z), l2, l3, l4, l5], qi z :: st, M) x := g_pl (show decode cX13_isFit 24 = .ok (.iload_n 1, 1) by decide +kernel) rfl
set_option maxRecDepth 20000 in
theorem kX13_isFit_25 {C : QC} {x : QP} {M : QM} {st : List CV} {L : QL} {a b : Int} : Rr C mX13_isFit (25, L, qi b :: qi a :: st, M) x = Rr C mX13_isFit (26, L, qi (a * b) :: st, M) x := g_pl (show decode cX13_isFit 25 = .ok (.imul, 1) by decide +kernel) rfl
set_option maxRecDepth 20000 in
theorem kX13_isFit_26 {C : QC} {x : QP} {M : QM} {st : List CV} {L : QL} {a b : Int} : Rr C mX13_isFit (26, L, qi b :: qi a :: st, M) x = Rr C mX13_isFit (27, L, qi (a + b) :: st, M) x := g_pl (show decode cX13_isFit 26 = .ok (.iadd, 1) by decide +kernel) rfl
set_option maxRecDepth 20000 in
theorem kX13_isFit_27 {C : QC} {x : QP} {M : QM} {st : List CV} {L : QL} : Rr C mX13_isFit (27, L, st, M) x = Rr C mX13_isFit (28, L, qi 2 :: st, M) x := g_pl (show decode cX13_isFit 27 = .ok (.iconst 2, 1) by decide +kernel) rfl
set_option maxRecDepth 20000 in
theorem kX13_isFit_28 {C : QC} {x : QP} {M : QM} {st : List CV} {L : QL} {a b : Int} : Rr C mX13_isFit (28, L, qi b :: qi a :: st, M) x = Rr C mX13_isFit (29, L, qi (a + b) :: st, M) x := g_pl (show decode cX13_isFit 28 = .ok (.iadd, 1) by decide +kernel) rfl
set_option maxRecDepth 20000 in
theorem kX13_isFit_29 {C : QC} {x : QP} {M : QM} {st : List CV} {L : QL} {a : Nat} {j : Int} (hk : (q_kd M a).1 = 2) (h0 : 0 ≤ j) (h1 : j < ((q_kd M a).2 : Int)) : Rr C mX13_isFit (29, L, qi j :: qr a :: st, M) x = Rr C mX13_isFit (30, L, q_fv M a j.toNat :: st, M) x := g_iald (show decode cX13_isFit 29 = .ok (.iaload, 1) by decide +kernel) hk h0 h1
set_option maxRecDepth 20000 in
theorem kX13_isFit_30 {C : QC} {x : QP} {M : QM} {st : List CV} {L : QL} {l0 l1 l2 l3 l4 l5 : Option CV} {z : Int} : Rr C mX13_isFit (30, [l0, l1, l2, l3, l4, l5], qi z :: st, M) x = Rr C mX13_isFit (32, [l0, l1, l2, l3, q_cut l4, some (qi z)], st, M) x := g_pl (show decode cX13_isFit 30 = .ok (.istore 5, 2) by decide +kernel) rfl
set_option maxRecDepth 20000 in
theorem kX13_isFit_32 {C : QC} {x : QP} {M : QM} {st : List CV} {L : QL} {l0 l1 l2 l3 l4 l5 : Option CV} {r : Option Nat} : Rr C mX13_isFit (32, [some (.inr (.inr r)), l1, l2, l3, l4, l5], st, M) x = Rr C mX13_isFit (33, [some (.inr (.inr r)), l1, l2, l3, l4, l5], .inr (.inr r) :: st, M) x := g_pl (show decode cX13_isFit 32 = .ok (.aload_n 0, 1) by decide +kernel) rfl
set_option maxRecDepth 20000 in
theorem kX13_isFit_33 {C : QC} {x : QP} {M : QM} {st : List CV} {L : QL} {a : Nat} (hk : q_kd M a = (1, 13)) : Rr C mX13_isFit (33, L, qr a :: st, M) x = Rr C mX13_isFit (36, L, q_fv M a 0 :: st, M) x := g_getf (ow := 13) (e := (13, 0, RX13, 1301, 0)) (show decode cX13_isFit 33 = .ok (.getfield 10, 3) by decide +kernel) rfl hk
set_option maxRecDepth 20000 in
theorem kX13_isFit_36 {C : QC} {x : QP} {M : QM} {st : List CV} {L : QL} : Rr C mX13_isFit (36, L, st, M) x = Rr C mX13_isFit (39, L, qi 11375 :: st, M) x := g_pl (show decode cX13_isFit 36 = .ok (.sipush 11375, 3) by decide +kernel) rfl
set_option maxRecDepth 20000 in
theorem kX13_isFit_39 {C : QC} {x : QP} {M : QM} {st : List CV} {L : QL} : Rr C mX13_isFit (39, L, st, M) x = Rr C mX13_isFit (40, L, qi 3 :: st, M) x := g_pl (show decode cX13_isFit 39 = .ok (.iconst 3, 1) by decide +kernel) rfl
set_option maxRecDepth 20000 in
theorem kX13_isFit_40 {C : QC} {x : QP} {M : QM} {st : List CV} {L : QL} {l0 l1 l2 l3 l4 l5 : Option CV} {z : Int} : Rr C mX13_isFit (40, [l0, some (qi z), l2, l3, l4, l5], st, M) x = Rr C mX13_isFit (41, [l0, some (qi z), l2, l3, l4, l5], qi z :: st, M) x := g_pl (show decode cX13_isFit 40 = .ok (.iload_n 1, 1) by decide +kernel) rfl
set_option maxRecDepth 20000 in
theorem kX13_isFit_41 {C : QC} {x : QP} {M : QM} {st : List CV} {L : QL} {a b : Int} : Rr C mX13_isFit (41, L, qi b :: qi a :: st, M) x = Rr C mX13_isFit (42, L, qi (a * b) :: st, M) x := g_pl (show decode cX13_isFit 41 = .ok (.imul, 1) by decide +kernel) rfl
set_option maxRecDepth 20000 in
theorem kX13_isFit_42 {C : QC} {x : QP} {M : QM} {st : List CV} {L : QL} {a b : Int} : Rr C mX13_isFit (42, L, qi b :: qi a :: st, M) x = Rr C mX13_isFit (43, L, qi (a + b) :: st, M) x := g_pl (show decode cX13_isFit 42 = .ok (.iadd, 1) by decide +kernel) rfl
set_option maxRecDepth 20000 in
theorem kX13_isFit_43 {C : QC} {x : QP} {M : QM} {st : List CV} {L : QL} {a : Nat} {j : Int} (hk : (q_kd M a).1 = 2) (h0 : 0 ≤ j) (h1 : j < ((q_kd M a).2 : Int)) : Rr C mX13_isFit (43, L, qi j :: qr a :: st, M) x = Rr C mX13_isFit (44, L, q_fv M a j.toNat :: st, M) x := g_iald (show decode cX13_isFit 43 = .ok (.iaload, 1) by decide +kernel) hk h0 h1
set_option maxRecDepth 20000 in
theorem kX13_isFit_44 {C : QC} {x : QP} {M : QM} {st : List CV} {L : QL} {a : Int} (ha1 : -2147483648 ≤ a) (ha2 : a < 2147483648) : Rr C mX13_isFit (44, L, qi a :: st, M) x = (if a = 0 then Rr C mX13_isFit (88, L, st, M) x else if a = 1 then Rr C mX13_isFit (105, L, st, M) x else if a = 2 then Rr C mX13_isFit (122, L, st, M) x else if a = 3 then Rr C mX13_isFit (139, L, st, M) x else if a = 4 then Rr C mX13_isFit (156, L, st, M) x else if a = 5 then Rr C mX13_isFit (165, L, st, M) x else if a = 6 then Rr C mX13_isFit (193, L, st, M) x else Rr C mX13_isFit (221, L, st, M) x) := by
  by_cases h0 : a = 0
  · subst h0; rw [if_pos rfl]; exact g_tsI (show decode cX13_isFit 44 = .ok (.tableswitch 177 0 6 #[44, 61, 78, 95, 112, 121, 149], 44) by decide +kernel) (by decide) (by decide) rfl rfl
  rw [if_neg h0]
  by_cases h1 : a = 1
  · subst h1; rw [if_pos rfl]; exact g_tsI (show decode cX13_isFit 44 = .ok (.tableswitch 177 0 6 #[44, 61, 78, 95, 112, 121, 149], 44) by decide +kernel) (by decide) (by decide) rfl rfl
  rw [if_neg h1]
  by_cases h2 : a = 2
  · subst h2; rw [if_pos rfl]; exact g_tsI (show decode cX13_isFit 44 = .ok (.tableswitch 177 0 6 #[44, 61, 78, 95, 112, 121, 149], 44) by decide +kernel) (by decide) (by decide) rfl rfl
  rw [if_neg h2]
  by_cases h3 : a = 3
  · subst h3; rw [if_pos rfl]; exact g_tsI (show decode cX13_isFit 44 = .ok (.tableswitch 177 0 6 #[44, 61, 78, 95, 112, 121, 149], 44) by decide +kernel) (by decide) (by decide) rfl rfl
  rw [if_neg h3]
  by_cases h4 : a = 4
  · subst h4; rw [if_pos rfl]; exact g_tsI (show decode cX13_isFit 44 = .ok (.tableswitch 177 0 6 #[44, 61, 78, 95, 112, 121, 149], 44) by decide +kernel) (by decide) (by decide) rfl rfl
  rw [if_neg h4]
  by_cases h5 : a = 5
  · subst h5; rw [if_pos rfl]; exact g_tsI (show decode cX13_isFit 44 = .ok (.tableswitch 177 0 6 #[44, 61, 78, 95, 112, 121, 149], 44) by decide +kernel) (by decide) (by decide) rfl rfl
  rw [if_neg h5]
  by_cases h6 : a = 6
  · subst h6; rw [if_pos rfl]; exact g_tsI (show decode cX13_isFit 44 = .ok (.tableswitch 177 0 6 #[44, 61, 78, 95, 112, 121, 149], 44) by decide +kernel) (by decide) (by decide) rfl rfl
  rw [if_neg h6]
  exact g_tsO (show decode cX13_isFit 44 = .ok (.tableswitch 177 0 6 #[44, 61, 78, 95, 112, 121, 149], 44) by decide +kernel) ⟨ha1, ha2⟩ (by omega) rfl
set_option maxRecDepth 20000 in
theorem kX13_isFit_88 {C : QC} {x : QP} {M : QM} {st : List CV} {L : QL} {l0 l1 l2 l3 l4 l5 : Option CV} {r : Option Nat} : Rr C mX13_isFit (88, [some (.inr (.inr r)), l1, l2, l3, l4, l5], st, M) x = Rr C mX13_isFit (89, [some (.inr (.inr r)), l1, l2, l3, l4, l5], .inr (.inr r) :: st, M) x := g_pl (show decode cX13_isFit 88 = .ok (.aload_n 0, 1) by decide +kernel) rfl
set_option maxRecDepth 20000 in
theorem kX13_isFit_89 {C : QC} {x : QP} {M : QM} {st : List CV} {L : QL} {l0 l1 l2 l3 l4 l5 : Option CV} {z : Int} : Rr C mX13_isFit (89, [l0, l1, some (qi z), l3, l4, l5], st, M) x = Rr C mX13_isFit (90, [l0, l1, some (qi z), l3, l4, l5], qi z :: st, M) x := g_pl (show decode cX13_isFit 89 = .ok (.iload_n 2, 1) by decide +kernel) rfl
set_option maxRecDepth 20000 in
theorem kX13_isFit_90 {C : QC} {x : QP} {M : QM} {st : List CV} {L : QL} : Rr C mX13_isFit (90, L, st, M) x = Rr C mX13_isFit (91, L, qi 0 :: st, M) x := g_pl (show decode cX13_isFit 90 = .ok (.iconst 0, 1) by decide +kernel) rfl
set_option maxRecDepth 20000 in
theorem kX13_isFit_91 {C : QC} {x : QP} {M : QM} {L : QL} {rest : List CV} {a0 a1 : CV} {v : CV} {M1 : QM} {b : Nat} (hb : q_kd M b = (1, 13)) (hC : C iX13_has [qr b, a0, a1] M (some v) M1) (hw : (rest.map q_wd).sum ≤ 8) (k : Rr C mX13_isFit (94, L, v :: rest, M1) x) : Rr C mX13_isFit (91, L, a1 :: a0 :: qr b :: rest, M) x := g_cv (ow := 13) (e := (0, 207, 13, [1391, 1393, 32, 94])) (as := [a0, a1]) (show decode cX13_isFit 91 = .ok (.invokevirtual 47, 3) by decide +kernel) rfl rfl rfl (Or.inl rfl) rfl hb hC hw k
set_option maxRecDepth 20000 in
theorem kX13_isFit_94 {C : QC} {x : QP} {M : QM} {st : List CV} {L : QL} {l0 l1 l2 l3 l4 l5 : Option CV} {z : Int} : Rr C mX13_isFit (94, [l0, l1, l2, l3, some (qi z), l5], st, M) x = Rr C mX13_isFit (96, [l0, l1, l2, l3, some (qi z), l5], qi z :: st, M) x := g_pl (show decode cX13_isFit 94 = .ok (.iload 4, 2) by decide +kernel) rfl
set_option maxRecDepth 20000 in
theorem kX13_isFit_96 {C : QC} {x : QP} {M : QM} {st : List CV} {L : QL} {a b : Int} (ha1 : -2147483648 ≤ a) (ha2 : a < 2147483648) (hb1 : -2147483648 ≤ b) (hb2 : b < 2147483648) : Rr C mX13_isFit (96, L, qi b :: qi a :: st, M) x = (if a = b then Rr C mX13_isFit (99, L, st, M) x else Rr C mX13_isFit (103, L, st, M) x) := (g_icmp (show decode cX13_isFit 96 = .ok (.if_icmp .ne 7, 3) by decide +kernel) rfl ha1 ha2 hb1 hb2).trans (g_itn c_ne)
set_option maxRecDepth 20000 in
theorem kX13_isFit_99 {C : QC} {x : QP} {M : QM} {st : List CV} {L : QL} : Rr C mX13_isFit (99, L, st, M) x = Rr C mX13_isFit (100, L, qi 1 :: st, M) x := g_pl (show decode cX13_isFit 99 = .ok (.iconst 1, 1) by decide +kernel) rfl
set_option maxRecDepth 20000 in
theorem kX13_isFit_100 {C : QC} {x : QP} {M : QM} {st : List CV} {L : QL} : Rr C mX13_isFit (100, L, st, M) x = Rr C mX13_isFit (104, L, st, M) x := g_pl (show decode cX13_isFit 100 = .ok (.goto 4, 3) by decide +kernel) rfl
set_option maxRecDepth 20000 in
theorem kX13_isFit_103 {C : QC} {x : QP} {M : QM} {st : List CV} {L : QL} : Rr C mX13_isFit (103, L, st, M) x = Rr C mX13_isFit (104, L, qi 0 :: st, M) x := g_pl (show decode cX13_isFit 103 = .ok (.iconst 0, 1) by decide +kernel) rfl
set_option maxRecDepth 20000 in
theorem kX13_isFit_104 {C : QC} {x : QP} {M : QM} {st : List CV} {L : QL} {z : Int} (hz : z = 0 ∨ z = 1) : Rr C mX13_isFit (104, L, [qi z], M) x = x (some (qi z)) M := g_iret (show decode cX13_isFit 104 = .ok (.ireturn, 1) by decide +kernel) (by rcases hz with rfl | rfl <;> rfl)
set_option maxRecDepth 20000 in
theorem kX13_isFit_105 {C : QC} {x : QP} {M : QM} {st : List CV} {L : QL} {l0 l1 l2 l3 l4 l5 : Option CV} {r : Option Nat} : Rr C mX13_isFit (105, [some (.inr (.inr r)), l1, l2, l3, l4, l5], st, M) x = Rr C mX13_isFit (106, [some (.inr (.inr r)), l1, l2, l3, l4, l5], .inr (.inr r) :: st, M) x := g_pl (show decode cX13_isFit 105 = .ok (.aload_n 0, 1) by decide +kernel) rfl
set_option maxRecDepth 20000 in
theorem kX13_isFit_106 {C : QC} {x : QP} {M : QM} {st : List CV} {L : QL} {l0 l1 l2 l3 l4 l5 : Option CV} {z : Int} : Rr C mX13_isFit (106, [l0, l1, some (qi z), l3, l4, l5], st, M) x = Rr C mX13_isFit (107, [l0, l1, some (qi z), l3, l4, l5], qi z :: st, M) x := g_pl (show decode cX13_isFit 106 = .ok (.iload_n 2, 1) by decide +kernel) rfl
set_option maxRecDepth 20000 in
theorem kX13_isFit_107 {C : QC} {x : QP} {M : QM} {st : List CV} {L : QL} {l0 l1 l2 l3 l4 l5 : Option CV} {z : Int} : Rr C mX13_isFit (107, [l0, l1, l2, some (qi z), l4, l5], st, M) x = Rr C mX13_isFit (108, [l0, l1, l2, some (qi z), l4, l5], qi z :: st, M) x := g_pl (show decode cX13_isFit 107 = .ok (.iload_n 3, 1) by decide +kernel) rfl
set_option maxRecDepth 20000 in
theorem kX13_isFit_108 {C : QC} {x : QP} {M : QM} {L : QL} {rest : List CV} {a0 a1 : CV} {v : CV} {M1 : QM} {b : Nat} (hb : q_kd M b = (1, 13)) (hC : C iX13_parentOn [qr b, a0, a1] M (some v) M1) (hw : (rest.map q_wd).sum ≤ 8) (k : Rr C mX13_isFit (111, L, v :: rest, M1) x) : Rr C mX13_isFit (108, L, a1 :: a0 :: qr b :: rest, M) x := g_cv (ow := 13) (e := (0, 227, 13, [1471, 1473, 50, 94])) (as := [a0, a1]) (show decode cX13_isFit 108 = .ok (.invokevirtual 66, 3) by decide +kernel) rfl rfl rfl (Or.inl rfl) rfl hb hC hw k
set_option maxRecDepth 20000 in
theorem kX13_isFit_111 {C : QC} {x : QP} {M : QM} {st : List CV} {L : QL} {l0 l1 l2 l3 l4 l5 : Option CV} {z : Int} : Rr C mX13_isFit (111, [l0, l1, l2, l3, some (qi z), l5], st, M) x = Rr C mX13_isFit (113, [l0, l1, l2, l3, some (qi z), l5], qi z :: st, M) x := g_pl (show decode cX13_isFit 111 = .ok (.iload 4, 2) by decide +kernel) rfl
set_option maxRecDepth 20000 in
theorem kX13_isFit_113 {C : QC} {x : QP} {M : QM} {st : List CV} {L : QL} {a b : Int} (ha1 : -2147483648 ≤ a) (ha2 : a < 2147483648) (hb1 : -2147483648 ≤ b) (hb2 : b < 2147483648) : Rr C mX13_isFit (113, L, qi b :: qi a :: st, M) x = (if a = b then Rr C mX13_isFit (116, L, st, M) x else Rr C mX13_isFit (120, L, st, M) x) := (g_icmp (show decode cX13_isFit 113 = .ok (.if_icmp .ne 7, 3) by decide +kernel) rfl ha1 ha2 hb1 hb2).trans (g_itn c_ne)
set_option maxRecDepth 20000 in
theorem kX13_isFit_116 {C : QC} {x : QP} {M : QM} {st : List CV} {L : QL} : Rr C mX13_isFit (116, L, st, M) x = Rr C mX13_isFit (117, L, qi 1 :: st, M) x := g_pl (show decode cX13_isFit 116 = .ok (.iconst 1, 1) by decide +kernel) rfl
set_option maxRecDepth 20000 in
theorem kX13_isFit_117 {C : QC} {x : QP} {M : QM} {st : List CV} {L : QL} : Rr C mX13_isFit (117, L, st, M) x = Rr C mX13_isFit (121, L, st, M) x := g_pl (show decode cX13_isFit 117 = .ok (.goto 4, 3) by decide +kernel) rfl
set_option maxRecDepth 20000 in
theorem kX13_isFit_120 {C : QC} {x : QP} {M : QM} {st : List CV} {L : QL} : Rr C mX13_isFit (120, L, st, M) x = Rr C mX13_isFit (121, L, qi 0 :: st, M) x := g_pl (show decode cX13_isFit 120 = .ok (.iconst 0, 1) by decide +kernel) rfl
set_option maxRecDepth 20000 in
theorem kX13_isFit_121 {C : QC} {x : QP} {M : QM} {st : List CV} {L : QL} {z : Int} (hz : z = 0 ∨ z = 1) : Rr C mX13_isFit (121, L, [qi z], M) x = x (some (qi z)) M := g_iret (show decode cX13_isFit 121 = .ok (.ireturn, 1) by decide +kernel) (by rcases hz with rfl | rfl <;> rfl)
set_option maxRecDepth 20000 in
theorem kX13_isFit_122 {C : QC} {x : QP} {M : QM} {st : List CV} {L : QL} {l0 l1 l2 l3 l4 l5 : Option CV} {r : Option Nat} : Rr C mX13_isFit (122, [some (.inr (.inr r)), l1, l2, l3, l4, l5], st, M) x = Rr C mX13_isFit (123, [some (.inr (.inr r)), l1, l2, l3, l4, l5], .inr (.inr r) :: st, M) x := g_pl (show decode cX13_isFit 122 = .ok (.aload_n 0, 1) by decide +kernel) rfl
set_option maxRecDepth 20000 in
theorem kX13_isFit_123 {C : QC} {x : QP} {M : QM} {st : List CV} {L : QL} {l0 l1 l2 l3 l4 l5 : Option CV} {z : Int} : Rr C mX13_isFit (123, [l0, l1, some (qi z), l3, l4, l5], st, M) x = Rr C mX13_isFit (124, [l0, l1, some (qi z), l3, l4, l5], qi z :: st, M) x := g_pl (show decode cX13_isFit 123 = .ok (.iload_n 2, 1) by decide +kernel) rfl
set_option maxRecDepth 20000 in
theorem kX13_isFit_124 {C : QC} {x : QP} {M : QM} {st : List CV} {L : QL} {l0 l1 l2 l3 l4 l5 : Option CV} {z : Int} : Rr C mX13_isFit (124, [l0, l1, l2, some (qi z), l4, l5], st, M) x = Rr C mX13_isFit (125, [l0, l1, l2, some (qi z), l4, l5], qi z :: st, M) x := g_pl (show decode cX13_isFit 124 = .ok (.iload_n 3, 1) by decide +kernel) rfl
set_option maxRecDepth 20000 in
theorem kX13_isFit_125 {C : QC} {x : QP} {M : QM} {L : QL} {rest : List CV} {a0 a1 : CV} {v : CV} {M1 : QM} {b : Nat} (hb : q_kd M b = (1, 13)) (hC : C iX13_lengthOn [qr b, a0, a1] M (some v) M1) (hw : (rest.map q_wd).sum ≤ 8) (k : Rr C mX13_isFit (128, L, v :: rest, M1) x) : Rr C mX13_isFit (125, L, a1 :: a0 :: qr b :: rest, M) x := g_cv (ow := 13) (e := (0, 222, 13, [1451, 1453, 46, 94])) (as := [a0, a1]) (show decode cX13_isFit 125 = .ok (.invokevirtual 123, 3) by decide +kernel) rfl rfl rfl (Or.inl rfl) rfl hb hC hw k
set_option maxRecDepth 20000 in
theorem kX13_isFit_128 {C : QC} {x : QP} {M : QM} {st : List CV} {L : QL} {l0 l1 l2 l3 l4 l5 : Option CV} {z : Int} : Rr C mX13_isFit (128, [l0, l1, l2, l3, some (qi z), l5], st, M) x = Rr C mX13_isFit (130, [l0, l1, l2, l3, some (qi z), l5], qi z :: st, M) x := g_pl (show decode cX13_isFit 128 = .ok (.iload 4, 2) by decide +kernel) rfl
set_option maxRecDepth 20000 in
theorem kX13_isFit_130 {C : QC} {x : QP} {M : QM} {st : List CV} {L : QL} {a b : Int} (ha1 : -2147483648 ≤ a) (ha2 : a < 2147483648) (hb1 : -2147483648 ≤ b) (hb2 : b < 2147483648) : Rr C mX13_isFit (130, L, qi b :: qi a :: st, M) x = (if a < b then Rr C mX13_isFit (137, L, st, M) x else Rr C mX13_isFit (133, L, st, M) x) := (g_icmp (show decode cX13_isFit 130 = .ok (.if_icmp .lt 7, 3) by decide +kernel) rfl ha1 ha2 hb1 hb2).trans (g_ite c_lt)
set_option maxRecDepth 20000 in
theorem kX13_isFit_133 {C : QC} {x : QP} {M : QM} {st : List CV} {L : QL} : Rr C mX13_isFit (133, L, st, M) x = Rr C mX13_isFit (134, L, qi 1 :: st, M) x := g_pl (show decode cX13_isFit 133 = .ok (.iconst 1, 1) by decide +kernel) rfl
set_option maxRecDepth 20000 in
theorem kX13_isFit_134 {C : QC} {x : QP} {M : QM} {st : List CV} {L : QL} : Rr C mX13_isFit (134, L, st, M) x = Rr C mX13_isFit (138, L, st, M) x := g_pl (show decode cX13_isFit 134 = .ok (.goto 4, 3) by decide +kernel) rfl
set_option maxRecDepth 20000 in
theorem kX13_isFit_137 {C : QC} {x : QP} {M : QM} {st : List CV} {L : QL} : Rr C mX13_isFit (137, L, st, M) x = Rr C mX13_isFit (138, L, qi 0 :: st, M) x := g_pl (show decode cX13_isFit 137 = .ok (.iconst 0, 1) by decide +kernel) rfl
set_option maxRecDepth 20000 in
theorem kX13_isFit_138 {C : QC} {x : QP} {M : QM} {st : List CV} {L : QL} {z : Int} (hz : z = 0 ∨ z = 1) : Rr C mX13_isFit (138, L, [qi z], M) x = x (some (qi z)) M := g_iret (show decode cX13_isFit 138 = .ok (.ireturn, 1) by decide +kernel) (by rcases hz with rfl | rfl <;> rfl)
set_option maxRecDepth 20000 in
theorem kX13_isFit_139 {C : QC} {x : QP} {M : QM} {st : List CV} {L : QL} {l0 l1 l2 l3 l4 l5 : Option CV} {r : Option Nat} : Rr C mX13_isFit (139, [some (.inr (.inr r)), l1, l2, l3, l4, l5], st, M) x = Rr C mX13_isFit (140, [some (.inr (.inr r)), l1, l2, l3, l4, l5], .inr (.inr r) :: st, M) x := g_pl (show decode cX13_isFit 139 = .ok (.aload_n 0, 1) by decide +kernel) rfl
set_option maxRecDepth 20000 in
theorem kX13_isFit_140 {C : QC} {x : QP} {M : QM} {st : List CV} {L : QL} {l0 l1 l2 l3 l4 l5 : Option CV} {z : Int} : Rr C mX13_isFit (140, [l0, l1, some (qi z), l3, l4, l5], st, M) x = Rr C mX13_isFit (141, [l0, l1, some (qi z), l3, l4, l5], qi z :: st, M) x := g_pl (show decode cX13_isFit 140 = .ok (.iload_n 2, 1) by decide +kernel) rfl
set_option maxRecDepth 20000 in
theorem kX13_isFit_141 {C : QC} {x : QP} {M : QM} {st : List CV} {L : QL} : Rr C mX13_isFit (141, L, st, M) x = Rr C mX13_isFit (142, L, qi 1 :: st, M) x := g_pl (show decode cX13_isFit 141 = .ok (.iconst 1, 1) by decide +kernel) rfl
set_option maxRecDepth 20000 in
theorem kX13_isFit_142 {C : QC} {x : QP} {M : QM} {L : QL} {rest : List CV} {a0 a1 : CV} {v : CV} {M1 : QM} {b : Nat} (hb : q_kd M b = (1, 13)) (hC : C iX13_has [qr b, a0, a1] M (some v) M1) (hw : (rest.map q_wd).sum ≤ 8) (k : Rr C mX13_isFit (145, L, v :: rest, M1) x) : Rr C mX13_isFit (142, L, a1 :: a0 :: qr b :: rest, M) x := g_cv (ow := 13) (e := (0, 207, 13, [1391, 1393, 32, 94])) (as := [a0, a1]) (show decode cX13_isFit 142 = .ok (.invokevirtual 47, 3) by decide +kernel) rfl rfl rfl (Or.inl rfl) rfl hb hC hw k
set_option maxRecDepth 20000 in
theorem kX13_isFit_145 {C : QC} {x : QP} {M : QM} {st : List CV} {L : QL} {l0 l1 l2 l3 l4 l5 : Option CV} {z : Int} : Rr C mX13_isFit (145, [l0, l1, l2, l3, some (qi z), l5], st, M) x = Rr C mX13_isFit (147, [l0, l1, l2, l3, some (qi z), l5], qi z :: st, M) x := g_pl (show decode cX13_isFit 145 = .ok (.iload 4, 2) by decide +kernel) rfl
set_option maxRecDepth 20000 in
theorem kX13_isFit_147 {C : QC} {x : QP} {M : QM} {st : List CV} {L : QL} {a b : Int} (ha1 : -2147483648 ≤ a) (ha2 : a < 2147483648) (hb1 : -2147483648 ≤ b) (hb2 : b < 2147483648) : Rr C mX13_isFit (147, L, qi b :: qi a :: st, M) x = (if a < b then Rr C mX13_isFit (154, L, st, M) x else Rr C mX13_isFit (150, L, st, M) x) := (g_icmp (show decode cX13_isFit 147 = .ok (.if_icmp .lt 7, 3) by decide +kernel) rfl ha1 ha2 hb1 hb2).trans (g_ite c_lt)
set_option maxRecDepth 20000 in
theorem kX13_isFit_150 {C : QC} {x : QP} {M : QM} {st : List CV} {L : QL} : Rr C mX13_isFit (150, L, st, M) x = Rr C mX13_isFit (151, L, qi 1 :: st, M) x := g_pl (show decode cX13_isFit 150 = .ok (.iconst 1, 1) by decide +kernel) rfl
set_option maxRecDepth 20000 in
theorem kX13_isFit_151 {C : QC} {x : QP} {M : QM} {st : List CV} {L : QL} : Rr C mX13_isFit (151, L, st, M) x = Rr C mX13_isFit (155, L, st, M) x := g_pl (show decode cX13_isFit 151 = .ok (.goto 4, 3) by decide +kernel) rfl
set_option maxRecDepth 20000 in
theorem kX13_isFit_154 {C : QC} {x : QP} {M : QM} {st : List CV} {L : QL} : Rr C mX13_isFit (154, L, st, M) x = Rr C mX13_isFit (155, L, qi 0 :: st, M) x := g_pl (show decode cX13_isFit 154 = .ok (.iconst 0, 1) by decide +kernel) rfl
set_option maxRecDepth 20000 in
theorem kX13_isFit_155 {C : QC} {x : QP} {M : QM} {st : List CV} {L : QL} {z : Int} (hz : z = 0 ∨ z = 1) : Rr C mX13_isFit (155, L, [qi z], M) x = x (some (qi z)) M := g_iret (show decode cX13_isFit 155 = .ok (.ireturn, 1) by decide +kernel) (by rcases hz with rfl | rfl <;> rfl)
set_option maxRecDepth 20000 in
theorem kX13_isFit_156 {C : QC} {x : QP} {M : QM} {st : List CV} {L : QL} {l0 l1 l2 l3 l4 l5 : Option CV} {r : Option Nat} : Rr C mX13_isFit (156, [some (.inr (.inr r)), l1, l2, l3, l4, l5], st, M) x = Rr C mX13_isFit (157, [some (.inr (.inr r)), l1, l2, l3, l4, l5], .inr (.inr r) :: st, M) x := g_pl (show decode cX13_isFit 156 = .ok (.aload_n 0, 1) by decide +kernel) rfl
set_option maxRecDepth 20000 in
theorem kX13_isFit_157 {C : QC} {x : QP} {M : QM} {st : List CV} {L : QL} {l0 l1 l2 l3 l4 l5 : Option CV} {z : Int} : Rr C mX13_isFit (157, [l0, l1, some (qi z), l3, l4, l5], st, M) x = Rr C mX13_isFit (158, [l0, l1, some (qi z), l3, l4, l5], qi z :: st, M) x := g_pl (show decode cX13_isFit 157 = .ok (.iload_n 2, 1) by decide +kernel) rfl
set_option maxRecDepth 20000 in
theorem kX13_isFit_158 {C : QC} {x : QP} {M : QM} {st : List CV} {L : QL} {l0 l1 l2 l3 l4 l5 : Option CV} {z : Int} : Rr C mX13_isFit (158, [l0, l1, l2, some (qi z), l4, l5], st, M) x = Rr C mX13_isFit (159, [l0, l1, l2, some (qi z), l4, l5], qi z :: st, M) x := g_pl (show decode cX13_isFit 158 = .ok (.iload_n 3, 1) by decide +kernel) rfl
set_option maxRecDepth 20000 in
theorem kX13_isFit_159 {C : QC} {x : QP} {M : QM} {st : List CV} {L : QL} {l0 l1 l2 l3 l4 l5 : Option CV} {z : Int} : Rr C mX13_isFit (159, [l0, l1, l2, l3, some (qi z), l5], st, M) x = Rr C mX13_isFit (161, [l0, l1, l2, l3, some (qi z), l5], qi z :: st, M) x := g_pl (show decode cX13_isFit 159 = .ok (.iload 4, 2) by decide +kernel) rfl
set_option maxRecDepth 20000 in
theorem kX13_isFit_161 {C : QC} {x : QP} {M : QM} {L : QL} {rest : List CV} {a0 a1 a2 : CV} {v : CV} {M1 : QM} {b : Nat} (hb : q_kd M b = (1, 13)) (hC : C iX13_isAbove [qr b, a0, a1, a2] M (some v) M1) (hw : (rest.map q_wd).sum ≤ 8) (k : Rr C mX13_isFit (164, L, v :: rest, M1) x) : Rr C mX13_isFit (161, L, a2 :: a1 :: a0 :: qr b :: rest, M) x := g_cv (ow := 13) (e := (0, 264, 13, [1619, 1621, 72, 94])) (as := [a0, a1, a2]) (show decode cX13_isFit 161 = .ok (.invokevirtual 211, 3) by decide +kernel) rfl rfl rfl (Or.inl rfl) rfl hb hC hw k
set_option maxRecDepth 20000 in
theorem kX13_isFit_164 {C : QC} {x : QP} {M : QM} {st : List CV} {L : QL} {z : Int} (hz : z = 0 ∨ z = 1) : Rr C mX13_isFit (164, L, [qi z], M) x = x (some (qi z)) M := g_iret (show decode cX13_isFit 164 = .ok (.ireturn, 1) by decide +kernel) (by rcases hz with rfl | rfl <;> rfl)
set_option maxRecDepth 20000 in
theorem kX13_isFit_165 {C : QC} {x : QP} {M : QM} {st : List CV} {L : QL} {l0 l1 l2 l3 l4 l5 : Option CV} {r : Option Nat} : Rr C mX13_isFit (165, [some (.inr (.inr r)), l1, l2, l3, l4, l5], st, M) x = Rr C mX13_isFit (166, [some (.inr (.inr r)), l1, l2, l3, l4, l5], .inr (.inr r) :: st, M) x := g_pl (show decode cX13_isFit 165 = .ok (.aload_n 0, 1) by decide +kernel) rfl
set_option maxRecDepth 20000 in
theorem kX13_isFit_166 {C : QC} {x : QP} {M : QM} {st : List CV} {L : QL} {l0 l1 l2 l3 l4 l5 : Option CV} {z : Int} : Rr C mX13_isFit (166, [l0, l1, l2, l3, some (qi z), l5], st, M) x = Rr C mX13_isFit (168, [l0, l1, l2, l3, some (qi z), l5], qi z :: st, M) x := g_pl (show decode cX13_isFit 166 = .ok (.iload 4, 2) by decide +kernel) rfl
set_option maxRecDepth 20000 in
theorem kX13_isFit_168 {C : QC} {x : QP} {M : QM} {st : List CV} {L : QL} {l0 l1 l2 l3 l4 l5 : Option CV} {z : Int} : Rr C mX13_isFit (168, [l0, l1, some (qi z), l3, l4, l5], st, M) x = Rr C mX13_isFit (169, [l0, l1, some (qi z), l3, l4, l5], qi z :: st, M) x := g_pl (show decode cX13_isFit 168 = .ok (.iload_n 2, 1) by decide +kernel) rfl
set_option maxRecDepth 20000 in
theorem kX13_isFit_169 {C : QC} {x : QP} {M : QM} {st : List CV} {L : QL} {l0 l1 l2 l3 l4 l5 : Option CV} {z : Int} : Rr C mX13_isFit (169, [l0, l1, l2, some (qi z), l4, l5], st, M) x = Rr C mX13_isFit (170, [l0, l1, l2, some (qi z), l4, l5], qi z :: st, M) x := g_pl (show decode cX13_isFit 169 = .ok (.iload_n 3, 1) by decide +kernel) rfl
set_option maxRecDepth 20000 in
theorem kX13_isFit_170 {C : QC} {x : QP} {M : QM} {L : QL} {rest : List CV} {a0 a1 a2 : CV} {v : CV} {M1 : QM} {b : Nat} (hb : q_kd M b = (1, 13)) (hC : C iX13_isFit [qr b, a0, a1, a2] M (some v) M1) (hw : (rest.map q_wd).sum ≤ 8) (k : Rr C mX13_isFit (173, L, v :: rest, M1) x) : Rr C mX13_isFit (170, L, a2 :: a1 :: a0 :: qr b :: rest, M) x := g_cv (ow := 13) (e := (0, 263, 13, [1615, 1617, 71, 94])) (as := [a0, a1, a2]) (show decode cX13_isFit 170 = .ok (.invokevirtual 214, 3) by decide +kernel) rfl rfl rfl (Or.inl rfl) rfl hb hC hw k
set_option maxRecDepth 20000 in
theorem kX13_isFit_173 {C : QC} {x : QP} {M : QM} {st : List CV} {L : QL} {a : Int} (ha1 : -2147483648 ≤ a) (ha2 : a < 2147483648) : Rr C mX13_isFit (173, L, qi a :: st, M) x = (if a = 0 then Rr C mX13_isFit (191, L, st, M) x else Rr C mX13_isFit (176, L, st, M) x) := (g_if (show decode cX13_isFit 173 = .ok (.ifCond .eq 18, 3) by decide +kernel) rfl ha1 ha2).trans (g_ite c_eq)
set_option maxRecDepth 20000 in
theorem kX13_isFit_176 {C : QC} {x : QP} {M : QM} {st : List CV} {L : QL} {l0 l1 l2 l3 l4 l5 : Option CV} {r : Option Nat} : Rr C mX13_isFit (176, [some (.inr (.inr r)), l1, l2, l3, l4, l5], st, M) x = Rr C mX13_isFit (177, [some (.inr (.inr r)), l1, l2, l3, l4, l5], .inr (.inr r) :: st, M) x := g_pl (show decode cX13_isFit 176 = .ok (.aload_n 0, 1) by decide +kernel) rfl
set_option maxRecDepth 20000 in
theorem kX13_isFit_177 {C : QC} {x : QP} {M : QM} {st : List CV} {L : QL} {l0 l1 l2 l3 l4 l5 : Option CV} {z : Int} : Rr C mX13_isFit (177, [l0, l1, l2, l3, l4, some (qi z)], st, M) x = Rr C mX13_isFit (179, [l0, l1, l2, l3, l4, some (qi z)], qi z :: st, M) x := g_pl (show decode cX13_isFit 177 = .ok (.iload 5, 2) by decide +kernel) rfl
set_option maxRecDepth 20000 in
theorem kX13_isFit_179 {C : QC} {x : QP} {M : QM} {st : List CV} {L : QL} {l0 l1 l2 l3 l4 l5 : Option CV} {z : Int} : Rr C mX13_isFit (179, [l0, l1, some (qi z), l3, l4, l5], st, M) x = Rr C mX13_isFit (180, [l0, l1, some (qi z), l3, l4, l5], qi z :: st, M) x := g_pl (show decode cX13_isFit 179 = .ok (.iload_n 2, 1) by decide +kernel) rfl
set_option maxRecDepth 20000 in
theorem kX13_isFit_180 {C : QC} {x : QP} {M : QM} {st : List CV} {L : QL} {l0 l1 l2 l3 l4 l5 : Option CV} {z : Int} : Rr C mX13_isFit (180, [l0, l1, l2, some (qi z), l4, l5], st, M) x = Rr C mX13_isFit (181, [l0, l1, l2, some (qi z), l4, l5], qi z :: st, M) x := g_pl (show decode cX13_isFit 180 = .ok (.iload_n 3, 1) by decide +kernel) rfl
set_option maxRecDepth 20000 in
theorem kX13_isFit_181 {C : QC} {x : QP} {M : QM} {L : QL} {rest : List CV} {a0 a1 a2 : CV} {v : CV} {M1 : QM} {b : Nat} (hb : q_kd M b = (1, 13)) (hC : C iX13_isFit [qr b, a0, a1, a2] M (some v) M1) (hw : (rest.map q_wd).sum ≤ 8) (k : Rr C mX13_isFit (184, L, v :: rest, M1) x) : Rr C mX13_isFit (181, L, a2 :: a1 :: a0 :: qr b :: rest, M) x := g_cv (ow := 13) (e := (0, 263, 13, [1615, 1617, 71, 94])) (as := [a0, a1, a2]) (show decode cX13_isFit 181 = .ok (.invokevirtual 214, 3) by decide +kernel) rfl rfl rfl (Or.inl rfl) rfl hb hC hw k
set_option maxRecDepth 20000 in
theorem kX13_isFit_184 {C : QC} {x : QP} {M : QM} {st : List CV} {L : QL} {a : Int} (ha1 : -2147483648 ≤ a) (ha2 : a < 2147483648) : Rr C mX13_isFit (184, L, qi a :: st, M) x = (if a = 0 then Rr C mX13_isFit (191, L, st, M) x else Rr C mX13_isFit (187, L, st, M) x) := (g_if (show decode cX13_isFit 184 = .ok (.ifCond .eq 7, 3) by decide +kernel) rfl ha1 ha2).trans (g_ite c_eq)
set_option maxRecDepth 20000 in
theorem kX13_isFit_187 {C : QC} {x : QP} {M : QM} {st : List CV} {L : QL} : Rr C mX13_isFit (187, L, st, M) x = Rr C mX13_isFit (188, L, qi 1 :: st, M) x := g_pl (show decode cX13_isFit 187 = .ok (.iconst 1, 1) by decide +kernel) rfl
set_option maxRecDepth 20000 in
theorem kX13_isFit_188 {C : QC} {x : QP} {M : QM} {st : List CV} {L : QL} : Rr C mX13_isFit (188, L, st, M) x = Rr C mX13_isFit (192, L, st, M) x := g_pl (show decode cX13_isFit 188 = .ok (.goto 4, 3) by decide +kernel) rfl
set_option maxRecDepth 20000 in
theorem kX13_isFit_191 {C : QC} {x : QP} {M : QM} {st : List CV} {L : QL} : Rr C mX13_isFit (191, L, st, M) x = Rr C mX13_isFit (192, L, qi 0 :: st, M) x := g_pl (show decode cX13_isFit 191 = .ok (.iconst 0, 1) by decide +kernel) rfl
set_option maxRecDepth 20000 in
theorem kX13_isFit_192 {C : QC} {x : QP} {M : QM} {st : List CV} {L : QL} {z : Int} (hz : z = 0 ∨ z = 1) : Rr C mX13_isFit (192, L, [qi z], M) x = x (some (qi z)) M := g_iret (show decode cX13_isFit 192 = .ok (.ireturn, 1) by decide +kernel) (by rcases hz with rfl | rfl <;> rfl)
set_option maxRecDepth 20000 in
theorem kX13_isFit_193 {C : QC} {x : QP} {M : QM} {st : List CV} {L : QL} {l0 l1 l2 l3 l4 l5 : Option CV} {r : Option Nat} : Rr C mX13_isFit (193, [some (.inr (.inr r)), l1, l2, l3, l4, l5], st, M) x = Rr C mX13_isFit (194, [some (.inr (.inr r)), l1, l2, l3, l4, l5], .inr (.inr r) :: st, M) x := g_pl (show decode cX13_isFit 193 = .ok (.aload_n 0, 1) by decide +kernel) rfl
set_option maxRecDepth 20000 in
theorem kX13_isFit_194 {C : QC} {x : QP} {M : QM} {st : List CV} {L : QL} {l0 l1 l2 l3 l4 l5 : Option CV} {z : Int} : Rr C mX13_isFit (194, [l0, l1, l2, l3, some (qi z), l5], st, M) x = Rr C mX13_isFit (196, [l0, l1, l2, l3, some (qi z), l5], qi z :: st, M) x := g_pl (show decode cX13_isFit 194 = .ok (.iload 4, 2) by decide +kernel) rfl
set_option maxRecDepth 20000 in
theorem kX13_isFit_196 {C : QC} {x : QP} {M : QM} {st : List CV} {L : QL} {l0 l1 l2 l3 l4 l5 : Option CV} {z : Int} : Rr C mX13_isFit (196, [l0, l1, some (qi z), l3, l4, l5], st, M) x = Rr C mX13_isFit (197, [l0, l1, some (qi z), l3, l4, l5], qi z :: st, M) x := g_pl (show decode cX13_isFit 196 = .ok (.iload_n 2, 1) by decide +kernel) rfl
set_option maxRecDepth 20000 in
theorem kX13_isFit_197 {C : QC} {x : QP} {M : QM} {st : List CV} {L : QL} {l0 l1 l2 l3 l4 l5 : Option CV} {z : Int} : Rr C mX13_isFit (197, [l0, l1, l2, some (qi z), l4, l5], st, M) x = Rr C mX13_isFit (198, [l0, l1, l2, some (qi z), l4, l5], qi z :: st, M) x := g_pl (show decode cX13_isFit 197 = .ok (.iload_n 3, 1) by decide +kernel) rfl
set_option maxRecDepth 20000 in
theorem kX13_isFit_198 {C : QC} {x : QP} {M : QM} {L : QL} {rest : List CV} {a0 a1 a2 : CV} {v : CV} {M1 : QM} {b : Nat} (hb : q_kd M b = (1, 13)) (hC : C iX13_isFit [qr b, a0, a1, a2] M (some v) M1) (hw : (rest.map q_wd).sum ≤ 8) (k : Rr C mX13_isFit (201, L, v :: rest, M1) x) : Rr C mX13_isFit (198, L, a2 :: a1 :: a0 :: qr b :: rest, M) x := g_cv (ow := 13) (e := (0, 263, 13, [1615, 1617, 71, 94])) (as := [a0, a1, a2]) (show decode cX13_isFit 198 = .ok (.invokevirtual 214, 3) by decide +kernel) rfl rfl rfl (Or.inl rfl) rfl hb hC hw k
set_option maxRecDepth 20000 in
theorem kX13_isFit_201 {C : QC} {x : QP} {M : QM} {st : List CV} {L : QL} {a : Int} (ha1 : -2147483648 ≤ a) (ha2 : a < 2147483648) : Rr C mX13_isFit (201, L, qi a :: st, M) x = (if a = 0 then Rr C mX13_isFit (204, L, st, M) x else Rr C mX13_isFit (215, L, st, M) x) := (g_if (show decode cX13_isFit 201 = .ok (.ifCond .ne 14, 3) by decide +kernel) rfl ha1 ha2).trans (g_itn c_ne)
set_option maxRecDepth 20000 in
theorem kX13_isFit_204 {C : QC} {x : QP} {M : QM} {st : List CV} {L : QL} {l0 l1 l2 l3 l4 l5 : Option CV} {r : Option Nat} : Rr C mX13_isFit (204, [some (.inr (.inr r)), l1, l2, l3, l4, l5], st, M) x = Rr C mX13_isFit (205, [some (.inr (.inr r)), l1, l2, l3, l4, l5], .inr (.inr r) :: st, M) x := g_pl (show decode cX13_isFit 204 = .ok (.aload_n 0, 1) by decide +kernel) rfl
set_option maxRecDepth 20000 in
theorem kX13_isFit_205 {C : QC} {x : QP} {M : QM} {st : List CV} {L : QL} {l0 l1 l2 l3 l4 l5 : Option CV} {z : Int} : Rr C mX13_isFit (205, [l0, l1, l2, l3, l4, some (qi z)], st, M) x = Rr C mX13_isFit (207, [l0, l1, l2, l3, l4, some (qi z)], qi z :: st, M) x := g_pl (show decode cX13_isFit 205 = .ok (.iload 5, 2) by decide +kernel) rfl
set_option maxRecDepth 20000 in
theorem kX13_isFit_207 {C : QC} {x : QP} {M : QM} {st : List CV} {L : QL} {l0 l1 l2 l3 l4 l5 : Option CV} {z : Int} : Rr C mX13_isFit (207, [l0, l1, some (qi z), l3, l4, l5], st, M) x = Rr C mX13_isFit (208, [l0, l1, some (qi z), l3, l4, l5], qi z :: st, M) x := g_pl (show decode cX13_isFit 207 = .ok (.iload_n 2, 1) by decide +kernel) rfl
set_option maxRecDepth 20000 in
theorem kX13_isFit_208 {C : QC} {x : QP} {M : QM} {st : List CV} {L : QL} {l0 l1 l2 l3 l4 l5 : Option CV} {z : Int} : Rr C mX13_isFit (208, [l0, l1, l2, some (qi z), l4, l5], st, M) x = Rr C mX13_isFit (209, [l0, l1, l2, some (qi z), l4, l5], qi z :: st, M) x := g_pl (show decode cX13_isFit 208 = .ok (.iload_n 3, 1) by decide +kernel) rfl
set_option maxRecDepth 20000 in
theorem kX13_isFit_209 {C : QC} {x : QP} {M : QM} {L : QL} {rest : List CV} {a0 a1 a2 : CV} {v : CV} {M1 : QM} {b : Nat} (hb : q_kd M b = (1, 13)) (hC : C iX13_isFit [qr b, a0, a1, a2] M (some v) M1) (hw : (rest.map q_wd).sum ≤ 8) (k : Rr C mX13_isFit (212, L, v :: rest, M1) x) : Rr C mX13_isFit (209, L, a2 :: a1 :: a0 :: qr b :: rest, M) x := g_cv (ow := 13) (e := (0, 263, 13, [1615, 1617, 71, 94])) (as := [a0, a1, a2]) (show decode cX13_isFit 209 = .ok (.invokevirtual 214, 3) by decide +kernel) rfl rfl rfl (Or.inl rfl) rfl hb hC hw k
set_option maxRecDepth 20000 in
theorem kX13_isFit_212 {C : QC} {x : QP} {M : QM} {st : List CV} {L : QL} {a : Int} (ha1 : -2147483648 ≤ a) (ha2 : a < 2147483648) : Rr C mX13_isFit (212, L, qi a :: st, M) x = (if a = 0 then Rr C mX13_isFit (219, L, st, M) x else Rr C mX13_isFit (215, L, st, M) x) := (g_if (show decode cX13_isFit 212 = .ok (.ifCond .eq 7, 3) by decide +kernel) rfl ha1 ha2).trans (g_ite c_eq)
set_option maxRecDepth 20000 in
theorem kX13_isFit_215 {C : QC} {x : QP} {M : QM} {st : List CV} {L : QL} : Rr C mX13_isFit (215, L, st, M) x = Rr C mX13_isFit (216, L, qi 1 :: st, M) x := g_pl (show decode cX13_isFit 215 = .ok (.iconst 1, 1) by decide +kernel) rfl
set_option maxRecDepth 20000 in
theorem kX13_isFit_216 {C : QC} {x : QP} {M : QM} {st : List CV} {L : QL} : Rr C mX13_isFit (216, L, st, M) x = Rr C mX13_isFit (220, L, st, M) x := g_pl (show decode cX13_isFit 216 = .ok (.goto 4, 3) by decide +kernel) rfl
set_option maxRecDepth 20000 in
theorem kX13_isFit_219 {C : QC} {x : QP} {M : QM} {st : List CV} {L : QL} : Rr C mX13_isFit (219, L, st, M) x = Rr C mX13_isFit (220, L, qi 0 :: st, M) x := g_pl (show decode cX13_isFit 219 = .ok (.iconst 0, 1) by decide +kernel) rfl
set_option maxRecDepth 20000 in
theorem kX13_isFit_220 {C : QC} {x : QP} {M : QM} {st : List CV} {L : QL} {z : Int} (hz : z = 0 ∨ z = 1) : Rr C mX13_isFit (220, L, [qi z], M) x = x (some (qi z)) M := g_iret (show decode cX13_isFit 220 = .ok (.ireturn, 1) by decide +kernel) (by rcases hz with rfl | rfl <;> rfl)
set_option maxRecDepth 20000 in
theorem kX13_isFit_221 {C : QC} {x : QP} {M : QM} {st : List CV} {L : QL} {l0 l1 l2 l3 l4 l5 : Option CV} {r : Option Nat} : Rr C mX13_isFit (221, [some (.inr (.inr r)), l1, l2, l3, l4, l5], st, M) x = Rr C mX13_isFit (222, [some (.inr (.inr r)), l1, l2, l3, l4, l5], .inr (.inr r) :: st, M) x := g_pl (show decode cX13_isFit 221 = .ok (.aload_n 0, 1) by decide +kernel) rfl
set_option maxRecDepth 20000 in
theorem kX13_isFit_222 {C : QC} {x : QP} {M : QM} {st : List CV} {L : QL} {l0 l1 l2 l3 l4 l5 : Option CV} {z : Int} : Rr C mX13_isFit (222, [l0, l1, l2, l3, some (qi z), l5], st, M) x = Rr C mX13_isFit (224, [l0, l1, l2, l3, some (qi z), l5], qi z :: st, M) x := g_pl (show decode cX13_isFit 222 = .ok (.iload 4, 2) by decide +kernel) rfl
set_option maxRecDepth 20000 in
theorem kX13_isFit_224 {C : QC} {x : QP} {M : QM} {st : List CV} {L : QL} {l0 l1 l2 l3 l4 l5 : Option CV} {z : Int} : Rr C mX13_isFit (224, [l0, l1, some (qi z), l3, l4, l5], st, M) x = Rr C mX13_isFit (225, [l0, l1, some (qi z), l3, l4, l5], qi z :: st, M) x := g_pl (show decode cX13_isFit 224 = .ok (.iload_n 2, 1) by decide +kernel) rfl
set_option maxRecDepth 20000 in
theorem kX13_isFit_225 {C : QC} {x : QP} {M : QM} {st : List CV} {L : QL} {l0 l1 l2 l3 l4 l5 : Option CV} {z : Int} : Rr C mX13_isFit (225, [l0, l1, l2, some (qi z), l4, l5], st, M) x = Rr C mX13_isFit (226, [l0, l1, l2, some (qi z), l4, l5], qi z :: st, M) x := g_pl (show decode cX13_isFit 225 = .ok (.iload_n 3, 1) by decide +kernel) rfl
set_option maxRecDepth 20000 in
theorem kX13_isFit_226 {C : QC} {x : QP} {M : QM} {L : QL} {rest : List CV} {a0 a1 a2 : CV} {v : CV} {M1 : QM} {b : Nat} (hb : q_kd M b = (1, 13)) (hC : C iX13_isFit [qr b, a0, a1, a2] M (some v) M1) (hw : (rest.map q_wd).sum ≤ 8) (k : Rr C mX13_isFit (229, L, v :: rest, M1) x) : Rr C mX13_isFit (226, L, a2 :: a1 :: a0 :: qr b :: rest, M) x := g_cv (ow := 13) (e := (0, 263, 13, [1615, 1617, 71, 94])) (as := [a0, a1, a2]) (show decode cX13_isFit 226 = .ok (.invokevirtual 214, 3) by decide +kernel) rfl rfl rfl (Or.inl rfl) rfl hb hC hw k
set_option maxRecDepth 20000 in
theorem kX13_isFit_229 {C : QC} {x : QP} {M : QM} {st : List CV} {L : QL} {a : Int} (ha1 : -2147483648 ≤ a) (ha2 : a < 2147483648) : Rr C mX13_isFit (229, L, qi a :: st, M) x = (if a = 0 then Rr C mX13_isFit (232, L, st, M) x else Rr C mX13_isFit (236, L, st, M) x) := (g_if (show decode cX13_isFit 229 = .ok (.ifCond .ne 7, 3) by decide +kernel) rfl ha1 ha2).trans (g_itn c_ne)
set_option maxRecDepth 20000 in
theorem kX13_isFit_232 {C : QC} {x : QP} {M : QM} {st : List CV} {L : QL} : Rr C mX13_isFit (232, L, st, M) x = Rr C mX13_isFit (233, L, qi 1 :: st, M) x := g_pl (show decode cX13_isFit 232 = .ok (.iconst 1, 1) by decide +kernel) rfl
set_option maxRecDepth 20000 in
theorem kX13_isFit_233 {C : QC} {x : QP} {M : QM} {st : List CV} {L : QL} : Rr C mX13_isFit (233, L, st, M) x = Rr C mX13_isFit (237, L, st, M) x := g_pl (show decode cX13_isFit 233 = .ok (.goto 4, 3) by decide +kernel) rfl
set_option maxRecDepth 20000 in
theorem kX13_isFit_236 {C : QC} {x : QP} {M : QM} {st : List CV} {L : QL} : Rr C mX13_isFit (236, L, st, M) x = Rr C mX13_isFit (237, L, qi 0 :: st, M) x := g_pl (show decode cX13_isFit 236 = .ok (.iconst 0, 1) by decide +kernel) rfl
set_option maxRecDepth 20000 in
theorem kX13_isFit_237 {C : QC} {x : QP} {M : QM} {st : List CV} {L : QL} {z : Int} (hz : z = 0 ∨ z = 1) : Rr C mX13_isFit (237, L, [qi z], M) x = x (some (qi z)) M := g_iret (show decode cX13_isFit 237 = .ok (.ireturn, 1) by decide +kernel) (by rcases hz with rfl | rfl <;> rfl)
set_option maxRecDepth 20000 in
theorem eX13_isFit {d : Nat} {M : QM} {x : QP} {a : Nat} {v0 : Int} {v1 : Int} {v2 : Int} : q_T (d + 1) iX13_isFit [qr a, qi v0, qi v1, qi v2] M x = Rr (q_C d) mX13_isFit (0, [some (qr a), some (qi v0), some (qi v1), some (qi v2), none, none], [], M) x := g_entryT (e := _) rfl (Nat.le_of_ble_eq_true rfl) rfl rfl
def mX13_fits : QI := (13, cX13_fits, false, some .int)
set_option maxRecDepth 20000 in
theorem kX13_fits_0 {C : QC} {x : QP} {M : QM} {st : List CV} {L : QL} {l0 l1 l2 l3 l4 : Option CV} {r : Option Nat} : Rr C mX13_fits (0, [some (.inr (.inr r)), l1, l2, l3, l4], st, M) x = Rr C mX13_fits (1, [some (.inr (.inr r)), l1, l2, l3, l4], .inr (.inr r) :: st, M) x := g_pl (show decode cX13_fits 0 = .ok (.aload_n 0, 1) by decide +kernel) rfl
set_option maxRecDepth 20000 in
theorem kX13_fits_1 {C : QC} {x : QP} {M : QM} {st : List CV} {L : QL} {l0 l1 l2 l3 l4 : Option CV} {z : Int} : Rr C mX13_fits (1, [l0, some (qi z), l2, l3, l4], st, M) x = Rr C mX13_fits (2, [l0, some (qi z), l2, l3, l4], qi z :: st, M) x := g_pl (show decode cX13_fits 1 = .ok (.iload_n 1, 1) by decide +kernel) rfl
set_option maxRecDepth 20000 in
theorem kX13_fits_2 {C : QC} {x : QP} {M : QM} {L : QL} {rest : List CV} {a0 : CV} {v : CV} {M1 : QM} {b : Nat} (hb : q_kd M b = (1, 13)) (hC : C iX13_isFilter [qr b, a0] M (some v) M1) (hw : (rest.map q_wd).sum ≤ 8) (k : Rr C mX13_fits (5, L, v :: rest, M1) x) : Rr C mX13_fits (2, L, a0 :: qr b :: rest, M) x := g_cv (ow := 13) (e := (0, 260, 13, [1603, 1605, 70, 94])) (as := [a0]) (show decode cX13_fits 2 = .ok (.invokevirtual 208, 3) by decide +kernel) rfl rfl rfl (Or.inl rfl) rfl hb hC hw k
set_option maxRecDepth 20000 in
theorem kX13_fits_5 {C : QC} {x : QP} {M : QM} {st : List CV} {L : QL} {a : Int} (ha1 : -2147483648 ≤ a) (ha2 : a < 2147483648) : Rr C mX13_fits (5, L, qi a :: st, M) x = (if a = 0 then Rr C mX13_fits (8, L, st, M) x else Rr C mX13_fits (10, L, st, M) x) := (g_if (show decode cX13_fits 5 = .ok (.ifCond .ne 5, 3) by decide +kernel) rfl ha1 ha2).trans (g_itn c_ne)
set_option maxRecDepth 20000 in
theorem kX13_fits_8 {C : QC} {x : QP} {M : QM} {st : List CV} {L : QL} : Rr C mX13_fits (8, L, st, M) x = Rr C mX13_fits (9, L, qi (-1) :: st, M) x := g_pl (show decode cX13_fits 8 = .ok (.iconst (-1), 1) by decide +kernel) rfl
set_option maxRecDepth 20000 in
theorem kX13_fits_9 {C : QC} {x : QP} {M : QM} {st : List CV} {L : QL} {z : Int} : Rr C mX13_fits (9, L, [qi z], M) x = x (some (qi z)) M := g_iret (show decode cX13_fits 9 = .ok (.ireturn, 1) by decide +kernel) rfl
set_option maxRecDepth 20000 in
theorem kX13_fits_10 {C : QC} {x : QP} {M : QM} {st : List CV} {L : QL} {l0 l1 l2 l3 l4 : Option CV} {z : Int} : Rr C mX13_fits (10, [l0, l1, some (qi z), l3, l4], st, M) x = Rr C mX13_fits (11, [l0, l1, some (qi z), l3, l4], qi z :: st, M) x := g_pl (show decode cX13_fits 10 = .ok (.iload_n 2, 1) by decide +kernel) rfl
set_option maxRecDepth 20000 in
theorem kX13_fits_11 {C : QC} {x : QP} {M : QM} {L : QL} {rest : List CV} {a0 : CV} {v : CV} {M1 : QM} (hC : C iX13_isDay [a0] M (some v) M1) (hw : (rest.map q_wd).sum ≤ 8) (k : Rr C mX13_fits (14, L, v :: rest, M1) x) : Rr C mX13_fits (11, L, a0 :: rest, M) x := g_cs (ow := 13) (e := (1, 206, 0, [1388, 1389, 94])) (as := [a0]) (show decode cX13_fits 11 = .ok (.invokestatic 97, 3) by decide +kernel) rfl rfl rfl rfl (Or.inl rfl) rfl hC hw k
set_option maxRecDepth 20000 in
theorem kX13_fits_14 {C : QC} {x : QP} {M : QM} {st : List CV} {L : QL} {a : Int} (ha1 : -2147483648 ≤ a) (ha2 : a < 2147483648) : Rr C mX13_fits (14, L, qi a :: st, M) x = (if a = 0 then Rr C mX13_fits (17, L, st, M) x else Rr C mX13_fits (20, L, st, M) x) := (g_if (show decode cX13_fits 14 = .ok (.ifCond .ne 6, 3) by decide +kernel) rfl ha1 ha2).trans (g_itn c_ne)
set_option maxRecDepth 20000 in
theorem kX13_fits_17 {C : QC} {x : QP} {M : QM} {st : List CV} {L : QL} : Rr C mX13_fits (17, L, st, M) x = Rr C mX13_fits (19, L, qi (-2) :: st, M) x := g_pl (show decode cX13_fits 17 = .ok (.bipush (-2), 2) by decide +kernel) rfl
set_option maxRecDepth 20000 in
theorem kX13_fits_19 {C : QC} {x : QP} {M : QM} {st : List CV} {L : QL} {z : Int} : Rr C mX13_fits (19, L, [qi z], M) x = x (some (qi z)) M := g_iret (show decode cX13_fits 19 = .ok (.ireturn, 1) by decide +kernel) rfl
set_option maxRecDepth 20000 in
theorem kX13_fits_20 {C : QC} {x : QP} {M : QM} {st : List CV} {L : QL} : Rr C mX13_fits (20, L, st, M) x = Rr C mX13_fits (21, L, qi 0 :: st, M) x := g_pl (show decode cX13_fits 20 = .ok (.iconst 0, 1) by decide +kernel) rfl
set_option maxRecDepth 20000 in
theorem kX13_fits_21 {C : QC} {x : QP} {M : QM} {st : List CV} {L : QL} {l0 l1 l2 l3 l4 : Option CV} {z : Int} : Rr C mX13_fits (21, [l0, l1, l2, l3, l4], qi z :: st, M) x = Rr C mX13_fits (22, [l0, l1, q_cut l2, some (qi z), l4], st, M) x := g_pl (show decode cX13_fits 21 = .ok (.istore_n 3, 1) by decide +kernel) rfl
set_option maxRecDepth 20000 in
theorem kX13_fits_22 {C : QC} {x : QP} {M : QM} {st : List CV} {L : QL} : Rr C mX13_fits (22, L, st, M) x = Rr C mX13_fits (23, L, qi 0 :: st, M) x := g_pl (show decode cX13_fits 22 = .ok (.iconst 0, 1) by decide +kernel) rfl
set_option maxRecDepth 20000 in
theorem kX13_fits_23 {C : QC} {x : QP} {M : QM} {st : List CV} {L : QL} {l0 l1 l2 l3 l4 : Option CV} {z : Int} : Rr C mX13_fits (23, [l0, l1, l2, l3, l4], qi z :: st, M) x = Rr C mX13_fits (25, [l0, l1, l2, q_cut l3, some (qi z)], st, M) x := g_pl (show decode cX13_fits 23 = .ok (.istore 4, 2) by decide +kernel) rfl
set_option maxRecDepth 20000 in
theorem kX13_fits_25 {C : QC} {x : QP} {M : QM} {st : List CV} {L : QL} {l0 l1 l2 l3 l4 : Option CV} {z : Int} : Rr C mX13_fits (25, [l0, l1, l2, l3, some (qi z)], st, M) x = Rr C mX13_fits (27, [l0, l1, l2, l3, some (qi z)], qi z :: st, M) x := g_pl (show decode cX13_fits 25 = .ok (.iload 4, 2) by decide +kernel) rfl
set_option maxRecDepth 20000 in
theorem kX13_fits_27 {C : QC} {x : QP} {M : QM} {st : List CV} {L : QL} {l0 l1 l2 l3 l4 : Option CV} {r : Option Nat} : Rr C mX13_fits (27, [some (.inr (.inr r)), l1, l2, l3, l4], st, M) x = Rr C mX13_fits (28, [some (.inr (.inr r)), l1, l2, l3, l4], .inr (.inr r) :: st, M) x := g_pl (show decode cX13_fits 27 = .ok (.aload_n 0, 1) by decide +kernel) rfl
set_option maxRecDepth 20000 in
theorem kX13_fits_28 {C : QC} {x : QP} {M : QM} {st : List CV} {L : QL} {a : Nat} (hk : q_kd M a = (1, 13)) : Rr C mX13_fits (28, L, qr a :: st, M) x = Rr C mX13_fits (31, L, q_fv M a 0 :: st, M) x := g_getf (ow := 13) (e := (13, 0, RX13, 1301, 0)) (show decode cX13_fits 28 = .ok (.getfield 10, 3) by decide +kernel) rfl hk
set_option maxRecDepth 20000 in
theorem kX13_fits_31 {C : QC} {x : QP} {M : QM} {st : List CV} {L : QL} : Rr C mX13_fits (31, L, st, M) x = Rr C mX13_fits (32, L, qi 0 :: st, M) x := g_pl (show decode cX13_fits 31 = .ok (.iconst 0, 1) by decide +kernel) rfl
set_option maxRecDepth 20000 in
theorem kX13_fits_32 {C : QC} {x : QP} {M : QM} {st : List CV} {L : QL} {a : Nat} {j : Int} (hk : (q_kd M a).1 = 2) (h0 : 0 ≤ j) (h1 : j < ((q_kd M a).2 : Int)) : Rr C mX13_fits (32, L, qi j :: qr a :: st, M) x = Rr C mX13_fits (33, L, q_fv M a j.toNat :: st, M) x := g_iald (show decode cX13_fits 32 = .ok (.iaload, 1) by decide +kernel) hk h0 h1
set_option maxRecDepth 20000 in
theorem kX13_fits_33 {C : QC} {x : QP} {M : QM} {st : List CV} {L : QL} {a b : Int} (ha1 : -2147483648 ≤ a) (ha2 : a < 2147483648) (hb1 : -2147483648 ≤ b) (hb2 : b < 2147483648) : Rr C mX13_fits (33, L, qi b :: qi a :: st, M) x = (if a < b then Rr C mX13_fits (36, L, st, M) x else Rr C mX13_fits (82, L, st, M) x) := (g_icmp (show decode cX13_fits 33 = .ok (.if_icmp .ge 49, 3) by decide +kernel) rfl ha1 ha2 hb1 hb2).trans (g_itn c_ge)
set_option maxRecDepth 20000 in
theorem kX13_fits_36 {C : QC} {x : QP} {M : QM} {st : List CV} {L : QL} {l0 l1 l2 l3 l4 : Option CV} {z : Int} : Rr C mX13_fits (36, [l0, l1, l2, some (qi z), l4], st, M) x = Rr C mX13_fits (37, [l0, l1, l2, some (qi z), l4], qi z :: st, M) x := g_pl (show decode cX13_fits 36 = .ok (.iload_n 3, 1) by decide +kernel) rfl
set_option maxRecDepth 20000 in
theorem kX13_fits_37 {C : QC} {x : QP} {M : QM} {st : List CV} {L : QL} {l0 l1 l2 l3 l4 : Option CV} {r : Option Nat} : Rr C mX13_fits (37, [some (.inr (.inr r)), l1, l2, l3, l4], st, M) x = Rr C mX13_fits (38, [some (.inr (.inr r)), l1, l2, l3, l4], .inr (.inr r) :: st, M) x := g_pl (show decode cX13_fits 37 = .ok (.aload_n 0, 1) by decide +kernel) rfl
set_option maxRecDepth 20000 in
theorem kX13_fits_38 {C : QC} {x : QP} {M : QM} {st : List CV} {L : QL} {l0 l1 l2 l3 l4 : Option CV} {z : Int} : Rr C mX13_fits (38, [l0, l1, l2, l3, some (qi z)], st, M) x = Rr C mX13_fits (40, [l0, l1, l2, l3, some (qi z)], qi z :: st, M) x := g_pl (show decode cX13_fits 38 = .ok (.iload 4, 2) by decide +kernel) rfl
set_option maxRecDepth 20000 in
theorem kX13_fits_40 {C : QC} {x : QP} {M : QM} {st : List CV} {L : QL} {l0 l1 l2 l3 l4 : Option CV} {z : Int} : Rr C mX13_fits (40, [l0, l1, some (qi z), l3, l4], st, M) x = Rr C mX13_fits (41, [l0, l1, some (qi z), l3, l4], qi z :: st, M) x := g_pl (show decode cX13_fits 40 = .ok (.iload_n 2, 1) by decide +kernel) rfl
set_option maxRecDepth 20000 in
theorem kX13_fits_41 {C : QC} {x : QP} {M : QM} {L : QL} {rest : List CV} {a0 a1 : CV} {v : CV} {M1 : QM} {b : Nat} (hb : q_kd M b = (1, 13)) (hC : C iX13_exists [qr b, a0, a1] M (some v) M1) (hw : (rest.map q_wd).sum ≤ 8) (k : Rr C mX13_fits (44, L, v :: rest, M1) x) : Rr C mX13_fits (41, L, a1 :: a0 :: qr b :: rest, M) x := g_cv (ow := 13) (e := (0, 235, 13, [1503, 1505, 56, 94])) (as := [a0, a1]) (show decode cX13_fits 41 = .ok (.invokevirtual 62, 3) by decide +kernel) rfl rfl rfl (Or.inl rfl) rfl hb hC hw k
set_option maxRecDepth 20000 in
theorem kX13_fits_44 {C : QC} {x : QP} {M : QM} {st : List CV} {L : QL} {a : Int} (ha1 : -2147483648 ≤ a) (ha2 : a < 2147483648) : Rr C mX13_fits (44, L, qi a :: st, M) x = (if a = 0 then Rr C mX13_fits (73, L, st, M) x else Rr C mX13_fits (47, L, st, M) x) := (g_if (show decode cX13_fits 44 = .ok (.ifCond .eq 29, 3) by decide +kernel) rfl ha1 ha2).trans (g_ite c_eq)
set_option maxRecDepth 20000 in
theorem kX13_fits_47 {C : QC} {x : QP} {M : QM} {st : List CV} {L : QL} {l0 l1 l2 l3 l4 : Option CV} {r : Option Nat} : Rr C mX13_fits (47, [some (.inr (.inr r)), l1, l2, l3, l4], st, M) x = Rr C mX13_fits (48, [some (.inr (.inr r)), l1, l2, l3, l4], .inr (.inr r) :: st, M) x := g_pl (show decode cX13_fits 47 = .ok (.aload_n 0, 1) by decide +kernel) rfl
set_option maxRecDepth 20000 in
theorem kX13_fits_48 {C : QC} {x : QP} {M : QM} {st : List CV} {L : QL} {l0 l1 l2 l3 l4 : Option CV} {r : Option Nat} : Rr C mX13_fits (48, [some (.inr (.inr r)), l1, l2, l3, l4], st, M) x = Rr C mX13_fits (49, [some (.inr (.inr r)), l1, l2, l3, l4], .inr (.inr r) :: st, M) x := g_pl (show decode cX13_fits 48 = .ok (.aload_n 0, 1) by decide +kernel) rfl
set_option maxRecDepth 20000 in
theorem kX13_fits_49 {C : QC} {x : QP} {M : QM} {st : List CV} {L : QL} {a : Nat} (hk : q_kd M a = (1, 13)) : Rr C mX13_fits (49, L, qr a :: st, M) x = Rr C mX13_fits (52, L, q_fv M a 0 :: st, M) x := g_getf (ow := 13) (e := (13, 0, RX13, 1301, 0)) (show decode cX13_fits 49 = .ok (.getfield 10, 3) by decide +kernel) rfl hk
set_option maxRecDepth 20000 in
theorem kX13_fits_52 {C : QC} {x : QP} {M : QM} {st : List CV} {L : QL} : Rr C mX13_fits (52, L, st, M) x = Rr C mX13_fits (54, L, qi 7 :: st, M) x := g_pl (show decode cX13_fits 52 = .ok (.bipush 7, 2) by decide +kernel) rfl
set_option maxRecDepth 20000 in
theorem kX13_fits_54 {C : QC} {x : QP} {M : QM} {st : List CV} {L : QL} {l0 l1 l2 l3 l4 : Option CV} {z : Int} : Rr C mX13_fits (54, [l0, some (qi z), l2, l3, l4], st, M) x = Rr C mX13_fits (55, [l0, some (qi z), l2, l3, l4], qi z :: st, M) x := g_pl (show decode cX13_fits 54 = .ok (.iload_n 1, 1) by decide +kernel) rfl
set_option maxRecDepth 20000 in
theorem kX13_fits_55 {C : QC} {x : QP} {M : QM} {st : List CV} {L : QL} {a b : Int} : Rr C mX13_fits (55, L, qi b :: qi a :: st, M) x = Rr C mX13_fits (56, L, qi (a + b) :: st, M) x := g_pl (show decode cX13_fits 55 = .ok (.iadd, 1) by decide +kernel) rfl
set_option maxRecDepth 20000 in
theorem kX13_fits_56 {C : QC} {x : QP} {M : QM} {st : List CV} {L : QL} {a : Nat} {j : Int} (hk : (q_kd M a).1 = 2) (h0 : 0 ≤ j) (h1 : j < ((q_kd M a).2 : Int)) : Rr C mX13_fits (56, L, qi j :: qr a :: st, M) x = Rr C mX13_fits (57, L, q_fv M a j.toNat :: st, M) x := g_iald (show decode cX13_fits 56 = .ok (.iaload, 1) by decide +kernel) hk h0 h1
set_option maxRecDepth 20000 in
theorem kX13_fits_57 {C : QC} {x : QP} {M : QM} {st : List CV} {L : QL} {l0 l1 l2 l3 l4 : Option CV} {z : Int} : Rr C mX13_fits (57, [l0, l1, l2, l3, some (qi z)], st, M) x = Rr C mX13_fits (59, [l0, l1, l2, l3, some (qi z)], qi z :: st, M) x := g_pl (show decode cX13_fits 57 = .ok (.iload 4, 2) by decide +kernel) rfl
set_option maxRecDepth 20000 in
theorem kX13_fits_59 {C : QC} {x : QP} {M : QM} {st : List CV} {L : QL} {l0 l1 l2 l3 l4 : Option CV} {z : Int} : Rr C mX13_fits (59, [l0, l1, some (qi z), l3, l4], st, M) x = Rr C mX13_fits (60, [l0, l1, some (qi z), l3, l4], qi z :: st, M) x := g_pl (show decode cX13_fits 59 = .ok (.iload_n 2, 1) by decide +kernel) rfl
set_option maxRecDepth 20000 in
theorem kX13_fits_60 {C : QC} {x : QP} {M : QM} {L : QL} {rest : List CV} {a0 a1 a2 : CV} {v : CV} {M1 : QM} {b : Nat} (hb : q_kd M b = (1, 13)) (hC : C iX13_isFit [qr b, a0, a1, a2] M (some v) M1) (hw : (rest.map q_wd).sum ≤ 8) (k : Rr C mX13_fits (63, L, v :: rest, M1) x) : Rr C mX13_fits (60, L, a2 :: a1 :: a0 :: qr b :: rest, M) x := g_cv (ow := 13) (e := (0, 263, 13, [1615, 1617, 71, 94])) (as := [a0, a1, a2]) (show decode cX13_fits 60 = .ok (.invokevirtual 214, 3) by decide +kernel) rfl rfl rfl (Or.inl rfl) rfl hb hC hw k
set_option maxRecDepth 20000 in
theorem kX13_fits_63 {C : QC} {x : QP} {M : QM} {st : List CV} {L : QL} {a : Int} (ha1 : -2147483648 ≤ a) (ha2 : a < 2147483648) : Rr C mX13_fits (63, L, qi a :: st, M) x = (if a = 0 then Rr C mX13_fits (73, L, st, M) x else Rr C mX13_fits (66, L, st, M) x) := (g_if (show decode cX13_fits 63 = .ok (.ifCond .eq 10, 3) by decide +kernel) rfl ha1 ha2).trans (g_ite c_eq)
set_option maxRecDepth 20000 in
theorem kX13_fits_66 {C : QC} {x : QP} {M : QM} {st : List CV} {L : QL} : Rr C mX13_fits (66, L, st, M) x = Rr C mX13_fits (67, L, qi 1 :: st, M) x := g_pl (show decode cX13_fits 66 = .ok (.iconst 1, 1) by decide +kernel) rfl
set_option maxRecDepth 20000 in
theorem kX13_fits_67 {C : QC} {x : QP} {M : QM} {st : List CV} {L : QL} {l0 l1 l2 l3 l4 : Option CV} {z : Int} : Rr C mX13_fits (67, [l0, l1, l2, l3, some (qi z)], st, M) x = Rr C mX13_fits (69, [l0, l1, l2, l3, some (qi z)], qi z :: st, M) x := g_pl (show decode cX13_fits 67 = .ok (.iload 4, 2) by decide +kernel) rfl
set_option maxRecDepth 20000 in
theorem kX13_fits_69 {C : QC} {x : QP} {M : QM} {st : List CV} {L : QL} {a b : Int} : Rr C mX13_fits (69, L, qi b :: qi a :: st, M) x = Rr C mX13_fits (70, L, qi (q_shl a b) :: st, M) x := g_pl (show decode cX13_fits 69 = .ok (.ishl, 1) by decide +kernel) rfl
set_option maxRecDepth 20000 in
theorem kX13_fits_70 {C : QC} {x : QP} {M : QM} {st : List CV} {L : QL} : Rr C mX13_fits (70, L, st, M) x = Rr C mX13_fits (74, L, st, M) x := g_pl (show decode cX13_fits 70 = .ok (.goto 4, 3) by decide +kernel) rfl
set_option maxRecDepth 20000 in
theorem kX13_fits_73 {C : QC} {x : QP} {M : QM} {st : List CV} {L : QL} : Rr C mX13_fits (73, L, st, M) x = Rr C mX13_fits (74, L, qi 0 :: st, M) x := g_pl (show decode cX13_fits 73 = .ok (.iconst 0, 1) by decide +kernel) rfl
set_option maxRecDepth 20000 in
theorem kX13_fits_74 {C : QC} {x : QP} {M : QM} {st : List CV} {L : QL} {a b : Int} : Rr C mX13_fits (74, L, qi b :: qi a :: st, M) x = Rr C mX13_fits (75, L, qi (q_or a b) :: st, M) x := g_pl (show decode cX13_fits 74 = .ok (.ior, 1) by decide +kernel) rfl
set_option maxRecDepth 20000 in
theorem kX13_fits_75 {C : QC} {x : QP} {M : QM} {st : List CV} {L : QL} {l0 l1 l2 l3 l4 : Option CV} {z : Int} : Rr C mX13_fits (75, [l0, l1, l2, l3, l4], qi z :: st, M) x = Rr C mX13_fits (76, [l0, l1, q_cut l2, some (qi z), l4], st, M) x := g_pl (show decode cX13_fits 75 = .ok (.istore_n 3, 1) by decide +kernel) rfl
set_option maxRecDepth 20000 in
theorem kX13_fits_76 {C : QC} {x : QP} {M : QM} {st : List CV} {L : QL} {l0 l1 l2 l3 l4 : Option CV} {z : Int} : Rr C mX13_fits (76, [l0, l1, l2, l3, some (qi z)], st, M) x = Rr C mX13_fits (79, [l0, l1, l2, q_cut l3, some (qi (z + 1))], st, M) x := g_pl (show decode cX13_fits 76 = .ok (.iinc 4 1, 3) by decide +kernel) rfl
set_option maxRecDepth 20000 in
theorem kX13_fits_79 {C : QC} {x : QP} {M : QM} {st : List CV} {L : QL} : Rr C mX13_fits (79, L, st, M) x = Rr C mX13_fits (25, L, st, M) x := g_pl (show decode cX13_fits 79 = .ok (.goto (-54), 3) by decide +kernel) rfl
set_option maxRecDepth 20000 in
theorem kX13_fits_82 {C : QC} {x : QP} {M : QM} {st : List CV} {L : QL} {l0 l1 l2 l3 l4 : Option CV} {z : Int} : Rr C mX13_fits (82, [l0, l1, l2, some (qi z), l4], st, M) x = Rr C mX13_fits (83, [l0, l1, l2, some (qi z), l4], qi z :: st, M) x := g_pl (show decode cX13_fits 82 = .ok (.iload_n 3, 1) by decide +kernel) rfl
set_option maxRecDepth 20000 in
theorem kX13_fits_83 {C : QC} {x : QP} {M : QM} {st : List CV} {L : QL} {z : Int} : Rr C mX13_fits (83, L, [qi z], M) x = x (some (qi z)) M := g_iret (show decode cX13_fits 83 = .ok (.ireturn, 1) by decide +kernel) rfl
set_option maxRecDepth 20000 in
theorem eX13_fits {d : Nat} {M : QM} {x : QP} {a : Nat} {v0 : Int} {v1 : Int} : q_T (d + 1) iX13_fits [qr a, qi v0, qi v1] M x = Rr (q_C d) mX13_fits (0, [some (qr a), some (qi v0), some (qi v1), none, none], [], M) x := g_entryT (e := _) rfl (Nat.le_of_ble_eq_true rfl) rfl rfl
def mX13_letterOf : QI := (13, cX13_letterOf, false, some .int)
set_option maxRecDepth 20000 in
theorem kX13_letterOf_0 {C : QC} {x : QP} {M : QM} {st : List CV} {L : QL} {z : Int} : Rr C mX13_letterOf (0, [some (qi z)], st, M) x = Rr C mX13_letterOf (1, [some (qi z)], qi z :: st, M) x := g_pl (show decode cX13_letterOf 0 = .ok (.iload_n 0, 1) by decide +kernel) rfl
set_option maxRecDepth 20000 in
theorem kX13_letterOf_1 {C : QC} {x : QP} {M : QM} {st : List CV} {L : QL} {a : Int} (ha1 : -2147483648 ≤ a) (ha2 : a < 2147483648) : Rr C mX13_letterOf (1, L, qi a :: st, M) x = (if a = 0 then Rr C mX13_letterOf (48, L, st, M) x else if a = 1 then Rr C mX13_letterOf (51, L, st, M) x else if a = 2 then Rr C mX13_letterOf (54, L, st, M) x else if a = 3 then Rr C mX13_letterOf (57, L, st, M) x else if a = 4 then Rr C mX13_letterOf (60, L, st, M) x else if a = 5 then Rr C mX13_letterOf (63, L, st, M) x else if a = 6 then Rr C mX13_letterOf (66, L, st, M) x else if a = 7 then Rr C mX13_letterOf (69, L, st, M) x else Rr C mX13_letterOf (72, L, st, M) x) := by
  by_cases h0 : a = 0
  · subst h0; rw [if_pos rfl]; exact g_tsI (show decode cX13_letterOf 1 = .ok (.tableswitch 71 0 7 #[47, 50, 53, 56, 59, 62, 65, 68], 47) by decide +kernel) (by decide) (by decide) rfl rfl
  rw [if_neg h0]
  by_cases h1 : a = 1
  · subst h1; rw [if_pos rfl]; exact g_tsI (show decode cX13_letterOf 1 = .ok (.tableswitch 71 0 7 #[47, 50, 53, 56, 59, 62, 65, 68], 47) by decide +kernel) (by decide) (by decide) rfl rfl
  rw [if_neg h1]
  by_cases h2 : a = 2
  · subst h2; rw [if_pos rfl]; exact g_tsI (show decode cX13_letterOf 1 = .ok (.tableswitch 71 0 7 #[47, 50, 53, 56, 59, 62, 65, 68], 47) by decide +kernel) (by decide) (by decide) rfl rfl
  rw [if_neg h2]
  by_cases h3 : a = 3
  · subst h3; rw [if_pos rfl]; exact g_tsI (show decode cX13_letterOf 1 = .ok (.tableswitch 71 0 7 #[47, 50, 53, 56, 59, 62, 65, 68], 47) by decide +kernel) (by decide) (by decide) rfl rfl
  rw [if_neg h3]
  by_cases h4 : a = 4
  · subst h4; rw [if_pos rfl]; exact g_tsI (show decode cX13_letterOf 1 = .ok (.tableswitch 71 0 7 #[47, 50, 53, 56, 59, 62, 65, 68], 47) by decide +kernel) (by decide) (by decide) rfl rfl
  rw [if_neg h4]
  by_cases h5 : a = 5
  · subst h5; rw [if_pos rfl]; exact g_tsI (show decode cX13_letterOf 1 = .ok (.tableswitch 71 0 7 #[47, 50, 53, 56, 59, 62, 65, 68], 47) by decide +kernel) (by decide) (by decide) rfl rfl
  rw [if_neg h5]
  by_cases h6 : a = 6
  · subst h6; rw [if_pos rfl]; exact g_tsI (show decode cX13_letterOf 1 = .ok (.tableswitch 71 0 7 #[47, 50, 53, 56, 59, 62, 65, 68], 47) by decide +kernel) (by decide) (by decide) rfl rfl
  rw [if_neg h6]
  by_cases h7 : a = 7
  · subst h7; rw [if_pos rfl]; exact g_tsI (show decode cX13_letterOf 1 = .ok (.tableswitch 71 0 7 #[47, 50, 53, 56, 59, 62, 65, 68], 47) by decide +kernel) (by decide) (by decide) rfl rfl
  rw [if_neg h7]
  exact g_tsO (show decode cX13_letterOf 1 = .ok (.tableswitch 71 0 7 #[47, 50, 53, 56, 59, 62, 65, 68], 47) by decide +kernel) ⟨ha1, ha2⟩ (by omega) rfl
set_option maxRecDepth 20000 in
theorem kX13_letterOf_48 {C : QC} {x : QP} {M : QM} {st : List CV} {L : QL} : Rr C mX13_letterOf (48, L, st, M) x = Rr C mX13_letterOf (50, L, qi 70 :: st, M) x := g_pl (show decode cX13_letterOf 48 = .ok (.bipush 70, 2) by decide +kernel) rfl
set_option maxRecDepth 20000 in
theorem kX13_letterOf_50 {C : QC} {x : QP} {M : QM} {st : List CV} {L : QL} {z : Int} : Rr C mX13_letterOf (50, L, [qi z], M) x = x (some (qi z)) M := g_iret (show decode cX13_letterOf 50 = .ok (.ireturn, 1) by decide +kernel) rfl
set_option maxRecDepth 20000 in
theorem kX13_letterOf_51 {C : QC} {x : QP} {M : QM} {st : List CV} {L : QL} : Rr C mX13_letterOf (51, L, st, M) x = Rr C mX13_letterOf (53, L, qi 78 :: st, M) x := g_pl (show decode cX13_letterOf 51 = .ok (.bipush 78, 2) by decide +kernel) rfl
set_option maxRecDepth 20000 in
theorem kX13_letterOf_53 {C : QC} {x : QP} {M : QM} {st : List CV} {L : QL} {z : Int} : Rr C mX13_letterOf (53, L, [qi z], M) x = x (some (qi z)) M := g_iret (show decode cX13_letterOf 53 = .ok (.ireturn, 1) by decide +kernel) rfl
set_option maxRecDepth 20000 in
theorem kX13_letterOf_54 {C : QC} {x : QP} {M : QM} {st : List CV} {L : QL} : Rr C mX13_letterOf (54, L, st, M) x = Rr C mX13_letterOf (56, L, qi 77 :: st, M) x := g_pl (show decode cX13_letterOf 54 = .ok (.bipush 77, 2) by decide +kernel) rfl
set_option maxRecDepth 20000 in
theorem kX13_letterOf_56 {C : QC} {x : QP} {M : QM} {st : List CV} {L : QL} {z : Int} : Rr C mX13_letterOf (56, L, [qi z], M) x = x (some (qi z)) M := g_iret (show decode cX13_letterOf 56 = .ok (.ireturn, 1) by decide +kernel) rfl
set_option maxRecDepth 20000 in
theorem kX13_letterOf_57 {C : QC} {x : QP} {M : QM} {st : List CV} {L : QL} : Rr C mX13_letterOf (57, L, st, M) x = Rr C mX13_letterOf (59, L, qi 71 :: st, M) x := g_pl (show decode cX13_letterOf 57 = .ok (.bipush 71, 2) by decide +kernel) rfl
set_option maxRecDepth 20000 in
theorem kX13_letterOf_59 {C : QC} {x : QP} {M : QM} {st : List CV} {L : QL} {z : Int} : Rr C mX13_letterOf (59, L, [qi z], M) x = x (some (qi z)) M := g_iret (show decode cX13_letterOf 59 = .ok (.ireturn, 1) by decide +kernel) rfl
set_option maxRecDepth 20000 in
theorem kX13_letterOf_60 {C : QC} {x : QP} {M : QM} {st : List CV} {L : QL} : Rr C mX13_letterOf (60, L, st, M) x = Rr C mX13_letterOf (62, L, qi 67 :: st, M) x := g_pl (show decode cX13_letterOf 60 = .ok (.bipush 67, 2) by decide +kernel) rfl
set_option maxRecDepth 20000 in
theorem kX13_letterOf_62 {C : QC} {x : QP} {M : QM} {st : List CV} {L : QL} {z : Int} : Rr C mX13_letterOf (62, L, [qi z], M) x = x (some (qi z)) M := g_iret (show decode cX13_letterOf 62 = .ok (.ireturn, 1) by decide +kernel) rfl
set_option maxRecDepth 20000 in
theorem kX13_letterOf_63 {C : QC} {x : QP} {M : QM} {st : List CV} {L : QL} : Rr C mX13_letterOf (63, L, st, M) x = Rr C mX13_letterOf (65, L, qi 79 :: st, M) x := g_pl (show decode cX13_letterOf 63 = .ok (.bipush 79, 2) by decide +kernel) rfl
set_option maxRecDepth 20000 in
theorem kX13_letterOf_65 {C : QC} {x : QP} {M : QM} {st : List CV} {L : QL} {z : Int} : Rr C mX13_letterOf (65, L, [qi z], M) x = x (some (qi z)) M := g_iret (show decode cX13_letterOf 65 = .ok (.ireturn, 1) by decide +kernel) rfl
set_option maxRecDepth 20000 in
theorem kX13_letterOf_66 {C : QC} {x : QP} {M : QM} {st : List CV} {L : QL} : Rr C mX13_letterOf (66, L, st, M) x = Rr C mX13_letterOf (68, L, qi 84 :: st, M) x := g_pl (show decode cX13_letterOf 66 = .ok (.bipush 84, 2) by decide +kernel) rfl
set_option maxRecDepth 20000 in
theorem kX13_letterOf_68 {C : QC} {x : QP} {M : QM} {st : List CV} {L : QL} {z : Int} : Rr C mX13_letterOf (68, L, [qi z], M) x = x (some (qi z)) M := g_iret (show decode cX13_letterOf 68 = .ok (.ireturn, 1) by decide +kernel) rfl
set_option maxRecDepth 20000 in
theorem kX13_letterOf_69 {C : QC} {x : QP} {M : QM} {st : List CV} {L : QL} : Rr C mX13_letterOf (69, L, st, M) x = Rr C mX13_letterOf (71, L, qi 83 :: st, M) x := g_pl (show decode cX13_letterOf 69 = .ok (.bipush 83, 2) by decide +kernel) rfl
set_option maxRecDepth 20000 in
theorem kX13_letterOf_71 {C : QC} {x : QP} {M : QM} {st : List CV} {L : QL} {z : Int} : Rr C mX13_letterOf (71, L, [qi z], M) x = x (some (qi z)) M := g_iret (show decode cX13_letterOf 71 = .ok (.ireturn, 1) by decide +kernel) rfl
set_option maxRecDepth 20000 in
theorem kX13_letterOf_72 {C : QC} {x : QP} {M : QM} {st : List CV} {L : QL} : Rr C mX13_letterOf (72, L, st, M) x = Rr C mX13_letterOf (74, L, qi 80 :: st, M) x := g_pl (show decode cX13_letterOf 72 = .ok (.bipush 80, 2) by decide +kernel) rfl
set_option maxRecDepth 20000 in
theorem kX13_letterOf_74 {C : QC} {x : QP} {M : QM} {st : List CV} {L : QL} {z : Int} : Rr C mX13_letterOf (74, L, [qi z], M) x = x (some (qi z)) M := g_iret (show decode cX13_letterOf 74 = .ok (.ireturn, 1) by decide +kernel) rfl
set_option maxRecDepth 20000 in
theorem eX13_letterOf {d : Nat} {M : QM} {x : QP} {v0 : Int} : q_T (d + 1) iX13_letterOf [qi v0] M x = Rr (q_C d) mX13_letterOf (0, [some (qi v0)], [], M) x := g_entryT (e := _) rfl (Nat.le_of_ble_eq_true rfl) rfl rfl
def mX13_writes : QI := (13, cX13_writes, false, none)
set_option maxRecDepth 20000 in
theorem kX13_writes_0 {C : QC} {x : QP} {M : QM} {st : List CV} {L : QL} {l0 l1 : Option CV} {z : Int} : Rr C mX13_writes (0, [l0, some (qi z)], st, M) x = Rr C mX13_writes (1, [l0, some (qi z)], qi z :: st, M) x := g_pl (show decode cX13_writes 0 = .ok (.iload_n 1, 1) by decide +kernel) rfl
set_option maxRecDepth 20000 in
theorem kX13_writes_1 {C : QC} {x : QP} {M : QM} {st : List CV} {L : QL} : Rr C mX13_writes (1, L, st, M) x = Rr C mX13_writes (3, L, qi 9 :: st, M) x := g_pl (show decode cX13_writes 1 = .ok (.bipush 9, 2) by decide +kernel) rfl
set_option maxRecDepth 20000 in
theorem kX13_writes_3 {C : QC} {x : QP} {M : QM} {st : List CV} {L : QL} {a b : Int} (ha1 : -2147483648 ≤ a) (ha2 : a < 2147483648) (hb1 : -2147483648 ≤ b) (hb2 : b < 2147483648) : Rr C mX13_writes (3, L, qi b :: qi a :: st, M) x = (if b < a then Rr C mX13_writes (6, L, st, M) x else Rr C mX13_writes (14, L, st, M) x) := (g_icmp (show decode cX13_writes 3 = .ok (.if_icmp .le 11, 3) by decide +kernel) rfl ha1 ha2 hb1 hb2).trans (g_itn c_le)
set_option maxRecDepth 20000 in
theorem kX13_writes_6 {C : QC} {x : QP} {M : QM} {st : List CV} {L : QL} {l0 l1 : Option CV} {r : Option Nat} : Rr C mX13_writes (6, [some (.inr (.inr r)), l1], st, M) x = Rr C mX13_writes (7, [some (.inr (.inr r)), l1], .inr (.inr r) :: st, M) x := g_pl (show decode cX13_writes 6 = .ok (.aload_n 0, 1) by decide +kernel) rfl
set_option maxRecDepth 20000 in
theorem kX13_writes_7 {C : QC} {x : QP} {M : QM} {st : List CV} {L : QL} {l0 l1 : Option CV} {z : Int} : Rr C mX13_writes (7, [l0, some (qi z)], st, M) x = Rr C mX13_writes (8, [l0, some (qi z)], qi z :: st, M) x := g_pl (show decode cX13_writes 7 = .ok (.iload_n 1, 1) by decide +kernel) rfl
set_option maxRecDepth 20000 in
theorem kX13_writes_8 {C : QC} {x : QP} {M : QM} {st : List CV} {L : QL} : Rr C mX13_writes (8, L, st, M) x = Rr C mX13_writes (10, L, qi 10 :: st, M) x := g_pl (show decode cX13_writes 8 = .ok (.bipush 10, 2) by decide +kernel) rfl
set_option maxRecDepth 20000 in
theorem kX13_writes_10 {C : QC} {x : QP} {M : QM} {st : List CV} {L : QL} {a b : Int} (hb : ¬ Int32.ofInt b = 0) : Rr C mX13_writes (10, L, qi b :: qi a :: st, M) x = Rr C mX13_writes (11, L, qi (q_div a b) :: st, M) x := g_pl (show decode cX13_writes 10 = .ok (.idiv, 1) by decide +kernel) (by simp only [q_pl]; exact if_neg hb)
set_option maxRecDepth 20000 in
theorem kX13_writes_11 {C : QC} {x : QP} {M : QM} {L : QL} {rest : List CV} {a0 : CV} {M1 : QM} {b : Nat} (hb : q_kd M b = (1, 13)) (hC : C iX13_writes [qr b, a0] M none M1) (hw : (rest.map q_wd).sum ≤ 8) (k : Rr C mX13_writes (14, L, rest, M1) x) : Rr C mX13_writes (11, L, a0 :: qr b :: rest, M) x := g_cv (ow := 13) (e := (0, 267, 13, [1630, 1632, 73, 94])) (as := [a0]) (show decode cX13_writes 11 = .ok (.invokevirtual 217, 3) by decide +kernel) rfl rfl rfl (Or.inl rfl) rfl hb hC hw k
set_option maxRecDepth 20000 in
theorem kX13_writes_14 {C : QC} {x : QP} {M : QM} {st : List CV} {L : QL} {l0 l1 : Option CV} {r : Option Nat} : Rr C mX13_writes (14, [some (.inr (.inr r)), l1], st, M) x = Rr C mX13_writes (15, [some (.inr (.inr r)), l1], .inr (.inr r) :: st, M) x := g_pl (show decode cX13_writes 14 = .ok (.aload_n 0, 1) by decide +kernel) rfl
set_option maxRecDepth 20000 in
theorem kX13_writes_15 {C : QC} {x : QP} {M : QM} {st : List CV} {L : QL} {a : Nat} (hk : q_kd M a = (1, 13)) : Rr C mX13_writes (15, L, qr a :: st, M) x = Rr C mX13_writes (18, L, q_fv M a 15 :: st, M) x := g_getf (ow := 13) (e := (13, 15, RX13, 1316, 0)) (show decode cX13_writes 15 = .ok (.getfield 33, 3) by decide +kernel) rfl hk
set_option maxRecDepth 20000 in
theorem kX13_writes_18 {C : QC} {x : QP} {M : QM} {st : List CV} {L : QL} {l0 l1 : Option CV} {r : Option Nat} : Rr C mX13_writes (18, [some (.inr (.inr r)), l1], st, M) x = Rr C mX13_writes (19, [some (.inr (.inr r)), l1], .inr (.inr r) :: st, M) x := g_pl (show decode cX13_writes 18 = .ok (.aload_n 0, 1) by decide +kernel) rfl
set_option maxRecDepth 20000 in
theorem kX13_writes_19 {C : QC} {x : QP} {M : QM} {st : List CV} {L : QL} {a : Nat} (hk : q_kd M a = (1, 13)) : Rr C mX13_writes (19, L, qr a :: st, M) x = Rr C mX13_writes (22, L, q_fv M a 16 :: st, M) x := g_getf (ow := 13) (e := (13, 16, RX13, 1317, 0)) (show decode cX13_writes 19 = .ok (.getfield 220, 3) by decide +kernel) rfl hk
set_option maxRecDepth 20000 in
theorem kX13_writes_22 {C : QC} {x : QP} {M : QM} {st : List CV} {L : QL} : Rr C mX13_writes (22, L, st, M) x = Rr C mX13_writes (24, L, qi 48 :: st, M) x := g_pl (show decode cX13_writes 22 = .ok (.bipush 48, 2) by decide +kernel) rfl
set_option maxRecDepth 20000 in
theorem kX13_writes_24 {C : QC} {x : QP} {M : QM} {st : List CV} {L : QL} {l0 l1 : Option CV} {z : Int} : Rr C mX13_writes (24, [l0, some (qi z)], st, M) x = Rr C mX13_writes (25, [l0, some (qi z)], qi z :: st, M) x := g_pl (show decode cX13_writes 24 = .ok (.iload_n 1, 1) by decide +kernel) rfl
set_option maxRecDepth 20000 in
theorem kX13_writes_25 {C : QC} {x : QP} {M : QM} {st : List CV} {L : QL} : Rr C mX13_writes (25, L, st, M) x = Rr C mX13_writes (27, L, qi 10 :: st, M) x := g_pl (show decode cX13_writes 25 = .ok (.bipush 10, 2) by decide +kernel) rfl
set_option maxRecDepth 20000 in
theorem kX13_writes_27 {C : QC} {x : QP} {M : QM} {st : List CV} {L : QL} {a b : Int} (hb : ¬ Int32.ofInt b = 0) : Rr C mX13_writes (27, L, qi b :: qi a :: st, M) x = Rr C mX13_writes (28, L, qi (q_rem a b) :: st, M) x := g_pl (show decode cX13_writes 27 = .ok (.irem, 1) by decide +kernel) (by simp only [q_pl]; exact if_neg hb)
set_option maxRecDepth 20000 in
theorem kX13_writes_28 {C : QC} {x : QP} {M : QM} {st : List CV} {L : QL} {a b : Int} : Rr C mX13_writes (28, L, qi b :: qi a :: st, M) x = Rr C mX13_writes (29, L, qi (a + b) :: st, M) x := g_pl (show decode cX13_writes 28 = .ok (.iadd, 1) by decide +kernel) rfl
set_option maxRecDepth 20000 in
theorem kX13_writes_29 {C : QC} {x : QP} {M : QM} {st : List CV} {L : QL} {a : Nat} {j v : Int} (hk : (q_kd M a).1 = 2) (h0 : 0 ≤ j) (h1 : j < ((q_kd M a).2 : Int)) : Rr C mX13_writes (29, L, qi v :: qi j :: qr a :: st, M) x = Rr C mX13_writes (30, L, st, q_wr M a j.toNat (qi v)) x := g_iast (show decode cX13_writes 29 = .ok (.iastore, 1) by decide +kernel) hk h0 h1
set_option maxRecDepth 20000 in
theorem kX13_writes_30 {C : QC} {x : QP} {M : QM} {st : List CV} {L : QL} {l0 l1 : Option CV} {r : Option Nat} : Rr C mX13_writes (30, [some (.inr (.inr r)), l1], st, M) x = Rr C mX13_writes (31, [some (.inr (.inr r)), l1], .inr (.inr r) :: st, M) x := g_pl (show decode cX13_writes 30 = .ok (.aload_n 0, 1) by decide +kernel) rfl
set_option maxRecDepth 20000 in
theorem kX13_writes_31i {C : QC} {x : QP} {M : QM} {st : List CV} {L : QL} {a : Int} : Rr C mX13_writes (31, L, qi a :: st, M) x = Rr C mX13_writes (32, L, qi a :: qi a :: st, M) x := g_pl (show decode cX13_writes 31 = .ok (.dup, 1) by decide +kernel) rfl
set_option maxRecDepth 20000 in
theorem kX13_writes_31r {C : QC} {x : QP} {M : QM} {st : List CV} {L : QL} {a : Option Nat} : Rr C mX13_writes (31, L, .inr (.inr a) :: st, M) x = Rr C mX13_writes (32, L, .inr (.inr a) :: .inr (.inr a) :: st, M) x := g_pl (show decode cX13_writes 31 = .ok (.dup, 1) by decide +kernel) rfl
set_option maxRecDepth 20000 in
theorem kX13_writes_32 {C : QC} {x : QP} {M : QM} {st : List CV} {L : QL} {a : Nat} (hk : q_kd M a = (1, 13)) : Rr C mX13_writes (32, L, qr a :: st, M) x = Rr C mX13_writes (35, L, q_fv M a 16 :: st, M) x := g_getf (ow := 13) (e := (13, 16, RX13, 1317, 0)) (show decode cX13_writes 32 = .ok (.getfield 220, 3) by decide +kernel) rfl hk
set_option maxRecDepth 20000 in
theorem kX13_writes_35 {C : QC} {x : QP} {M : QM} {st : List CV} {L : QL} : Rr C mX13_writes (35, L, st, M) x = Rr C mX13_writes (36, L, qi 1 :: st, M) x := g_pl (show decode cX13_writes 35 = .ok (.iconst 1, 1) by decide +kernel) rfl
set_option maxRecDepth 20000 in
theorem kX13_writes_36 {C : QC} {x : QP} {M : QM} {st : List CV} {L : QL} {a b : Int} : Rr C mX13_writes (36, L, qi b :: qi a :: st, M) x = Rr C mX13_writes (37, L, qi (a + b) :: st, M) x := g_pl (show decode cX13_writes 36 = .ok (.iadd, 1) by decide +kernel) rfl
set_option maxRecDepth 20000 in
theorem kX13_writes_37 {C : QC} {x : QP} {M : QM} {st : List CV} {L : QL} {z : Int} {a : Nat} (hk : q_kd M a = (1, 13)) : Rr C mX13_writes (37, L, qi z :: qr a :: st, M) x = Rr C mX13_writes (40, L, st, q_wr M a 16 (qi z)) x := g_putf (ow := 13) (ini := false) (e := (13, 16, RX13, 1317, 0)) (r := (RX13, TX13, 17)) (t := tyX13) (show decode cX13_writes 37 = .ok (.putfield 220, 3) by decide +kernel) rfl rfl rfl rfl (by decide +kernel) hk
set_option maxRecDepth 20000 in
theorem kX13_writes_40 {C : QC} {x : QP} {M : QM} {st : List CV} {L : QL} : Rr C mX13_writes (40, L, [], M) x = x none M := g_vret (show decode cX13_writes 40 = .ok (.return_, 1) by decide +kernel)
set_option maxRecDepth 20000 in
theorem eX13_writes {d : Nat} {M : QM} {x : QP} {a : Nat} {v0 : Int} : q_T (d + 1) iX13_writes [qr a, qi v0] M x = Rr (q_C d) mX13_writes (0, [some (qr a), some (qi v0)], [], M) x := g_entryT (e := _) rfl (Nat.le_of_ble_eq_true rfl) rfl rfl
def mX13_write : QI := (13, cX13_write, false, some .int)
set_option maxRecDepth 20000 in
theorem kX13_write_0 {C : QC} {x : QP} {M : QM} {st : List CV} {L : QL} {l0 l1 l2 l3 : Option CV} {r : Option Nat} : Rr C mX13_write (0, [some (.inr (.inr r)), l1, l2, l3], st, M) x = Rr C mX13_write (1, [some (.inr (.inr r)), l1, l2, l3], .inr (.inr r) :: st, M) x := g_pl (show decode cX13_write 0 = .ok (.aload_n 0, 1) by decide +kernel) rfl
set_option maxRecDepth 20000 in
theorem kX13_write_1 {C : QC} {x : QP} {M : QM} {st : List CV} {L : QL} {l0 l1 l2 l3 : Option CV} {z : Int} : Rr C mX13_write (1, [l0, some (qi z), l2, l3], st, M) x = Rr C mX13_write (2, [l0, some (qi z), l2, l3], qi z :: st, M) x := g_pl (show decode cX13_write 1 = .ok (.iload_n 1, 1) by decide +kernel) rfl
set_option maxRecDepth 20000 in
theorem kX13_write_2 {C : QC} {x : QP} {M : QM} {L : QL} {rest : List CV} {a0 : CV} {v : CV} {M1 : QM} {b : Nat} (hb : q_kd M b = (1, 13)) (hC : C iX13_isPlace [qr b, a0] M (some v) M1) (hw : (rest.map q_wd).sum ≤ 8) (k : Rr C mX13_write (5, L, v :: rest, M1) x) : Rr C mX13_write (2, L, a0 :: qr b :: rest, M) x := g_cv (ow := 13) (e := (0, 205, 13, [1384, 1386, 31, 94])) (as := [a0]) (show decode cX13_write 2 = .ok (.invokevirtual 94, 3) by decide +kernel) rfl rfl rfl (Or.inl rfl) rfl hb hC hw k
set_option maxRecDepth 20000 in
theorem kX13_write_5 {C : QC} {x : QP} {M : QM} {st : List CV} {L : QL} {a : Int} (ha1 : -2147483648 ≤ a) (ha2 : a < 2147483648) : Rr C mX13_write (5, L, qi a :: st, M) x = (if a = 0 then Rr C mX13_write (8, L, st, M) x else Rr C mX13_write (10, L, st, M) x) := (g_if (show decode cX13_write 5 = .ok (.ifCond .ne 5, 3) by decide +kernel) rfl ha1 ha2).trans (g_itn c_ne)
set_option maxRecDepth 20000 in
theorem kX13_write_8 {C : QC} {x : QP} {M : QM} {st : List CV} {L : QL} : Rr C mX13_write (8, L, st, M) x = Rr C mX13_write (9, L, qi (-1) :: st, M) x := g_pl (show decode cX13_write 8 = .ok (.iconst (-1), 1) by decide +kernel) rfl
set_option maxRecDepth 20000 in
theorem kX13_write_9 {C : QC} {x : QP} {M : QM} {st : List CV} {L : QL} {z : Int} : Rr C mX13_write (9, L, [qi z], M) x = x (some (qi z)) M := g_iret (show decode cX13_write 9 = .ok (.ireturn, 1) by decide +kernel) rfl
set_option maxRecDepth 20000 in
theorem kX13_write_10 {C : QC} {x : QP} {M : QM} {st : List CV} {L : QL} {l0 l1 l2 l3 : Option CV} {r : Option Nat} : Rr C mX13_write (10, [some (.inr (.inr r)), l1, l2, l3], st, M) x = Rr C mX13_write (11, [some (.inr (.inr r)), l1, l2, l3], .inr (.inr r) :: st, M) x := g_pl (show decode cX13_write 10 = .ok (.aload_n 0, 1) by decide +kernel) rfl
set_option maxRecDepth 20000 in
theorem kX13_write_11 {C : QC} {x : QP} {M : QM} {st : List CV} {L : QL} : Rr C mX13_write (11, L, st, M) x = Rr C mX13_write (12, L, qi 0 :: st, M) x := g_pl (show decode cX13_write 11 = .ok (.iconst 0, 1) by decide +kernel) rfl
set_option maxRecDepth 20000 in
theorem kX13_write_12 {C : QC} {x : QP} {M : QM} {st : List CV} {L : QL} {z : Int} {a : Nat} (hk : q_kd M a = (1, 13)) : Rr C mX13_write (12, L, qi z :: qr a :: st, M) x = Rr C mX13_write (15, L, st, q_wr M a 16 (qi z)) x := g_putf (ow := 13) (ini := false) (e := (13, 16, RX13, 1317, 0)) (r := (RX13, TX13, 17)) (t := tyX13) (show decode cX13_write 12 = .ok (.putfield 220, 3) by decide +kernel) rfl rfl rfl rfl (by decide +kernel) hk
set_option maxRecDepth 20000 in
theorem kX13_write_15 {C : QC} {x : QP} {M : QM} {st : List CV} {L : QL} : Rr C mX13_write (15, L, st, M) x = Rr C mX13_write (16, L, qi 0 :: st, M) x := g_pl (show decode cX13_write 15 = .ok (.iconst 0, 1) by decide +kernel) rfl
set_option maxRecDepth 20000 in
theorem kX13_write_16 {C : QC} {x : QP} {M : QM} {st : List CV} {L : QL} {l0 l1 l2 l3 : Option CV} {z : Int} : Rr C mX13_write (16, [l0, l1, l2, l3], qi z :: st, M) x = Rr C mX13_write (17, [l0, q_cut l1, some (qi z), l3], st, M) x := g_pl (show decode cX13_write 16 = .ok (.istore_n 2, 1) by decide +kernel) rfl
set_option maxRecDepth 20000 in
theorem kX13_write_17 {C : QC} {x : QP} {M : QM} {st : List CV} {L : QL} {l0 l1 l2 l3 : Option CV} {z : Int} : Rr C mX13_write (17, [l0, l1, some (qi z), l3], st, M) x = Rr C mX13_write (18, [l0, l1, some (qi z), l3], qi z :: st, M) x := g_pl (show decode cX13_write 17 = .ok (.iload_n 2, 1) by decide +kernel) rfl
set_option maxRecDepth 20000 in
theorem kX13_write_18 {C : QC} {x : QP} {M : QM} {st : List CV} {L : QL} : Rr C mX13_write (18, L, st, M) x = Rr C mX13_write (20, L, qi 24 :: st, M) x := g_pl (show decode cX13_write 18 = .ok (.bipush 24, 2) by decide +kernel) rfl
set_option maxRecDepth 20000 in
theorem kX13_write_20 {C : QC} {x : QP} {M : QM} {st : List CV} {L : QL} {a b : Int} (ha1 : -2147483648 ≤ a) (ha2 : a < 2147483648) (hb1 : -2147483648 ≤ b) (hb2 : b < 2147483648) : Rr C mX13_write (20, L, qi b :: qi a :: st, M) x = (if a < b then Rr C mX13_write (23, L, st, M) x else Rr C mX13_write (163, L, st, M) x) := (g_icmp (show decode cX13_write 20 = .ok (.if_icmp .ge 143, 3) by decide +kernel) rfl ha1 ha2 hb1 hb2).trans (g_itn c_ge)
set_option maxRecDepth 20000 in
theorem kX13_write_23 {C : QC} {x : QP} {M : QM} {st : List CV} {L : QL} {l0 l1 l2 l3 : Option CV} {z : Int} : Rr C mX13_write (23, [l0, l1, some (qi z), l3], st, M) x = Rr C mX13_write (24, [l0, l1, some (qi z), l3], qi z :: st, M) x := g_pl (show decode cX13_write 23 = .ok (.iload_n 2, 1) by decide +kernel) rfl
set_option maxRecDepth 20000 in
theorem kX13_write_24 {C : QC} {x : QP} {M : QM} {st : List CV} {L : QL} {l0 l1 l2 l3 : Option CV} {r : Option Nat} : Rr C mX13_write (24, [some (.inr (.inr r)), l1, l2, l3], st, M) x = Rr C mX13_write (25, [some (.inr (.inr r)), l1, l2, l3], .inr (.inr r) :: st, M) x := g_pl (show decode cX13_write 24 = .ok (.aload_n 0, 1) by decide +kernel) rfl
set_option maxRecDepth 20000 in
theorem kX13_write_25 {C : QC} {x : QP} {M : QM} {st : List CV} {L : QL} {l0 l1 l2 l3 : Option CV} {z : Int} : Rr C mX13_write (25, [l0, some (qi z), l2, l3], st, M) x = Rr C mX13_write (26, [l0, some (qi z), l2, l3], qi z :: st, M) x := g_pl (show decode cX13_write 25 = .ok (.iload_n 1, 1) by decide +kernel) rfl
set_option maxRecDepth 20000 in
theorem kX13_write_26 {C : QC} {x : QP} {M : QM} {st : List CV} {L : QL} : Rr C mX13_write (26, L, st, M) x = Rr C mX13_write (27, L, qi 5 :: st, M) x := g_pl (show decode cX13_write 26 = .ok (.iconst 5, 1) by decide +kernel) rfl
set_option maxRecDepth 20000 in
theorem kX13_write_27 {C : QC} {x : QP} {M : QM} {L : QL} {rest : List CV} {a0 a1 : CV} {v : CV} {M1 : QM} {b : Nat} (hb : q_kd M b = (1, 13)) (hC : C iX13_has [qr b, a0, a1] M (some v) M1) (hw : (rest.map q_wd).sum ≤ 8) (k : Rr C mX13_write (30, L, v :: rest, M1) x) : Rr C mX13_write (27, L, a1 :: a0 :: qr b :: rest, M) x := g_cv (ow := 13) (e := (0, 207, 13, [1391, 1393, 32, 94])) (as := [a0, a1]) (show decode cX13_write 27 = .ok (.invokevirtual 47, 3) by decide +kernel) rfl rfl rfl (Or.inl rfl) rfl hb hC hw k
set_option maxRecDepth 20000 in
theorem kX13_write_30 {C : QC} {x : QP} {M : QM} {st : List CV} {L : QL} {a b : Int} (ha1 : -2147483648 ≤ a) (ha2 : a < 2147483648) (hb1 : -2147483648 ≤ b) (hb2 : b < 2147483648) : Rr C mX13_write (30, L, qi b :: qi a :: st, M) x = (if a < b then Rr C mX13_write (33, L, st, M) x else Rr C mX13_write (163, L, st, M) x) := (g_icmp (show decode cX13_write 30 = .ok (.if_icmp .ge 133, 3) by decide +kernel) rfl ha1 ha2 hb1 hb2).trans (g_itn c_ge)
set_option maxRecDepth 20000 in
theorem kX13_write_33 {C : QC} {x : QP} {M : QM} {st : List CV} {L : QL} {l0 l1 l2 l3 : Option CV} {z : Int} : Rr C mX13_write (33, [l0, l1, some (qi z), l3], st, M) x = Rr C mX13_write (34, [l0, l1, some (qi z), l3], qi z :: st, M) x := g_pl (show decode cX13_write 33 = .ok (.iload_n 2, 1) by decide +kernel) rfl
set_option maxRecDepth 20000 in
theorem kX13_write_34 {C : QC} {x : QP} {M : QM} {st : List CV} {L : QL} {a : Int} (ha1 : -2147483648 ≤ a) (ha2 : a < 2147483648) : Rr C mX13_write (34, L, qi a :: st, M) x = (if 0 < a then Rr C mX13_write (37, L, st, M) x else Rr C mX13_write (58, L, st, M) x) := (g_if (show decode cX13_write 34 = .ok (.ifCond .le 24, 3) by decide +kernel) rfl ha1 ha2).trans (g_itn c_le)
set_option maxRecDepth 20000 in
theorem kX13_write_37 {C : QC} {x : QP} {M : QM} {st : List CV} {L : QL} {l0 l1 l2 l3 : Option CV} {r : Option Nat} : Rr C mX13_write (37, [some (.inr (.inr r)), l1, l2, l3], st, M) x = Rr C mX13_write (38, [some (.inr (.inr r)), l1, l2, l3], .inr (.inr r) :: st, M) x := g_pl (show decode cX13_write 37 = .ok (.aload_n 0, 1) by decide +kernel) rfl
set_option maxRecDepth 20000 in
theorem kX13_write_38 {C : QC} {x : QP} {M : QM} {st : List CV} {L : QL} {a : Nat} (hk : q_kd M a = (1, 13)) : Rr C mX13_write (38, L, qr a :: st, M) x = Rr C mX13_write (41, L, q_fv M a 15 :: st, M) x := g_getf (ow := 13) (e := (13, 15, RX13, 1316, 0)) (show decode cX13_write 38 = .ok (.getfield 33, 3) by decide +kernel) rfl hk
set_option maxRecDepth 20000 in
theorem kX13_write_41 {C : QC} {x : QP} {M : QM} {st : List CV} {L : QL} {l0 l1 l2 l3 : Option CV} {r : Option Nat} : Rr C mX13_write (41, [some (.inr (.inr r)), l1, l2, l3], st, M) x = Rr C mX13_write (42, [some (.inr (.inr r)), l1, l2, l3], .inr (.inr r) :: st, M) x := g_pl (show decode cX13_write 41 = .ok (.aload_n 0, 1) by decide +kernel) rfl
set_option maxRecDepth 20000 in
theorem kX13_write_42 {C : QC} {x : QP} {M : QM} {st : List CV} {L : QL} {a : Nat} (hk : q_kd M a = (1, 13)) : Rr C mX13_write (42, L, qr a :: st, M) x = Rr C mX13_write (45, L, q_fv M a 16 :: st, M) x := g_getf (ow := 13) (e := (13, 16, RX13, 1317, 0)) (show decode cX13_write 42 = .ok (.getfield 220, 3) by decide +kernel) rfl hk
set_option maxRecDepth 20000 in
theorem kX13_write_45 {C : QC} {x : QP} {M : QM} {st : List CV} {L : QL} : Rr C mX13_write (45, L, st, M) x = Rr C mX13_write (47, L, qi 32 :: st, M) x := g_pl (show decode cX13_write 45 = .ok (.bipush 32, 2) by decide +kernel) rfl
set_option maxRecDepth 20000 in
theorem kX13_write_47 {C : QC} {x : QP} {M : QM} {st : List CV} {L : QL} {a : Nat} {j v : Int} (hk : (q_kd M a).1 = 2) (h0 : 0 ≤ j) (h1 : j < ((q_kd M a).2 : Int)) : Rr C mX13_write (47, L, qi v :: qi j :: qr a :: st, M) x = Rr C mX13_write (48, L, st, q_wr M a j.toNat (qi v)) x := g_iast (show decode cX13_write 47 = .ok (.iastore, 1) by decide +kernel) hk h0 h1
set_option maxRecDepth 20000 in
theorem kX13_write_48 {C : QC} {x : QP} {M : QM} {st : List CV} {L : QL} {l0 l1 l2 l3 : Option CV} {r : Option Nat} : Rr C mX13_write (48, [some (.inr (.inr r)), l1, l2, l3], st, M) x = Rr C mX13_write (49, [some (.inr (.inr r)), l1, l2, l3], .inr (.inr r) :: st, M) x := g_pl (show decode cX13_write 48 = .ok (.aload_n 0, 1) by decide +kernel) rfl
set_option maxRecDepth 20000 in
theorem kX13_write_49i {C : QC} {x : QP} {M : QM} {st : List CV} {L : QL} {a : Int} : Rr C mX13_write (49, L, qi a :: st, M) x = Rr C mX13_write (50, L, qi a :: qi a :: st, M) x := g_pl (show decode cX13_write 49 = .ok (.dup, 1) by decide +kernel) rfl
set_option maxRecDepth 20000 in
theorem kX13_write_49r {C : QC} {x : QP} {M : QM} {st : List CV} {L : QL} {a : Option Nat} : Rr C mX13_write (49, L, .inr (.inr a) :: st, M) x = Rr C mX13_write (50, L, .inr (.inr a) :: .inr (.inr a) :: st, M) x := g_pl (show decode cX13_write 49 = .ok (.dup, 1) by decide +kernel) rfl
set_option maxRecDepth 20000 in
theorem kX13_write_50 {C : QC} {x : QP} {M : QM} {st : List CV} {L : QL} {a : Nat} (hk : q_kd M a = (1, 13)) : Rr C mX13_write (50, L, qr a :: st, M) x = Rr C mX13_write (53, L, q_fv M a 16 :: st, M) x := g_getf (ow := 13) (e := (13, 16, RX13, 1317, 0)) (show decode cX13_write 50 = .ok (.getfield 220, 3) by decide +kernel) rfl hk
set_option maxRecDepth 20000 in
theorem kX13_write_53 {C : QC} {x : QP} {M : QM} {st : List CV} {L : QL} : Rr C mX13_write (53, L, st, M) x = Rr C mX13_write (54, L, qi 1 :: st, M) x := g_pl (show decode cX13_write 53 = .ok (.iconst 1, 1) by decide +kernel) rfl
set_option maxRecDepth 20000 in
theorem kX13_write_54 {C : QC} {x : QP} {M : QM} {st : List CV} {L : QL} {a b : Int} : Rr C mX13_write (54, L, qi b :: qi a :: st, M) x = Rr C mX13_write (55, L, qi (a + b) :: st, M) x := g_pl (show decode cX13_write 54 = .ok (.iadd, 1) by decide +kernel) rfl
set_option maxRecDepth 20000 in
theorem kX13_write_55 {C : QC} {x : QP} {M : QM} {st : List CV} {L : QL} {z : Int} {a : Nat} (hk : q_kd M a = (1, 13)) : Rr C mX13_write (55, L, qi z :: qr a :: st, M) x = Rr C mX13_write (58, L, st, q_wr M a 16 (qi z)) x := g_putf (ow := 13) (ini := false) (e := (13, 16, RX13, 1317, 0)) (r := (RX13, TX13, 17)) (t := tyX13) (show decode cX13_write 55 = .ok (.putfield 220, 3) by decide +kernel) rfl rfl rfl rfl (by decide +kernel) hk
set_option maxRecDepth 20000 in
theorem kX13_write_58 {C : QC} {x : QP} {M : QM} {st : List CV} {L : QL} {l0 l1 l2 l3 : Option CV} {r : Option Nat} : Rr C mX13_write (58, [some (.inr (.inr r)), l1, l2, l3], st, M) x = Rr C mX13_write (59, [some (.inr (.inr r)), l1, l2, l3], .inr (.inr r) :: st, M) x := g_pl (show decode cX13_write 58 = .ok (.aload_n 0, 1) by decide +kernel) rfl
set_option maxRecDepth 20000 in
theorem kX13_write_59 {C : QC} {x : QP} {M : QM} {st : List CV} {L : QL} {a : Nat} (hk : q_kd M a = (1, 13)) : Rr C mX13_write (59, L, qr a :: st, M) x = Rr C mX13_write (62, L, q_fv M a 15 :: st, M) x := g_getf (ow := 13) (e := (13, 15, RX13, 1316, 0)) (show decode cX13_write 59 = .ok (.getfield 33, 3) by decide +kernel) rfl hk
set_option maxRecDepth 20000 in
theorem kX13_write_62 {C : QC} {x : QP} {M : QM} {st : List CV} {L : QL} {l0 l1 l2 l3 : Option CV} {r : Option Nat} : Rr C mX13_write (62, [some (.inr (.inr r)), l1, l2, l3], st, M) x = Rr C mX13_write (63, [some (.inr (.inr r)), l1, l2, l3], .inr (.inr r) :: st, M) x := g_pl (show decode cX13_write 62 = .ok (.aload_n 0, 1) by decide +kernel) rfl
set_option maxRecDepth 20000 in
theorem kX13_write_63 {C : QC} {x : QP} {M : QM} {st : List CV} {L : QL} {a : Nat} (hk : q_kd M a = (1, 13)) : Rr C mX13_write (63, L, qr a :: st, M) x = Rr C mX13_write (66, L, q_fv M a 16 :: st, M) x := g_getf (ow := 13) (e := (13, 16, RX13, 1317, 0)) (show decode cX13_write 63 = .ok (.getfield 220, 3) by decide +kernel) rfl hk
set_option maxRecDepth 20000 in
theorem kX13_write_66 {C : QC} {x : QP} {M : QM} {st : List CV} {L : QL} {l0 l1 l2 l3 : Option CV} {r : Option Nat} : Rr C mX13_write (66, [some (.inr (.inr r)), l1, l2, l3], st, M) x = Rr C mX13_write (67, [some (.inr (.inr r)), l1, l2, l3], .inr (.inr r) :: st, M) x := g_pl (show decode cX13_write 66 = .ok (.aload_n 0, 1) by decide +kernel) rfl
set_option maxRecDepth 20000 in
theorem kX13_write_67 {C : QC} {x : QP} {M : QM} {st : List CV} {L : QL} {l0 l1 l2 l3 : Option CV} {z : Int} : Rr C mX13_write (67, [l0, some (qi z), l2, l3], st, M) x = Rr C mX13_write (68, [l0, some (qi z), l2, l3], qi z :: st, M) x := g_pl (show decode cX13_write 67 = .ok (.iload_n 1, 1) by decide +kernel) rfl
set_option maxRecDepth 20000 in
theorem kX13_write_68 {C : QC} {x : QP} {M : QM} {st : List CV} {L : QL} : Rr C mX13_write (68, L, st, M) x = Rr C mX13_write (70, L, qi 6 :: st, M) x := g_pl (show decode cX13_write 68 = .ok (.bipush 6, 2) by decide +kernel) rfl
set_option maxRecDepth 20000 in
theorem kX13_write_70 {C : QC} {x : QP} {M : QM} {st : List CV} {L : QL} : Rr C mX13_write (70, L, st, M) x = Rr C mX13_write (71, L, qi 3 :: st, M) x := g_pl (show decode cX13_write 70 = .ok (.iconst 3, 1) by decide +kernel) rfl
set_option maxRecDepth 20000 in
theorem kX13_write_71 {C : QC} {x : QP} {M : QM} {st : List CV} {L : QL} {l0 l1 l2 l3 : Option CV} {z : Int} : Rr C mX13_write (71, [l0, l1, some (qi z), l3], st, M) x = Rr C mX13_write (72, [l0, l1, some (qi z), l3], qi z :: st, M) x := g_pl (show decode cX13_write 71 = .ok (.iload_n 2, 1) by decide +kernel) rfl
set_option maxRecDepth 20000 in
theorem kX13_write_72 {C : QC} {x : QP} {M : QM} {st : List CV} {L : QL} {a b : Int} : Rr C mX13_write (72, L, qi b :: qi a :: st, M) x = Rr C mX13_write (73, L, qi (a * b) :: st, M) x := g_pl (show decode cX13_write 72 = .ok (.imul, 1) by decide +kernel) rfl
set_option maxRecDepth 20000 in
theorem kX13_write_73 {C : QC} {x : QP} {M : QM} {st : List CV} {L : QL} {a b : Int} : Rr C mX13_write (73, L, qi b :: qi a :: st, M) x = Rr C mX13_write (74, L, qi (a + b) :: st, M) x := g_pl (show decode cX13_write 73 = .ok (.iadd, 1) by decide +kernel) rfl
set_option maxRecDepth 20000 in
theorem kX13_write_74 {C : QC} {x : QP} {M : QM} {st : List CV} {L : QL} : Rr C mX13_write (74, L, st, M) x = Rr C mX13_write (75, L, qi 1 :: st, M) x := g_pl (show decode cX13_write 74 = .ok (.iconst 1, 1) by decide +kernel) rfl
set_option maxRecDepth 20000 in
theorem kX13_write_75 {C : QC} {x : QP} {M : QM} {st : List CV} {L : QL} {a b : Int} : Rr C mX13_write (75, L, qi b :: qi a :: st, M) x = Rr C mX13_write (76, L, qi (a + b) :: st, M) x := g_pl (show decode cX13_write 75 = .ok (.iadd, 1) by decide +kernel) rfl
set_option maxRecDepth 20000 in
theorem kX13_write_76 {C : QC} {x : QP} {M : QM} {L : QL} {rest : List CV} {a0 a1 : CV} {v : CV} {M1 : QM} {b : Nat} (hb : q_kd M b = (1, 13)) (hC : C iX13_has [qr b, a0, a1] M (some v) M1) (hw : (rest.map q_wd).sum ≤ 8) (k : Rr C mX13_write (79, L, v :: rest, M1) x) : Rr C mX13_write (76, L, a1 :: a0 :: qr b :: rest, M) x := g_cv (ow := 13) (e := (0, 207, 13, [1391, 1393, 32, 94])) (as := [a0, a1]) (show decode cX13_write 76 = .ok (.invokevirtual 47, 3) by decide +kernel) rfl rfl rfl (Or.inl rfl) rfl hb hC hw k
set_option maxRecDepth 20000 in
theorem kX13_write_79 {C : QC} {x : QP} {M : QM} {L : QL} {rest : List CV} {a0 : CV} {v : CV} {M1 : QM} (hC : C iX13_letterOf [a0] M (some v) M1) (hw : (rest.map q_wd).sum ≤ 8) (k : Rr C mX13_write (82, L, v :: rest, M1) x) : Rr C mX13_write (79, L, a0 :: rest, M) x := g_cs (ow := 13) (e := (1, 266, 0, [1627, 1628, 94])) (as := [a0]) (show decode cX13_write 79 = .ok (.invokestatic 223, 3) by decide +kernel) rfl rfl rfl rfl (Or.inl rfl) rfl hC hw k
set_option maxRecDepth 20000 in
theorem kX13_write_82 {C : QC} {x : QP} {M : QM} {st : List CV} {L : QL} {a : Nat} {j v : Int} (hk : (q_kd M a).1 = 2) (h0 : 0 ≤ j) (h1 : j < ((q_kd M a).2 : Int)) : Rr C mX13_write (82, L, qi v :: qi j :: qr a :: st, M) x = Rr C mX13_write (83, L, st, q_wr M a j.toNat (qi v)) x := g_iast (show decode cX13_write 82 = .ok (.iastore, 1) by decide +kernel) hk h0 h1
set_option maxRecDepth 20000 in
theorem kX13_write_83 {C : QC} {x : QP} {M : QM} {st : List CV} {L : QL} {l0 l1 l2 l3 : Option CV} {r : Option Nat} : Rr C mX13_write (83, [some (.inr (.inr r)), l1, l2, l3], st, M) x = Rr C mX13_write (84, [some (.inr (.inr r)), l1, l2, l3], .inr (.inr r) :: st, M) x := g_pl (show decode cX13_write 83 = .ok (.aload_n 0, 1) by decide +kernel) rfl
set_option maxRecDepth 20000 in
theorem kX13_write_84i {C : QC} {x : QP} {M : QM} {st : List CV} {L : QL} {a : Int} : Rr C mX13_write (84, L, qi a :: st, M) x = Rr C mX13_write (85, L, qi a :: qi a :: st, M) x := g_pl (show decode cX13_write 84 = .ok (.dup, 1) by decide +kernel) rfl
set_option maxRecDepth 20000 in
theorem kX13_write_84r {C : QC} {x : QP} {M : QM} {st : List CV} {L : QL} {a : Option Nat} : Rr C mX13_write (84, L, .inr (.inr a) :: st, M) x = Rr C mX13_write (85, L, .inr (.inr a) :: .inr (.inr a) :: st, M) x := g_pl (show decode cX13_write 84 = .ok (.dup, 1) by decide +kernel) rfl
set_option maxRecDepth 20000 in
theorem kX13_write_85 {C : QC} {x : QP} {M : QM} {st : List CV} {L : QL} {a : Nat} (hk : q_kd M a = (1, 13)) : Rr C mX13_write (85, L, qr a :: st, M) x = Rr C mX13_write (88, L, q_fv M a 16 :: st, M) x := g_getf (ow := 13) (e := (13, 16, RX13, 1317, 0)) (show decode cX13_write 85 = .ok (.getfield 220, 3) by decide +kernel) rfl hk
set_option maxRecDepth 20000 in
theorem kX13_write_88 {C : QC} {x : QP} {M : QM} {st : List CV} {L : QL} : Rr C mX13_write (88, L, st, M) x = Rr C mX13_write (89, L, qi 1 :: st, M) x := g_pl (show decode cX13_write 88 = .ok (.iconst 1, 1) by decide +kernel) rfl
set_option maxRecDepth 20000 in
theorem kX13_write_89 {C : QC} {x : QP} {M : QM} {st : List CV} {L : QL} {a b : Int} : Rr C mX13_write (89, L, qi b :: qi a :: st, M) x = Rr C mX13_write (90, L, qi (a + b) :: st, M) x := g_pl (show decode cX13_write 89 = .ok (.iadd, 1) by decide +kernel) rfl
set_option maxRecDepth 20000 in
theorem kX13_write_90 {C : QC} {x : QP} {M : QM} {st : List CV} {L : QL} {z : Int} {a : Nat} (hk : q_kd M a = (1, 13)) : Rr C mX13_write (90, L, qi z :: qr a :: st, M) x = Rr C mX13_write (93, L, st, q_wr M a 16 (qi z)) x := g_putf (ow := 13) (ini := false) (e := (13, 16, RX13, 1317, 0)) (r := (RX13, TX13, 17)) (t := tyX13) (show decode cX13_write 90 = .ok (.putfield 220, 3) by decide +kernel) rfl rfl rfl rfl (by decide +kernel) hk
set_option maxRecDepth 20000 in
theorem kX13_write_93 {C : QC} {x : QP} {M : QM} {st : List CV} {L : QL} {l0 l1 l2 l3 : Option CV} {r : Option Nat} : Rr C mX13_write (93, [some (.inr (.inr r)), l1, l2, l3], st, M) x = Rr C mX13_write (94, [some (.inr (.inr r)), l1, l2, l3], .inr (.inr r) :: st, M) x := g_pl (show decode cX13_write 93 = .ok (.aload_n 0, 1) by decide +kernel) rfl
set_option maxRecDepth 20000 in
theorem kX13_write_94 {C : QC} {x : QP} {M : QM} {st : List CV} {L : QL} {l0 l1 l2 l3 : Option CV} {r : Option Nat} : Rr C mX13_write (94, [some (.inr (.inr r)), l1, l2, l3], st, M) x = Rr C mX13_write (95, [some (.inr (.inr r)), l1, l2, l3], .inr (.inr r) :: st, M) x := g_pl (show decode cX13_write 94 = .ok (.aload_n 0, 1) by decide +kernel) rfl
set_option maxRecDepth 20000 in
theorem kX13_write_95 {C : QC} {x : QP} {M : QM} {st : List CV} {L : QL} {l0 l1 l2 l3 : Option CV} {z : Int} : Rr C mX13_write (95, [l0, some (qi z), l2, l3], st, M) x = Rr C mX13_write (96, [l0, some (qi z), l2, l3], qi z :: st, M) x := g_pl (show decode cX13_write 95 = .ok (.iload_n 1, 1) by decide +kernel) rfl
set_option maxRecDepth 20000 in
theorem kX13_write_96 {C : QC} {x : QP} {M : QM} {st : List CV} {L : QL} : Rr C mX13_write (96, L, st, M) x = Rr C mX13_write (98, L, qi 6 :: st, M) x := g_pl (show decode cX13_write 96 = .ok (.bipush 6, 2) by decide +kernel) rfl
set_option maxRecDepth 20000 in
theorem kX13_write_98 {C : QC} {x : QP} {M : QM} {st : List CV} {L : QL} : Rr C mX13_write (98, L, st, M) x = Rr C mX13_write (99, L, qi 3 :: st, M) x := g_pl (show decode cX13_write 98 = .ok (.iconst 3, 1) by decide +kernel) rfl
set_option maxRecDepth 20000 in
theorem kX13_write_99 {C : QC} {x : QP} {M : QM} {st : List CV} {L : QL} {l0 l1 l2 l3 : Option CV} {z : Int} : Rr C mX13_write (99, [l0, l1, some (qi z), l3], st, M) x = Rr C mX13_write (100, [l0, l1, some (qi z), l3], qi z :: st, M) x := g_pl (show decode cX13_write 99 = .ok (.iload_n 2, 1) by decide +kernel) rfl
set_option maxRecDepth 20000 in
theorem kX13_write_100 {C : QC} {x : QP} {M : QM} {st : List CV} {L : QL} {a b : Int} : Rr C mX13_write (100, L, qi b :: qi a :: st, M) x = Rr C mX13_write (101, L, qi (a * b) :: st, M) x := g_pl (show decode cX13_write 100 = .ok (.imul, 1) by decide +kernel) rfl
set_option maxRecDepth 20000 in
theorem kX13_write_101 {C : QC} {x : QP} {M : QM} {st : List CV} {L : QL} {a b : Int} : Rr C mX13_write (101, L, qi b :: qi a :: st, M) x = Rr C mX13_write (102, L, qi (a + b) :: st, M) x := g_pl (show decode cX13_write 101 = .ok (.iadd, 1) by decide +kernel) rfl
set_option maxRecDepth 20000 in
theorem kX13_write_102 {C : QC} {x : QP} {M : QM} {L : QL} {rest : List CV} {a0 a1 : CV} {v : CV} {M1 : QM} {b : Nat} (hb : q_kd M b = (1, 13)) (hC : C iX13_has [qr b, a0, a1] M (some v) M1) (hw : (rest.map q_wd).sum ≤ 8) (k : Rr C mX13_write (105, L, v :: rest, M1) x) : Rr C mX13_write (102, L, a1 :: a0 :: qr b :: rest, M) x := g_cv (ow := 13) (e := (0, 207, 13, [1391, 1393, 32, 94])) (as := [a0, a1]) (show decode cX13_write 102 = .ok (.invokevirtual 47, 3) by decide +kernel) rfl rfl rfl (Or.inl rfl) rfl hb hC hw k
set_option maxRecDepth 20000 in
theorem kX13_write_105 {C : QC} {x : QP} {M : QM} {L : QL} {rest : List CV} {a0 : CV} {M1 : QM} {b : Nat} (hb : q_kd M b = (1, 13)) (hC : C iX13_writes [qr b, a0] M none M1) (hw : (rest.map q_wd).sum ≤ 8) (k : Rr C mX13_write (108, L, rest, M1) x) : Rr C mX13_write (105, L, a0 :: qr b :: rest, M) x := g_cv (ow := 13) (e := (0, 267, 13, [1630, 1632, 73, 94])) (as := [a0]) (show decode cX13_write 105 = .ok (.invokevirtual 217, 3) by decide +kernel) rfl rfl rfl (Or.inl rfl) rfl hb hC hw k
set_option maxRecDepth 20000 in
theorem kX13_write_108 {C : QC} {x : QP} {M : QM} {st : List CV} {L : QL} {l0 l1 l2 l3 : Option CV} {r : Option Nat} : Rr C mX13_write (108, [some (.inr (.inr r)), l1, l2, l3], st, M) x = Rr C mX13_write (109, [some (.inr (.inr r)), l1, l2, l3], .inr (.inr r) :: st, M) x := g_pl (show decode cX13_write 108 = .ok (.aload_n 0, 1) by decide +kernel) rfl
set_option maxRecDepth 20000 in
theorem kX13_write_109 {C : QC} {x : QP} {M : QM} {st : List CV} {L : QL} {l0 l1 l2 l3 : Option CV} {z : Int} : Rr C mX13_write (109, [l0, some (qi z), l2, l3], st, M) x = Rr C mX13_write (110, [l0, some (qi z), l2, l3], qi z :: st, M) x := g_pl (show decode cX13_write 109 = .ok (.iload_n 1, 1) by decide +kernel) rfl
set_option maxRecDepth 20000 in
theorem kX13_write_110 {C : QC} {x : QP} {M : QM} {st : List CV} {L : QL} : Rr C mX13_write (110, L, st, M) x = Rr C mX13_write (112, L, qi 6 :: st, M) x := g_pl (show decode cX13_write 110 = .ok (.bipush 6, 2) by decide +kernel) rfl
set_option maxRecDepth 20000 in
theorem kX13_write_112 {C : QC} {x : QP} {M : QM} {st : List CV} {L : QL} : Rr C mX13_write (112, L, st, M) x = Rr C mX13_write (113, L, qi 3 :: st, M) x := g_pl (show decode cX13_write 112 = .ok (.iconst 3, 1) by decide +kernel) rfl
set_option maxRecDepth 20000 in
theorem kX13_write_113 {C : QC} {x : QP} {M : QM} {st : List CV} {L : QL} {l0 l1 l2 l3 : Option CV} {z : Int} : Rr C mX13_write (113, [l0, l1, some (qi z), l3], st, M) x = Rr C mX13_write (114, [l0, l1, some (qi z), l3], qi z :: st, M) x := g_pl (show decode cX13_write 113 = .ok (.iload_n 2, 1) by decide +kernel) rfl
set_option maxRecDepth 20000 in
theorem kX13_write_114 {C : QC} {x : QP} {M : QM} {st : List CV} {L : QL} {a b : Int} : Rr C mX13_write (114, L, qi b :: qi a :: st, M) x = Rr C mX13_write (115, L, qi (a * b) :: st, M) x := g_pl (show decode cX13_write 114 = .ok (.imul, 1) by decide +kernel) rfl
set_option maxRecDepth 20000 in
theorem kX13_write_115 {C : QC} {x : QP} {M : QM} {st : List CV} {L : QL} {a b : Int} : Rr C mX13_write (115, L, qi b :: qi a :: st, M) x = Rr C mX13_write (116, L, qi (a + b) :: st, M) x := g_pl (show decode cX13_write 115 = .ok (.iadd, 1) by decide +kernel) rfl
set_option maxRecDepth 20000 in
theorem kX13_write_116 {C : QC} {x : QP} {M : QM} {st : List CV} {L : QL} : Rr C mX13_write (116, L, st, M) x = Rr C mX13_write (117, L, qi 2 :: st, M) x := g_pl (show decode cX13_write 116 = .ok (.iconst 2, 1) by decide +kernel) rfl
set_option maxRecDepth 20000 in
theorem kX13_write_117 {C : QC} {x : QP} {M : QM} {st : List CV} {L : QL} {a b : Int} : Rr C mX13_write (117, L, qi b :: qi a :: st, M) x = Rr C mX13_write (118, L, qi (a + b) :: st, M) x := g_pl (show decode cX13_write 117 = .ok (.iadd, 1) by decide +kernel) rfl
set_option maxRecDepth 20000 in
theorem kX13_write_118 {C : QC} {x : QP} {M : QM} {L : QL} {rest : List CV} {a0 a1 : CV} {v : CV} {M1 : QM} {b : Nat} (hb : q_kd M b = (1, 13)) (hC : C iX13_has [qr b, a0, a1] M (some v) M1) (hw : (rest.map q_wd).sum ≤ 8) (k : Rr C mX13_write (121, L, v :: rest, M1) x) : Rr C mX13_write (118, L, a1 :: a0 :: qr b :: rest, M) x := g_cv (ow := 13) (e := (0, 207, 13, [1391, 1393, 32, 94])) (as := [a0, a1]) (show decode cX13_write 118 = .ok (.invokevirtual 47, 3) by decide +kernel) rfl rfl rfl (Or.inl rfl) rfl hb hC hw k
set_option maxRecDepth 20000 in
theorem kX13_write_121 {C : QC} {x : QP} {M : QM} {st : List CV} {L : QL} {l0 l1 l2 l3 : Option CV} {z : Int} : Rr C mX13_write (121, [l0, l1, l2, l3], qi z :: st, M) x = Rr C mX13_write (122, [l0, l1, q_cut l2, some (qi z)], st, M) x := g_pl (show decode cX13_write 121 = .ok (.istore_n 3, 1) by decide +kernel) rfl
set_option maxRecDepth 20000 in
theorem kX13_write_122 {C : QC} {x : QP} {M : QM} {st : List CV} {L : QL} {l0 l1 l2 l3 : Option CV} {z : Int} : Rr C mX13_write (122, [l0, l1, l2, some (qi z)], st, M) x = Rr C mX13_write (123, [l0, l1, l2, some (qi z)], qi z :: st, M) x := g_pl (show decode cX13_write 122 = .ok (.iload_n 3, 1) by decide +kernel) rfl
set_option maxRecDepth 20000 in
theorem kX13_write_123 {C : QC} {x : QP} {M : QM} {st : List CV} {L : QL} : Rr C mX13_write (123, L, st, M) x = Rr C mX13_write (125, L, qi (-5) :: st, M) x := g_pl (show decode cX13_write 123 = .ok (.bipush (-5), 2) by decide +kernel) rfl
set_option maxRecDepth 20000 in
theorem kX13_write_125 {C : QC} {x : QP} {M : QM} {st : List CV} {L : QL} {a b : Int} (ha1 : -2147483648 ≤ a) (ha2 : a < 2147483648) (hb1 : -2147483648 ≤ b) (hb2 : b < 2147483648) : Rr C mX13_write (125, L, qi b :: qi a :: st, M) x = (if a = b then Rr C mX13_write (128, L, st, M) x else Rr C mX13_write (131, L, st, M) x) := (g_icmp (show decode cX13_write 125 = .ok (.if_icmp .ne 6, 3) by decide +kernel) rfl ha1 ha2 hb1 hb2).trans (g_itn c_ne)
set_option maxRecDepth 20000 in
theorem kX13_write_128 {C : QC} {x : QP} {M : QM} {st : List CV} {L : QL} : Rr C mX13_write (128, L, st, M) x = Rr C mX13_write (157, L, st, M) x := g_pl (show decode cX13_write 128 = .ok (.goto 29, 3) by decide +kernel) rfl
set_option maxRecDepth 20000 in
theorem kX13_write_131 {C : QC} {x : QP} {M : QM} {st : List CV} {L : QL} {l0 l1 l2 l3 : Option CV} {r : Option Nat} : Rr C mX13_write (131, [some (.inr (.inr r)), l1, l2, l3], st, M) x = Rr C mX13_write (132, [some (.inr (.inr r)), l1, l2, l3], .inr (.inr r) :: st, M) x := g_pl (show decode cX13_write 131 = .ok (.aload_n 0, 1) by decide +kernel) rfl
set_option maxRecDepth 20000 in
theorem kX13_write_132 {C : QC} {x : QP} {M : QM} {st : List CV} {L : QL} {a : Nat} (hk : q_kd M a = (1, 13)) : Rr C mX13_write (132, L, qr a :: st, M) x = Rr C mX13_write (135, L, q_fv M a 15 :: st, M) x := g_getf (ow := 13) (e := (13, 15, RX13, 1316, 0)) (show decode cX13_write 132 = .ok (.getfield 33, 3) by decide +kernel) rfl hk
set_option maxRecDepth 20000 in
theorem kX13_write_135 {C : QC} {x : QP} {M : QM} {st : List CV} {L : QL} {l0 l1 l2 l3 : Option CV} {r : Option Nat} : Rr C mX13_write (135, [some (.inr (.inr r)), l1, l2, l3], st, M) x = Rr C mX13_write (136, [some (.inr (.inr r)), l1, l2, l3], .inr (.inr r) :: st, M) x := g_pl (show decode cX13_write 135 = .ok (.aload_n 0, 1) by decide +kernel) rfl
set_option maxRecDepth 20000 in
theorem kX13_write_136 {C : QC} {x : QP} {M : QM} {st : List CV} {L : QL} {a : Nat} (hk : q_kd M a = (1, 13)) : Rr C mX13_write (136, L, qr a :: st, M) x = Rr C mX13_write (139, L, q_fv M a 16 :: st, M) x := g_getf (ow := 13) (e := (13, 16, RX13, 1317, 0)) (show decode cX13_write 136 = .ok (.getfield 220, 3) by decide +kernel) rfl hk
set_option maxRecDepth 20000 in
theorem kX13_write_139 {C : QC} {x : QP} {M : QM} {st : List CV} {L : QL} : Rr C mX13_write (139, L, st, M) x = Rr C mX13_write (141, L, qi 58 :: st, M) x := g_pl (show decode cX13_write 139 = .ok (.bipush 58, 2) by decide +kernel) rfl
set_option maxRecDepth 20000 in
theorem kX13_write_141 {C : QC} {x : QP} {M : QM} {st : List CV} {L : QL} {a : Nat} {j v : Int} (hk : (q_kd M a).1 = 2) (h0 : 0 ≤ j) (h1 : j < ((q_kd M a).2 : Int)) : Rr C mX13_write (141, L, qi v :: qi j :: qr a :: st, M) x = Rr C mX13_write (142, L, st, q_wr M a j.toNat (qi v)) x := g_iast (show decode cX13_write 141 = .ok (.iastore, 1) by decide +kernel) hk h0 h1
set_option maxRecDepth 20000 in
theorem kX13_write_142 {C : QC} {x : QP} {M : QM} {st : List CV} {L : QL} {l0 l1 l2 l3 : Option CV} {r : Option Nat} : Rr C mX13_write (142, [some (.inr (.inr r)), l1, l2, l3], st, M) x = Rr C mX13_write (143, [some (.inr (.inr r)), l1, l2, l3], .inr (.inr r) :: st, M) x := g_pl (show decode cX13_write 142 = .ok (.aload_n 0, 1) by decide +kernel) rfl
set_option maxRecDepth 20000 in
theorem kX13_write_143i {C : QC} {x : QP} {M : QM} {st : List CV} {L : QL} {a : Int} : Rr C mX13_write (143, L, qi a :: st, M) x = Rr C mX13_write (144, L, qi a :: qi a :: st, M) x := g_pl (show decode cX13_write 143 = .ok (.dup, 1) by decide +kernel) rfl
set_option maxRecDepth 20000 in
theorem kX13_write_143r {C : QC} {x : QP} {M : QM} {st : List CV} {L : QL} {a : Option Nat} : Rr C mX13_write (143, L, .inr (.inr a) :: st, M) x = Rr C mX13_write (144, L, .inr (.inr a) :: .inr (.inr a) :: st, M) x := g_pl (show decode cX13_write 143 = .ok (.dup, 1) by decide +kernel) rfl
set_option maxRecDepth 20000 in
theorem kX13_write_144 {C : QC} {x : QP} {M : QM} {st : List CV} {L : QL} {a : Nat} (hk : q_kd M a = (1, 13)) : Rr C mX13_write (144, L, qr a :: st, M) x = Rr C mX13_write (147, L, q_fv M a 16 :: st, M) x := g_getf (ow := 13) (e := (13, 16, RX13, 1317, 0)) (show decode cX13_write 144 = .ok (.getfield 220, 3) by decide +kernel) rfl hk
set_option maxRecDepth 20000 in
theorem kX13_write_147 {C : QC} {x : QP} {M : QM} {st : List CV} {L : QL} : Rr C mX13_write (147, L, st, M) x = Rr C mX13_write (148, L, qi 1 :: st, M) x := g_pl (show decode cX13_write 147 = .ok (.iconst 1, 1) by decide +kernel) rfl
set_option maxRecDepth 20000 in
theorem kX13_write_148 {C : QC} {x : QP} {M : QM} {st : List CV} {L : QL} {a b : Int} : Rr C mX13_write (148, L, qi b :: qi a :: st, M) x = Rr C mX13_write (149, L, qi (a + b) :: st, M) x := g_pl (show decode cX13_write 148 = .ok (.iadd, 1) by decide +kernel) rfl
set_option maxRecDepth 20000 in
theorem kX13_write_149 {C : QC} {x : QP} {M : QM} {st : List CV} {L : QL} {z : Int} {a : Nat} (hk : q_kd M a = (1, 13)) : Rr C mX13_write (149, L, qi z :: qr a :: st, M) x = Rr C mX13_write (152, L, st, q_wr M a 16 (qi z)) x := g_putf (ow := 13) (ini := false) (e := (13, 16, RX13, 1317, 0)) (r := (RX13, TX13, 17)) (t := tyX13) (show decode cX13_write 149 = .ok (.putfield 220, 3) by decide +kernel) rfl rfl rfl rfl (by decide +kernel) hk
set_option maxRecDepth 20000 in
theorem kX13_write_152 {C : QC} {x : QP} {M : QM} {st : List CV} {L : QL} {l0 l1 l2 l3 : Option CV} {r : Option Nat} : Rr C mX13_write (152, [some (.inr (.inr r)), l1, l2, l3], st, M) x = Rr C mX13_write (153, [some (.inr (.inr r)), l1, l2, l3], .inr (.inr r) :: st, M) x := g_pl (show decode cX13_write 152 = .ok (.aload_n 0, 1) by decide +kernel) rfl
set_option maxRecDepth 20000 in
theorem kX13_write_153 {C : QC} {x : QP} {M : QM} {st : List CV} {L : QL} {l0 l1 l2 l3 : Option CV} {z : Int} : Rr C mX13_write (153, [l0, l1, l2, some (qi z)], st, M) x = Rr C mX13_write (154, [l0, l1, l2, some (qi z)], qi z :: st, M) x := g_pl (show decode cX13_write 153 = .ok (.iload_n 3, 1) by decide +kernel) rfl
set_option maxRecDepth 20000 in
theorem kX13_write_154 {C : QC} {x : QP} {M : QM} {L : QL} {rest : List CV} {a0 : CV} {M1 : QM} {b : Nat} (hb : q_kd M b = (1, 13)) (hC : C iX13_writes [qr b, a0] M none M1) (hw : (rest.map q_wd).sum ≤ 8) (k : Rr C mX13_write (157, L, rest, M1) x) : Rr C mX13_write (154, L, a0 :: qr b :: rest, M) x := g_cv (ow := 13) (e := (0, 267, 13, [1630, 1632, 73, 94])) (as := [a0]) (show decode cX13_write 154 = .ok (.invokevirtual 217, 3) by decide +kernel) rfl rfl rfl (Or.inl rfl) rfl hb hC hw k
set_option maxRecDepth 20000 in
theorem kX13_write_157 {C : QC} {x : QP} {M : QM} {st : List CV} {L : QL} {l0 l1 l2 l3 : Option CV} {z : Int} : Rr C mX13_write (157, [l0, l1, some (qi z), l3], st, M) x = Rr C mX13_write (160, [l0, q_cut l1, some (qi (z + 1)), l3], st, M) x := g_pl (show decode cX13_write 157 = .ok (.iinc 2 1, 3) by decide +kernel) rfl
set_option maxRecDepth 20000 in
theorem kX13_write_160 {C : QC} {x : QP} {M : QM} {st : List CV} {L : QL} : Rr C mX13_write (160, L, st, M) x = Rr C mX13_write (17, L, st, M) x := g_pl (show decode cX13_write 160 = .ok (.goto (-143), 3) by decide +kernel) rfl
set_option maxRecDepth 20000 in
theorem kX13_write_163 {C : QC} {x : QP} {M : QM} {st : List CV} {L : QL} {l0 l1 l2 l3 : Option CV} {r : Option Nat} : Rr C mX13_write (163, [some (.inr (.inr r)), l1, l2, l3], st, M) x = Rr C mX13_write (164, [some (.inr (.inr r)), l1, l2, l3], .inr (.inr r) :: st, M) x := g_pl (show decode cX13_write 163 = .ok (.aload_n 0, 1) by decide +kernel) rfl
set_option maxRecDepth 20000 in
theorem kX13_write_164 {C : QC} {x : QP} {M : QM} {st : List CV} {L : QL} {a : Nat} (hk : q_kd M a = (1, 13)) : Rr C mX13_write (164, L, qr a :: st, M) x = Rr C mX13_write (167, L, q_fv M a 16 :: st, M) x := g_getf (ow := 13) (e := (13, 16, RX13, 1317, 0)) (show decode cX13_write 164 = .ok (.getfield 220, 3) by decide +kernel) rfl hk
set_option maxRecDepth 20000 in
theorem kX13_write_167 {C : QC} {x : QP} {M : QM} {st : List CV} {L : QL} {z : Int} : Rr C mX13_write (167, L, [qi z], M) x = x (some (qi z)) M := g_iret (show decode cX13_write 167 = .ok (.ireturn, 1) by decide +kernel) rfl
set_option maxRecDepth 20000 in
theorem eX13_write {d : Nat} {M : QM} {x : QP} {a : Nat} {v0 : Int} : q_T (d + 1) iX13_write [qr a, qi v0] M x = Rr (q_C d) mX13_write (0, [some (qr a), some (qi v0), none, none], [], M) x := g_entryT (e := _) rfl (Nat.le_of_ble_eq_true rfl) rfl rfl
def mX13_paper : QI := (13, cX13_paper, false, some .int)
set_option maxRecDepth 20000 in
theorem kX13_paper_0 {C : QC} {x : QP} {M : QM} {st : List CV} {L : QL} {l0 l1 : Option CV} {z : Int} : Rr C mX13_paper (0, [l0, some (qi z)], st, M) x = Rr C mX13_paper (1, [l0, some (qi z)], qi z :: st, M) x := g_pl (show decode cX13_paper 0 = .ok (.iload_n 1, 1) by decide +kernel) rfl
set_option maxRecDepth 20000 in
theorem kX13_paper_1 {C : QC} {x : QP} {M : QM} {st : List CV} {L : QL} {a : Int} (ha1 : -2147483648 ≤ a) (ha2 : a < 2147483648) : Rr C mX13_paper (1, L, qi a :: st, M) x = (if a < 0 then Rr C mX13_paper (4, L, st, M) x else Rr C mX13_paper (8, L, st, M) x) := (g_if (show decode cX13_paper 1 = .ok (.ifCond .ge 7, 3) by decide +kernel) rfl ha1 ha2).trans (g_itn c_ge)
set_option maxRecDepth 20000 in
theorem kX13_paper_4 {C : QC} {x : QP} {M : QM} {st : List CV} {L : QL} : Rr C mX13_paper (4, L, st, M) x = Rr C mX13_paper (5, L, qi (-1) :: st, M) x := g_pl (show decode cX13_paper 4 = .ok (.iconst (-1), 1) by decide +kernel) rfl
set_option maxRecDepth 20000 in
theorem kX13_paper_5 {C : QC} {x : QP} {M : QM} {st : List CV} {L : QL} : Rr C mX13_paper (5, L, st, M) x = Rr C mX13_paper (27, L, st, M) x := g_pl (show decode cX13_paper 5 = .ok (.goto 22, 3) by decide +kernel) rfl
set_option maxRecDepth 20000 in
theorem kX13_paper_8 {C : QC} {x : QP} {M : QM} {st : List CV} {L : QL} {l0 l1 : Option CV} {z : Int} : Rr C mX13_paper (8, [l0, some (qi z)], st, M) x = Rr C mX13_paper (9, [l0, some (qi z)], qi z :: st, M) x := g_pl (show decode cX13_paper 8 = .ok (.iload_n 1, 1) by decide +kernel) rfl
set_option maxRecDepth 20000 in
theorem kX13_paper_9 {C : QC} {x : QP} {M : QM} {st : List CV} {L : QL} {l0 l1 : Option CV} {r : Option Nat} : Rr C mX13_paper (9, [some (.inr (.inr r)), l1], st, M) x = Rr C mX13_paper (10, [some (.inr (.inr r)), l1], .inr (.inr r) :: st, M) x := g_pl (show decode cX13_paper 9 = .ok (.aload_n 0, 1) by decide +kernel) rfl
set_option maxRecDepth 20000 in
theorem kX13_paper_10 {C : QC} {x : QP} {M : QM} {st : List CV} {L : QL} {a : Nat} (hk : q_kd M a = (1, 13)) : Rr C mX13_paper (10, L, qr a :: st, M) x = Rr C mX13_paper (13, L, q_fv M a 16 :: st, M) x := g_getf (ow := 13) (e := (13, 16, RX13, 1317, 0)) (show decode cX13_paper 10 = .ok (.getfield 220, 3) by decide +kernel) rfl hk
set_option maxRecDepth 20000 in
theorem kX13_paper_13 {C : QC} {x : QP} {M : QM} {st : List CV} {L : QL} {a b : Int} (ha1 : -2147483648 ≤ a) (ha2 : a < 2147483648) (hb1 : -2147483648 ≤ b) (hb2 : b < 2147483648) : Rr C mX13_paper (13, L, qi b :: qi a :: st, M) x = (if a < b then Rr C mX13_paper (16, L, st, M) x else Rr C mX13_paper (25, L, st, M) x) := (g_icmp (show decode cX13_paper 13 = .ok (.if_icmp .ge 12, 3) by decide +kernel) rfl ha1 ha2 hb1 hb2).trans (g_itn c_ge)
set_option maxRecDepth 20000 in
theorem kX13_paper_16 {C : QC} {x : QP} {M : QM} {st : List CV} {L : QL} {l0 l1 : Option CV} {r : Option Nat} : Rr C mX13_paper (16, [some (.inr (.inr r)), l1], st, M) x = Rr C mX13_paper (17, [some (.inr (.inr r)), l1], .inr (.inr r) :: st, M) x := g_pl (show decode cX13_paper 16 = .ok (.aload_n 0, 1) by decide +kernel) rfl
set_option maxRecDepth 20000 in
theorem kX13_paper_17 {C : QC} {x : QP} {M : QM} {st : List CV} {L : QL} {a : Nat} (hk : q_kd M a = (1, 13)) : Rr C mX13_paper (17, L, qr a :: st, M) x = Rr C mX13_paper (20, L, q_fv M a 15 :: st, M) x := g_getf (ow := 13) (e := (13, 15, RX13, 1316, 0)) (show decode cX13_paper 17 = .ok (.getfield 33, 3) by decide +kernel) rfl hk
set_option maxRecDepth 20000 in
theorem kX13_paper_20 {C : QC} {x : QP} {M : QM} {st : List CV} {L : QL} {l0 l1 : Option CV} {z : Int} : Rr C mX13_paper (20, [l0, some (qi z)], st, M) x = Rr C mX13_paper (21, [l0, some (qi z)], qi z :: st, M) x := g_pl (show decode cX13_paper 20 = .ok (.iload_n 1, 1) by decide +kernel) rfl
set_option maxRecDepth 20000 in
theorem kX13_paper_21 {C : QC} {x : QP} {M : QM} {st : List CV} {L : QL} {a : Nat} {j : Int} (hk : (q_kd M a).1 = 2) (h0 : 0 ≤ j) (h1 : j < ((q_kd M a).2 : Int)) : Rr C mX13_paper (21, L, qi j :: qr a :: st, M) x = Rr C mX13_paper (22, L, q_fv M a j.toNat :: st, M) x := g_iald (show decode cX13_paper 21 = .ok (.iaload, 1) by decide +kernel) hk h0 h1
set_option maxRecDepth 20000 in
theorem kX13_paper_22 {C : QC} {x : QP} {M : QM} {st : List CV} {L : QL} : Rr C mX13_paper (22, L, st, M) x = Rr C mX13_paper (27, L, st, M) x := g_pl (show decode cX13_paper 22 = .ok (.goto 5, 3) by decide +kernel) rfl
set_option maxRecDepth 20000 in
theorem kX13_paper_25 {C : QC} {x : QP} {M : QM} {st : List CV} {L : QL} : Rr C mX13_paper (25, L, st, M) x = Rr C mX13_paper (27, L, qi (-5) :: st, M) x := g_pl (show decode cX13_paper 25 = .ok (.bipush (-5), 2) by decide +kernel) rfl
set_option maxRecDepth 20000 in
theorem kX13_paper_27 {C : QC} {x : QP} {M : QM} {st : List CV} {L : QL} {z : Int} : Rr C mX13_paper (27, L, [qi z], M) x = x (some (qi z)) M := g_iret (show decode cX13_paper 27 = .ok (.ireturn, 1) by decide +kernel) rfl
set_option maxRecDepth 20000 in
theorem eX13_paper {d : Nat} {M : QM} {x : QP} {a : Nat} {v0 : Int} : q_T (d + 1) iX13_paper [qr a, qi v0] M x = Rr (q_C d) mX13_paper (0, [some (qr a), some (qi v0)], [], M) x := g_entryT (e := _) rfl (Nat.le_of_ble_eq_true rfl) rfl rfl
def mX13_changed : QI := (13, cX13_changed, false, some .int)
set_option maxRecDepth 20000 in
theorem kX13_changed_0 {C : QC} {x : QP} {M : QM} {st : List CV} {L : QL} {l0 l1 l2 l3 l4 : Option CV} {z : Int} : Rr C mX13_changed (0, [l0, some (qi z), l2, l3, l4], st, M) x = Rr C mX13_changed (1, [l0, some (qi z), l2, l3, l4], qi z :: st, M) x := g_pl (show decode cX13_changed 0 = .ok (.iload_n 1, 1) by decide +kernel) rfl
set_option maxRecDepth 20000 in
theorem kX13_changed_1 {C : QC} {x : QP} {M : QM} {L : QL} {rest : List CV} {a0 : CV} {v : CV} {M1 : QM} (hC : C iX13_isDay [a0] M (some v) M1) (hw : (rest.map q_wd).sum ≤ 8) (k : Rr C mX13_changed (4, L, v :: rest, M1) x) : Rr C mX13_changed (1, L, a0 :: rest, M) x := g_cs (ow := 13) (e := (1, 206, 0, [1388, 1389, 94])) (as := [a0]) (show decode cX13_changed 1 = .ok (.invokestatic 97, 3) by decide +kernel) rfl rfl rfl rfl (Or.inl rfl) rfl hC hw k
set_option maxRecDepth 20000 in
theorem kX13_changed_4 {C : QC} {x : QP} {M : QM} {st : List CV} {L : QL} {a : Int} (ha1 : -2147483648 ≤ a) (ha2 : a < 2147483648) : Rr C mX13_changed (4, L, qi a :: st, M) x = (if a = 0 then Rr C mX13_changed (14, L, st, M) x else Rr C mX13_changed (7, L, st, M) x) := (g_if (show decode cX13_changed 4 = .ok (.ifCond .eq 10, 3) by decide +kernel) rfl ha1 ha2).trans (g_ite c_eq)
set_option maxRecDepth 20000 in
theorem kX13_changed_7 {C : QC} {x : QP} {M : QM} {st : List CV} {L : QL} {l0 l1 l2 l3 l4 : Option CV} {z : Int} : Rr C mX13_changed (7, [l0, l1, some (qi z), l3, l4], st, M) x = Rr C mX13_changed (8, [l0, l1, some (qi z), l3, l4], qi z :: st, M) x := g_pl (show decode cX13_changed 7 = .ok (.iload_n 2, 1) by decide +kernel) rfl
set_option maxRecDepth 20000 in
theorem kX13_changed_8 {C : QC} {x : QP} {M : QM} {L : QL} {rest : List CV} {a0 : CV} {v : CV} {M1 : QM} (hC : C iX13_isDay [a0] M (some v) M1) (hw : (rest.map q_wd).sum ≤ 8) (k : Rr C mX13_changed (11, L, v :: rest, M1) x) : Rr C mX13_changed (8, L, a0 :: rest, M) x := g_cs (ow := 13) (e := (1, 206, 0, [1388, 1389, 94])) (as := [a0]) (show decode cX13_changed 8 = .ok (.invokestatic 97, 3) by decide +kernel) rfl rfl rfl rfl (Or.inl rfl) rfl hC hw k
set_option maxRecDepth 20000 in
theorem kX13_changed_11 {C : QC} {x : QP} {M : QM} {st : List CV} {L : QL} {a : Int} (ha1 : -2147483648 ≤ a) (ha2 : a < 2147483648) : Rr C mX13_changed (11, L, qi a :: st, M) x = (if a = 0 then Rr C mX13_changed (14, L, st, M) x else Rr C mX13_changed (17, L, st, M) x) := (g_if (show decode cX13_changed 11 = .ok (.ifCond .ne 6, 3) by decide +kernel) rfl ha1 ha2).trans (g_itn c_ne)
set_option maxRecDepth 20000 in
theorem kX13_changed_14 {C : QC} {x : QP} {M : QM} {st : List CV} {L : QL} : Rr C mX13_changed (14, L, st, M) x = Rr C mX13_changed (16, L, qi (-2) :: st, M) x := g_pl (show decode cX13_changed 14 = .ok (.bipush (-2), 2) by decide +kernel) rfl
set_option maxRecDepth 20000 in
theorem kX13_changed_16 {C : QC} {x : QP} {M : QM} {st : List CV} {L : QL} {z : Int} : Rr C mX13_changed (16, L, [qi z], M) x = x (some (qi z)) M := g_iret (show decode cX13_changed 16 = .ok (.ireturn, 1) by decide +kernel) rfl
set_option maxRecDepth 20000 in
theorem kX13_changed_17 {C : QC} {x : QP} {M : QM} {st : List CV} {L : QL} : Rr C mX13_changed (17, L, st, M) x = Rr C mX13_changed (18, L, qi 0 :: st, M) x := g_pl (show decode cX13_changed 17 = .ok (.iconst 0, 1) by decide +kernel) rfl
set_option maxRecDepth 20000 in
theorem kX13_changed_18 {C : QC} {x : QP} {M : QM} {st : List CV} {L : QL} {l0 l1 l2 l3 l4 : Option CV} {z : Int} : Rr C mX13_changed (18, [l0, l1, l2, l3, l4], qi z :: st, M) x = Rr C mX13_changed (19, [l0, l1, q_cut l2, some (qi z), l4], st, M) x := g_pl (show decode cX13_changed 18 = .ok (.istore_n 3, 1) by decide +kernel) rfl
set_option maxRecDepth 20000 in
theorem kX13_changed_19 {C : QC} {x : QP} {M : QM} {st : List CV} {L : QL} : Rr C mX13_changed (19, L, st, M) x = Rr C mX13_changed (20, L, qi 0 :: st, M) x := g_pl (show decode cX13_changed 19 = .ok (.iconst 0, 1) by decide +kernel) rfl
set_option maxRecDepth 20000 in
theorem kX13_changed_20 {C : QC} {x : QP} {M : QM} {st : List CV} {L : QL} {l0 l1 l2 l3 l4 : Option CV} {z : Int} : Rr C mX13_changed (20, [l0, l1, l2, l3, l4], qi z :: st, M) x = Rr C mX13_changed (22, [l0, l1, l2, q_cut l3, some (qi z)], st, M) x := g_pl (show decode cX13_changed 20 = .ok (.istore 4, 2) by decide +kernel) rfl
set_option maxRecDepth 20000 in
theorem kX13_changed_22 {C : QC} {x : QP} {M : QM} {st : List CV} {L : QL} {l0 l1 l2 l3 l4 : Option CV} {z : Int} : Rr C mX13_changed (22, [l0, l1, l2, l3, some (qi z)], st, M) x = Rr C mX13_changed (24, [l0, l1, l2, l3, some (qi z)], qi z :: st, M) x := g_pl (show decode cX13_changed 22 = .ok (.iload 4, 2) by decide +kernel) rfl
set_option maxRecDepth 20000 in
theorem kX13_changed_24 {C : QC} {x : QP} {M : QM} {st : List CV} {L : QL} {l0 l1 l2 l3 l4 : Option CV} {r : Option Nat} : Rr C mX13_changed (24, [some (.inr (.inr r)), l1, l2, l3, l4], st, M) x = Rr C mX13_changed (25, [some (.inr (.inr r)), l1, l2, l3, l4], .inr (.inr r) :: st, M) x := g_pl (show decode cX13_changed 24 = .ok (.aload_n 0, 1) by decide +kernel) rfl
set_option maxRecDepth 20000 in
theorem kX13_changed_25 {C : QC} {x : QP} {M : QM} {st : List CV} {L : QL} {a : Nat} (hk : q_kd M a = (1, 13)) : Rr C mX13_changed (25, L, qr a :: st, M) x = Rr C mX13_changed (28, L, q_fv M a 0 :: st, M) x := g_getf (ow := 13) (e := (13, 0, RX13, 1301, 0)) (show decode cX13_changed 25 = .ok (.getfield 10, 3) by decide +kernel) rfl hk
set_option maxRecDepth 20000 in
theorem kX13_changed_28 {C : QC} {x : QP} {M : QM} {st : List CV} {L : QL} : Rr C mX13_changed (28, L, st, M) x = Rr C mX13_changed (29, L, qi 0 :: st, M) x := g_pl (show decode cX13_changed 28 = .ok (.iconst 0, 1) by decide +kernel) rfl
set_option maxRecDepth 20000 in
theorem kX13_changed_29 {C : QC} {x : QP} {M : QM} {st : List CV} {L : QL} {a : Nat} {j : Int} (hk : (q_kd M a).1 = 2) (h0 : 0 ≤ j) (h1 : j < ((q_kd M a).2 : Int)) : Rr C mX13_changed (29, L, qi j :: qr a :: st, M) x = Rr C mX13_changed (30, L, q_fv M a j.toNat :: st, M) x := g_iald (show decode cX13_changed 29 = .ok (.iaload, 1) by decide +kernel) hk h0 h1
set_option maxRecDepth 20000 in
theorem kX13_changed_30 {C : QC} {x : QP} {M : QM} {st : List CV} {L : QL} {a b : Int} (ha1 : -2147483648 ≤ a) (ha2 : a < 2147483648) (hb1 : -2147483648 ≤ b) (hb2 : b < 2147483648) : Rr C mX13_changed (30, L, qi b :: qi a :: st, M) x = (if a < b then Rr C mX13_changed (33, L, st, M) x else Rr C mX13_changed (111, L, st, M) x) := (g_icmp (show decode cX13_changed 30 = .ok (.if_icmp .ge 81, 3) by decide +kernel) rfl ha1 ha2 hb1 hb2).trans (g_itn c_ge)
set_option maxRecDepth 20000 in
theorem kX13_changed_33 {C : QC} {x : QP} {M : QM} {st : List CV} {L : QL} {l0 l1 l2 l3 l4 : Option CV} {r : Option Nat} : Rr C mX13_changed (33, [some (.inr (.inr r)), l1, l2, l3, l4], st, M) x = Rr C mX13_changed (34, [some (.inr (.inr r)), l1, l2, l3, l4], .inr (.inr r) :: st, M) x := g_pl (show decode cX13_changed 33 = .ok (.aload_n 0, 1) by decide +kernel) rfl
set_option maxRecDepth 20000 in
theorem kX13_changed_34 {C : QC} {x : QP} {M : QM} {st : List CV} {L : QL} {l0 l1 l2 l3 l4 : Option CV} {z : Int} : Rr C mX13_changed (34, [l0, l1, l2, l3, some (qi z)], st, M) x = Rr C mX13_changed (36, [l0, l1, l2, l3, some (qi z)], qi z :: st, M) x := g_pl (show decode cX13_changed 34 = .ok (.iload 4, 2) by decide +kernel) rfl
set_option maxRecDepth 20000 in
theorem kX13_changed_36 {C : QC} {x : QP} {M : QM} {st : List CV} {L : QL} {l0 l1 l2 l3 l4 : Option CV} {z : Int} : Rr C mX13_changed (36, [l0, some (qi z), l2, l3, l4], st, M) x = Rr C mX13_changed (37, [l0, some (qi z), l2, l3, l4], qi z :: st, M) x := g_pl (show decode cX13_changed 36 = .ok (.iload_n 1, 1) by decide +kernel) rfl
set_option maxRecDepth 20000 in
theorem kX13_changed_37 {C : QC} {x : QP} {M : QM} {L : QL} {rest : List CV} {a0 a1 : CV} {v : CV} {M1 : QM} {b : Nat} (hb : q_kd M b = (1, 13)) (hC : C iX13_exists [qr b, a0, a1] M (some v) M1) (hw : (rest.map q_wd).sum ≤ 8) (k : Rr C mX13_changed (40, L, v :: rest, M1) x) : Rr C mX13_changed (37, L, a1 :: a0 :: qr b :: rest, M) x := g_cv (ow := 13) (e := (0, 235, 13, [1503, 1505, 56, 94])) (as := [a0, a1]) (show decode cX13_changed 37 = .ok (.invokevirtual 62, 3) by decide +kernel) rfl rfl rfl (Or.inl rfl) rfl hb hC hw k
set_option maxRecDepth 20000 in
theorem kX13_changed_40 {C : QC} {x : QP} {M : QM} {st : List CV} {L : QL} {a : Int} (ha1 : -2147483648 ≤ a) (ha2 : a < 2147483648) : Rr C mX13_changed (40, L, qi a :: st, M) x = (if a = 0 then Rr C mX13_changed (105, L, st, M) x else Rr C mX13_changed (43, L, st, M) x) := (g_if (show decode cX13_changed 40 = .ok (.ifCond .eq 65, 3) by decide +kernel) rfl ha1 ha2).trans (g_ite c_eq)
set_option maxRecDepth 20000 in
theorem kX13_changed_43 {C : QC} {x : QP} {M : QM} {st : List CV} {L : QL} {l0 l1 l2 l3 l4 : Option CV} {r : Option Nat} : Rr C mX13_changed (43, [some (.inr (.inr r)), l1, l2, l3, l4], st, M) x = Rr C mX13_changed (44, [some (.inr (.inr r)), l1, l2, l3, l4], .inr (.inr r) :: st, M) x := g_pl (show decode cX13_changed 43 = .ok (.aload_n 0, 1) by decide +kernel) rfl
set_option maxRecDepth 20000 in
theorem kX13_changed_44 {C : QC} {x : QP} {M : QM} {st : List CV} {L : QL} {l0 l1 l2 l3 l4 : Option CV} {z : Int} : Rr C mX13_changed (44, [l0, l1, l2, l3, some (qi z)], st, M) x = Rr C mX13_changed (46, [l0, l1, l2, l3, some (qi z)], qi z :: st, M) x := g_pl (show decode cX13_changed 44 = .ok (.iload 4, 2) by decide +kernel) rfl
set_option maxRecDepth 20000 in
theorem kX13_changed_46 {C : QC} {x : QP} {M : QM} {st : List CV} {L : QL} {l0 l1 l2 l3 l4 : Option CV} {z : Int} : Rr C mX13_changed (46, [l0, l1, some (qi z), l3, l4], st, M) x = Rr C mX13_changed (47, [l0, l1, some (qi z), l3, l4], qi z :: st, M) x := g_pl (show decode cX13_changed 46 = .ok (.iload_n 2, 1) by decide +kernel) rfl
set_option maxRecDepth 20000 in
theorem kX13_changed_47 {C : QC} {x : QP} {M : QM} {L : QL} {rest : List CV} {a0 a1 : CV} {v : CV} {M1 : QM} {b : Nat} (hb : q_kd M b = (1, 13)) (hC : C iX13_exists [qr b, a0, a1] M (some v) M1) (hw : (rest.map q_wd).sum ≤ 8) (k : Rr C mX13_changed (50, L, v :: rest, M1) x) : Rr C mX13_changed (47, L, a1 :: a0 :: qr b :: rest, M) x := g_cv (ow := 13) (e := (0, 235, 13, [1503, 1505, 56, 94])) (as := [a0, a1]) (show decode cX13_changed 47 = .ok (.invokevirtual 62, 3) by decide +kernel) rfl rfl rfl (Or.inl rfl) rfl hb hC hw k
set_option maxRecDepth 20000 in
theorem kX13_changed_50 {C : QC} {x : QP} {M : QM} {st : List CV} {L : QL} {a : Int} (ha1 : -2147483648 ≤ a) (ha2 : a < 2147483648) : Rr C mX13_changed (50, L, qi a :: st, M) x = (if a = 0 then Rr C mX13_changed (53, L, st, M) x else Rr C mX13_changed (56, L, st, M) x) := (g_if (show decode cX13_changed 50 = .ok (.ifCond .ne 6, 3) by decide +kernel) rfl ha1 ha2).trans (g_itn c_ne)
set_option maxRecDepth 20000 in
theorem kX13_changed_53 {C : QC} {x : QP} {M : QM} {st : List CV} {L : QL} : Rr C mX13_changed (53, L, st, M) x = Rr C mX13_changed (105, L, st, M) x := g_pl (show decode cX13_changed 53 = .ok (.goto 52, 3) by decide +kernel) rfl
set_option maxRecDepth 20000 in
theorem kX13_changed_56 {C : QC} {x : QP} {M : QM} {st : List CV} {L : QL} {l0 l1 l2 l3 l4 : Option CV} {z : Int} : Rr C mX13_changed (56, [l0, l1, l2, some (qi z), l4], st, M) x = Rr C mX13_changed (57, [l0, l1, l2, some (qi z), l4], qi z :: st, M) x := g_pl (show decode cX13_changed 56 = .ok (.iload_n 3, 1) by decide +kernel) rfl
set_option maxRecDepth 20000 in
theorem kX13_changed_57 {C : QC} {x : QP} {M : QM} {st : List CV} {L : QL} {l0 l1 l2 l3 l4 : Option CV} {r : Option Nat} : Rr C mX13_changed (57, [some (.inr (.inr r)), l1, l2, l3, l4], st, M) x = Rr C mX13_changed (58, [some (.inr (.inr r)), l1, l2, l3, l4], .inr (.inr r) :: st, M) x := g_pl (show decode cX13_changed 57 = .ok (.aload_n 0, 1) by decide +kernel) rfl
set_option maxRecDepth 20000 in
theorem kX13_changed_58 {C : QC} {x : QP} {M : QM} {st : List CV} {L : QL} {l0 l1 l2 l3 l4 : Option CV} {z : Int} : Rr C mX13_changed (58, [l0, l1, l2, l3, some (qi z)], st, M) x = Rr C mX13_changed (60, [l0, l1, l2, l3, some (qi z)], qi z :: st, M) x := g_pl (show decode cX13_changed 58 = .ok (.iload 4, 2) by decide +kernel) rfl
set_option maxRecDepth 20000 in
theorem kX13_changed_60 {C : QC} {x : QP} {M : QM} {st : List CV} {L : QL} {l0 l1 l2 l3 l4 : Option CV} {z : Int} : Rr C mX13_changed (60, [l0, some (qi z), l2, l3, l4], st, M) x = Rr C mX13_changed (61, [l0, some (qi z), l2, l3, l4], qi z :: st, M) x := g_pl (show decode cX13_changed 60 = .ok (.iload_n 1, 1) by decide +kernel) rfl
set_option maxRecDepth 20000 in
theorem kX13_changed_61 {C : QC} {x : QP} {M : QM} {L : QL} {rest : List CV} {a0 a1 : CV} {v : CV} {M1 : QM} {b : Nat} (hb : q_kd M b = (1, 13)) (hC : C iX13_parentOn [qr b, a0, a1] M (some v) M1) (hw : (rest.map q_wd).sum ≤ 8) (k : Rr C mX13_changed (64, L, v :: rest, M1) x) : Rr C mX13_changed (61, L, a1 :: a0 :: qr b :: rest, M) x := g_cv (ow := 13) (e := (0, 227, 13, [1471, 1473, 50, 94])) (as := [a0, a1]) (show decode cX13_changed 61 = .ok (.invokevirtual 66, 3) by decide +kernel) rfl rfl rfl (Or.inl rfl) rfl hb hC hw k
set_option maxRecDepth 20000 in
theorem kX13_changed_64 {C : QC} {x : QP} {M : QM} {st : List CV} {L : QL} {l0 l1 l2 l3 l4 : Option CV} {r : Option Nat} : Rr C mX13_changed (64, [some (.inr (.inr r)), l1, l2, l3, l4], st, M) x = Rr C mX13_changed (65, [some (.inr (.inr r)), l1, l2, l3, l4], .inr (.inr r) :: st, M) x := g_pl (show decode cX13_changed 64 = .ok (.aload_n 0, 1) by decide +kernel) rfl
set_option maxRecDepth 20000 in
theorem kX13_changed_65 {C : QC} {x : QP} {M : QM} {st : List CV} {L : QL} {l0 l1 l2 l3 l4 : Option CV} {z : Int} : Rr C mX13_changed (65, [l0, l1, l2, l3, some (qi z)], st, M) x = Rr C mX13_changed (67, [l0, l1, l2, l3, some (qi z)], qi z :: st, M) x := g_pl (show decode cX13_changed 65 = .ok (.iload 4, 2) by decide +kernel) rfl
set_option maxRecDepth 20000 in
theorem kX13_changed_67 {C : QC} {x : QP} {M : QM} {st : List CV} {L : QL} {l0 l1 l2 l3 l4 : Option CV} {z : Int} : Rr C mX13_changed (67, [l0, l1, some (qi z), l3, l4], st, M) x = Rr C mX13_changed (68, [l0, l1, some (qi z), l3, l4], qi z :: st, M) x := g_pl (show decode cX13_changed 67 = .ok (.iload_n 2, 1) by decide +kernel) rfl
set_option maxRecDepth 20000 in
theorem kX13_changed_68 {C : QC} {x : QP} {M : QM} {L : QL} {rest : List CV} {a0 a1 : CV} {v : CV} {M1 : QM} {b : Nat} (hb : q_kd M b = (1, 13)) (hC : C iX13_parentOn [qr b, a0, a1] M (some v) M1) (hw : (rest.map q_wd).sum ≤ 8) (k : Rr C mX13_changed (71, L, v :: rest, M1) x) : Rr C mX13_changed (68, L, a1 :: a0 :: qr b :: rest, M) x := g_cv (ow := 13) (e := (0, 227, 13, [1471, 1473, 50, 94])) (as := [a0, a1]) (show decode cX13_changed 68 = .ok (.invokevirtual 66, 3) by decide +kernel) rfl rfl rfl (Or.inl rfl) rfl hb hC hw k
set_option maxRecDepth 20000 in
theorem kX13_changed_71 {C : QC} {x : QP} {M : QM} {st : List CV} {L : QL} {a b : Int} (ha1 : -2147483648 ≤ a) (ha2 : a < 2147483648) (hb1 : -2147483648 ≤ b) (hb2 : b < 2147483648) : Rr C mX13_changed (71, L, qi b :: qi a :: st, M) x = (if a = b then Rr C mX13_changed (74, L, st, M) x else Rr C mX13_changed (95, L, st, M) x) := (g_icmp (show decode cX13_changed 71 = .ok (.if_icmp .ne 24, 3) by decide +kernel) rfl ha1 ha2 hb1 hb2).trans (g_itn c_ne)
set_option maxRecDepth 20000 in
theorem kX13_changed_74 {C : QC} {x : QP} {M : QM} {st : List CV} {L : QL} {l0 l1 l2 l3 l4 : Option CV} {r : Option Nat} : Rr C mX13_changed (74, [some (.inr (.inr r)), l1, l2, l3, l4], st, M) x = Rr C mX13_changed (75, [some (.inr (.inr r)), l1, l2, l3, l4], .inr (.inr r) :: st, M) x := g_pl (show decode cX13_changed 74 = .ok (.aload_n 0, 1) by decide +kernel) rfl
set_option maxRecDepth 20000 in
theorem kX13_changed_75 {C : QC} {x : QP} {M : QM} {st : List CV} {L : QL} {l0 l1 l2 l3 l4 : Option CV} {r : Option Nat} : Rr C mX13_changed (75, [some (.inr (.inr r)), l1, l2, l3, l4], st, M) x = Rr C mX13_changed (76, [some (.inr (.inr r)), l1, l2, l3, l4], .inr (.inr r) :: st, M) x := g_pl (show decode cX13_changed 75 = .ok (.aload_n 0, 1) by decide +kernel) rfl
set_option maxRecDepth 20000 in
theorem kX13_changed_76 {C : QC} {x : QP} {M : QM} {st : List CV} {L : QL} {l0 l1 l2 l3 l4 : Option CV} {z : Int} : Rr C mX13_changed (76, [l0, l1, l2, l3, some (qi z)], st, M) x = Rr C mX13_changed (78, [l0, l1, l2, l3, some (qi z)], qi z :: st, M) x := g_pl (show decode cX13_changed 76 = .ok (.iload 4, 2) by decide +kernel) rfl
set_option maxRecDepth 20000 in
theorem kX13_changed_78 {C : QC} {x : QP} {M : QM} {st : List CV} {L : QL} {l0 l1 l2 l3 l4 : Option CV} {z : Int} : Rr C mX13_changed (78, [l0, some (qi z), l2, l3, l4], st, M) x = Rr C mX13_changed (79, [l0, some (qi z), l2, l3, l4], qi z :: st, M) x := g_pl (show decode cX13_changed 78 = .ok (.iload_n 1, 1) by decide +kernel) rfl
set_option maxRecDepth 20000 in
theorem kX13_changed_79 {C : QC} {x : QP} {M : QM} {L : QL} {rest : List CV} {a0 a1 : CV} {v : CV} {M1 : QM} {b : Nat} (hb : q_kd M b = (1, 13)) (hC : C iX13_nameOn [qr b, a0, a1] M (some v) M1) (hw : (rest.map q_wd).sum ≤ 8) (k : Rr C mX13_changed (82, L, v :: rest, M1) x) : Rr C mX13_changed (79, L, a1 :: a0 :: qr b :: rest, M) x := g_cv (ow := 13) (e := (0, 223, 13, [1455, 1457, 47, 94])) (as := [a0, a1]) (show decode cX13_changed 79 = .ok (.invokevirtual 59, 3) by decide +kernel) rfl rfl rfl (Or.inl rfl) rfl hb hC hw k
set_option maxRecDepth 20000 in
theorem kX13_changed_82 {C : QC} {x : QP} {M : QM} {st : List CV} {L : QL} {l0 l1 l2 l3 l4 : Option CV} {r : Option Nat} : Rr C mX13_changed (82, [some (.inr (.inr r)), l1, l2, l3, l4], st, M) x = Rr C mX13_changed (83, [some (.inr (.inr r)), l1, l2, l3, l4], .inr (.inr r) :: st, M) x := g_pl (show decode cX13_changed 82 = .ok (.aload_n 0, 1) by decide +kernel) rfl
set_option maxRecDepth 20000 in
theorem kX13_changed_83 {C : QC} {x : QP} {M : QM} {st : List CV} {L : QL} {l0 l1 l2 l3 l4 : Option CV} {z : Int} : Rr C mX13_changed (83, [l0, l1, l2, l3, some (qi z)], st, M) x = Rr C mX13_changed (85, [l0, l1, l2, l3, some (qi z)], qi z :: st, M) x := g_pl (show decode cX13_changed 83 = .ok (.iload 4, 2) by decide +kernel) rfl
set_option maxRecDepth 20000 in
theorem kX13_changed_85 {C : QC} {x : QP} {M : QM} {st : List CV} {L : QL} {l0 l1 l2 l3 l4 : Option CV} {z : Int} : Rr C mX13_changed (85, [l0, l1, some (qi z), l3, l4], st, M) x = Rr C mX13_changed (86, [l0, l1, some (qi z), l3, l4], qi z :: st, M) x := g_pl (show decode cX13_changed 85 = .ok (.iload_n 2, 1) by decide +kernel) rfl
set_option maxRecDepth 20000 in
theorem kX13_changed_86 {C : QC} {x : QP} {M : QM} {L : QL} {rest : List CV} {a0 a1 : CV} {v : CV} {M1 : QM} {b : Nat} (hb : q_kd M b = (1, 13)) (hC : C iX13_nameOn [qr b, a0, a1] M (some v) M1) (hw : (rest.map q_wd).sum ≤ 8) (k : Rr C mX13_changed (89, L, v :: rest, M1) x) : Rr C mX13_changed (86, L, a1 :: a0 :: qr b :: rest, M) x := g_cv (ow := 13) (e := (0, 223, 13, [1455, 1457, 47, 94])) (as := [a0, a1]) (show decode cX13_changed 86 = .ok (.invokevirtual 59, 3) by decide +kernel) rfl rfl rfl (Or.inl rfl) rfl hb hC hw k
set_option maxRecDepth 20000 in
theorem kX13_changed_89 {C : QC} {x : QP} {M : QM} {L : QL} {rest : List CV} {a0 a1 : CV} {v : CV} {M1 : QM} {b : Nat} (hb : q_kd M b = (1, 13)) (hC : C iX13_areAlike [qr b, a0, a1] M (some v) M1) (hw : (rest.map q_wd).sum ≤ 8) (k : Rr C mX13_changed (92, L, v :: rest, M1) x) : Rr C mX13_changed (89, L, a1 :: a0 :: qr b :: rest, M) x := g_cv (ow := 13) (e := (0, 270, 13, [1642, 1644, 74, 94])) (as := [a0, a1]) (show decode cX13_changed 89 = .ok (.invokevirtual 226, 3) by decide +kernel) rfl rfl rfl (Or.inl rfl) rfl hb hC hw k
set_option maxRecDepth 20000 in
theorem kX13_changed_92 {C : QC} {x : QP} {M : QM} {st : List CV} {L : QL} {a : Int} (ha1 : -2147483648 ≤ a) (ha2 : a < 2147483648) : Rr C mX13_changed (92, L, qi a :: st, M) x = (if a = 0 then Rr C mX13_changed (95, L, st, M) x else Rr C mX13_changed (102, L, st, M) x) := (g_if (show decode cX13_changed 92 = .ok (.ifCond .ne 10, 3) by decide +kernel) rfl ha1 ha2).trans (g_itn c_ne)
set_option maxRecDepth 20000 in
theorem kX13_changed_95 {C : QC} {x : QP} {M : QM} {st : List CV} {L : QL} : Rr C mX13_changed (95, L, st, M) x = Rr C mX13_changed (96, L, qi 1 :: st, M) x := g_pl (show decode cX13_changed 95 = .ok (.iconst 1, 1) by decide +kernel) rfl
set_option maxRecDepth 20000 in
theorem kX13_changed_96 {C : QC} {x : QP} {M : QM} {st : List CV} {L : QL} {l0 l1 l2 l3 l4 : Option CV} {z : Int} : Rr C mX13_changed (96, [l0, l1, l2, l3, some (qi z)], st, M) x = Rr C mX13_changed (98, [l0, l1, l2, l3, some (qi z)], qi z :: st, M) x := g_pl (show decode cX13_changed 96 = .ok (.iload 4, 2) by decide +kernel) rfl
set_option maxRecDepth 20000 in
theorem kX13_changed_98 {C : QC} {x : QP} {M : QM} {st : List CV} {L : QL} {a b : Int} : Rr C mX13_changed (98, L, qi b :: qi a :: st, M) x = Rr C mX13_changed (99, L, qi (q_shl a b) :: st, M) x := g_pl (show decode cX13_changed 98 = .ok (.ishl, 1) by decide +kernel) rfl
set_option maxRecDepth 20000 in
theorem kX13_changed_99 {C : QC} {x : QP} {M : QM} {st : List CV} {L : QL} : Rr C mX13_changed (99, L, st, M) x = Rr C mX13_changed (103, L, st, M) x := g_pl (show decode cX13_changed 99 = .ok (.goto 4, 3) by decide +kernel) rfl
set_option maxRecDepth 20000 in
theorem kX13_changed_102 {C : QC} {x : QP} {M : QM} {st : List CV} {L : QL} : Rr C mX13_changed (102, L, st, M) x = Rr C mX13_changed (103, L, qi 0 :: st, M) x := g_pl (show decode cX13_changed 102 = .ok (.iconst 0, 1) by decide +kernel) rfl
set_option maxRecDepth 20000 in
theorem kX13_changed_103 {C : QC} {x : QP} {M : QM} {st : List CV} {L : QL} {a b : Int} : Rr C mX13_changed (103, L, qi b :: qi a :: st, M) x = Rr C mX13_changed (104, L, qi (q_or a b) :: st, M) x := g_pl (show decode cX13_changed 103 = .ok (.ior, 1) by decide +kernel) rfl
set_option maxRecDepth 20000 in
theorem kX13_changed_104 {C : QC} {x : QP} {M : QM} {st : List CV} {L : QL} {l0 l1 l2 l3 l4 : Option CV} {z : Int} : Rr C mX13_changed (104, [l0, l1, l2, l3, l4], qi z :: st, M) x = Rr C mX13_changed (105, [l0, l1, q_cut l2, some (qi z), l4], st, M) x := g_pl (show decode cX13_changed 104 = .ok (.istore_n 3, 1) by decide +kernel) rfl
set_option maxRecDepth 20000 in
theorem kX13_changed_105 {C : QC} {x : QP} {M : QM} {st : List CV} {L : QL} {l0 l1 l2 l3 l4 : Option CV} {z : Int} : Rr C mX13_changed (105, [l0, l1, l2, l3, some (qi z)], st, M) x = Rr C mX13_changed (108, [l0, l1, l2, q_cut l3, some (qi (z + 1))], st, M) x := g_pl (show decode cX13_changed 105 = .ok (.iinc 4 1, 3) by decide +kernel) rfl
set_option maxRecDepth 20000 in
theorem kX13_changed_108 {C : QC} {x : QP} {M : QM} {st : List CV} {L : QL} : Rr C mX13_changed (108, L, st, M) x = Rr C mX13_changed (22, L, st, M) x := g_pl (show decode cX13_changed 108 = .ok (.goto (-86), 3) by decide +kernel) rfl
set_option maxRecDepth 20000 in
theorem kX13_changed_111 {C : QC} {x : QP} {M : QM} {st : List CV} {L : QL} {l0 l1 l2 l3 l4 : Option CV} {z : Int} : Rr C mX13_changed (111, [l0, l1, l2, some (qi z), l4], st, M) x = Rr C mX13_changed (112, [l0, l1, l2, some (qi z), l4], qi z :: st, M) x := g_pl (show decode cX13_changed 111 = .ok (.iload_n 3, 1) by decide +kernel) rfl
set_option maxRecDepth 20000 in
theorem kX13_changed_112 {C : QC} {x : QP} {M : QM} {st : List CV} {L : QL} {z : Int} : Rr C mX13_changed (112, L, [qi z], M) x = x (some (qi z)) M := g_iret (show decode cX13_changed 112 = .ok (.ireturn, 1) by decide +kernel) rfl
set_option maxRecDepth 20000 in
theorem eX13_changed {d : Nat} {M : QM} {x : QP} {a : Nat} {v0 : Int} {v1 : Int} : q_T (d + 1) iX13_changed [qr a, qi v0, qi v1] M x = Rr (q_C d) mX13_changed (0, [some (qr a), some (qi v0), some (qi v1), none, none], [], M) x := g_entryT (e := _) rfl (Nat.le_of_ble_eq_true rfl) rfl rfl
def mX13_longest : QI := (13, cX13_longest, false, some .int)
set_option maxRecDepth 20000 in
theorem kX13_longest_0 {C : QC} {x : QP} {M : QM} {st : List CV} {L : QL} {l0 l1 l2 l3 l4 l5 l6 l7 l8 l9 : Option CV} {r : Option Nat} : Rr C mX13_longest (0, [some (.inr (.inr r)), l1, l2, l3, l4, l5, l6, l7, l8, l9], st, M) x = Rr C mX13_longest (1, [some (.inr (.inr r)), l1, l2, l3, l4, l5, l6, l7, l8, l9], .inr (.inr r) :: st, M) x := g_pl (show decode cX13_longest 0 = .ok (.aload_n 0, 1) by decide +kernel) rfl
set_option maxRecDepth 20000 in
theorem kX13_longest_1 {C : QC} {x : QP} {M : QM} {st : List CV} {L : QL} {l0 l1 l2 l3 l4 l5 l6 l7 l8 l9 : Option CV} {z : Int} : Rr C mX13_longest (1, [l0, some (qi z), l2, l3, l4, l5, l6, l7, l8, l9], st, M) x = Rr C mX13_longest (2, [l0, some (qi z), l2, l3, l4, l5, l6, l7, l8, l9], qi z :: st, M) x := g_pl (show decode cX13_longest 1 = .ok (.iload_n 1, 1) by decide +kernel) rfl
set_option maxRecDepth 20000 in
theorem kX13_longest_2 {C : QC} {x : QP} {M : QM} {L : QL} {rest : List CV} {a0 : CV} {v : CV} {M1 : QM} {b : Nat} (hb : q_kd M b = (1, 13)) (hC : C iX13_isPlace [qr b, a0] M (some v) M1) (hw : (rest.map q_wd).sum ≤ 8) (k : Rr C mX13_longest (5, L, v :: rest, M1) x) : Rr C mX13_longest (2, L, a0 :: qr b :: rest, M) x := g_cv (ow := 13) (e := (0, 205, 13, [1384, 1386, 31, 94])) (as := [a0]) (show decode cX13_longest 2 = .ok (.invokevirtual 94, 3) by decide +kernel) rfl rfl rfl (Or.inl rfl) rfl hb hC hw k
set_option maxRecDepth 20000 in
theorem kX13_longest_5 {C : QC} {x : QP} {M : QM} {st : List CV} {L : QL} {a : Int} (ha1 : -2147483648 ≤ a) (ha2 : a < 2147483648) : Rr C mX13_longest (5, L, qi a :: st, M) x = (if a = 0 then Rr C mX13_longest (17, L, st, M) x else Rr C mX13_longest (8, L, st, M) x) := (g_if (show decode cX13_longest 5 = .ok (.ifCond .eq 12, 3) by decide +kernel) rfl ha1 ha2).trans (g_ite c_eq)
set_option maxRecDepth 20000 in
theorem kX13_longest_8 {C : QC} {x : QP} {M : QM} {st : List CV} {L : QL} {l0 l1 l2 l3 l4 l5 l6 l7 l8 l9 : Option CV} {z : Int} : Rr C mX13_longest (8, [l0, l1, some (qi z), l3, l4, l5, l6, l7, l8, l9], st, M) x = Rr C mX13_longest (9, [l0, l1, some (qi z), l3, l4, l5, l6, l7, l8, l9], qi z :: st, M) x := g_pl (show decode cX13_longest 8 = .ok (.iload_n 2, 1) by decide +kernel) rfl
set_option maxRecDepth 20000 in
theorem kX13_longest_9 {C : QC} {x : QP} {M : QM} {st : List CV} {L : QL} : Rr C mX13_longest (9, L, st, M) x = Rr C mX13_longest (10, L, qi 0 :: st, M) x := g_pl (show decode cX13_longest 9 = .ok (.iconst 0, 1) by decide +kernel) rfl
set_option maxRecDepth 20000 in
theorem kX13_longest_10 {C : QC} {x : QP} {M : QM} {st : List CV} {L : QL} : Rr C mX13_longest (10, L, st, M) x = Rr C mX13_longest (11, L, qi 2 :: st, M) x := g_pl (show decode cX13_longest 10 = .ok (.iconst 2, 1) by decide +kernel) rfl
set_option maxRecDepth 20000 in
theorem kX13_longest_11 {C : QC} {x : QP} {M : QM} {L : QL} {rest : List CV} {a0 a1 a2 : CV} {v : CV} {M1 : QM} (hC : C iX13_in [a0, a1, a2] M (some v) M1) (hw : (rest.map q_wd).sum ≤ 8) (k : Rr C mX13_longest (14, L, v :: rest, M1) x) : Rr C mX13_longest (11, L, a2 :: a1 :: a0 :: rest, M) x := g_cs (ow := 13) (e := (1, 198, 0, [1357, 1358, 94])) (as := [a0, a1, a2]) (show decode cX13_longest 11 = .ok (.invokestatic 43, 3) by decide +kernel) rfl rfl rfl rfl (Or.inl rfl) rfl hC hw k
set_option maxRecDepth 20000 in
theorem kX13_longest_14 {C : QC} {x : QP} {M : QM} {st : List CV} {L : QL} {a : Int} (ha1 : -2147483648 ≤ a) (ha2 : a < 2147483648) : Rr C mX13_longest (14, L, qi a :: st, M) x = (if a = 0 then Rr C mX13_longest (17, L, st, M) x else Rr C mX13_longest (19, L, st, M) x) := (g_if (show decode cX13_longest 14 = .ok (.ifCond .ne 5, 3) by decide +kernel) rfl ha1 ha2).trans (g_itn c_ne)
set_option maxRecDepth 20000 in
theorem kX13_longest_17 {C : QC} {x : QP} {M : QM} {st : List CV} {L : QL} : Rr C mX13_longest (17, L, st, M) x = Rr C mX13_longest (18, L, qi (-1) :: st, M) x := g_pl (show decode cX13_longest 17 = .ok (.iconst (-1), 1) by decide +kernel) rfl
set_option maxRecDepth 20000 in
theorem kX13_longest_18 {C : QC} {x : QP} {M : QM} {st : List CV} {L : QL} {z : Int} : Rr C mX13_longest (18, L, [qi z], M) x = x (some (qi z)) M := g_iret (show decode cX13_longest 18 = .ok (.ireturn, 1) by decide +kernel) rfl
set_option maxRecDepth 20000 in
theorem kX13_longest_19 {C : QC} {x : QP} {M : QM} {st : List CV} {L : QL} : Rr C mX13_longest (19, L, st, M) x = Rr C mX13_longest (20, L, qi (-1) :: st, M) x := g_pl (show decode cX13_longest 19 = .ok (.iconst (-1), 1) by decide +kernel) rfl
set_option maxRecDepth 20000 in
theorem kX13_longest_20 {C : QC} {x : QP} {M : QM} {st : List CV} {L : QL} {l0 l1 l2 l3 l4 l5 l6 l7 l8 l9 : Option CV} {z : Int} : Rr C mX13_longest (20, [l0, l1, l2, l3, l4, l5, l6, l7, l8, l9], qi z :: st, M) x = Rr C mX13_longest (21, [l0, l1, q_cut l2, some (qi z), l4, l5, l6, l7, l8, l9], st, M) x := g_pl (show decode cX13_longest 20 = .ok (.istore_n 3, 1) by decide +kernel) rfl
set_option maxRecDepth 20000 in
theorem kX13_longest_21 {C : QC} {x : QP} {M : QM} {st : List CV} {L : QL} : Rr C mX13_longest (21, L, st, M) x = Rr C mX13_longest (22, L, qi (-1) :: st, M) x := g_pl (show decode cX13_longest 21 = .ok (.iconst (-1), 1) by decide +kernel) rfl
set_option maxRecDepth 20000 in
theorem kX13_longest_22 {C : QC} {x : QP} {M : QM} {st : List CV} {L : QL} {l0 l1 l2 l3 l4 l5 l6 l7 l8 l9 : Option CV} {z : Int} : Rr C mX13_longest (22, [l0, l1, l2, l3, l4, l5, l6, l7, l8, l9], qi z :: st, M) x = Rr C mX13_longest (24, [l0, l1, l2, q_cut l3, some (qi z), l5, l6, l7, l8, l9], st, M) x := g_pl (show decode cX13_longest 22 = .ok (.istore 4, 2) by decide +kernel) rfl
set_option maxRecDepth 20000 in
theorem kX13_longest_24 {C : QC} {x : QP} {M : QM} {st : List CV} {L : QL} : Rr C mX13_longest (24, L, st, M) x = Rr C mX13_longest (25, L, qi (-1) :: st, M) x := g_pl (show decode cX13_longest 24 = .ok (.iconst (-1), 1) by decide +kernel) rfl
set_option maxRecDepth 20000 in
theorem kX13_longest_25 {C : QC} {x : QP} {M : QM} {st : List CV} {L : QL} {l0 l1 l2 l3 l4 l5 l6 l7 l8 l9 : Option CV} {z : Int} : Rr C mX13_longest (25, [l0, l1, l2, l3, l4, l5, l6, l7, l8, l9], qi z :: st, M) x = Rr C mX13_longest (27, [l0, l1, l2, l3, q_cut l4, some (qi z), l6, l7, l8, l9], st, M) x := g_pl (show decode cX13_longest 25 = .ok (.istore 5, 2) by decide +kernel) rfl
set_option maxRecDepth 20000 in
theorem kX13_longest_27 {C : QC} {x : QP} {M : QM} {st : List CV} {L : QL} : Rr C mX13_longest (27, L, st, M) x = Rr C mX13_longest (28, L, qi 0 :: st, M) x := g_pl (show decode cX13_longest 27 = .ok (.iconst 0, 1) by decide +kernel) rfl
set_option maxRecDepth 20000 in
theorem kX13_longest_28 {C : QC} {x : QP} {M : QM} {st : List CV} {L : QL} {l0 l1 l2 l3 l4 l5 l6 l7 l8 l9 : Option CV} {z : Int} : Rr C mX13_longest (28, [l0, l1, l2, l3, l4, l5, l6, l7, l8, l9], qi z :: st, M) x = Rr C mX13_longest (30, [l0, l1, l2, l3, l4, q_cut l5, some (qi z), l7, l8, l9], st, M) x := g_pl (show decode cX13_longest 28 = .ok (.istore 6, 2) by decide +kernel) rfl
set_option maxRecDepth 20000 in
theorem kX13_longest_30 {C : QC} {x : QP} {M : QM} {st : List CV} {L : QL} {l0 l1 l2 l3 l4 l5 l6 l7 l8 l9 : Option CV} {z : Int} : Rr C mX13_longest (30, [l0, l1, l2, l3, l4, l5, some (qi z), l7, l8, l9], st, M) x = Rr C mX13_longest (32, [l0, l1, l2, l3, l4, l5, some (qi z), l7, l8, l9], qi z :: st, M) x := g_pl (show decode cX13_longest 30 = .ok (.iload 6, 2) by decide +kernel) rfl
set_option maxRecDepth 20000 in
theorem kX13_longest_32 {C : QC} {x : QP} {M : QM} {st : List CV} {L : QL} {l0 l1 l2 l3 l4 l5 l6 l7 l8 l9 : Option CV} {r : Option Nat} : Rr C mX13_longest (32, [some (.inr (.inr r)), l1, l2, l3, l4, l5, l6, l7, l8, l9], st, M) x = Rr C mX13_longest (33, [some (.inr (.inr r)), l1, l2, l3, l4, l5, l6, l7, l8, l9], .inr (.inr r) :: st, M) x := g_pl (show decode cX13_longest 32 = .ok (.aload_n 0, 1) by decide +kernel) rfl
set_option maxRecDepth 20000 in
theorem kX13_longest_33 {C : QC} {x : QP} {M : QM} {st : List CV} {L : QL} {a : Nat} (hk : q_kd M a = (1, 13)) : Rr C mX13_longest (33, L, qr a :: st, M) x = Rr C mX13_longest (36, L, q_fv M a 0 :: st, M) x := g_getf (ow := 13) (e := (13, 0, RX13, 1301, 0)) (show decode cX13_longest 33 = .ok (.getfield 10, 3) by decide +kernel) rfl hk
set_option maxRecDepth 20000 in
theorem kX13_longest_36 {C : QC} {x : QP} {M : QM} {st : List CV} {L : QL} : Rr C mX13_longest (36, L, st, M) x = Rr C mX13_longest (37, L, qi 1 :: st, M) x := g_pl (show decode cX13_longest 36 = .ok (.iconst 1, 1) by decide +kernel) rfl
set_option maxRecDepth 20000 in
theorem kX13_longest_37 {C : QC} {x : QP} {M : QM} {st : List CV} {L : QL} {a : Nat} {j : Int} (hk : (q_kd M a).1 = 2) (h0 : 0 ≤ j) (h1 : j < ((q_kd M a).2 : Int)) : Rr C mX13_longest (37, L, qi j :: qr a :: st, M) x = Rr C mX13_longest (38, L, q_fv M a j.toNat :: st, M) x := g_iald (show decode cX13_longest 37 = .ok (.iaload, 1) by decide +kernel) hk h0 h1
set_option maxRecDepth 20000 in
theorem kX13_longest_38 {C : QC} {x : QP} {M : QM} {st : List CV} {L : QL} {a b : Int} (ha1 : -2147483648 ≤ a) (ha2 : a < 2147483648) (hb1 : -2147483648 ≤ b) (hb2 : b < 2147483648) : Rr C mX13_longest (38, L, qi b :: qi a :: st, M) x = (if b < a then Rr C mX13_longest (188, L, st, M) x else Rr C mX13_longest (41, L, st, M) x) := (g_icmp (show decode cX13_longest 38 = .ok (.if_icmp .gt 150, 3) by decide +kernel) rfl ha1 ha2 hb1 hb2).trans (g_ite c_gt)
set_option maxRecDepth 20000 in
theorem kX13_longest_41 {C : QC} {x : QP} {M : QM} {st : List CV} {L : QL} : Rr C mX13_longest (41, L, st, M) x = Rr C mX13_longest (44, L, qi 1575 :: st, M) x := g_pl (show decode cX13_longest 41 = .ok (.sipush 1575, 3) by decide +kernel) rfl
set_option maxRecDepth 20000 in
theorem kX13_longest_44 {C : QC} {x : QP} {M : QM} {st : List CV} {L : QL} : Rr C mX13_longest (44, L, st, M) x = Rr C mX13_longest (46, L, qi 11 :: st, M) x := g_pl (show decode cX13_longest 44 = .ok (.bipush 11, 2) by decide +kernel) rfl
set_option maxRecDepth 20000 in
theorem kX13_longest_46 {C : QC} {x : QP} {M : QM} {st : List CV} {L : QL} {l0 l1 l2 l3 l4 l5 l6 l7 l8 l9 : Option CV} {z : Int} : Rr C mX13_longest (46, [l0, l1, l2, l3, l4, l5, some (qi z), l7, l8, l9], st, M) x = Rr C mX13_longest (48, [l0, l1, l2, l3, l4, l5, some (qi z), l7, l8, l9], qi z :: st, M) x := g_pl (show decode cX13_longest 46 = .ok (.iload 6, 2) by decide +kernel) rfl
set_option maxRecDepth 20000 in
theorem kX13_longest_48 {C : QC} {x : QP} {M : QM} {st : List CV} {L : QL} {a b : Int} : Rr C mX13_longest (48, L, qi b :: qi a :: st, M) x = Rr C mX13_longest (49, L, qi (a * b) :: st, M) x := g_pl (show decode cX13_longest 48 = .ok (.imul, 1) by decide +kernel) rfl
set_option maxRecDepth 20000 in
theorem kX13_longest_49 {C : QC} {x : QP} {M : QM} {st : List CV} {L : QL} {a b : Int} : Rr C mX13_longest (49, L, qi b :: qi a :: st, M) x = Rr C mX13_longest (50, L, qi (a + b) :: st, M) x := g_pl (show decode cX13_longest 49 = .ok (.iadd, 1) by decide +kernel) rfl
set_option maxRecDepth 20000 in
theorem kX13_longest_50 {C : QC} {x : QP} {M : QM} {st : List CV} {L : QL} {l0 l1 l2 l3 l4 l5 l6 l7 l8 l9 : Option CV} {z : Int} : Rr C mX13_longest (50, [l0, l1, l2, l3, l4, l5, l6, l7, l8, l9], qi z :: st, M) x = Rr C mX13_longest (52, [l0, l1, l2, l3, l4, l5, q_cut l6, some (qi z), l8, l9], st, M) x := g_pl (show decode cX13_longest 50 = .ok (.istore 7, 2) by decide +kernel) rfl
set_option maxRecDepth 20000 in
theorem kX13_longest_52 {C : QC} {x : QP} {M : QM} {st : List CV} {L : QL} {l0 l1 l2 l3 l4 l5 l6 l7 l8 l9 : Option CV} {z : Int} : Rr C mX13_longest (52, [l0, l1, l2, l3, l4, l5, some (qi z), l7, l8, l9], st, M) x = Rr C mX13_longest (54, [l0, l1, l2, l3, l4, l5, some (qi z), l7, l8, l9], qi z :: st, M) x := g_pl (show decode cX13_longest 52 = .ok (.iload 6, 2) by decide +kernel) rfl
set_option maxRecDepth 20000 in
theorem kX13_longest_54 {C : QC} {x : QP} {M : QM} {st : List CV} {L : QL} {l0 l1 l2 l3 l4 l5 l6 l7 l8 l9 : Option CV} {r : Option Nat} : Rr C mX13_longest (54, [some (.inr (.inr r)), l1, l2, l3, l4, l5, l6, l7, l8, l9], st, M) x = Rr C mX13_longest (55, [some (.inr (.inr r)), l1, l2, l3, l4, l5, l6, l7, l8, l9], .inr (.inr r) :: st, M) x := g_pl (show decode cX13_longest 54 = .ok (.aload_n 0, 1) by decide +kernel) rfl
set_option maxRecDepth 20000 in
theorem kX13_longest_55 {C : QC} {x : QP} {M : QM} {st : List CV} {L : QL} {a : Nat} (hk : q_kd M a = (1, 13)) : Rr C mX13_longest (55, L, qr a :: st, M) x = Rr C mX13_longest (58, L, q_fv M a 0 :: st, M) x := g_getf (ow := 13) (e := (13, 0, RX13, 1301, 0)) (show decode cX13_longest 55 = .ok (.getfield 10, 3) by decide +kernel) rfl hk
set_option maxRecDepth 20000 in
theorem kX13_longest_58 {C : QC} {x : QP} {M : QM} {st : List CV} {L : QL} : Rr C mX13_longest (58, L, st, M) x = Rr C mX13_longest (59, L, qi 1 :: st, M) x := g_pl (show decode cX13_longest 58 = .ok (.iconst 1, 1) by decide +kernel) rfl
set_option maxRecDepth 20000 in
theorem kX13_longest_59 {C : QC} {x : QP} {M : QM} {st : List CV} {L : QL} {a : Nat} {j : Int} (hk : (q_kd M a).1 = 2) (h0 : 0 ≤ j) (h1 : j < ((q_kd M a).2 : Int)) : Rr C mX13_longest (59, L, qi j :: qr a :: st, M) x = Rr C mX13_longest (60, L, q_fv M a j.toNat :: st, M) x := g_iald (show decode cX13_longest 59 = .ok (.iaload, 1) by decide +kernel) hk h0 h1
set_option maxRecDepth 20000 in
theorem kX13_longest_60 {C : QC} {x : QP} {M : QM} {st : List CV} {L : QL} {a b : Int} (ha1 : -2147483648 ≤ a) (ha2 : a < 2147483648) (hb1 : -2147483648 ≤ b) (hb2 : b < 2147483648) : Rr C mX13_longest (60, L, qi b :: qi a :: st, M) x = (if a = b then Rr C mX13_longest (63, L, st, M) x else Rr C mX13_longest (67, L, st, M) x) := (g_icmp (show decode cX13_longest 60 = .ok (.if_icmp .ne 7, 3) by decide +kernel) rfl ha1 ha2 hb1 hb2).trans (g_itn c_ne)
set_option maxRecDepth 20000 in
theorem kX13_longest_63 {C : QC} {x : QP} {M : QM} {st : List CV} {L : QL} : Rr C mX13_longest (63, L, st, M) x = Rr C mX13_longest (64, L, qi 1 :: st, M) x := g_pl (show decode cX13_longest 63 = .ok (.iconst 1, 1) by decide +kernel) rfl
set_option maxRecDepth 20000 in
theorem kX13_longest_64 {C : QC} {x : QP} {M : QM} {st : List CV} {L : QL} : Rr C mX13_longest (64, L, st, M) x = Rr C mX13_longest (68, L, st, M) x := g_pl (show decode cX13_longest 64 = .ok (.goto 4, 3) by decide +kernel) rfl
set_option maxRecDepth 20000 in
theorem kX13_longest_67 {C : QC} {x : QP} {M : QM} {st : List CV} {L : QL} : Rr C mX13_longest (67, L, st, M) x = Rr C mX13_longest (68, L, qi 0 :: st, M) x := g_pl (show decode cX13_longest 67 = .ok (.iconst 0, 1) by decide +kernel) rfl
set_option maxRecDepth 20000 in
theorem kX13_longest_68 {C : QC} {x : QP} {M : QM} {st : List CV} {L : QL} {l0 l1 l2 l3 l4 l5 l6 l7 l8 l9 : Option CV} {z : Int} : Rr C mX13_longest (68, [l0, l1, l2, l3, l4, l5, l6, l7, l8, l9], qi z :: st, M) x = Rr C mX13_longest (70, [l0, l1, l2, l3, l4, l5, l6, q_cut l7, some (qi z), l9], st, M) x := g_pl (show decode cX13_longest 68 = .ok (.istore 8, 2) by decide +kernel) rfl
set_option maxRecDepth 20000 in
theorem kX13_longest_70 {C : QC} {x : QP} {M : QM} {st : List CV} {L : QL} {l0 l1 l2 l3 l4 l5 l6 l7 l8 l9 : Option CV} {z : Int} : Rr C mX13_longest (70, [l0, l1, l2, l3, l4, l5, l6, l7, some (qi z), l9], st, M) x = Rr C mX13_longest (72, [l0, l1, l2, l3, l4, l5, l6, l7, some (qi z), l9], qi z :: st, M) x := g_pl (show decode cX13_longest 70 = .ok (.iload 8, 2) by decide +kernel) rfl
set_option maxRecDepth 20000 in
theorem kX13_longest_72 {C : QC} {x : QP} {M : QM} {st : List CV} {L : QL} {a : Int} (ha1 : -2147483648 ≤ a) (ha2 : a < 2147483648) : Rr C mX13_longest (72, L, qi a :: st, M) x = (if a = 0 then Rr C mX13_longest (75, L, st, M) x else Rr C mX13_longest (89, L, st, M) x) := (g_if (show decode cX13_longest 72 = .ok (.ifCond .ne 17, 3) by decide +kernel) rfl ha1 ha2).trans (g_itn c_ne)
set_option maxRecDepth 20000 in
theorem kX13_longest_75 {C : QC} {x : QP} {M : QM} {st : List CV} {L : QL} {l0 l1 l2 l3 l4 l5 l6 l7 l8 l9 : Option CV} {r : Option Nat} : Rr C mX13_longest (75, [some (.inr (.inr r)), l1, l2, l3, l4, l5, l6, l7, l8, l9], st, M) x = Rr C mX13_longest (76, [some (.inr (.inr r)), l1, l2, l3, l4, l5, l6, l7, l8, l9], .inr (.inr r) :: st, M) x := g_pl (show decode cX13_longest 75 = .ok (.aload_n 0, 1) by decide +kernel) rfl
set_option maxRecDepth 20000 in
theorem kX13_longest_76 {C : QC} {x : QP} {M : QM} {st : List CV} {L : QL} {a : Nat} (hk : q_kd M a = (1, 13)) : Rr C mX13_longest (76, L, qr a :: st, M) x = Rr C mX13_longest (79, L, q_fv M a 0 :: st, M) x := g_getf (ow := 13) (e := (13, 0, RX13, 1301, 0)) (show decode cX13_longest 76 = .ok (.getfield 10, 3) by decide +kernel) rfl hk
set_option maxRecDepth 20000 in
theorem kX13_longest_79 {C : QC} {x : QP} {M : QM} {st : List CV} {L : QL} {l0 l1 l2 l3 l4 l5 l6 l7 l8 l9 : Option CV} {z : Int} : Rr C mX13_longest (79, [l0, l1, l2, l3, l4, l5, l6, some (qi z), l8, l9], st, M) x = Rr C mX13_longest (81, [l0, l1, l2, l3, l4, l5, l6, some (qi z), l8, l9], qi z :: st, M) x := g_pl (show decode cX13_longest 79 = .ok (.iload 7, 2) by decide +kernel) rfl
set_option maxRecDepth 20000 in
theorem kX13_longest_81 {C : QC} {x : QP} {M : QM} {st : List CV} {L : QL} {a : Nat} {j : Int} (hk : (q_kd M a).1 = 2) (h0 : 0 ≤ j) (h1 : j < ((q_kd M a).2 : Int)) : Rr C mX13_longest (81, L, qi j :: qr a :: st, M) x = Rr C mX13_longest (82, L, q_fv M a j.toNat :: st, M) x := g_iald (show decode cX13_longest 81 = .ok (.iaload, 1) by decide +kernel) hk h0 h1
set_option maxRecDepth 20000 in
theorem kX13_longest_82 {C : QC} {x : QP} {M : QM} {st : List CV} {L : QL} {l0 l1 l2 l3 l4 l5 l6 l7 l8 l9 : Option CV} {z : Int} : Rr C mX13_longest (82, [l0, some (qi z), l2, l3, l4, l5, l6, l7, l8, l9], st, M) x = Rr C mX13_longest (83, [l0, some (qi z), l2, l3, l4, l5, l6, l7, l8, l9], qi z :: st, M) x := g_pl (show decode cX13_longest 82 = .ok (.iload_n 1, 1) by decide +kernel) rfl
set_option maxRecDepth 20000 in
theorem kX13_longest_83 {C : QC} {x : QP} {M : QM} {st : List CV} {L : QL} {a b : Int} (ha1 : -2147483648 ≤ a) (ha2 : a < 2147483648) (hb1 : -2147483648 ≤ b) (hb2 : b < 2147483648) : Rr C mX13_longest (83, L, qi b :: qi a :: st, M) x = (if a = b then Rr C mX13_longest (89, L, st, M) x else Rr C mX13_longest (86, L, st, M) x) := (g_icmp (show decode cX13_longest 83 = .ok (.if_icmp .eq 6, 3) by decide +kernel) rfl ha1 ha2 hb1 hb2).trans (g_ite c_eq)
set_option maxRecDepth 20000 in
theorem kX13_longest_86 {C : QC} {x : QP} {M : QM} {st : List CV} {L : QL} : Rr C mX13_longest (86, L, st, M) x = Rr C mX13_longest (182, L, st, M) x := g_pl (show decode cX13_longest 86 = .ok (.goto 96, 3) by decide +kernel) rfl
set_option maxRecDepth 20000 in
theorem kX13_longest_89 {C : QC} {x : QP} {M : QM} {st : List CV} {L : QL} {l0 l1 l2 l3 l4 l5 l6 l7 l8 l9 : Option CV} {z : Int} : Rr C mX13_longest (89, [l0, l1, l2, l3, l4, l5, l6, l7, some (qi z), l9], st, M) x = Rr C mX13_longest (91, [l0, l1, l2, l3, l4, l5, l6, l7, some (qi z), l9], qi z :: st, M) x := g_pl (show decode cX13_longest 89 = .ok (.iload 8, 2) by decide +kernel) rfl
set_option maxRecDepth 20000 in
theorem kX13_longest_91 {C : QC} {x : QP} {M : QM} {st : List CV} {L : QL} {a : Int} (ha1 : -2147483648 ≤ a) (ha2 : a < 2147483648) : Rr C mX13_longest (91, L, qi a :: st, M) x = (if a = 0 then Rr C mX13_longest (94, L, st, M) x else Rr C mX13_longest (106, L, st, M) x) := (g_if (show decode cX13_longest 91 = .ok (.ifCond .ne 15, 3) by decide +kernel) rfl ha1 ha2).trans (g_itn c_ne)
set_option maxRecDepth 20000 in
theorem kX13_longest_94 {C : QC} {x : QP} {M : QM} {st : List CV} {L : QL} {l0 l1 l2 l3 l4 l5 l6 l7 l8 l9 : Option CV} {r : Option Nat} : Rr C mX13_longest (94, [some (.inr (.inr r)), l1, l2, l3, l4, l5, l6, l7, l8, l9], st, M) x = Rr C mX13_longest (95, [some (.inr (.inr r)), l1, l2, l3, l4, l5, l6, l7, l8, l9], .inr (.inr r) :: st, M) x := g_pl (show decode cX13_longest 94 = .ok (.aload_n 0, 1) by decide +kernel) rfl
set_option maxRecDepth 20000 in
theorem kX13_longest_95 {C : QC} {x : QP} {M : QM} {st : List CV} {L : QL} {a : Nat} (hk : q_kd M a = (1, 13)) : Rr C mX13_longest (95, L, qr a :: st, M) x = Rr C mX13_longest (98, L, q_fv M a 0 :: st, M) x := g_getf (ow := 13) (e := (13, 0, RX13, 1301, 0)) (show decode cX13_longest 95 = .ok (.getfield 10, 3) by decide +kernel) rfl hk
set_option maxRecDepth 20000 in
theorem kX13_longest_98 {C : QC} {x : QP} {M : QM} {st : List CV} {L : QL} {l0 l1 l2 l3 l4 l5 l6 l7 l8 l9 : Option CV} {z : Int} : Rr C mX13_longest (98, [l0, l1, l2, l3, l4, l5, l6, some (qi z), l8, l9], st, M) x = Rr C mX13_longest (100, [l0, l1, l2, l3, l4, l5, l6, some (qi z), l8, l9], qi z :: st, M) x := g_pl (show decode cX13_longest 98 = .ok (.iload 7, 2) by decide +kernel) rfl
set_option maxRecDepth 20000 in
theorem kX13_longest_100 {C : QC} {x : QP} {M : QM} {st : List CV} {L : QL} : Rr C mX13_longest (100, L, st, M) x = Rr C mX13_longest (101, L, qi 1 :: st, M) x := g_pl (show decode cX13_longest 100 = .ok (.iconst 1, 1) by decide +kernel) rfl
set_option maxRecDepth 20000 in
theorem kX13_longest_101 {C : QC} {x : QP} {M : QM} {st : List CV} {L : QL} {a b : Int} : Rr C mX13_longest (101, L, qi b :: qi a :: st, M) x = Rr C mX13_longest (102, L, qi (a + b) :: st, M) x := g_pl (show decode cX13_longest 101 = .ok (.iadd, 1) by decide +kernel) rfl
set_option maxRecDepth 20000 in
theorem kX13_longest_102 {C : QC} {x : QP} {M : QM} {st : List CV} {L : QL} {a : Nat} {j : Int} (hk : (q_kd M a).1 = 2) (h0 : 0 ≤ j) (h1 : j < ((q_kd M a).2 : Int)) : Rr C mX13_longest (102, L, qi j :: qr a :: st, M) x = Rr C mX13_longest (103, L, q_fv M a j.toNat :: st, M) x := g_iald (show decode cX13_longest 102 = .ok (.iaload, 1) by decide +kernel) hk h0 h1
set_option maxRecDepth 20000 in
theorem kX13_longest_103 {C : QC} {x : QP} {M : QM} {st : List CV} {L : QL} : Rr C mX13_longest (103, L, st, M) x = Rr C mX13_longest (126, L, st, M) x := g_pl (show decode cX13_longest 103 = .ok (.goto 23, 3) by decide +kernel) rfl
set_option maxRecDepth 20000 in
theorem kX13_longest_106 {C : QC} {x : QP} {M : QM} {st : List CV} {L : QL} {l0 l1 l2 l3 l4 l5 l6 l7 l8 l9 : Option CV} {r : Option Nat} : Rr C mX13_longest (106, [some (.inr (.inr r)), l1, l2, l3, l4, l5, l6, l7, l8, l9], st, M) x = Rr C mX13_longest (107, [some (.inr (.inr r)), l1, l2, l3, l4, l5, l6, l7, l8, l9], .inr (.inr r) :: st, M) x := g_pl (show decode cX13_longest 106 = .ok (.aload_n 0, 1) by decide +kernel) rfl
set_option maxRecDepth 20000 in
theorem kX13_longest_107 {C : QC} {x : QP} {M : QM} {st : List CV} {L : QL} {l0 l1 l2 l3 l4 l5 l6 l7 l8 l9 : Option CV} {z : Int} : Rr C mX13_longest (107, [l0, some (qi z), l2, l3, l4, l5, l6, l7, l8, l9], st, M) x = Rr C mX13_longest (108, [l0, some (qi z), l2, l3, l4, l5, l6, l7, l8, l9], qi z :: st, M) x := g_pl (show decode cX13_longest 107 = .ok (.iload_n 1, 1) by decide +kernel) rfl
set_option maxRecDepth 20000 in
theorem kX13_longest_108 {C : QC} {x : QP} {M : QM} {L : QL} {rest : List CV} {a0 : CV} {v : CV} {M1 : QM} {b : Nat} (hb : q_kd M b = (1, 13)) (hC : C iX13_hasEnded [qr b, a0] M (some v) M1) (hw : (rest.map q_wd).sum ≤ 8) (k : Rr C mX13_longest (111, L, v :: rest, M1) x) : Rr C mX13_longest (108, L, a0 :: qr b :: rest, M) x := g_cv (ow := 13) (e := (0, 209, 13, [1399, 1401, 34, 94])) (as := [a0]) (show decode cX13_longest 108 = .ok (.invokevirtual 51, 3) by decide +kernel) rfl rfl rfl (Or.inl rfl) rfl hb hC hw k
set_option maxRecDepth 20000 in
theorem kX13_longest_111 {C : QC} {x : QP} {M : QM} {st : List CV} {L : QL} {a : Int} (ha1 : -2147483648 ≤ a) (ha2 : a < 2147483648) : Rr C mX13_longest (111, L, qi a :: st, M) x = (if a = 0 then Rr C mX13_longest (123, L, st, M) x else Rr C mX13_longest (114, L, st, M) x) := (g_if (show decode cX13_longest 111 = .ok (.ifCond .eq 12, 3) by decide +kernel) rfl ha1 ha2).trans (g_ite c_eq)
set_option maxRecDepth 20000 in
theorem kX13_longest_114 {C : QC} {x : QP} {M : QM} {st : List CV} {L : QL} {l0 l1 l2 l3 l4 l5 l6 l7 l8 l9 : Option CV} {r : Option Nat} : Rr C mX13_longest (114, [some (.inr (.inr r)), l1, l2, l3, l4, l5, l6, l7, l8, l9], st, M) x = Rr C mX13_longest (115, [some (.inr (.inr r)), l1, l2, l3, l4, l5, l6, l7, l8, l9], .inr (.inr r) :: st, M) x := g_pl (show decode cX13_longest 114 = .ok (.aload_n 0, 1) by decide +kernel) rfl
set_option maxRecDepth 20000 in
theorem kX13_longest_115 {C : QC} {x : QP} {M : QM} {st : List CV} {L : QL} {l0 l1 l2 l3 l4 l5 l6 l7 l8 l9 : Option CV} {z : Int} : Rr C mX13_longest (115, [l0, some (qi z), l2, l3, l4, l5, l6, l7, l8, l9], st, M) x = Rr C mX13_longest (116, [l0, some (qi z), l2, l3, l4, l5, l6, l7, l8, l9], qi z :: st, M) x := g_pl (show decode cX13_longest 115 = .ok (.iload_n 1, 1) by decide +kernel) rfl
set_option maxRecDepth 20000 in
theorem kX13_longest_116 {C : QC} {x : QP} {M : QM} {st : List CV} {L : QL} : Rr C mX13_longest (116, L, st, M) x = Rr C mX13_longest (117, L, qi 2 :: st, M) x := g_pl (show decode cX13_longest 116 = .ok (.iconst 2, 1) by decide +kernel) rfl
set_option maxRecDepth 20000 in
theorem kX13_longest_117 {C : QC} {x : QP} {M : QM} {L : QL} {rest : List CV} {a0 a1 : CV} {v : CV} {M1 : QM} {b : Nat} (hb : q_kd M b = (1, 13)) (hC : C iX13_has [qr b, a0, a1] M (some v) M1) (hw : (rest.map q_wd).sum ≤ 8) (k : Rr C mX13_longest (120, L, v :: rest, M1) x) : Rr C mX13_longest (117, L, a1 :: a0 :: qr b :: rest, M) x := g_cv (ow := 13) (e := (0, 207, 13, [1391, 1393, 32, 94])) (as := [a0, a1]) (show decode cX13_longest 117 = .ok (.invokevirtual 47, 3) by decide +kernel) rfl rfl rfl (Or.inl rfl) rfl hb hC hw k
set_option maxRecDepth 20000 in
theorem kX13_longest_120 {C : QC} {x : QP} {M : QM} {st : List CV} {L : QL} : Rr C mX13_longest (120, L, st, M) x = Rr C mX13_longest (126, L, st, M) x := g_pl (show decode cX13_longest 120 = .ok (.goto 6, 3) by decide +kernel) rfl
set_option maxRecDepth 20000 in
theorem kX13_longest_123 {C : QC} {x : QP} {M : QM} {st : List CV} {L : QL} : Rr C mX13_longest (123, L, st, M) x = Rr C mX13_longest (126, L, qi 10000 :: st, M) x := g_pl (show decode cX13_longest 123 = .ok (.sipush 10000, 3) by decide +kernel) rfl
set_option maxRecDepth 20000 in
theorem kX13_longest_126 {C : QC} {x : QP} {M : QM} {st : List CV} {L : QL} {l0 l1 l2 l3 l4 l5 l6 l7 l8 l9 : Option CV} {z : Int} : Rr C mX13_longest (126, [l0, l1, l2, l3, l4, l5, l6, l7, l8, l9], qi z :: st, M) x = Rr C mX13_longest (128, [l0, l1, l2, l3, l4, l5, l6, l7, q_cut l8, some (qi z)], st, M) x := g_pl (show decode cX13_longest 126 = .ok (.istore 9, 2) by decide +kernel) rfl
set_option maxRecDepth 20000 in
theorem kX13_longest_128 {C : QC} {x : QP} {M : QM} {st : List CV} {L : QL} {l0 l1 l2 l3 l4 l5 l6 l7 l8 l9 : Option CV} {z : Int} : Rr C mX13_longest (128, [l0, l1, l2, l3, l4, some (qi z), l6, l7, l8, l9], st, M) x = Rr C mX13_longest (130, [l0, l1, l2, l3, l4, some (qi z), l6, l7, l8, l9], qi z :: st, M) x := g_pl (show decode cX13_longest 128 = .ok (.iload 5, 2) by decide +kernel) rfl
set_option maxRecDepth 20000 in
theorem kX13_longest_130 {C : QC} {x : QP} {M : QM} {st : List CV} {L : QL} : Rr C mX13_longest (130, L, st, M) x = Rr C mX13_longest (131, L, qi (-1) :: st, M) x := g_pl (show decode cX13_longest 130 = .ok (.iconst (-1), 1) by decide +kernel) rfl
set_option maxRecDepth 20000 in
theorem kX13_longest_131 {C : QC} {x : QP} {M : QM} {st : List CV} {L : QL} {a b : Int} (ha1 : -2147483648 ≤ a) (ha2 : a < 2147483648) (hb1 : -2147483648 ≤ b) (hb2 : b < 2147483648) : Rr C mX13_longest (131, L, qi b :: qi a :: st, M) x = (if a = b then Rr C mX13_longest (168, L, st, M) x else Rr C mX13_longest (134, L, st, M) x) := (g_icmp (show decode cX13_longest 131 = .ok (.if_icmp .eq 37, 3) by decide +kernel) rfl ha1 ha2 hb1 hb2).trans (g_ite c_eq)
set_option maxRecDepth 20000 in
theorem kX13_longest_134 {C : QC} {x : QP} {M : QM} {st : List CV} {L : QL} {l0 l1 l2 l3 l4 l5 l6 l7 l8 l9 : Option CV} {z : Int} : Rr C mX13_longest (134, [l0, l1, l2, l3, l4, l5, l6, l7, l8, some (qi z)], st, M) x = Rr C mX13_longest (136, [l0, l1, l2, l3, l4, l5, l6, l7, l8, some (qi z)], qi z :: st, M) x := g_pl (show decode cX13_longest 134 = .ok (.iload 9, 2) by decide +kernel) rfl
set_option maxRecDepth 20000 in
theorem kX13_longest_136 {C : QC} {x : QP} {M : QM} {st : List CV} {L : QL} {l0 l1 l2 l3 l4 l5 l6 l7 l8 l9 : Option CV} {r : Option Nat} : Rr C mX13_longest (136, [some (.inr (.inr r)), l1, l2, l3, l4, l5, l6, l7, l8, l9], st, M) x = Rr C mX13_longest (137, [some (.inr (.inr r)), l1, l2, l3, l4, l5, l6, l7, l8, l9], .inr (.inr r) :: st, M) x := g_pl (show decode cX13_longest 136 = .ok (.aload_n 0, 1) by decide +kernel) rfl
set_option maxRecDepth 20000 in
theorem kX13_longest_137 {C : QC} {x : QP} {M : QM} {st : List CV} {L : QL} {a : Nat} (hk : q_kd M a = (1, 13)) : Rr C mX13_longest (137, L, qr a :: st, M) x = Rr C mX13_longest (140, L, q_fv M a 0 :: st, M) x := g_getf (ow := 13) (e := (13, 0, RX13, 1301, 0)) (show decode cX13_longest 137 = .ok (.getfield 10, 3) by decide +kernel) rfl hk
set_option maxRecDepth 20000 in
theorem kX13_longest_140 {C : QC} {x : QP} {M : QM} {st : List CV} {L : QL} {l0 l1 l2 l3 l4 l5 l6 l7 l8 l9 : Option CV} {z : Int} : Rr C mX13_longest (140, [l0, l1, l2, l3, l4, some (qi z), l6, l7, l8, l9], st, M) x = Rr C mX13_longest (142, [l0, l1, l2, l3, l4, some (qi z), l6, l7, l8, l9], qi z :: st, M) x := g_pl (show decode cX13_longest 140 = .ok (.iload 5, 2) by decide +kernel) rfl
set_option maxRecDepth 20000 in
theorem kX13_longest_142 {C : QC} {x : QP} {M : QM} {st : List CV} {L : QL} : Rr C mX13_longest (142, L, st, M) x = Rr C mX13_longest (143, L, qi 1 :: st, M) x := g_pl (show decode cX13_longest 142 = .ok (.iconst 1, 1) by decide +kernel) rfl
set_option maxRecDepth 20000 in
theorem kX13_longest_143 {C : QC} {x : QP} {M : QM} {st : List CV} {L : QL} {a b : Int} : Rr C mX13_longest (143, L, qi b :: qi a :: st, M) x = Rr C mX13_longest (144, L, qi (a + b) :: st, M) x := g_pl (show decode cX13_longest 143 = .ok (.iadd, 1) by decide +kernel) rfl
set_option maxRecDepth 20000 in
theorem kX13_longest_144 {C : QC} {x : QP} {M : QM} {st : List CV} {L : QL} {a : Nat} {j : Int} (hk : (q_kd M a).1 = 2) (h0 : 0 ≤ j) (h1 : j < ((q_kd M a).2 : Int)) : Rr C mX13_longest (144, L, qi j :: qr a :: st, M) x = Rr C mX13_longest (145, L, q_fv M a j.toNat :: st, M) x := g_iald (show decode cX13_longest 144 = .ok (.iaload, 1) by decide +kernel) hk h0 h1
set_option maxRecDepth 20000 in
theorem kX13_longest_145 {C : QC} {x : QP} {M : QM} {st : List CV} {L : QL} {a b : Int} : Rr C mX13_longest (145, L, qi b :: qi a :: st, M) x = Rr C mX13_longest (146, L, qi (a - b) :: st, M) x := g_pl (show decode cX13_longest 145 = .ok (.isub, 1) by decide +kernel) rfl
set_option maxRecDepth 20000 in
theorem kX13_longest_146 {C : QC} {x : QP} {M : QM} {st : List CV} {L : QL} {l0 l1 l2 l3 l4 l5 l6 l7 l8 l9 : Option CV} {z : Int} : Rr C mX13_longest (146, [l0, l1, l2, l3, some (qi z), l5, l6, l7, l8, l9], st, M) x = Rr C mX13_longest (148, [l0, l1, l2, l3, some (qi z), l5, l6, l7, l8, l9], qi z :: st, M) x := g_pl (show decode cX13_longest 146 = .ok (.iload 4, 2) by decide +kernel) rfl
set_option maxRecDepth 20000 in
theorem kX13_longest_148 {C : QC} {x : QP} {M : QM} {st : List CV} {L : QL} {a b : Int} (ha1 : -2147483648 ≤ a) (ha2 : a < 2147483648) (hb1 : -2147483648 ≤ b) (hb2 : b < 2147483648) : Rr C mX13_longest (148, L, qi b :: qi a :: st, M) x = (if b < a then Rr C mX13_longest (151, L, st, M) x else Rr C mX13_longest (168, L, st, M) x) := (g_icmp (show decode cX13_longest 148 = .ok (.if_icmp .le 20, 3) by decide +kernel) rfl ha1 ha2 hb1 hb2).trans (g_itn c_le)
set_option maxRecDepth 20000 in
theorem kX13_longest_151 {C : QC} {x : QP} {M : QM} {st : List CV} {L : QL} {l0 l1 l2 l3 l4 l5 l6 l7 l8 l9 : Option CV} {z : Int} : Rr C mX13_longest (151, [l0, l1, l2, l3, l4, some (qi z), l6, l7, l8, l9], st, M) x = Rr C mX13_longest (153, [l0, l1, l2, l3, l4, some (qi z), l6, l7, l8, l9], qi z :: st, M) x := g_pl (show decode cX13_longest 151 = .ok (.iload 5, 2) by decide +kernel) rfl
set_option maxRecDepth 20000 in
theorem kX13_longest_153 {C : QC} {x : QP} {M : QM} {st : List CV} {L : QL} {l0 l1 l2 l3 l4 l5 l6 l7 l8 l9 : Option CV} {z : Int} : Rr C mX13_longest (153, [l0, l1, l2, l3, l4, l5, l6, l7, l8, l9], qi z :: st, M) x = Rr C mX13_longest (154, [l0, l1, q_cut l2, some (qi z), l4, l5, l6, l7, l8, l9], st, M) x := g_pl (show decode cX13_longest 153 = .ok (.istore_n 3, 1) by decide +kernel) rfl
set_option maxRecDepth 20000 in
theorem kX13_longest_154 {C : QC} {x : QP} {M : QM} {st : List CV} {L : QL} {l0 l1 l2 l3 l4 l5 l6 l7 l8 l9 : Option CV} {z : Int} : Rr C mX13_longest (154, [l0, l1, l2, l3, l4, l5, l6, l7, l8, some (qi z)], st, M) x = Rr C mX13_longest (156, [l0, l1, l2, l3, l4, l5, l6, l7, l8, some (qi z)], qi z :: st, M) x := g_pl (show decode cX13_longest 154 = .ok (.iload 9, 2) by decide +kernel) rfl
set_option maxRecDepth 20000 in
theorem kX13_longest_156 {C : QC} {x : QP} {M : QM} {st : List CV} {L : QL} {l0 l1 l2 l3 l4 l5 l6 l7 l8 l9 : Option CV} {r : Option Nat} : Rr C mX13_longest (156, [some (.inr (.inr r)), l1, l2, l3, l4, l5, l6, l7, l8, l9], st, M) x = Rr C mX13_longest (157, [some (.inr (.inr r)), l1, l2, l3, l4, l5, l6, l7, l8, l9], .inr (.inr r) :: st, M) x := g_pl (show decode cX13_longest 156 = .ok (.aload_n 0, 1) by decide +kernel) rfl
set_option maxRecDepth 20000 in
theorem kX13_longest_157 {C : QC} {x : QP} {M : QM} {st : List CV} {L : QL} {a : Nat} (hk : q_kd M a = (1, 13)) : Rr C mX13_longest (157, L, qr a :: st, M) x = Rr C mX13_longest (160, L, q_fv M a 0 :: st, M) x := g_getf (ow := 13) (e := (13, 0, RX13, 1301, 0)) (show decode cX13_longest 157 = .ok (.getfield 10, 3) by decide +kernel) rfl hk
set_option maxRecDepth 20000 in
theorem kX13_longest_160 {C : QC} {x : QP} {M : QM} {st : List CV} {L : QL} {l0 l1 l2 l3 l4 l5 l6 l7 l8 l9 : Option CV} {z : Int} : Rr C mX13_longest (160, [l0, l1, l2, l3, l4, some (qi z), l6, l7, l8, l9], st, M) x = Rr C mX13_longest (162, [l0, l1, l2, l3, l4, some (qi z), l6, l7, l8, l9], qi z :: st, M) x := g_pl (show decode cX13_longest 160 = .ok (.iload 5, 2) by decide +kernel) rfl
set_option maxRecDepth 20000 in
theorem kX13_longest_162 {C : QC} {x : QP} {M : QM} {st : List CV} {L : QL} : Rr C mX13_longest (162, L, st, M) x = Rr C mX13_longest (163, L, qi 1 :: st, M) x := g_pl (show decode cX13_longest 162 = .ok (.iconst 1, 1) by decide +kernel) rfl
set_option maxRecDepth 20000 in
theorem kX13_longest_163 {C : QC} {x : QP} {M : QM} {st : List CV} {L : QL} {a b : Int} : Rr C mX13_longest (163, L, qi b :: qi a :: st, M) x = Rr C mX13_longest (164, L, qi (a + b) :: st, M) x := g_pl (show decode cX13_longest 163 = .ok (.iadd, 1) by decide +kernel) rfl
set_option maxRecDepth 20000 in
theorem kX13_longest_164 {C : QC} {x : QP} {M : QM} {st : List CV} {L : QL} {a : Nat} {j : Int} (hk : (q_kd M a).1 = 2) (h0 : 0 ≤ j) (h1 : j < ((q_kd M a).2 : Int)) : Rr C mX13_longest (164, L, qi j :: qr a :: st, M) x = Rr C mX13_longest (165, L, q_fv M a j.toNat :: st, M) x := g_iald (show decode cX13_longest 164 = .ok (.iaload, 1) by decide +kernel) hk h0 h1
set_option maxRecDepth 20000 in
theorem kX13_longest_165 {C : QC} {x : QP} {M : QM} {st : List CV} {L : QL} {a b : Int} : Rr C mX13_longest (165, L, qi b :: qi a :: st, M) x = Rr C mX13_longest (166, L, qi (a - b) :: st, M) x := g_pl (show decode cX13_longest 165 = .ok (.isub, 1) by decide +kernel) rfl
set_option maxRecDepth 20000 in
theorem kX13_longest_166 {C : QC} {x : QP} {M : QM} {st : List CV} {L : QL} {l0 l1 l2 l3 l4 l5 l6 l7 l8 l9 : Option CV} {z : Int} : Rr C mX13_longest (166, [l0, l1, l2, l3, l4, l5, l6, l7, l8, l9], qi z :: st, M) x = Rr C mX13_longest (168, [l0, l1, l2, q_cut l3, some (qi z), l5, l6, l7, l8, l9], st, M) x := g_pl (show decode cX13_longest 166 = .ok (.istore 4, 2) by decide +kernel) rfl
set_option maxRecDepth 20000 in
theorem kX13_longest_168 {C : QC} {x : QP} {M : QM} {st : List CV} {L : QL} {l0 l1 l2 l3 l4 l5 l6 l7 l8 l9 : Option CV} {z : Int} : Rr C mX13_longest (168, [l0, l1, l2, l3, l4, l5, l6, l7, some (qi z), l9], st, M) x = Rr C mX13_longest (170, [l0, l1, l2, l3, l4, l5, l6, l7, some (qi z), l9], qi z :: st, M) x := g_pl (show decode cX13_longest 168 = .ok (.iload 8, 2) by decide +kernel) rfl
set_option maxRecDepth 20000 in
theorem kX13_longest_170 {C : QC} {x : QP} {M : QM} {st : List CV} {L : QL} {a : Int} (ha1 : -2147483648 ≤ a) (ha2 : a < 2147483648) : Rr C mX13_longest (170, L, qi a :: st, M) x = (if a = 0 then Rr C mX13_longest (178, L, st, M) x else Rr C mX13_longest (173, L, st, M) x) := (g_if (show decode cX13_longest 170 = .ok (.ifCond .eq 8, 3) by decide +kernel) rfl ha1 ha2).trans (g_ite c_eq)
set_option maxRecDepth 20000 in
theorem kX13_longest_173 {C : QC} {x : QP} {M : QM} {st : List CV} {L : QL} {l0 l1 l2 l3 l4 l5 l6 l7 l8 l9 : Option CV} {z : Int} : Rr C mX13_longest (173, [l0, l1, l2, l3, l4, some (qi z), l6, l7, l8, l9], st, M) x = Rr C mX13_longest (175, [l0, l1, l2, l3, l4, some (qi z), l6, l7, l8, l9], qi z :: st, M) x := g_pl (show decode cX13_longest 173 = .ok (.iload 5, 2) by decide +kernel) rfl
set_option maxRecDepth 20000 in
theorem kX13_longest_175 {C : QC} {x : QP} {M : QM} {st : List CV} {L : QL} : Rr C mX13_longest (175, L, st, M) x = Rr C mX13_longest (180, L, st, M) x := g_pl (show decode cX13_longest 175 = .ok (.goto 5, 3) by decide +kernel) rfl
set_option maxRecDepth 20000 in
theorem kX13_longest_178 {C : QC} {x : QP} {M : QM} {st : List CV} {L : QL} {l0 l1 l2 l3 l4 l5 l6 l7 l8 l9 : Option CV} {z : Int} : Rr C mX13_longest (178, [l0, l1, l2, l3, l4, l5, l6, some (qi z), l8, l9], st, M) x = Rr C mX13_longest (180, [l0, l1, l2, l3, l4, l5, l6, some (qi z), l8, l9], qi z :: st, M) x := g_pl (show decode cX13_longest 178 = .ok (.iload 7, 2) by decide +kernel) rfl
set_option maxRecDepth 20000 in
theorem kX13_longest_180 {C : QC} {x : QP} {M : QM} {st : List CV} {L : QL} {l0 l1 l2 l3 l4 l5 l6 l7 l8 l9 : Option CV} {z : Int} : Rr C mX13_longest (180, [l0, l1, l2, l3, l4, l5, l6, l7, l8, l9], qi z :: st, M) x = Rr C mX13_longest (182, [l0, l1, l2, l3, q_cut l4, some (qi z), l6, l7, l8, l9], st, M) x := g_pl (show decode cX13_longest 180 = .ok (.istore 5, 2) by decide +kernel) rfl
set_option maxRecDepth 20000 in
theorem kX13_longest_182 {C : QC} {x : QP} {M : QM} {st : List CV} {L : QL} {l0 l1 l2 l3 l4 l5 l6 l7 l8 l9 : Option CV} {z : Int} : Rr C mX13_longest (182, [l0, l1, l2, l3, l4, l5, some (qi z), l7, l8, l9], st, M) x = Rr C mX13_longest (185, [l0, l1, l2, l3, l4, q_cut l5, some (qi (z + 1)), l7, l8, l9], st, M) x := g_pl (show decode cX13_longest 182 = .ok (.iinc 6 1, 3) by decide +kernel) rfl
set_option maxRecDepth 20000 in
theorem kX13_longest_185 {C : QC} {x : QP} {M : QM} {st : List CV} {L : QL} : Rr C mX13_longest (185, L, st, M) x = Rr C mX13_longest (30, L, st, M) x := g_pl (show decode cX13_longest 185 = .ok (.goto (-155), 3) by decide +kernel) rfl
set_option maxRecDepth 20000 in
theorem kX13_longest_188 {C : QC} {x : QP} {M : QM} {st : List CV} {L : QL} {l0 l1 l2 l3 l4 l5 l6 l7 l8 l9 : Option CV} {z : Int} : Rr C mX13_longest (188, [l0, l1, some (qi z), l3, l4, l5, l6, l7, l8, l9], st, M) x = Rr C mX13_longest (189, [l0, l1, some (qi z), l3, l4, l5, l6, l7, l8, l9], qi z :: st, M) x := g_pl (show decode cX13_longest 188 = .ok (.iload_n 2, 1) by decide +kernel) rfl
set_option maxRecDepth 20000 in
theorem kX13_longest_189 {C : QC} {x : QP} {M : QM} {st : List CV} {L : QL} {a : Int} (ha1 : -2147483648 ≤ a) (ha2 : a < 2147483648) : Rr C mX13_longest (189, L, qi a :: st, M) x = (if a = 0 then Rr C mX13_longest (192, L, st, M) x else Rr C mX13_longest (203, L, st, M) x) := (g_if (show decode cX13_longest 189 = .ok (.ifCond .ne 14, 3) by decide +kernel) rfl ha1 ha2).trans (g_itn c_ne)
set_option maxRecDepth 20000 in
theorem kX13_longest_192 {C : QC} {x : QP} {M : QM} {st : List CV} {L : QL} {l0 l1 l2 l3 l4 l5 l6 l7 l8 l9 : Option CV} {r : Option Nat} : Rr C mX13_longest (192, [some (.inr (.inr r)), l1, l2, l3, l4, l5, l6, l7, l8, l9], st, M) x = Rr C mX13_longest (193, [some (.inr (.inr r)), l1, l2, l3, l4, l5, l6, l7, l8, l9], .inr (.inr r) :: st, M) x := g_pl (show decode cX13_longest 192 = .ok (.aload_n 0, 1) by decide +kernel) rfl
set_option maxRecDepth 20000 in
theorem kX13_longest_193 {C : QC} {x : QP} {M : QM} {st : List CV} {L : QL} {a : Nat} (hk : q_kd M a = (1, 13)) : Rr C mX13_longest (193, L, qr a :: st, M) x = Rr C mX13_longest (196, L, q_fv M a 0 :: st, M) x := g_getf (ow := 13) (e := (13, 0, RX13, 1301, 0)) (show decode cX13_longest 193 = .ok (.getfield 10, 3) by decide +kernel) rfl hk
set_option maxRecDepth 20000 in
theorem kX13_longest_196 {C : QC} {x : QP} {M : QM} {st : List CV} {L : QL} {l0 l1 l2 l3 l4 l5 l6 l7 l8 l9 : Option CV} {z : Int} : Rr C mX13_longest (196, [l0, l1, l2, some (qi z), l4, l5, l6, l7, l8, l9], st, M) x = Rr C mX13_longest (197, [l0, l1, l2, some (qi z), l4, l5, l6, l7, l8, l9], qi z :: st, M) x := g_pl (show decode cX13_longest 196 = .ok (.iload_n 3, 1) by decide +kernel) rfl
set_option maxRecDepth 20000 in
theorem kX13_longest_197 {C : QC} {x : QP} {M : QM} {st : List CV} {L : QL} : Rr C mX13_longest (197, L, st, M) x = Rr C mX13_longest (198, L, qi 1 :: st, M) x := g_pl (show decode cX13_longest 197 = .ok (.iconst 1, 1) by decide +kernel) rfl
set_option maxRecDepth 20000 in
theorem kX13_longest_198 {C : QC} {x : QP} {M : QM} {st : List CV} {L : QL} {a b : Int} : Rr C mX13_longest (198, L, qi b :: qi a :: st, M) x = Rr C mX13_longest (199, L, qi (a + b) :: st, M) x := g_pl (show decode cX13_longest 198 = .ok (.iadd, 1) by decide +kernel) rfl
set_option maxRecDepth 20000 in
theorem kX13_longest_199 {C : QC} {x : QP} {M : QM} {st : List CV} {L : QL} {a : Nat} {j : Int} (hk : (q_kd M a).1 = 2) (h0 : 0 ≤ j) (h1 : j < ((q_kd M a).2 : Int)) : Rr C mX13_longest (199, L, qi j :: qr a :: st, M) x = Rr C mX13_longest (200, L, q_fv M a j.toNat :: st, M) x := g_iald (show decode cX13_longest 199 = .ok (.iaload, 1) by decide +kernel) hk h0 h1
set_option maxRecDepth 20000 in
theorem kX13_longest_200 {C : QC} {x : QP} {M : QM} {st : List CV} {L : QL} : Rr C mX13_longest (200, L, st, M) x = Rr C mX13_longest (221, L, st, M) x := g_pl (show decode cX13_longest 200 = .ok (.goto 21, 3) by decide +kernel) rfl
set_option maxRecDepth 20000 in
theorem kX13_longest_203 {C : QC} {x : QP} {M : QM} {st : List CV} {L : QL} {l0 l1 l2 l3 l4 l5 l6 l7 l8 l9 : Option CV} {z : Int} : Rr C mX13_longest (203, [l0, l1, some (qi z), l3, l4, l5, l6, l7, l8, l9], st, M) x = Rr C mX13_longest (204, [l0, l1, some (qi z), l3, l4, l5, l6, l7, l8, l9], qi z :: st, M) x := g_pl (show decode cX13_longest 203 = .ok (.iload_n 2, 1) by decide +kernel) rfl
set_option maxRecDepth 20000 in
theorem kX13_longest_204 {C : QC} {x : QP} {M : QM} {st : List CV} {L : QL} : Rr C mX13_longest (204, L, st, M) x = Rr C mX13_longest (205, L, qi 1 :: st, M) x := g_pl (show decode cX13_longest 204 = .ok (.iconst 1, 1) by decide +kernel) rfl
set_option maxRecDepth 20000 in
theorem kX13_longest_205 {C : QC} {x : QP} {M : QM} {st : List CV} {L : QL} {a b : Int} (ha1 : -2147483648 ≤ a) (ha2 : a < 2147483648) (hb1 : -2147483648 ≤ b) (hb2 : b < 2147483648) : Rr C mX13_longest (205, L, qi b :: qi a :: st, M) x = (if a = b then Rr C mX13_longest (208, L, st, M) x else Rr C mX13_longest (213, L, st, M) x) := (g_icmp (show decode cX13_longest 205 = .ok (.if_icmp .ne 8, 3) by decide +kernel) rfl ha1 ha2 hb1 hb2).trans (g_itn c_ne)
set_option maxRecDepth 20000 in
theorem kX13_longest_208 {C : QC} {x : QP} {M : QM} {st : List CV} {L : QL} {l0 l1 l2 l3 l4 l5 l6 l7 l8 l9 : Option CV} {z : Int} : Rr C mX13_longest (208, [l0, l1, l2, l3, some (qi z), l5, l6, l7, l8, l9], st, M) x = Rr C mX13_longest (210, [l0, l1, l2, l3, some (qi z), l5, l6, l7, l8, l9], qi z :: st, M) x := g_pl (show decode cX13_longest 208 = .ok (.iload 4, 2) by decide +kernel) rfl
set_option maxRecDepth 20000 in
theorem kX13_longest_210 {C : QC} {x : QP} {M : QM} {st : List CV} {L : QL} : Rr C mX13_longest (210, L, st, M) x = Rr C mX13_longest (221, L, st, M) x := g_pl (show decode cX13_longest 210 = .ok (.goto 11, 3) by decide +kernel) rfl
set_option maxRecDepth 20000 in
theorem kX13_longest_213 {C : QC} {x : QP} {M : QM} {st : List CV} {L : QL} {l0 l1 l2 l3 l4 l5 l6 l7 l8 l9 : Option CV} {r : Option Nat} : Rr C mX13_longest (213, [some (.inr (.inr r)), l1, l2, l3, l4, l5, l6, l7, l8, l9], st, M) x = Rr C mX13_longest (214, [some (.inr (.inr r)), l1, l2, l3, l4, l5, l6, l7, l8, l9], .inr (.inr r) :: st, M) x := g_pl (show decode cX13_longest 213 = .ok (.aload_n 0, 1) by decide +kernel) rfl
set_option maxRecDepth 20000 in
theorem kX13_longest_214 {C : QC} {x : QP} {M : QM} {st : List CV} {L : QL} {a : Nat} (hk : q_kd M a = (1, 13)) : Rr C mX13_longest (214, L, qr a :: st, M) x = Rr C mX13_longest (217, L, q_fv M a 0 :: st, M) x := g_getf (ow := 13) (e := (13, 0, RX13, 1301, 0)) (show decode cX13_longest 214 = .ok (.getfield 10, 3) by decide +kernel) rfl hk
set_option maxRecDepth 20000 in
theorem kX13_longest_217 {C : QC} {x : QP} {M : QM} {st : List CV} {L : QL} {l0 l1 l2 l3 l4 l5 l6 l7 l8 l9 : Option CV} {z : Int} : Rr C mX13_longest (217, [l0, l1, l2, some (qi z), l4, l5, l6, l7, l8, l9], st, M) x = Rr C mX13_longest (218, [l0, l1, l2, some (qi z), l4, l5, l6, l7, l8, l9], qi z :: st, M) x := g_pl (show decode cX13_longest 217 = .ok (.iload_n 3, 1) by decide +kernel) rfl
set_option maxRecDepth 20000 in
theorem kX13_longest_218 {C : QC} {x : QP} {M : QM} {st : List CV} {L : QL} : Rr C mX13_longest (218, L, st, M) x = Rr C mX13_longest (219, L, qi 2 :: st, M) x := g_pl (show decode cX13_longest 218 = .ok (.iconst 2, 1) by decide +kernel) rfl
set_option maxRecDepth 20000 in
theorem kX13_longest_219 {C : QC} {x : QP} {M : QM} {st : List CV} {L : QL} {a b : Int} : Rr C mX13_longest (219, L, qi b :: qi a :: st, M) x = Rr C mX13_longest (220, L, qi (a + b) :: st, M) x := g_pl (show decode cX13_longest 219 = .ok (.iadd, 1) by decide +kernel) rfl
set_option maxRecDepth 20000 in
theorem kX13_longest_220 {C : QC} {x : QP} {M : QM} {st : List CV} {L : QL} {a : Nat} {j : Int} (hk : (q_kd M a).1 = 2) (h0 : 0 ≤ j) (h1 : j < ((q_kd M a).2 : Int)) : Rr C mX13_longest (220, L, qi j :: qr a :: st, M) x = Rr C mX13_longest (221, L, q_fv M a j.toNat :: st, M) x := g_iald (show decode cX13_longest 220 = .ok (.iaload, 1) by decide +kernel) hk h0 h1
set_option maxRecDepth 20000 in
theorem kX13_longest_221 {C : QC} {x : QP} {M : QM} {st : List CV} {L : QL} {z : Int} : Rr C mX13_longest (221, L, [qi z], M) x = x (some (qi z)) M := g_iret (show decode cX13_longest 221 = .ok (.ireturn, 1) by decide +kernel) rfl
set_option maxRecDepth 20000 in
theorem eX13_longest {d : Nat} {M : QM} {x : QP} {a : Nat} {v0 : Int} {v1 : Int} : q_T (d + 1) iX13_longest [qr a, qi v0, qi v1] M x = Rr (q_C d) mX13_longest (0, [some (qr a), some (qi v0), some (qi v1), none, none, none, none, none, none, none], [], M) x := g_entryT (e := _) rfl (Nat.le_of_ble_eq_true rfl) rfl rfl
def mX13_isFirstName : QI := (13, cX13_isFirstName, false, some .boolean)
set_option maxRecDepth 20000 in
theorem kX13_isFirstName_0 {C : QC} {x : QP} {M : QM} {st : List CV} {L : QL} : Rr C mX13_isFirstName (0, L, st, M) x = Rr C mX13_isFirstName (1, L, qi 0 :: st, M) x := g_pl (show decode cX13_isFirstName 0 = .ok (.iconst 0, 1) by decide +kernel) rfl
set_option maxRecDepth 20000 in
theorem kX13_isFirstName_1 {C : QC} {x : QP} {M : QM} {st : List CV} {L : QL} {l0 l1 l2 l3 : Option CV} {z : Int} : Rr C mX13_isFirstName (1, [l0, l1, l2, l3], qi z :: st, M) x = Rr C mX13_isFirstName (2, [l0, l1, q_cut l2, some (qi z)], st, M) x := g_pl (show decode cX13_isFirstName 1 = .ok (.istore_n 3, 1) by decide +kernel) rfl
set_option maxRecDepth 20000 in
theorem kX13_isFirstName_2 {C : QC} {x : QP} {M : QM} {st : List CV} {L : QL} {l0 l1 l2 l3 : Option CV} {z : Int} : Rr C mX13_isFirstName (2, [l0, l1, l2, some (qi z)], st, M) x = Rr C mX13_isFirstName (3, [l0, l1, l2, some (qi z)], qi z :: st, M) x := g_pl (show decode cX13_isFirstName 2 = .ok (.iload_n 3, 1) by decide +kernel) rfl
set_option maxRecDepth 20000 in
theorem kX13_isFirstName_3 {C : QC} {x : QP} {M : QM} {st : List CV} {L : QL} {l0 l1 l2 l3 : Option CV} {z : Int} : Rr C mX13_isFirstName (3, [l0, some (qi z), l2, l3], st, M) x = Rr C mX13_isFirstName (4, [l0, some (qi z), l2, l3], qi z :: st, M) x := g_pl (show decode cX13_isFirstName 3 = .ok (.iload_n 1, 1) by decide +kernel) rfl
set_option maxRecDepth 20000 in
theorem kX13_isFirstName_4 {C : QC} {x : QP} {M : QM} {st : List CV} {L : QL} {a b : Int} (ha1 : -2147483648 ≤ a) (ha2 : a < 2147483648) (hb1 : -2147483648 ≤ b) (hb2 : b < 2147483648) : Rr C mX13_isFirstName (4, L, qi b :: qi a :: st, M) x = (if a < b then Rr C mX13_isFirstName (7, L, st, M) x else Rr C mX13_isFirstName (43, L, st, M) x) := (g_icmp (show decode cX13_isFirstName 4 = .ok (.if_icmp .ge 39, 3) by decide +kernel) rfl ha1 ha2 hb1 hb2).trans (g_itn c_ge)
set_option maxRecDepth 20000 in
theorem kX13_isFirstName_7 {C : QC} {x : QP} {M : QM} {st : List CV} {L : QL} {l0 l1 l2 l3 : Option CV} {r : Option Nat} : Rr C mX13_isFirstName (7, [some (.inr (.inr r)), l1, l2, l3], st, M) x = Rr C mX13_isFirstName (8, [some (.inr (.inr r)), l1, l2, l3], .inr (.inr r) :: st, M) x := g_pl (show decode cX13_isFirstName 7 = .ok (.aload_n 0, 1) by decide +kernel) rfl
set_option maxRecDepth 20000 in
theorem kX13_isFirstName_8 {C : QC} {x : QP} {M : QM} {st : List CV} {L : QL} {l0 l1 l2 l3 : Option CV} {z : Int} : Rr C mX13_isFirstName (8, [l0, l1, l2, some (qi z)], st, M) x = Rr C mX13_isFirstName (9, [l0, l1, l2, some (qi z)], qi z :: st, M) x := g_pl (show decode cX13_isFirstName 8 = .ok (.iload_n 3, 1) by decide +kernel) rfl
set_option maxRecDepth 20000 in
theorem kX13_isFirstName_9 {C : QC} {x : QP} {M : QM} {st : List CV} {L : QL} {l0 l1 l2 l3 : Option CV} {z : Int} : Rr C mX13_isFirstName (9, [l0, l1, some (qi z), l3], st, M) x = Rr C mX13_isFirstName (10, [l0, l1, some (qi z), l3], qi z :: st, M) x := g_pl (show decode cX13_isFirstName 9 = .ok (.iload_n 2, 1) by decide +kernel) rfl
set_option maxRecDepth 20000 in
theorem kX13_isFirstName_10 {C : QC} {x : QP} {M : QM} {L : QL} {rest : List CV} {a0 a1 : CV} {v : CV} {M1 : QM} {b : Nat} (hb : q_kd M b = (1, 13)) (hC : C iX13_exists [qr b, a0, a1] M (some v) M1) (hw : (rest.map q_wd).sum ≤ 8) (k : Rr C mX13_isFirstName (13, L, v :: rest, M1) x) : Rr C mX13_isFirstName (10, L, a1 :: a0 :: qr b :: rest, M) x := g_cv (ow := 13) (e := (0, 235, 13, [1503, 1505, 56, 94])) (as := [a0, a1]) (show decode cX13_isFirstName 10 = .ok (.invokevirtual 62, 3) by decide +kernel) rfl rfl rfl (Or.inl rfl) rfl hb hC hw k
set_option maxRecDepth 20000 in
theorem kX13_isFirstName_13 {C : QC} {x : QP} {M : QM} {st : List CV} {L : QL} {a : Int} (ha1 : -2147483648 ≤ a) (ha2 : a < 2147483648) : Rr C mX13_isFirstName (13, L, qi a :: st, M) x = (if a = 0 then Rr C mX13_isFirstName (37, L, st, M) x else Rr C mX13_isFirstName (16, L, st, M) x) := (g_if (show decode cX13_isFirstName 13 = .ok (.ifCond .eq 24, 3) by decide +kernel) rfl ha1 ha2).trans (g_ite c_eq)
set_option maxRecDepth 20000 in
theorem kX13_isFirstName_16 {C : QC} {x : QP} {M : QM} {st : List CV} {L : QL} {l0 l1 l2 l3 : Option CV} {r : Option Nat} : Rr C mX13_isFirstName (16, [some (.inr (.inr r)), l1, l2, l3], st, M) x = Rr C mX13_isFirstName (17, [some (.inr (.inr r)), l1, l2, l3], .inr (.inr r) :: st, M) x := g_pl (show decode cX13_isFirstName 16 = .ok (.aload_n 0, 1) by decide +kernel) rfl
set_option maxRecDepth 20000 in
theorem kX13_isFirstName_17 {C : QC} {x : QP} {M : QM} {st : List CV} {L : QL} {l0 l1 l2 l3 : Option CV} {r : Option Nat} : Rr C mX13_isFirstName (17, [some (.inr (.inr r)), l1, l2, l3], st, M) x = Rr C mX13_isFirstName (18, [some (.inr (.inr r)), l1, l2, l3], .inr (.inr r) :: st, M) x := g_pl (show decode cX13_isFirstName 17 = .ok (.aload_n 0, 1) by decide +kernel) rfl
set_option maxRecDepth 20000 in
theorem kX13_isFirstName_18 {C : QC} {x : QP} {M : QM} {st : List CV} {L : QL} {l0 l1 l2 l3 : Option CV} {z : Int} : Rr C mX13_isFirstName (18, [l0, l1, l2, some (qi z)], st, M) x = Rr C mX13_isFirstName (19, [l0, l1, l2, some (qi z)], qi z :: st, M) x := g_pl (show decode cX13_isFirstName 18 = .ok (.iload_n 3, 1) by decide +kernel) rfl
set_option maxRecDepth 20000 in
theorem kX13_isFirstName_19 {C : QC} {x : QP} {M : QM} {st : List CV} {L : QL} {l0 l1 l2 l3 : Option CV} {z : Int} : Rr C mX13_isFirstName (19, [l0, l1, some (qi z), l3], st, M) x = Rr C mX13_isFirstName (20, [l0, l1, some (qi z), l3], qi z :: st, M) x := g_pl (show decode cX13_isFirstName 19 = .ok (.iload_n 2, 1) by decide +kernel) rfl
set_option maxRecDepth 20000 in
theorem kX13_isFirstName_20 {C : QC} {x : QP} {M : QM} {L : QL} {rest : List CV} {a0 a1 : CV} {v : CV} {M1 : QM} {b : Nat} (hb : q_kd M b = (1, 13)) (hC : C iX13_nameOn [qr b, a0, a1] M (some v) M1) (hw : (rest.map q_wd).sum ≤ 8) (k : Rr C mX13_isFirstName (23, L, v :: rest, M1) x) : Rr C mX13_isFirstName (20, L, a1 :: a0 :: qr b :: rest, M) x := g_cv (ow := 13) (e := (0, 223, 13, [1455, 1457, 47, 94])) (as := [a0, a1]) (show decode cX13_isFirstName 20 = .ok (.invokevirtual 59, 3) by decide +kernel) rfl rfl rfl (Or.inl rfl) rfl hb hC hw k
set_option maxRecDepth 20000 in
theorem kX13_isFirstName_23 {C : QC} {x : QP} {M : QM} {st : List CV} {L : QL} {l0 l1 l2 l3 : Option CV} {r : Option Nat} : Rr C mX13_isFirstName (23, [some (.inr (.inr r)), l1, l2, l3], st, M) x = Rr C mX13_isFirstName (24, [some (.inr (.inr r)), l1, l2, l3], .inr (.inr r) :: st, M) x := g_pl (show decode cX13_isFirstName 23 = .ok (.aload_n 0, 1) by decide +kernel) rfl
set_option maxRecDepth 20000 in
theorem kX13_isFirstName_24 {C : QC} {x : QP} {M : QM} {st : List CV} {L : QL} {l0 l1 l2 l3 : Option CV} {z : Int} : Rr C mX13_isFirstName (24, [l0, some (qi z), l2, l3], st, M) x = Rr C mX13_isFirstName (25, [l0, some (qi z), l2, l3], qi z :: st, M) x := g_pl (show decode cX13_isFirstName 24 = .ok (.iload_n 1, 1) by decide +kernel) rfl
set_option maxRecDepth 20000 in
theorem kX13_isFirstName_25 {C : QC} {x : QP} {M : QM} {st : List CV} {L : QL} {l0 l1 l2 l3 : Option CV} {z : Int} : Rr C mX13_isFirstName (25, [l0, l1, some (qi z), l3], st, M) x = Rr C mX13_isFirstName (26, [l0, l1, some (qi z), l3], qi z :: st, M) x := g_pl (show decode cX13_isFirstName 25 = .ok (.iload_n 2, 1) by decide +kernel) rfl
set_option maxRecDepth 20000 in
theorem kX13_isFirstName_26 {C : QC} {x : QP} {M : QM} {L : QL} {rest : List CV} {a0 a1 : CV} {v : CV} {M1 : QM} {b : Nat} (hb : q_kd M b = (1, 13)) (hC : C iX13_nameOn [qr b, a0, a1] M (some v) M1) (hw : (rest.map q_wd).sum ≤ 8) (k : Rr C mX13_isFirstName (29, L, v :: rest, M1) x) : Rr C mX13_isFirstName (26, L, a1 :: a0 :: qr b :: rest, M) x := g_cv (ow := 13) (e := (0, 223, 13, [1455, 1457, 47, 94])) (as := [a0, a1]) (show decode cX13_isFirstName 26 = .ok (.invokevirtual 59, 3) by decide +kernel) rfl rfl rfl (Or.inl rfl) rfl hb hC hw k
set_option maxRecDepth 20000 in
theorem kX13_isFirstName_29 {C : QC} {x : QP} {M : QM} {L : QL} {rest : List CV} {a0 a1 : CV} {v : CV} {M1 : QM} {b : Nat} (hb : q_kd M b = (1, 13)) (hC : C iX13_areAlike [qr b, a0, a1] M (some v) M1) (hw : (rest.map q_wd).sum ≤ 8) (k : Rr C mX13_isFirstName (32, L, v :: rest, M1) x) : Rr C mX13_isFirstName (29, L, a1 :: a0 :: qr b :: rest, M) x := g_cv (ow := 13) (e := (0, 270, 13, [1642, 1644, 74, 94])) (as := [a0, a1]) (show decode cX13_isFirstName 29 = .ok (.invokevirtual 226, 3) by decide +kernel) rfl rfl rfl (Or.inl rfl) rfl hb hC hw k
set_option maxRecDepth 20000 in
theorem kX13_isFirstName_32 {C : QC} {x : QP} {M : QM} {st : List CV} {L : QL} {a : Int} (ha1 : -2147483648 ≤ a) (ha2 : a < 2147483648) : Rr C mX13_isFirstName (32, L, qi a :: st, M) x = (if a = 0 then Rr C mX13_isFirstName (37, L, st, M) x else Rr C mX13_isFirstName (35, L, st, M) x) := (g_if (show decode cX13_isFirstName 32 = .ok (.ifCond .eq 5, 3) by decide +kernel) rfl ha1 ha2).trans (g_ite c_eq)
set_option maxRecDepth 20000 in
theorem kX13_isFirstName_35 {C : QC} {x : QP} {M : QM} {st : List CV} {L : QL} : Rr C mX13_isFirstName (35, L, st, M) x = Rr C mX13_isFirstName (36, L, qi 0 :: st, M) x := g_pl (show decode cX13_isFirstName 35 = .ok (.iconst 0, 1) by decide +kernel) rfl
set_option maxRecDepth 20000 in
theorem kX13_isFirstName_36 {C : QC} {x : QP} {M : QM} {st : List CV} {L : QL} {z : Int} (hz : z = 0 ∨ z = 1) : Rr C mX13_isFirstName (36, L, [qi z], M) x = x (some (qi z)) M := g_iret (show decode cX13_isFirstName 36 = .ok (.ireturn, 1) by decide +kernel) (by rcases hz with rfl | rfl <;> rfl)
set_option maxRecDepth 20000 in
theorem kX13_isFirstName_37 {C : QC} {x : QP} {M : QM} {st : List CV} {L : QL} {l0 l1 l2 l3 : Option CV} {z : Int} : Rr C mX13_isFirstName (37, [l0, l1, l2, some (qi z)], st, M) x = Rr C mX13_isFirstName (40, [l0, l1, q_cut l2, some (qi (z + 1))], st, M) x := g_pl (show decode cX13_isFirstName 37 = .ok (.iinc 3 1, 3) by decide +kernel) rfl
set_option maxRecDepth 20000 in
theorem kX13_isFirstName_40 {C : QC} {x : QP} {M : QM} {st : List CV} {L : QL} : Rr C mX13_isFirstName (40, L, st, M) x = Rr C mX13_isFirstName (2, L, st, M) x := g_pl (show decode cX13_isFirstName 40 = .ok (.goto (-38), 3) by decide +kernel) rfl
set_option maxRecDepth 20000 in
theorem kX13_isFirstName_43 {C : QC} {x : QP} {M : QM} {st : List CV} {L : QL} : Rr C mX13_isFirstName (43, L, st, M) x = Rr C mX13_isFirstName (44, L, qi 1 :: st, M) x := g_pl (show decode cX13_isFirstName 43 = .ok (.iconst 1, 1) by decide +kernel) rfl
set_option maxRecDepth 20000 in
theorem kX13_isFirstName_44 {C : QC} {x : QP} {M : QM} {st : List CV} {L : QL} {z : Int} (hz : z = 0 ∨ z = 1) : Rr C mX13_isFirstName (44, L, [qi z], M) x = x (some (qi z)) M := g_iret (show decode cX13_isFirstName 44 = .ok (.ireturn, 1) by decide +kernel) (by rcases hz with rfl | rfl <;> rfl)
set_option maxRecDepth 20000 in
theorem eX13_isFirstName {d : Nat} {M : QM} {x : QP} {a : Nat} {v0 : Int} {v1 : Int} : q_T (d + 1) iX13_isFirstName [qr a, qi v0, qi v1] M x = Rr (q_C d) mX13_isFirstName (0, [some (qr a), some (qi v0), some (qi v1), none], [], M) x := g_entryT (e := _) rfl (Nat.le_of_ble_eq_true rfl) rfl rfl
def mX13_account : QI := (13, cX13_account, false, some .int)
set_option maxRecDepth 20000 in
theorem kX13_account_0 {C : QC} {x : QP} {M : QM} {st : List CV} {L : QL} {l0 l1 l2 l3 l4 l5 : Option CV} {z : Int} : Rr C mX13_account (0, [l0, l1, some (qi z), l3, l4, l5], st, M) x = Rr C mX13_account (1, [l0, l1, some (qi z), l3, l4, l5], qi z :: st, M) x := g_pl (show decode cX13_account 0 = .ok (.iload_n 2, 1) by decide +kernel) rfl
set_option maxRecDepth 20000 in
theorem kX13_account_1 {C : QC} {x : QP} {M : QM} {st : List CV} {L : QL} : Rr C mX13_account (1, L, st, M) x = Rr C mX13_account (2, L, qi 0 :: st, M) x := g_pl (show decode cX13_account 1 = .ok (.iconst 0, 1) by decide +kernel) rfl
set_option maxRecDepth 20000 in
theorem kX13_account_2 {C : QC} {x : QP} {M : QM} {st : List CV} {L : QL} : Rr C mX13_account (2, L, st, M) x = Rr C mX13_account (4, L, qi 8 :: st, M) x := g_pl (show decode cX13_account 2 = .ok (.bipush 8, 2) by decide +kernel) rfl
set_option maxRecDepth 20000 in
theorem kX13_account_4 {C : QC} {x : QP} {M : QM} {L : QL} {rest : List CV} {a0 a1 a2 : CV} {v : CV} {M1 : QM} (hC : C iX13_in [a0, a1, a2] M (some v) M1) (hw : (rest.map q_wd).sum ≤ 8) (k : Rr C mX13_account (7, L, v :: rest, M1) x) : Rr C mX13_account (4, L, a2 :: a1 :: a0 :: rest, M) x := g_cs (ow := 13) (e := (1, 198, 0, [1357, 1358, 94])) (as := [a0, a1, a2]) (show decode cX13_account 4 = .ok (.invokestatic 43, 3) by decide +kernel) rfl rfl rfl rfl (Or.inl rfl) rfl hC hw k
set_option maxRecDepth 20000 in
theorem kX13_account_7 {C : QC} {x : QP} {M : QM} {st : List CV} {L : QL} {a : Int} (ha1 : -2147483648 ≤ a) (ha2 : a < 2147483648) : Rr C mX13_account (7, L, qi a :: st, M) x = (if a = 0 then Rr C mX13_account (10, L, st, M) x else Rr C mX13_account (12, L, st, M) x) := (g_if (show decode cX13_account 7 = .ok (.ifCond .ne 5, 3) by decide +kernel) rfl ha1 ha2).trans (g_itn c_ne)
set_option maxRecDepth 20000 in
theorem kX13_account_10 {C : QC} {x : QP} {M : QM} {st : List CV} {L : QL} : Rr C mX13_account (10, L, st, M) x = Rr C mX13_account (11, L, qi (-1) :: st, M) x := g_pl (show decode cX13_account 10 = .ok (.iconst (-1), 1) by decide +kernel) rfl
set_option maxRecDepth 20000 in
theorem kX13_account_11 {C : QC} {x : QP} {M : QM} {st : List CV} {L : QL} {z : Int} : Rr C mX13_account (11, L, [qi z], M) x = x (some (qi z)) M := g_iret (show decode cX13_account 11 = .ok (.ireturn, 1) by decide +kernel) rfl
set_option maxRecDepth 20000 in
theorem kX13_account_12 {C : QC} {x : QP} {M : QM} {st : List CV} {L : QL} {l0 l1 l2 l3 l4 l5 : Option CV} {z : Int} : Rr C mX13_account (12, [l0, some (qi z), l2, l3, l4, l5], st, M) x = Rr C mX13_account (13, [l0, some (qi z), l2, l3, l4, l5], qi z :: st, M) x := g_pl (show decode cX13_account 12 = .ok (.iload_n 1, 1) by decide +kernel) rfl
set_option maxRecDepth 20000 in
theorem kX13_account_13 {C : QC} {x : QP} {M : QM} {L : QL} {rest : List CV} {a0 : CV} {v : CV} {M1 : QM} (hC : C iX13_isDay [a0] M (some v) M1) (hw : (rest.map q_wd).sum ≤ 8) (k : Rr C mX13_account (16, L, v :: rest, M1) x) : Rr C mX13_account (13, L, a0 :: rest, M) x := g_cs (ow := 13) (e := (1, 206, 0, [1388, 1389, 94])) (as := [a0]) (show decode cX13_account 13 = .ok (.invokestatic 97, 3) by decide +kernel) rfl rfl rfl rfl (Or.inl rfl) rfl hC hw k
set_option maxRecDepth 20000 in
theorem kX13_account_16 {C : QC} {x : QP} {M : QM} {st : List CV} {L : QL} {a : Int} (ha1 : -2147483648 ≤ a) (ha2 : a < 2147483648) : Rr C mX13_account (16, L, qi a :: st, M) x = (if a = 0 then Rr C mX13_account (19, L, st, M) x else Rr C mX13_account (22, L, st, M) x) := (g_if (show decode cX13_account 16 = .ok (.ifCond .ne 6, 3) by decide +kernel) rfl ha1 ha2).trans (g_itn c_ne)
set_option maxRecDepth 20000 in
theorem kX13_account_19 {C : QC} {x : QP} {M : QM} {st : List CV} {L : QL} : Rr C mX13_account (19, L, st, M) x = Rr C mX13_account (21, L, qi (-2) :: st, M) x := g_pl (show decode cX13_account 19 = .ok (.bipush (-2), 2) by decide +kernel) rfl
set_option maxRecDepth 20000 in
theorem kX13_account_21 {C : QC} {x : QP} {M : QM} {st : List CV} {L : QL} {z : Int} : Rr C mX13_account (21, L, [qi z], M) x = x (some (qi z)) M := g_iret (show decode cX13_account 21 = .ok (.ireturn, 1) by decide +kernel) rfl
set_option maxRecDepth 20000 in
theorem kX13_account_22 {C : QC} {x : QP} {M : QM} {st : List CV} {L : QL} : Rr C mX13_account (22, L, st, M) x = Rr C mX13_account (23, L, qi 0 :: st, M) x := g_pl (show decode cX13_account 22 = .ok (.iconst 0, 1) by decide +kernel) rfl
set_option maxRecDepth 20000 in
theorem kX13_account_23 {C : QC} {x : QP} {M : QM} {st : List CV} {L : QL} {l0 l1 l2 l3 l4 l5 : Option CV} {z : Int} : Rr C mX13_account (23, [l0, l1, l2, l3, l4, l5], qi z :: st, M) x = Rr C mX13_account (24, [l0, l1, q_cut l2, some (qi z), l4, l5], st, M) x := g_pl (show decode cX13_account 23 = .ok (.istore_n 3, 1) by decide +kernel) rfl
set_option maxRecDepth 20000 in
theorem kX13_account_24 {C : QC} {x : QP} {M : QM} {st : List CV} {L : QL} : Rr C mX13_account (24, L, st, M) x = Rr C mX13_account (25, L, qi 0 :: st, M) x := g_pl (show decode cX13_account 24 = .ok (.iconst 0, 1) by decide +kernel) rfl
set_option maxRecDepth 20000 in
theorem kX13_account_25 {C : QC} {x : QP} {M : QM} {st : List CV} {L : QL} {l0 l1 l2 l3 l4 l5 : Option CV} {z : Int} : Rr C mX13_account (25, [l0, l1, l2, l3, l4, l5], qi z :: st, M) x = Rr C mX13_account (27, [l0, l1, l2, q_cut l3, some (qi z), l5], st, M) x := g_pl (show decode cX13_account 25 = .ok (.istore 4, 2) by decide +kernel) rfl
set_option maxRecDepth 20000 in
theorem kX13_account_27 {C : QC} {x : QP} {M : QM} {st : List CV} {L : QL} {l0 l1 l2 l3 l4 l5 : Option CV} {z : Int} : Rr C mX13_account (27, [l0, l1, l2, l3, some (qi z), l5], st, M) x = Rr C mX13_account (29, [l0, l1, l2, l3, some (qi z), l5], qi z :: st, M) x := g_pl (show decode cX13_account 27 = .ok (.iload 4, 2) by decide +kernel) rfl
set_option maxRecDepth 20000 in
theorem kX13_account_29 {C : QC} {x : QP} {M : QM} {st : List CV} {L : QL} {l0 l1 l2 l3 l4 l5 : Option CV} {r : Option Nat} : Rr C mX13_account (29, [some (.inr (.inr r)), l1, l2, l3, l4, l5], st, M) x = Rr C mX13_account (30, [some (.inr (.inr r)), l1, l2, l3, l4, l5], .inr (.inr r) :: st, M) x := g_pl (show decode cX13_account 29 = .ok (.aload_n 0, 1) by decide +kernel) rfl
set_option maxRecDepth 20000 in
theorem kX13_account_30 {C : QC} {x : QP} {M : QM} {st : List CV} {L : QL} {a : Nat} (hk : q_kd M a = (1, 13)) : Rr C mX13_account (30, L, qr a :: st, M) x = Rr C mX13_account (33, L, q_fv M a 0 :: st, M) x := g_getf (ow := 13) (e := (13, 0, RX13, 1301, 0)) (show decode cX13_account 30 = .ok (.getfield 10, 3) by decide +kernel) rfl hk
set_option maxRecDepth 20000 in
theorem kX13_account_33 {C : QC} {x : QP} {M : QM} {st : List CV} {L : QL} : Rr C mX13_account (33, L, st, M) x = Rr C mX13_account (34, L, qi 0 :: st, M) x := g_pl (show decode cX13_account 33 = .ok (.iconst 0, 1) by decide +kernel) rfl
set_option maxRecDepth 20000 in
theorem kX13_account_34 {C : QC} {x : QP} {M : QM} {st : List CV} {L : QL} {a : Nat} {j : Int} (hk : (q_kd M a).1 = 2) (h0 : 0 ≤ j) (h1 : j < ((q_kd M a).2 : Int)) : Rr C mX13_account (34, L, qi j :: qr a :: st, M) x = Rr C mX13_account (35, L, q_fv M a j.toNat :: st, M) x := g_iald (show decode cX13_account 34 = .ok (.iaload, 1) by decide +kernel) hk h0 h1
set_option maxRecDepth 20000 in
theorem kX13_account_35 {C : QC} {x : QP} {M : QM} {st : List CV} {L : QL} {a b : Int} (ha1 : -2147483648 ≤ a) (ha2 : a < 2147483648) (hb1 : -2147483648 ≤ b) (hb2 : b < 2147483648) : Rr C mX13_account (35, L, qi b :: qi a :: st, M) x = (if a < b then Rr C mX13_account (38, L, st, M) x else Rr C mX13_account (240, L, st, M) x) := (g_icmp (show decode cX13_account 35 = .ok (.if_icmp .ge 205, 3) by decide +kernel) rfl ha1 ha2 hb1 hb2).trans (g_itn c_ge)
set_option maxRecDepth 20000 in
theorem kX13_account_38 {C : QC} {x : QP} {M : QM} {st : List CV} {L : QL} {l0 l1 l2 l3 l4 l5 : Option CV} {r : Option Nat} : Rr C mX13_account (38, [some (.inr (.inr r)), l1, l2, l3, l4, l5], st, M) x = Rr C mX13_account (39, [some (.inr (.inr r)), l1, l2, l3, l4, l5], .inr (.inr r) :: st, M) x := g_pl (show decode cX13_account 38 = .ok (.aload_n 0, 1) by decide +kernel) rfl
set_option maxRecDepth 20000 in
theorem kX13_account_39 {C : QC} {x : QP} {M : QM} {st : List CV} {L : QL} {l0 l1 l2 l3 l4 l5 : Option CV} {z : Int} : Rr C mX13_account (39, [l0, l1, l2, l3, some (qi z), l5], st, M) x = Rr C mX13_account (41, [l0, l1, l2, l3, some (qi z), l5], qi z :: st, M) x := g_pl (show decode cX13_account 39 = .ok (.iload 4, 2) by decide +kernel) rfl
set_option maxRecDepth 20000 in
theorem kX13_account_41 {C : QC} {x : QP} {M : QM} {st : List CV} {L : QL} {l0 l1 l2 l3 l4 l5 : Option CV} {z : Int} : Rr C mX13_account (41, [l0, some (qi z), l2, l3, l4, l5], st, M) x = Rr C mX13_account (42, [l0, some (qi z), l2, l3, l4, l5], qi z :: st, M) x := g_pl (show decode cX13_account 41 = .ok (.iload_n 1, 1) by decide +kernel) rfl
set_option maxRecDepth 20000 in
theorem kX13_account_42 {C : QC} {x : QP} {M : QM} {L : QL} {rest : List CV} {a0 a1 : CV} {v : CV} {M1 : QM} {b : Nat} (hb : q_kd M b = (1, 13)) (hC : C iX13_exists [qr b, a0, a1] M (some v) M1) (hw : (rest.map q_wd).sum ≤ 8) (k : Rr C mX13_account (45, L, v :: rest, M1) x) : Rr C mX13_account (42, L, a1 :: a0 :: qr b :: rest, M) x := g_cv (ow := 13) (e := (0, 235, 13, [1503, 1505, 56, 94])) (as := [a0, a1]) (show decode cX13_account 42 = .ok (.invokevirtual 62, 3) by decide +kernel) rfl rfl rfl (Or.inl rfl) rfl hb hC hw k
set_option maxRecDepth 20000 in
theorem kX13_account_45 {C : QC} {x : QP} {M : QM} {st : List CV} {L : QL} {l0 l1 l2 l3 l4 l5 : Option CV} {z : Int} : Rr C mX13_account (45, [l0, l1, l2, l3, l4, l5], qi z :: st, M) x = Rr C mX13_account (47, [l0, l1, l2, l3, q_cut l4, some (qi z)], st, M) x := g_pl (show decode cX13_account 45 = .ok (.istore 5, 2) by decide +kernel) rfl
set_option maxRecDepth 20000 in
theorem kX13_account_47 {C : QC} {x : QP} {M : QM} {st : List CV} {L : QL} {l0 l1 l2 l3 l4 l5 : Option CV} {z : Int} : Rr C mX13_account (47, [l0, l1, some (qi z), l3, l4, l5], st, M) x = Rr C mX13_account (48, [l0, l1, some (qi z), l3, l4, l5], qi z :: st, M) x := g_pl (show decode cX13_account 47 = .ok (.iload_n 2, 1) by decide +kernel) rfl
set_option maxRecDepth 20000 in
theorem kX13_account_48 {C : QC} {x : QP} {M : QM} {st : List CV} {L : QL} {a : Int} (ha1 : -2147483648 ≤ a) (ha2 : a < 2147483648) : Rr C mX13_account (48, L, qi a :: st, M) x = (if a = 4 then Rr C mX13_account (84, L, st, M) x else if a = 5 then Rr C mX13_account (100, L, st, M) x else if a = 6 then Rr C mX13_account (122, L, st, M) x else if a = 7 then Rr C mX13_account (153, L, st, M) x else if a = 8 then Rr C mX13_account (179, L, st, M) x else Rr C mX13_account (210, L, st, M) x) := by
  by_cases h0 : a = 4
  · subst h0; rw [if_pos rfl]; exact g_tsI (show decode cX13_account 48 = .ok (.tableswitch 162 4 8 #[36, 52, 74, 105, 131], 36) by decide +kernel) (by decide) (by decide) rfl rfl
  rw [if_neg h0]
  by_cases h1 : a = 5
  · subst h1; rw [if_pos rfl]; exact g_tsI (show decode cX13_account 48 = .ok (.tableswitch 162 4 8 #[36, 52, 74, 105, 131], 36) by decide +kernel) (by decide) (by decide) rfl rfl
  rw [if_neg h1]
  by_cases h2 : a = 6
  · subst h2; rw [if_pos rfl]; exact g_tsI (show decode cX13_account 48 = .ok (.tableswitch 162 4 8 #[36, 52, 74, 105, 131], 36) by decide +kernel) (by decide) (by decide) rfl rfl
  rw [if_neg h2]
  by_cases h3 : a = 7
  · subst h3; rw [if_pos rfl]; exact g_tsI (show decode cX13_account 48 = .ok (.tableswitch 162 4 8 #[36, 52, 74, 105, 131], 36) by decide +kernel) (by decide) (by decide) rfl rfl
  rw [if_neg h3]
  by_cases h4 : a = 8
  · subst h4; rw [if_pos rfl]; exact g_tsI (show decode cX13_account 48 = .ok (.tableswitch 162 4 8 #[36, 52, 74, 105, 131], 36) by decide +kernel) (by decide) (by decide) rfl rfl
  rw [if_neg h4]
  exact g_tsO (show decode cX13_account 48 = .ok (.tableswitch 162 4 8 #[36, 52, 74, 105, 131], 36) by decide +kernel) ⟨ha1, ha2⟩ (by omega) rfl
set_option maxRecDepth 20000 in
theorem kX13_account_84 {C : QC} {x : QP} {M : QM} {st : List CV} {L : QL} {l0 l1 l2 l3 l4 l5 : Option CV} {z : Int} : Rr C mX13_account (84, [l0, l1, l2, some (qi z), l4, l5], st, M) x = Rr C mX13_account (85, [l0, l1, l2, some (qi z), l4, l5], qi z :: st, M) x := g_pl (show decode cX13_account 84 = .ok (.iload_n 3, 1) by decide +kernel) rfl
set_option maxRecDepth 20000 in
theorem kX13_account_85 {C : QC} {x : QP} {M : QM} {st : List CV} {L : QL} {l0 l1 l2 l3 l4 l5 : Option CV} {z : Int} : Rr C mX13_account (85, [l0, l1, l2, l3, l4, some (qi z)], st, M) x = Rr C mX13_account (87, [l0, l1, l2, l3, l4, some (qi z)], qi z :: st, M) x := g_pl (show decode cX13_account 85 = .ok (.iload 5, 2) by decide +kernel) rfl
set_option maxRecDepth 20000 in
theorem kX13_account_87 {C : QC} {x : QP} {M : QM} {st : List CV} {L : QL} {a : Int} (ha1 : -2147483648 ≤ a) (ha2 : a < 2147483648) : Rr C mX13_account (87, L, qi a :: st, M) x = (if a = 0 then Rr C mX13_account (94, L, st, M) x else Rr C mX13_account (90, L, st, M) x) := (g_if (show decode cX13_account 87 = .ok (.ifCond .eq 7, 3) by decide +kernel) rfl ha1 ha2).trans (g_ite c_eq)
set_option maxRecDepth 20000 in
theorem kX13_account_90 {C : QC} {x : QP} {M : QM} {st : List CV} {L : QL} : Rr C mX13_account (90, L, st, M) x = Rr C mX13_account (91, L, qi 1 :: st, M) x := g_pl (show decode cX13_account 90 = .ok (.iconst 1, 1) by decide +kernel) rfl
set_option maxRecDepth 20000 in
theorem kX13_account_91 {C : QC} {x : QP} {M : QM} {st : List CV} {L : QL} : Rr C mX13_account (91, L, st, M) x = Rr C mX13_account (95, L, st, M) x := g_pl (show decode cX13_account 91 = .ok (.goto 4, 3) by decide +kernel) rfl
set_option maxRecDepth 20000 in
theorem kX13_account_94 {C : QC} {x : QP} {M : QM} {st : List CV} {L : QL} : Rr C mX13_account (94, L, st, M) x = Rr C mX13_account (95, L, qi 0 :: st, M) x := g_pl (show decode cX13_account 94 = .ok (.iconst 0, 1) by decide +kernel) rfl
set_option maxRecDepth 20000 in
theorem kX13_account_95 {C : QC} {x : QP} {M : QM} {st : List CV} {L : QL} {a b : Int} : Rr C mX13_account (95, L, qi b :: qi a :: st, M) x = Rr C mX13_account (96, L, qi (a + b) :: st, M) x := g_pl (show decode cX13_account 95 = .ok (.iadd, 1) by decide +kernel) rfl
set_option maxRecDepth 20000 in
theorem kX13_account_96 {C : QC} {x : QP} {M : QM} {st : List CV} {L : QL} {l0 l1 l2 l3 l4 l5 : Option CV} {z : Int} : Rr C mX13_account (96, [l0, l1, l2, l3, l4, l5], qi z :: st, M) x = Rr C mX13_account (97, [l0, l1, q_cut l2, some (qi z), l4, l5], st, M) x := g_pl (show decode cX13_account 96 = .ok (.istore_n 3, 1) by decide +kernel) rfl
set_option maxRecDepth 20000 in
theorem kX13_account_97 {C : QC} {x : QP} {M : QM} {st : List CV} {L : QL} : Rr C mX13_account (97, L, st, M) x = Rr C mX13_account (234, L, st, M) x := g_pl (show decode cX13_account 97 = .ok (.goto 137, 3) by decide +kernel) rfl
set_option maxRecDepth 20000 in
theorem kX13_account_100 {C : QC} {x : QP} {M : QM} {st : List CV} {L : QL} {l0 l1 l2 l3 l4 l5 : Option CV} {z : Int} : Rr C mX13_account (100, [l0, l1, l2, some (qi z), l4, l5], st, M) x = Rr C mX13_account (101, [l0, l1, l2, some (qi z), l4, l5], qi z :: st, M) x := g_pl (show decode cX13_account 100 = .ok (.iload_n 3, 1) by decide +kernel) rfl
set_option maxRecDepth 20000 in
theorem kX13_account_101 {C : QC} {x : QP} {M : QM} {st : List CV} {L : QL} {l0 l1 l2 l3 l4 l5 : Option CV} {r : Option Nat} : Rr C mX13_account (101, [some (.inr (.inr r)), l1, l2, l3, l4, l5], st, M) x = Rr C mX13_account (102, [some (.inr (.inr r)), l1, l2, l3, l4, l5], .inr (.inr r) :: st, M) x := g_pl (show decode cX13_account 101 = .ok (.aload_n 0, 1) by decide +kernel) rfl
set_option maxRecDepth 20000 in
theorem kX13_account_102 {C : QC} {x : QP} {M : QM} {st : List CV} {L : QL} {l0 l1 l2 l3 l4 l5 : Option CV} {z : Int} : Rr C mX13_account (102, [l0, l1, l2, l3, some (qi z), l5], st, M) x = Rr C mX13_account (104, [l0, l1, l2, l3, some (qi z), l5], qi z :: st, M) x := g_pl (show decode cX13_account 102 = .ok (.iload 4, 2) by decide +kernel) rfl
set_option maxRecDepth 20000 in
theorem kX13_account_104 {C : QC} {x : QP} {M : QM} {st : List CV} {L : QL} : Rr C mX13_account (104, L, st, M) x = Rr C mX13_account (105, L, qi 1 :: st, M) x := g_pl (show decode cX13_account 104 = .ok (.iconst 1, 1) by decide +kernel) rfl
set_option maxRecDepth 20000 in
theorem kX13_account_105 {C : QC} {x : QP} {M : QM} {L : QL} {rest : List CV} {a0 a1 : CV} {v : CV} {M1 : QM} {b : Nat} (hb : q_kd M b = (1, 13)) (hC : C iX13_has [qr b, a0, a1] M (some v) M1) (hw : (rest.map q_wd).sum ≤ 8) (k : Rr C mX13_account (108, L, v :: rest, M1) x) : Rr C mX13_account (105, L, a1 :: a0 :: qr b :: rest, M) x := g_cv (ow := 13) (e := (0, 207, 13, [1391, 1393, 32, 94])) (as := [a0, a1]) (show decode cX13_account 105 = .ok (.invokevirtual 47, 3) by decide +kernel) rfl rfl rfl (Or.inl rfl) rfl hb hC hw k
set_option maxRecDepth 20000 in
theorem kX13_account_108 {C : QC} {x : QP} {M : QM} {st : List CV} {L : QL} {l0 l1 l2 l3 l4 l5 : Option CV} {z : Int} : Rr C mX13_account (108, [l0, some (qi z), l2, l3, l4, l5], st, M) x = Rr C mX13_account (109, [l0, some (qi z), l2, l3, l4, l5], qi z :: st, M) x := g_pl (show decode cX13_account 108 = .ok (.iload_n 1, 1) by decide +kernel) rfl
set_option maxRecDepth 20000 in
theorem kX13_account_109 {C : QC} {x : QP} {M : QM} {st : List CV} {L : QL} {a b : Int} (ha1 : -2147483648 ≤ a) (ha2 : a < 2147483648) (hb1 : -2147483648 ≤ b) (hb2 : b < 2147483648) : Rr C mX13_account (109, L, qi b :: qi a :: st, M) x = (if b < a then Rr C mX13_account (112, L, st, M) x else Rr C mX13_account (116, L, st, M) x) := (g_icmp (show decode cX13_account 109 = .ok (.if_icmp .le 7, 3) by decide +kernel) rfl ha1 ha2 hb1 hb2).trans (g_itn c_le)
set_option maxRecDepth 20000 in
theorem kX13_account_112 {C : QC} {x : QP} {M : QM} {st : List CV} {L : QL} : Rr C mX13_account (112, L, st, M) x = Rr C mX13_account (113, L, qi 1 :: st, M) x := g_pl (show decode cX13_account 112 = .ok (.iconst 1, 1) by decide +kernel) rfl
set_option maxRecDepth 20000 in
theorem kX13_account_113 {C : QC} {x : QP} {M : QM} {st : List CV} {L : QL} : Rr C mX13_account (113, L, st, M) x = Rr C mX13_account (117, L, st, M) x := g_pl (show decode cX13_account 113 = .ok (.goto 4, 3) by decide +kernel) rfl
set_option maxRecDepth 20000 in
theorem kX13_account_116 {C : QC} {x : QP} {M : QM} {st : List CV} {L : QL} : Rr C mX13_account (116, L, st, M) x = Rr C mX13_account (117, L, qi 0 :: st, M) x := g_pl (show decode cX13_account 116 = .ok (.iconst 0, 1) by decide +kernel) rfl
set_option maxRecDepth 20000 in
theorem kX13_account_117 {C : QC} {x : QP} {M : QM} {st : List CV} {L : QL} {a b : Int} : Rr C mX13_account (117, L, qi b :: qi a :: st, M) x = Rr C mX13_account (118, L, qi (a + b) :: st, M) x := g_pl (show decode cX13_account 117 = .ok (.iadd, 1) by decide +kernel) rfl
set_option maxRecDepth 20000 in
theorem kX13_account_118 {C : QC} {x : QP} {M : QM} {st : List CV} {L : QL} {l0 l1 l2 l3 l4 l5 : Option CV} {z : Int} : Rr C mX13_account (118, [l0, l1, l2, l3, l4, l5], qi z :: st, M) x = Rr C mX13_account (119, [l0, l1, q_cut l2, some (qi z), l4, l5], st, M) x := g_pl (show decode cX13_account 118 = .ok (.istore_n 3, 1) by decide +kernel) rfl
set_option maxRecDepth 20000 in
theorem kX13_account_119 {C : QC} {x : QP} {M : QM} {st : List CV} {L : QL} : Rr C mX13_account (119, L, st, M) x = Rr C mX13_account (234, L, st, M) x := g_pl (show decode cX13_account 119 = .ok (.goto 115, 3) by decide +kernel) rfl
set_option maxRecDepth 20000 in
theorem kX13_account_122 {C : QC} {x : QP} {M : QM} {st : List CV} {L : QL} {l0 l1 l2 l3 l4 l5 : Option CV} {z : Int} : Rr C mX13_account (122, [l0, l1, l2, some (qi z), l4, l5], st, M) x = Rr C mX13_account (123, [l0, l1, l2, some (qi z), l4, l5], qi z :: st, M) x := g_pl (show decode cX13_account 122 = .ok (.iload_n 3, 1) by decide +kernel) rfl
set_option maxRecDepth 20000 in
theorem kX13_account_123 {C : QC} {x : QP} {M : QM} {st : List CV} {L : QL} {l0 l1 l2 l3 l4 l5 : Option CV} {r : Option Nat} : Rr C mX13_account (123, [some (.inr (.inr r)), l1, l2, l3, l4, l5], st, M) x = Rr C mX13_account (124, [some (.inr (.inr r)), l1, l2, l3, l4, l5], .inr (.inr r) :: st, M) x := g_pl (show decode cX13_account 123 = .ok (.aload_n 0, 1) by decide +kernel) rfl
set_option maxRecDepth 20000 in
theorem kX13_account_124 {C : QC} {x : QP} {M : QM} {st : List CV} {L : QL} {l0 l1 l2 l3 l4 l5 : Option CV} {z : Int} : Rr C mX13_account (124, [l0, l1, l2, l3, some (qi z), l5], st, M) x = Rr C mX13_account (126, [l0, l1, l2, l3, some (qi z), l5], qi z :: st, M) x := g_pl (show decode cX13_account 124 = .ok (.iload 4, 2) by decide +kernel) rfl
set_option maxRecDepth 20000 in
theorem kX13_account_126 {C : QC} {x : QP} {M : QM} {L : QL} {rest : List CV} {a0 : CV} {v : CV} {M1 : QM} {b : Nat} (hb : q_kd M b = (1, 13)) (hC : C iX13_hasEnded [qr b, a0] M (some v) M1) (hw : (rest.map q_wd).sum ≤ 8) (k : Rr C mX13_account (129, L, v :: rest, M1) x) : Rr C mX13_account (126, L, a0 :: qr b :: rest, M) x := g_cv (ow := 13) (e := (0, 209, 13, [1399, 1401, 34, 94])) (as := [a0]) (show decode cX13_account 126 = .ok (.invokevirtual 51, 3) by decide +kernel) rfl rfl rfl (Or.inl rfl) rfl hb hC hw k
set_option maxRecDepth 20000 in
theorem kX13_account_129 {C : QC} {x : QP} {M : QM} {st : List CV} {L : QL} {a : Int} (ha1 : -2147483648 ≤ a) (ha2 : a < 2147483648) : Rr C mX13_account (129, L, qi a :: st, M) x = (if a = 0 then Rr C mX13_account (147, L, st, M) x else Rr C mX13_account (132, L, st, M) x) := (g_if (show decode cX13_account 129 = .ok (.ifCond .eq 18, 3) by decide +kernel) rfl ha1 ha2).trans (g_ite c_eq)
set_option maxRecDepth 20000 in
theorem kX13_account_132 {C : QC} {x : QP} {M : QM} {st : List CV} {L : QL} {l0 l1 l2 l3 l4 l5 : Option CV} {r : Option Nat} : Rr C mX13_account (132, [some (.inr (.inr r)), l1, l2, l3, l4, l5], st, M) x = Rr C mX13_account (133, [some (.inr (.inr r)), l1, l2, l3, l4, l5], .inr (.inr r) :: st, M) x := g_pl (show decode cX13_account 132 = .ok (.aload_n 0, 1) by decide +kernel) rfl
set_option maxRecDepth 20000 in
theorem kX13_account_133 {C : QC} {x : QP} {M : QM} {st : List CV} {L : QL} {l0 l1 l2 l3 l4 l5 : Option CV} {z : Int} : Rr C mX13_account (133, [l0, l1, l2, l3, some (qi z), l5], st, M) x = Rr C mX13_account (135, [l0, l1, l2, l3, some (qi z), l5], qi z :: st, M) x := g_pl (show decode cX13_account 133 = .ok (.iload 4, 2) by decide +kernel) rfl
set_option maxRecDepth 20000 in
theorem kX13_account_135 {C : QC} {x : QP} {M : QM} {st : List CV} {L : QL} : Rr C mX13_account (135, L, st, M) x = Rr C mX13_account (136, L, qi 2 :: st, M) x := g_pl (show decode cX13_account 135 = .ok (.iconst 2, 1) by decide +kernel) rfl
set_option maxRecDepth 20000 in
theorem kX13_account_136 {C : QC} {x : QP} {M : QM} {L : QL} {rest : List CV} {a0 a1 : CV} {v : CV} {M1 : QM} {b : Nat} (hb : q_kd M b = (1, 13)) (hC : C iX13_has [qr b, a0, a1] M (some v) M1) (hw : (rest.map q_wd).sum ≤ 8) (k : Rr C mX13_account (139, L, v :: rest, M1) x) : Rr C mX13_account (136, L, a1 :: a0 :: qr b :: rest, M) x := g_cv (ow := 13) (e := (0, 207, 13, [1391, 1393, 32, 94])) (as := [a0, a1]) (show decode cX13_account 136 = .ok (.invokevirtual 47, 3) by decide +kernel) rfl rfl rfl (Or.inl rfl) rfl hb hC hw k
set_option maxRecDepth 20000 in
theorem kX13_account_139 {C : QC} {x : QP} {M : QM} {st : List CV} {L : QL} {l0 l1 l2 l3 l4 l5 : Option CV} {z : Int} : Rr C mX13_account (139, [l0, some (qi z), l2, l3, l4, l5], st, M) x = Rr C mX13_account (140, [l0, some (qi z), l2, l3, l4, l5], qi z :: st, M) x := g_pl (show decode cX13_account 139 = .ok (.iload_n 1, 1) by decide +kernel) rfl
set_option maxRecDepth 20000 in
theorem kX13_account_140 {C : QC} {x : QP} {M : QM} {st : List CV} {L : QL} {a b : Int} (ha1 : -2147483648 ≤ a) (ha2 : a < 2147483648) (hb1 : -2147483648 ≤ b) (hb2 : b < 2147483648) : Rr C mX13_account (140, L, qi b :: qi a :: st, M) x = (if b < a then Rr C mX13_account (147, L, st, M) x else Rr C mX13_account (143, L, st, M) x) := (g_icmp (show decode cX13_account 140 = .ok (.if_icmp .gt 7, 3) by decide +kernel) rfl ha1 ha2 hb1 hb2).trans (g_ite c_gt)
set_option maxRecDepth 20000 in
theorem kX13_account_143 {C : QC} {x : QP} {M : QM} {st : List CV} {L : QL} : Rr C mX13_account (143, L, st, M) x = Rr C mX13_account (144, L, qi 1 :: st, M) x := g_pl (show decode cX13_account 143 = .ok (.iconst 1, 1) by decide +kernel) rfl
set_option maxRecDepth 20000 in
theorem kX13_account_144 {C : QC} {x : QP} {M : QM} {st : List CV} {L : QL} : Rr C mX13_account (144, L, st, M) x = Rr C mX13_account (148, L, st, M) x := g_pl (show decode cX13_account 144 = .ok (.goto 4, 3) by decide +kernel) rfl
set_option maxRecDepth 20000 in
theorem kX13_account_147 {C : QC} {x : QP} {M : QM} {st : List CV} {L : QL} : Rr C mX13_account (147, L, st, M) x = Rr C mX13_account (148, L, qi 0 :: st, M) x := g_pl (show decode cX13_account 147 = .ok (.iconst 0, 1) by decide +kernel) rfl
set_option maxRecDepth 20000 in
theorem kX13_account_148 {C : QC} {x : QP} {M : QM} {st : List CV} {L : QL} {a b : Int} : Rr C mX13_account (148, L, qi b :: qi a :: st, M) x = Rr C mX13_account (149, L, qi (a + b) :: st, M) x := g_pl (show decode cX13_account 148 = .ok (.iadd, 1) by decide +kernel) rfl
set_option maxRecDepth 20000 in
theorem kX13_account_149 {C : QC} {x : QP} {M : QM} {st : List CV} {L : QL} {l0 l1 l2 l3 l4 l5 : Option CV} {z : Int} : Rr C mX13_account (149, [l0, l1, l2, l3, l4, l5], qi z :: st, M) x = Rr C mX13_account (150, [l0, l1, q_cut l2, some (qi z), l4, l5], st, M) x := g_pl (show decode cX13_account 149 = .ok (.istore_n 3, 1) by decide +kernel) rfl
set_option maxRecDepth 20000 in
theorem kX13_account_150 {C : QC} {x : QP} {M : QM} {st : List CV} {L : QL} : Rr C mX13_account (150, L, st, M) x = Rr C mX13_account (234, L, st, M) x := g_pl (show decode cX13_account 150 = .ok (.goto 84, 3) by decide +kernel) rfl
set_option maxRecDepth 20000 in
theorem kX13_account_153 {C : QC} {x : QP} {M : QM} {st : List CV} {L : QL} {l0 l1 l2 l3 l4 l5 : Option CV} {z : Int} : Rr C mX13_account (153, [l0, l1, l2, some (qi z), l4, l5], st, M) x = Rr C mX13_account (154, [l0, l1, l2, some (qi z), l4, l5], qi z :: st, M) x := g_pl (show decode cX13_account 153 = .ok (.iload_n 3, 1) by decide +kernel) rfl
set_option maxRecDepth 20000 in
theorem kX13_account_154 {C : QC} {x : QP} {M : QM} {st : List CV} {L : QL} {l0 l1 l2 l3 l4 l5 : Option CV} {z : Int} : Rr C mX13_account (154, [l0, l1, l2, l3, l4, some (qi z)], st, M) x = Rr C mX13_account (156, [l0, l1, l2, l3, l4, some (qi z)], qi z :: st, M) x := g_pl (show decode cX13_account 154 = .ok (.iload 5, 2) by decide +kernel) rfl
set_option maxRecDepth 20000 in
theorem kX13_account_156 {C : QC} {x : QP} {M : QM} {st : List CV} {L : QL} {a : Int} (ha1 : -2147483648 ≤ a) (ha2 : a < 2147483648) : Rr C mX13_account (156, L, qi a :: st, M) x = (if a = 0 then Rr C mX13_account (173, L, st, M) x else Rr C mX13_account (159, L, st, M) x) := (g_if (show decode cX13_account 156 = .ok (.ifCond .eq 17, 3) by decide +kernel) rfl ha1 ha2).trans (g_ite c_eq)
set_option maxRecDepth 20000 in
theorem kX13_account_159 {C : QC} {x : QP} {M : QM} {st : List CV} {L : QL} {l0 l1 l2 l3 l4 l5 : Option CV} {r : Option Nat} : Rr C mX13_account (159, [some (.inr (.inr r)), l1, l2, l3, l4, l5], st, M) x = Rr C mX13_account (160, [some (.inr (.inr r)), l1, l2, l3, l4, l5], .inr (.inr r) :: st, M) x := g_pl (show decode cX13_account 159 = .ok (.aload_n 0, 1) by decide +kernel) rfl
set_option maxRecDepth 20000 in
theorem kX13_account_160 {C : QC} {x : QP} {M : QM} {st : List CV} {L : QL} {l0 l1 l2 l3 l4 l5 : Option CV} {z : Int} : Rr C mX13_account (160, [l0, l1, l2, l3, some (qi z), l5], st, M) x = Rr C mX13_account (162, [l0, l1, l2, l3, some (qi z), l5], qi z :: st, M) x := g_pl (show decode cX13_account 160 = .ok (.iload 4, 2) by decide +kernel) rfl
set_option maxRecDepth 20000 in
theorem kX13_account_162 {C : QC} {x : QP} {M : QM} {st : List CV} {L : QL} {l0 l1 l2 l3 l4 l5 : Option CV} {z : Int} : Rr C mX13_account (162, [l0, some (qi z), l2, l3, l4, l5], st, M) x = Rr C mX13_account (163, [l0, some (qi z), l2, l3, l4, l5], qi z :: st, M) x := g_pl (show decode cX13_account 162 = .ok (.iload_n 1, 1) by decide +kernel) rfl
set_option maxRecDepth 20000 in
theorem kX13_account_163 {C : QC} {x : QP} {M : QM} {L : QL} {rest : List CV} {a0 a1 : CV} {v : CV} {M1 : QM} {b : Nat} (hb : q_kd M b = (1, 13)) (hC : C iX13_isFirstName [qr b, a0, a1] M (some v) M1) (hw : (rest.map q_wd).sum ≤ 8) (k : Rr C mX13_account (166, L, v :: rest, M1) x) : Rr C mX13_account (163, L, a1 :: a0 :: qr b :: rest, M) x := g_cv (ow := 13) (e := (0, 273, 13, [1654, 1656, 75, 94])) (as := [a0, a1]) (show decode cX13_account 163 = .ok (.invokevirtual 229, 3) by decide +kernel) rfl rfl rfl (Or.inl rfl) rfl hb hC hw k
set_option maxRecDepth 20000 in
theorem kX13_account_166 {C : QC} {x : QP} {M : QM} {st : List CV} {L : QL} {a : Int} (ha1 : -2147483648 ≤ a) (ha2 : a < 2147483648) : Rr C mX13_account (166, L, qi a :: st, M) x = (if a = 0 then Rr C mX13_account (173, L, st, M) x else Rr C mX13_account (169, L, st, M) x) := (g_if (show decode cX13_account 166 = .ok (.ifCond .eq 7, 3) by decide +kernel) rfl ha1 ha2).trans (g_ite c_eq)
set_option maxRecDepth 20000 in
theorem kX13_account_169 {C : QC} {x : QP} {M : QM} {st : List CV} {L : QL} : Rr C mX13_account (169, L, st, M) x = Rr C mX13_account (170, L, qi 1 :: st, M) x := g_pl (show decode cX13_account 169 = .ok (.iconst 1, 1) by decide +kernel) rfl
set_option maxRecDepth 20000 in
theorem kX13_account_170 {C : QC} {x : QP} {M : QM} {st : List CV} {L : QL} : Rr C mX13_account (170, L, st, M) x = Rr C mX13_account (174, L, st, M) x := g_pl (show decode cX13_account 170 = .ok (.goto 4, 3) by decide +kernel) rfl
set_option maxRecDepth 20000 in
theorem kX13_account_173 {C : QC} {x : QP} {M : QM} {st : List CV} {L : QL} : Rr C mX13_account (173, L, st, M) x = Rr C mX13_account (174, L, qi 0 :: st, M) x := g_pl (show decode cX13_account 173 = .ok (.iconst 0, 1) by decide +kernel) rfl
set_option maxRecDepth 20000 in
theorem kX13_account_174 {C : QC} {x : QP} {M : QM} {st : List CV} {L : QL} {a b : Int} : Rr C mX13_account (174, L, qi b :: qi a :: st, M) x = Rr C mX13_account (175, L, qi (a + b) :: st, M) x := g_pl (show decode cX13_account 174 = .ok (.iadd, 1) by decide +kernel) rfl
set_option maxRecDepth 20000 in
theorem kX13_account_175 {C : QC} {x : QP} {M : QM} {st : List CV} {L : QL} {l0 l1 l2 l3 l4 l5 : Option CV} {z : Int} : Rr C mX13_account (175, [l0, l1, l2, l3, l4, l5], qi z :: st, M) x = Rr C mX13_account (176, [l0, l1, q_cut l2, some (qi z), l4, l5], st, M) x := g_pl (show decode cX13_account 175 = .ok (.istore_n 3, 1) by decide +kernel) rfl
set_option maxRecDepth 20000 in
theorem kX13_account_176 {C : QC} {x : QP} {M : QM} {st : List CV} {L : QL} : Rr C mX13_account (176, L, st, M) x = Rr C mX13_account (234, L, st, M) x := g_pl (show decode cX13_account 176 = .ok (.goto 58, 3) by decide +kernel) rfl
set_option maxRecDepth 20000 in
theorem kX13_account_179 {C : QC} {x : QP} {M : QM} {st : List CV} {L : QL} {l0 l1 l2 l3 l4 l5 : Option CV} {z : Int} : Rr C mX13_account (179, [l0, l1, l2, l3, l4, some (qi z)], st, M) x = Rr C mX13_account (181, [l0, l1, l2, l3, l4, some (qi z)], qi z :: st, M) x := g_pl (show decode cX13_account 179 = .ok (.iload 5, 2) by decide +kernel) rfl
set_option maxRecDepth 20000 in
theorem kX13_account_181 {C : QC} {x : QP} {M : QM} {st : List CV} {L : QL} {a : Int} (ha1 : -2147483648 ≤ a) (ha2 : a < 2147483648) : Rr C mX13_account (181, L, qi a :: st, M) x = (if a = 0 then Rr C mX13_account (205, L, st, M) x else Rr C mX13_account (184, L, st, M) x) := (g_if (show decode cX13_account 181 = .ok (.ifCond .eq 24, 3) by decide +kernel) rfl ha1 ha2).trans (g_ite c_eq)
set_option maxRecDepth 20000 in
theorem kX13_account_184 {C : QC} {x : QP} {M : QM} {st : List CV} {L : QL} {l0 l1 l2 l3 l4 l5 : Option CV} {r : Option Nat} : Rr C mX13_account (184, [some (.inr (.inr r)), l1, l2, l3, l4, l5], st, M) x = Rr C mX13_account (185, [some (.inr (.inr r)), l1, l2, l3, l4, l5], .inr (.inr r) :: st, M) x := g_pl (show decode cX13_account 184 = .ok (.aload_n 0, 1) by decide +kernel) rfl
set_option maxRecDepth 20000 in
theorem kX13_account_185 {C : QC} {x : QP} {M : QM} {st : List CV} {L : QL} {l0 l1 l2 l3 l4 l5 : Option CV} {z : Int} : Rr C mX13_account (185, [l0, l1, l2, l3, some (qi z), l5], st, M) x = Rr C mX13_account (187, [l0, l1, l2, l3, some (qi z), l5], qi z :: st, M) x := g_pl (show decode cX13_account 185 = .ok (.iload 4, 2) by decide +kernel) rfl
set_option maxRecDepth 20000 in
theorem kX13_account_187 {C : QC} {x : QP} {M : QM} {st : List CV} {L : QL} {l0 l1 l2 l3 l4 l5 : Option CV} {z : Int} : Rr C mX13_account (187, [l0, some (qi z), l2, l3, l4, l5], st, M) x = Rr C mX13_account (188, [l0, some (qi z), l2, l3, l4, l5], qi z :: st, M) x := g_pl (show decode cX13_account 187 = .ok (.iload_n 1, 1) by decide +kernel) rfl
set_option maxRecDepth 20000 in
theorem kX13_account_188 {C : QC} {x : QP} {M : QM} {L : QL} {rest : List CV} {a0 a1 : CV} {v : CV} {M1 : QM} {b : Nat} (hb : q_kd M b = (1, 13)) (hC : C iX13_children [qr b, a0, a1] M (some v) M1) (hw : (rest.map q_wd).sum ≤ 8) (k : Rr C mX13_account (191, L, v :: rest, M1) x) : Rr C mX13_account (188, L, a1 :: a0 :: qr b :: rest, M) x := g_cv (ow := 13) (e := (0, 249, 13, [1559, 1561, 66, 94])) (as := [a0, a1]) (show decode cX13_account 188 = .ok (.invokevirtual 192, 3) by decide +kernel) rfl rfl rfl (Or.inl rfl) rfl hb hC hw k
set_option maxRecDepth 20000 in
theorem kX13_account_191 {C : QC} {x : QP} {M : QM} {st : List CV} {L : QL} {l0 l1 l2 l3 l4 l5 : Option CV} {z : Int} : Rr C mX13_account (191, [l0, l1, l2, some (qi z), l4, l5], st, M) x = Rr C mX13_account (192, [l0, l1, l2, some (qi z), l4, l5], qi z :: st, M) x := g_pl (show decode cX13_account 191 = .ok (.iload_n 3, 1) by decide +kernel) rfl
set_option maxRecDepth 20000 in
theorem kX13_account_192 {C : QC} {x : QP} {M : QM} {st : List CV} {L : QL} {a b : Int} (ha1 : -2147483648 ≤ a) (ha2 : a < 2147483648) (hb1 : -2147483648 ≤ b) (hb2 : b < 2147483648) : Rr C mX13_account (192, L, qi b :: qi a :: st, M) x = (if b < a then Rr C mX13_account (195, L, st, M) x else Rr C mX13_account (205, L, st, M) x) := (g_icmp (show decode cX13_account 192 = .ok (.if_icmp .le 13, 3) by decide +kernel) rfl ha1 ha2 hb1 hb2).trans (g_itn c_le)
set_option maxRecDepth 20000 in
theorem kX13_account_195 {C : QC} {x : QP} {M : QM} {st : List CV} {L : QL} {l0 l1 l2 l3 l4 l5 : Option CV} {r : Option Nat} : Rr C mX13_account (195, [some (.inr (.inr r)), l1, l2, l3, l4, l5], st, M) x = Rr C mX13_account (196, [some (.inr (.inr r)), l1, l2, l3, l4, l5], .inr (.inr r) :: st, M) x := g_pl (show decode cX13_account 195 = .ok (.aload_n 0, 1) by decide +kernel) rfl
set_option maxRecDepth 20000 in
theorem kX13_account_196 {C : QC} {x : QP} {M : QM} {st : List CV} {L : QL} {l0 l1 l2 l3 l4 l5 : Option CV} {z : Int} : Rr C mX13_account (196, [l0, l1, l2, l3, some (qi z), l5], st, M) x = Rr C mX13_account (198, [l0, l1, l2, l3, some (qi z), l5], qi z :: st, M) x := g_pl (show decode cX13_account 196 = .ok (.iload 4, 2) by decide +kernel) rfl
set_option maxRecDepth 20000 in
theorem kX13_account_198 {C : QC} {x : QP} {M : QM} {st : List CV} {L : QL} {l0 l1 l2 l3 l4 l5 : Option CV} {z : Int} : Rr C mX13_account (198, [l0, some (qi z), l2, l3, l4, l5], st, M) x = Rr C mX13_account (199, [l0, some (qi z), l2, l3, l4, l5], qi z :: st, M) x := g_pl (show decode cX13_account 198 = .ok (.iload_n 1, 1) by decide +kernel) rfl
set_option maxRecDepth 20000 in
theorem kX13_account_199 {C : QC} {x : QP} {M : QM} {L : QL} {rest : List CV} {a0 a1 : CV} {v : CV} {M1 : QM} {b : Nat} (hb : q_kd M b = (1, 13)) (hC : C iX13_children [qr b, a0, a1] M (some v) M1) (hw : (rest.map q_wd).sum ≤ 8) (k : Rr C mX13_account (202, L, v :: rest, M1) x) : Rr C mX13_account (199, L, a1 :: a0 :: qr b :: rest, M) x := g_cv (ow := 13) (e := (0, 249, 13, [1559, 1561, 66, 94])) (as := [a0, a1]) (show decode cX13_account 199 = .ok (.invokevirtual 192, 3) by decide +kernel) rfl rfl rfl (Or.inl rfl) rfl hb hC hw k
set_option maxRecDepth 20000 in
theorem kX13_account_202 {C : QC} {x : QP} {M : QM} {st : List CV} {L : QL} : Rr C mX13_account (202, L, st, M) x = Rr C mX13_account (206, L, st, M) x := g_pl (show decode cX13_account 202 = .ok (.goto 4, 3) by decide +kernel) rfl
set_option maxRecDepth 20000 in
theorem kX13_account_205 {C : QC} {x : QP} {M : QM} {st : List CV} {L : QL} {l0 l1 l2 l3 l4 l5 : Option CV} {z : Int} : Rr C mX13_account (205, [l0, l1, l2, some (qi z), l4, l5], st, M) x = Rr C mX13_account (206, [l0, l1, l2, some (qi z), l4, l5], qi z :: st, M) x := g_pl (show decode cX13_account 205 = .ok (.iload_n 3, 1) by decide +kernel) rfl
set_option maxRecDepth 20000 in
theorem kX13_account_206 {C : QC} {x : QP} {M : QM} {st : List CV} {L : QL} {l0 l1 l2 l3 l4 l5 : Option CV} {z : Int} : Rr C mX13_account (206, [l0, l1, l2, l3, l4, l5], qi z :: st, M) x = Rr C mX13_account (207, [l0, l1, q_cut l2, some (qi z), l4, l5], st, M) x := g_pl (show decode cX13_account 206 = .ok (.istore_n 3, 1) by decide +kernel) rfl
set_option maxRecDepth 20000 in
theorem kX13_account_207 {C : QC} {x : QP} {M : QM} {st : List CV} {L : QL} : Rr C mX13_account (207, L, st, M) x = Rr C mX13_account (234, L, st, M) x := g_pl (show decode cX13_account 207 = .ok (.goto 27, 3) by decide +kernel) rfl
set_option maxRecDepth 20000 in
theorem kX13_account_210 {C : QC} {x : QP} {M : QM} {st : List CV} {L : QL} {l0 l1 l2 l3 l4 l5 : Option CV} {z : Int} : Rr C mX13_account (210, [l0, l1, l2, some (qi z), l4, l5], st, M) x = Rr C mX13_account (211, [l0, l1, l2, some (qi z), l4, l5], qi z :: st, M) x := g_pl (show decode cX13_account 210 = .ok (.iload_n 3, 1) by decide +kernel) rfl
set_option maxRecDepth 20000 in
theorem kX13_account_211 {C : QC} {x : QP} {M : QM} {st : List CV} {L : QL} {l0 l1 l2 l3 l4 l5 : Option CV} {z : Int} : Rr C mX13_account (211, [l0, l1, l2, l3, l4, some (qi z)], st, M) x = Rr C mX13_account (213, [l0, l1, l2, l3, l4, some (qi z)], qi z :: st, M) x := g_pl (show decode cX13_account 211 = .ok (.iload 5, 2) by decide +kernel) rfl
set_option maxRecDepth 20000 in
theorem kX13_account_213 {C : QC} {x : QP} {M : QM} {st : List CV} {L : QL} {a : Int} (ha1 : -2147483648 ≤ a) (ha2 : a < 2147483648) : Rr C mX13_account (213, L, qi a :: st, M) x = (if a = 0 then Rr C mX13_account (231, L, st, M) x else Rr C mX13_account (216, L, st, M) x) := (g_if (show decode cX13_account 213 = .ok (.ifCond .eq 18, 3) by decide +kernel) rfl ha1 ha2).trans (g_ite c_eq)
set_option maxRecDepth 20000 in
theorem kX13_account_216 {C : QC} {x : QP} {M : QM} {st : List CV} {L : QL} {l0 l1 l2 l3 l4 l5 : Option CV} {r : Option Nat} : Rr C mX13_account (216, [some (.inr (.inr r)), l1, l2, l3, l4, l5], st, M) x = Rr C mX13_account (217, [some (.inr (.inr r)), l1, l2, l3, l4, l5], .inr (.inr r) :: st, M) x := g_pl (show decode cX13_account 216 = .ok (.aload_n 0, 1) by decide +kernel) rfl
set_option maxRecDepth 20000 in
theorem kX13_account_217 {C : QC} {x : QP} {M : QM} {st : List CV} {L : QL} {l0 l1 l2 l3 l4 l5 : Option CV} {z : Int} : Rr C mX13_account (217, [l0, l1, l2, l3, some (qi z), l5], st, M) x = Rr C mX13_account (219, [l0, l1, l2, l3, some (qi z), l5], qi z :: st, M) x := g_pl (show decode cX13_account 217 = .ok (.iload 4, 2) by decide +kernel) rfl
set_option maxRecDepth 20000 in
theorem kX13_account_219 {C : QC} {x : QP} {M : QM} {st : List CV} {L : QL} : Rr C mX13_account (219, L, st, M) x = Rr C mX13_account (220, L, qi 0 :: st, M) x := g_pl (show decode cX13_account 219 = .ok (.iconst 0, 1) by decide +kernel) rfl
set_option maxRecDepth 20000 in
theorem kX13_account_220 {C : QC} {x : QP} {M : QM} {L : QL} {rest : List CV} {a0 a1 : CV} {v : CV} {M1 : QM} {b : Nat} (hb : q_kd M b = (1, 13)) (hC : C iX13_has [qr b, a0, a1] M (some v) M1) (hw : (rest.map q_wd).sum ≤ 8) (k : Rr C mX13_account (223, L, v :: rest, M1) x) : Rr C mX13_account (220, L, a1 :: a0 :: qr b :: rest, M) x := g_cv (ow := 13) (e := (0, 207, 13, [1391, 1393, 32, 94])) (as := [a0, a1]) (show decode cX13_account 220 = .ok (.invokevirtual 47, 3) by decide +kernel) rfl rfl rfl (Or.inl rfl) rfl hb hC hw k
set_option maxRecDepth 20000 in
theorem kX13_account_223 {C : QC} {x : QP} {M : QM} {st : List CV} {L : QL} {l0 l1 l2 l3 l4 l5 : Option CV} {z : Int} : Rr C mX13_account (223, [l0, l1, some (qi z), l3, l4, l5], st, M) x = Rr C mX13_account (224, [l0, l1, some (qi z), l3, l4, l5], qi z :: st, M) x := g_pl (show decode cX13_account 223 = .ok (.iload_n 2, 1) by decide +kernel) rfl
set_option maxRecDepth 20000 in
theorem kX13_account_224 {C : QC} {x : QP} {M : QM} {st : List CV} {L : QL} {a b : Int} (ha1 : -2147483648 ≤ a) (ha2 : a < 2147483648) (hb1 : -2147483648 ≤ b) (hb2 : b < 2147483648) : Rr C mX13_account (224, L, qi b :: qi a :: st, M) x = (if a = b then Rr C mX13_account (227, L, st, M) x else Rr C mX13_account (231, L, st, M) x) := (g_icmp (show decode cX13_account 224 = .ok (.if_icmp .ne 7, 3) by decide +kernel) rfl ha1 ha2 hb1 hb2).trans (g_itn c_ne)
set_option maxRecDepth 20000 in
theorem kX13_account_227 {C : QC} {x : QP} {M : QM} {st : List CV} {L : QL} : Rr C mX13_account (227, L, st, M) x = Rr C mX13_account (228, L, qi 1 :: st, M) x := g_pl (show decode cX13_account 227 = .ok (.iconst 1, 1) by decide +kernel) rfl
set_option maxRecDepth 20000 in
theorem kX13_account_228 {C : QC} {x : QP} {M : QM} {st : List CV} {L : QL} : Rr C mX13_account (228, L, st, M) x = Rr C mX13_account (232, L, st, M) x := g_pl (show decode cX13_account 228 = .ok (.goto 4, 3) by decide +kernel) rfl
set_option maxRecDepth 20000 in
theorem kX13_account_231 {C : QC} {x : QP} {M : QM} {st : List CV} {L : QL} : Rr C mX13_account (231, L, st, M) x = Rr C mX13_account (232, L, qi 0 :: st, M) x := g_pl (show decode cX13_account 231 = .ok (.iconst 0, 1) by decide +kernel) rfl
set_option maxRecDepth 20000 in
theorem kX13_account_232 {C : QC} {x : QP} {M : QM} {st : List CV} {L : QL} {a b : Int} : Rr C mX13_account (232, L, qi b :: qi a :: st, M) x = Rr C mX13_account (233, L, qi (a + b) :: st, M) x := g_pl (show decode cX13_account 232 = .ok (.iadd, 1) by decide +kernel) rfl
set_option maxRecDepth 20000 in
theorem kX13_account_233 {C : QC} {x : QP} {M : QM} {st : List CV} {L : QL} {l0 l1 l2 l3 l4 l5 : Option CV} {z : Int} : Rr C mX13_account (233, [l0, l1, l2, l3, l4, l5], qi z :: st, M) x = Rr C mX13_account (234, [l0, l1, q_cut l2, some (qi z), l4, l5], st, M) x := g_pl (show decode cX13_account 233 = .ok (.istore_n 3, 1) by decide +kernel) rfl
set_option maxRecDepth 20000 in
theorem kX13_account_234 {C : QC} {x : QP} {M : QM} {st : List CV} {L : QL} {l0 l1 l2 l3 l4 l5 : Option CV} {z : Int} : Rr C mX13_account (234, [l0, l1, l2, l3, some (qi z), l5], st, M) x = Rr C mX13_account (237, [l0, l1, l2, q_cut l3, some (qi (z + 1)), l5], st, M) x := g_pl (show decode cX13_account 234 = .ok (.iinc 4 1, 3) by decide +kernel) rfl
set_option maxRecDepth 20000 in
theorem kX13_account_237 {C : QC} {x : QP} {M : QM} {st : List CV} {L : QL} : Rr C mX13_account (237, L, st, M) x = Rr C mX13_account (27, L, st, M) x := g_pl (show decode cX13_account 237 = .ok (.goto (-210), 3) by decide +kernel) rfl
set_option maxRecDepth 20000 in
theorem kX13_account_240 {C : QC} {x : QP} {M : QM} {st : List CV} {L : QL} {l0 l1 l2 l3 l4 l5 : Option CV} {z : Int} : Rr C mX13_account (240, [l0, l1, l2, some (qi z), l4, l5], st, M) x = Rr C mX13_account (241, [l0, l1, l2, some (qi z), l4, l5], qi z :: st, M) x := g_pl (show decode cX13_account 240 = .ok (.iload_n 3, 1) by decide +kernel) rfl
set_option maxRecDepth 20000 in
theorem kX13_account_241 {C : QC} {x : QP} {M : QM} {st : List CV} {L : QL} {z : Int} : Rr C mX13_account (241, L, [qi z], M) x = x (some (qi z)) M := g_iret (show decode cX13_account 241 = .ok (.ireturn, 1) by decide +kernel) rfl
set_option maxRecDepth 20000 in
theorem eX13_account {d : Nat} {M : QM} {x : QP} {a : Nat} {v0 : Int} {v1 : Int} : q_T (d + 1) iX13_account [qr a, qi v0, qi v1] M x = Rr (q_C d) mX13_account (0, [some (qr a), some (qi v0), some (qi v1), none, none, none], [], M) x := g_entryT (e := _) rfl (Nat.le_of_ble_eq_true rfl) rfl rfl
def mX13_back : QI := (13, cX13_back, false, some .int)
set_option maxRecDepth 20000 in
theorem kX13_back_0 {C : QC} {x : QP} {M : QM} {st : List CV} {L : QL} {r : Option Nat} : Rr C mX13_back (0, [some (.inr (.inr r))], st, M) x = Rr C mX13_back (1, [some (.inr (.inr r))], .inr (.inr r) :: st, M) x := g_pl (show decode cX13_back 0 = .ok (.aload_n 0, 1) by decide +kernel) rfl
set_option maxRecDepth 20000 in
theorem kX13_back_1 {C : QC} {x : QP} {M : QM} {st : List CV} {L : QL} {a : Nat} (hk : q_kd M a = (1, 13)) : Rr C mX13_back (1, L, qr a :: st, M) x = Rr C mX13_back (4, L, q_fv M a 1 :: st, M) x := g_getf (ow := 13) (e := (13, 1, RX13, 1302, 0)) (show decode cX13_back 1 = .ok (.getfield 36, 3) by decide +kernel) rfl hk
set_option maxRecDepth 20000 in
theorem kX13_back_4 {C : QC} {x : QP} {M : QM} {st : List CV} {L : QL} {a : Int} (ha1 : -2147483648 ≤ a) (ha2 : a < 2147483648) : Rr C mX13_back (4, L, qi a :: st, M) x = (if a = 0 then Rr C mX13_back (7, L, st, M) x else Rr C mX13_back (10, L, st, M) x) := (g_if (show decode cX13_back 4 = .ok (.ifCond .ne 6, 3) by decide +kernel) rfl ha1 ha2).trans (g_itn c_ne)
set_option maxRecDepth 20000 in
theorem kX13_back_7 {C : QC} {x : QP} {M : QM} {st : List CV} {L : QL} : Rr C mX13_back (7, L, st, M) x = Rr C mX13_back (9, L, qi (-3) :: st, M) x := g_pl (show decode cX13_back 7 = .ok (.bipush (-3), 2) by decide +kernel) rfl
set_option maxRecDepth 20000 in
theorem kX13_back_9 {C : QC} {x : QP} {M : QM} {st : List CV} {L : QL} {z : Int} : Rr C mX13_back (9, L, [qi z], M) x = x (some (qi z)) M := g_iret (show decode cX13_back 9 = .ok (.ireturn, 1) by decide +kernel) rfl
set_option maxRecDepth 20000 in
theorem kX13_back_10 {C : QC} {x : QP} {M : QM} {st : List CV} {L : QL} {r : Option Nat} : Rr C mX13_back (10, [some (.inr (.inr r))], st, M) x = Rr C mX13_back (11, [some (.inr (.inr r))], .inr (.inr r) :: st, M) x := g_pl (show decode cX13_back 10 = .ok (.aload_n 0, 1) by decide +kernel) rfl
set_option maxRecDepth 20000 in
theorem kX13_back_11 {C : QC} {x : QP} {M : QM} {st : List CV} {L : QL} {r : Option Nat} : Rr C mX13_back (11, [some (.inr (.inr r))], st, M) x = Rr C mX13_back (12, [some (.inr (.inr r))], .inr (.inr r) :: st, M) x := g_pl (show decode cX13_back 11 = .ok (.aload_n 0, 1) by decide +kernel) rfl
set_option maxRecDepth 20000 in
theorem kX13_back_12 {C : QC} {x : QP} {M : QM} {st : List CV} {L : QL} {a : Nat} (hk : q_kd M a = (1, 13)) : Rr C mX13_back (12, L, qr a :: st, M) x = Rr C mX13_back (15, L, q_fv M a 1 :: st, M) x := g_getf (ow := 13) (e := (13, 1, RX13, 1302, 0)) (show decode cX13_back 12 = .ok (.getfield 36, 3) by decide +kernel) rfl hk
set_option maxRecDepth 20000 in
theorem kX13_back_15 {C : QC} {x : QP} {M : QM} {st : List CV} {L : QL} : Rr C mX13_back (15, L, st, M) x = Rr C mX13_back (16, L, qi 0 :: st, M) x := g_pl (show decode cX13_back 15 = .ok (.iconst 0, 1) by decide +kernel) rfl
set_option maxRecDepth 20000 in
theorem kX13_back_16 {C : QC} {x : QP} {M : QM} {L : QL} {rest : List CV} {a0 a1 : CV} {M1 : QM} {b : Nat} (hb : q_kd M b = (1, 13)) (hC : C iX13_copies [qr b, a0, a1] M none M1) (hw : (rest.map q_wd).sum ≤ 8) (k : Rr C mX13_back (19, L, rest, M1) x) : Rr C mX13_back (16, L, a1 :: a0 :: qr b :: rest, M) x := g_cv (ow := 13) (e := (0, 212, 13, [1411, 1413, 37, 94])) (as := [a0, a1]) (show decode cX13_back 16 = .ok (.invokevirtual 39, 3) by decide +kernel) rfl rfl rfl (Or.inl rfl) rfl hb hC hw k
set_option maxRecDepth 20000 in
theorem kX13_back_19 {C : QC} {x : QP} {M : QM} {st : List CV} {L : QL} {r : Option Nat} : Rr C mX13_back (19, [some (.inr (.inr r))], st, M) x = Rr C mX13_back (20, [some (.inr (.inr r))], .inr (.inr r) :: st, M) x := g_pl (show decode cX13_back 19 = .ok (.aload_n 0, 1) by decide +kernel) rfl
set_option maxRecDepth 20000 in
theorem kX13_back_20i {C : QC} {x : QP} {M : QM} {st : List CV} {L : QL} {a : Int} : Rr C mX13_back (20, L, qi a :: st, M) x = Rr C mX13_back (21, L, qi a :: qi a :: st, M) x := g_pl (show decode cX13_back 20 = .ok (.dup, 1) by decide +kernel) rfl
set_option maxRecDepth 20000 in
theorem kX13_back_20r {C : QC} {x : QP} {M : QM} {st : List CV} {L : QL} {a : Option Nat} : Rr C mX13_back (20, L, .inr (.inr a) :: st, M) x = Rr C mX13_back (21, L, .inr (.inr a) :: .inr (.inr a) :: st, M) x := g_pl (show decode cX13_back 20 = .ok (.dup, 1) by decide +kernel) rfl
set_option maxRecDepth 20000 in
theorem kX13_back_21 {C : QC} {x : QP} {M : QM} {st : List CV} {L : QL} {a : Nat} (hk : q_kd M a = (1, 13)) : Rr C mX13_back (21, L, qr a :: st, M) x = Rr C mX13_back (24, L, q_fv M a 1 :: st, M) x := g_getf (ow := 13) (e := (13, 1, RX13, 1302, 0)) (show decode cX13_back 21 = .ok (.getfield 36, 3) by decide +kernel) rfl hk
set_option maxRecDepth 20000 in
theorem kX13_back_24 {C : QC} {x : QP} {M : QM} {st : List CV} {L : QL} : Rr C mX13_back (24, L, st, M) x = Rr C mX13_back (25, L, qi 1 :: st, M) x := g_pl (show decode cX13_back 24 = .ok (.iconst 1, 1) by decide +kernel) rfl
set_option maxRecDepth 20000 in
theorem kX13_back_25 {C : QC} {x : QP} {M : QM} {st : List CV} {L : QL} {a b : Int} : Rr C mX13_back (25, L, qi b :: qi a :: st, M) x = Rr C mX13_back (26, L, qi (a - b) :: st, M) x := g_pl (show decode cX13_back 25 = .ok (.isub, 1) by decide +kernel) rfl
set_option maxRecDepth 20000 in
theorem kX13_back_26 {C : QC} {x : QP} {M : QM} {st : List CV} {L : QL} {z : Int} {a : Nat} (hk : q_kd M a = (1, 13)) : Rr C mX13_back (26, L, qi z :: qr a :: st, M) x = Rr C mX13_back (29, L, st, q_wr M a 1 (qi z)) x := g_putf (ow := 13) (ini := false) (e := (13, 1, RX13, 1302, 0)) (r := (RX13, TX13, 17)) (t := tyX13) (show decode cX13_back 26 = .ok (.putfield 36, 3) by decide +kernel) rfl rfl rfl rfl (by decide +kernel) hk
set_option maxRecDepth 20000 in
theorem kX13_back_29 {C : QC} {x : QP} {M : QM} {st : List CV} {L : QL} {r : Option Nat} : Rr C mX13_back (29, [some (.inr (.inr r))], st, M) x = Rr C mX13_back (30, [some (.inr (.inr r))], .inr (.inr r) :: st, M) x := g_pl (show decode cX13_back 29 = .ok (.aload_n 0, 1) by decide +kernel) rfl
set_option maxRecDepth 20000 in
theorem kX13_back_30 {C : QC} {x : QP} {M : QM} {st : List CV} {L : QL} {a : Nat} (hk : q_kd M a = (1, 13)) : Rr C mX13_back (30, L, qr a :: st, M) x = Rr C mX13_back (33, L, q_fv M a 1 :: st, M) x := g_getf (ow := 13) (e := (13, 1, RX13, 1302, 0)) (show decode cX13_back 30 = .ok (.getfield 36, 3) by decide +kernel) rfl hk
set_option maxRecDepth 20000 in
theorem kX13_back_33 {C : QC} {x : QP} {M : QM} {st : List CV} {L : QL} {z : Int} : Rr C mX13_back (33, L, [qi z], M) x = x (some (qi z)) M := g_iret (show decode cX13_back 33 = .ok (.ireturn, 1) by decide +kernel) rfl
set_option maxRecDepth 20000 in
theorem eX13_back {d : Nat} {M : QM} {x : QP} {a : Nat} : q_T (d + 1) iX13_back [qr a] M x = Rr (q_C d) mX13_back (0, [some (qr a)], [], M) x := g_entryT (e := _) rfl (Nat.le_of_ble_eq_true rfl) rfl rfl
def mX13_image : QI := (13, cX13_image, false, some .int)
set_option maxRecDepth 20000 in
theorem kX13_image_0 {C : QC} {x : QP} {M : QM} {st : List CV} {L : QL} {r : Option Nat} : Rr C mX13_image (0, [some (.inr (.inr r))], st, M) x = Rr C mX13_image (1, [some (.inr (.inr r))], .inr (.inr r) :: st, M) x := g_pl (show decode cX13_image 0 = .ok (.aload_n 0, 1) by decide +kernel) rfl
set_option maxRecDepth 20000 in
theorem kX13_image_1 {C : QC} {x : QP} {M : QM} {st : List CV} {L : QL} : Rr C mX13_image (1, L, st, M) x = Rr C mX13_image (2, L, qi 1 :: st, M) x := g_pl (show decode cX13_image 1 = .ok (.iconst 1, 1) by decide +kernel) rfl
set_option maxRecDepth 20000 in
theorem kX13_image_2 {C : QC} {x : QP} {M : QM} {st : List CV} {L : QL} {z : Int} (hz : z = 0 ∨ z = 1) {a : Nat} (hk : q_kd M a = (1, 13)) : Rr C mX13_image (2, L, qi z :: qr a :: st, M) x = Rr C mX13_image (5, L, st, q_wr M a 2 (qi z)) x := g_putf (ow := 13) (ini := false) (e := (13, 2, RX13, 1303, 0)) (r := (RX13, TX13, 17)) (t := tyX13) (show decode cX13_image 2 = .ok (.putfield 232, 3) by decide +kernel) rfl rfl rfl (by rcases hz with rfl | rfl <;> rfl) (by decide +kernel) hk
set_option maxRecDepth 20000 in
theorem kX13_image_5 {C : QC} {x : QP} {M : QM} {st : List CV} {L : QL} {r : Option Nat} : Rr C mX13_image (5, [some (.inr (.inr r))], st, M) x = Rr C mX13_image (6, [some (.inr (.inr r))], .inr (.inr r) :: st, M) x := g_pl (show decode cX13_image 5 = .ok (.aload_n 0, 1) by decide +kernel) rfl
set_option maxRecDepth 20000 in
theorem kX13_image_6 {C : QC} {x : QP} {M : QM} {st : List CV} {L : QL} : Rr C mX13_image (6, L, st, M) x = Rr C mX13_image (7, L, qi 0 :: st, M) x := g_pl (show decode cX13_image 6 = .ok (.iconst 0, 1) by decide +kernel) rfl
set_option maxRecDepth 20000 in
theorem kX13_image_7 {C : QC} {x : QP} {M : QM} {st : List CV} {L : QL} : Rr C mX13_image (7, L, st, M) x = Rr C mX13_image (9, L, qi 7 :: st, M) x := g_pl (show decode cX13_image 7 = .ok (.bipush 7, 2) by decide +kernel) rfl
set_option maxRecDepth 20000 in
theorem kX13_image_9 {C : QC} {x : QP} {M : QM} {L : QL} {rest : List CV} {a0 a1 : CV} {M1 : QM} {b : Nat} (hb : q_kd M b = (1, 13)) (hC : C iX13_copies [qr b, a0, a1] M none M1) (hw : (rest.map q_wd).sum ≤ 8) (k : Rr C mX13_image (12, L, rest, M1) x) : Rr C mX13_image (9, L, a1 :: a0 :: qr b :: rest, M) x := g_cv (ow := 13) (e := (0, 212, 13, [1411, 1413, 37, 94])) (as := [a0, a1]) (show decode cX13_image 9 = .ok (.invokevirtual 39, 3) by decide +kernel) rfl rfl rfl (Or.inl rfl) rfl hb hC hw k
set_option maxRecDepth 20000 in
theorem kX13_image_12 {C : QC} {x : QP} {M : QM} {st : List CV} {L : QL} {r : Option Nat} : Rr C mX13_image (12, [some (.inr (.inr r))], st, M) x = Rr C mX13_image (13, [some (.inr (.inr r))], .inr (.inr r) :: st, M) x := g_pl (show decode cX13_image 12 = .ok (.aload_n 0, 1) by decide +kernel) rfl
set_option maxRecDepth 20000 in
theorem kX13_image_13 {C : QC} {x : QP} {M : QM} {st : List CV} {L : QL} {a : Nat} (hk : q_kd M a = (1, 13)) : Rr C mX13_image (13, L, qr a :: st, M) x = Rr C mX13_image (16, L, q_fv M a 0 :: st, M) x := g_getf (ow := 13) (e := (13, 0, RX13, 1301, 0)) (show decode cX13_image 13 = .ok (.getfield 10, 3) by decide +kernel) rfl hk
set_option maxRecDepth 20000 in
theorem kX13_image_16 {C : QC} {x : QP} {M : QM} {st : List CV} {L : QL} : Rr C mX13_image (16, L, st, M) x = Rr C mX13_image (17, L, qi 0 :: st, M) x := g_pl (show decode cX13_image 16 = .ok (.iconst 0, 1) by decide +kernel) rfl
set_option maxRecDepth 20000 in
theorem kX13_image_17 {C : QC} {x : QP} {M : QM} {st : List CV} {L : QL} {a : Nat} {j : Int} (hk : (q_kd M a).1 = 2) (h0 : 0 ≤ j) (h1 : j < ((q_kd M a).2 : Int)) : Rr C mX13_image (17, L, qi j :: qr a :: st, M) x = Rr C mX13_image (18, L, q_fv M a j.toNat :: st, M) x := g_iald (show decode cX13_image 17 = .ok (.iaload, 1) by decide +kernel) hk h0 h1
set_option maxRecDepth 20000 in
theorem kX13_image_18 {C : QC} {x : QP} {M : QM} {st : List CV} {L : QL} {z : Int} : Rr C mX13_image (18, L, [qi z], M) x = x (some (qi z)) M := g_iret (show decode cX13_image 18 = .ok (.ireturn, 1) by decide +kernel) rfl
set_option maxRecDepth 20000 in
theorem eX13_image {d : Nat} {M : QM} {x : QP} {a : Nat} : q_T (d + 1) iX13_image [qr a] M x = Rr (q_C d) mX13_image (0, [some (qr a)], [], M) x := g_entryT (e := _) rfl (Nat.le_of_ble_eq_true rfl) rfl rfl
def mX13_undo : QI := (13, cX13_undo, false, some .int)
set_option maxRecDepth 20000 in
theorem kX13_undo_0 {C : QC} {x : QP} {M : QM} {st : List CV} {L : QL} {r : Option Nat} : Rr C mX13_undo (0, [some (.inr (.inr r))], st, M) x = Rr C mX13_undo (1, [some (.inr (.inr r))], .inr (.inr r) :: st, M) x := g_pl (show decode cX13_undo 0 = .ok (.aload_n 0, 1) by decide +kernel) rfl
set_option maxRecDepth 20000 in
theorem kX13_undo_1 {C : QC} {x : QP} {M : QM} {st : List CV} {L : QL} {a : Nat} (hk : q_kd M a = (1, 13)) : Rr C mX13_undo (1, L, qr a :: st, M) x = Rr C mX13_undo (4, L, q_fv M a 2 :: st, M) x := g_getf (ow := 13) (e := (13, 2, RX13, 1303, 0)) (show decode cX13_undo 1 = .ok (.getfield 232, 3) by decide +kernel) rfl hk
set_option maxRecDepth 20000 in
theorem kX13_undo_4 {C : QC} {x : QP} {M : QM} {st : List CV} {L : QL} {a : Int} (ha1 : -2147483648 ≤ a) (ha2 : a < 2147483648) : Rr C mX13_undo (4, L, qi a :: st, M) x = (if a = 0 then Rr C mX13_undo (7, L, st, M) x else Rr C mX13_undo (10, L, st, M) x) := (g_if (show decode cX13_undo 4 = .ok (.ifCond .ne 6, 3) by decide +kernel) rfl ha1 ha2).trans (g_itn c_ne)
set_option maxRecDepth 20000 in
theorem kX13_undo_7 {C : QC} {x : QP} {M : QM} {st : List CV} {L : QL} : Rr C mX13_undo (7, L, st, M) x = Rr C mX13_undo (9, L, qi (-3) :: st, M) x := g_pl (show decode cX13_undo 7 = .ok (.bipush (-3), 2) by decide +kernel) rfl
set_option maxRecDepth 20000 in
theorem kX13_undo_9 {C : QC} {x : QP} {M : QM} {st : List CV} {L : QL} {z : Int} : Rr C mX13_undo (9, L, [qi z], M) x = x (some (qi z)) M := g_iret (show decode cX13_undo 9 = .ok (.ireturn, 1) by decide +kernel) rfl
set_option maxRecDepth 20000 in
theorem kX13_undo_10 {C : QC} {x : QP} {M : QM} {st : List CV} {L : QL} {r : Option Nat} : Rr C mX13_undo (10, [some (.inr (.inr r))], st, M) x = Rr C mX13_undo (11, [some (.inr (.inr r))], .inr (.inr r) :: st, M) x := g_pl (show decode cX13_undo 10 = .ok (.aload_n 0, 1) by decide +kernel) rfl
set_option maxRecDepth 20000 in
theorem kX13_undo_11 {C : QC} {x : QP} {M : QM} {st : List CV} {L : QL} : Rr C mX13_undo (11, L, st, M) x = Rr C mX13_undo (13, L, qi 7 :: st, M) x := g_pl (show decode cX13_undo 11 = .ok (.bipush 7, 2) by decide +kernel) rfl
set_option maxRecDepth 20000 in
theorem kX13_undo_13 {C : QC} {x : QP} {M : QM} {st : List CV} {L : QL} : Rr C mX13_undo (13, L, st, M) x = Rr C mX13_undo (14, L, qi 0 :: st, M) x := g_pl (show decode cX13_undo 13 = .ok (.iconst 0, 1) by decide +kernel) rfl
set_option maxRecDepth 20000 in
theorem kX13_undo_14 {C : QC} {x : QP} {M : QM} {L : QL} {rest : List CV} {a0 a1 : CV} {M1 : QM} {b : Nat} (hb : q_kd M b = (1, 13)) (hC : C iX13_copies [qr b, a0, a1] M none M1) (hw : (rest.map q_wd).sum ≤ 8) (k : Rr C mX13_undo (17, L, rest, M1) x) : Rr C mX13_undo (14, L, a1 :: a0 :: qr b :: rest, M) x := g_cv (ow := 13) (e := (0, 212, 13, [1411, 1413, 37, 94])) (as := [a0, a1]) (show decode cX13_undo 14 = .ok (.invokevirtual 39, 3) by decide +kernel) rfl rfl rfl (Or.inl rfl) rfl hb hC hw k
set_option maxRecDepth 20000 in
theorem kX13_undo_17 {C : QC} {x : QP} {M : QM} {st : List CV} {L : QL} {r : Option Nat} : Rr C mX13_undo (17, [some (.inr (.inr r))], st, M) x = Rr C mX13_undo (18, [some (.inr (.inr r))], .inr (.inr r) :: st, M) x := g_pl (show decode cX13_undo 17 = .ok (.aload_n 0, 1) by decide +kernel) rfl
set_option maxRecDepth 20000 in
theorem kX13_undo_18 {C : QC} {x : QP} {M : QM} {st : List CV} {L : QL} : Rr C mX13_undo (18, L, st, M) x = Rr C mX13_undo (19, L, qi 0 :: st, M) x := g_pl (show decode cX13_undo 18 = .ok (.iconst 0, 1) by decide +kernel) rfl
set_option maxRecDepth 20000 in
theorem kX13_undo_19 {C : QC} {x : QP} {M : QM} {st : List CV} {L : QL} {z : Int} {a : Nat} (hk : q_kd M a = (1, 13)) : Rr C mX13_undo (19, L, qi z :: qr a :: st, M) x = Rr C mX13_undo (22, L, st, q_wr M a 1 (qi z)) x := g_putf (ow := 13) (ini := false) (e := (13, 1, RX13, 1302, 0)) (r := (RX13, TX13, 17)) (t := tyX13) (show decode cX13_undo 19 = .ok (.putfield 36, 3) by decide +kernel) rfl rfl rfl rfl (by decide +kernel) hk
set_option maxRecDepth 20000 in
theorem kX13_undo_22 {C : QC} {x : QP} {M : QM} {st : List CV} {L : QL} {r : Option Nat} : Rr C mX13_undo (22, [some (.inr (.inr r))], st, M) x = Rr C mX13_undo (23, [some (.inr (.inr r))], .inr (.inr r) :: st, M) x := g_pl (show decode cX13_undo 22 = .ok (.aload_n 0, 1) by decide +kernel) rfl
set_option maxRecDepth 20000 in
theorem kX13_undo_23 {C : QC} {x : QP} {M : QM} {st : List CV} {L : QL} {a : Nat} (hk : q_kd M a = (1, 13)) : Rr C mX13_undo (23, L, qr a :: st, M) x = Rr C mX13_undo (26, L, q_fv M a 0 :: st, M) x := g_getf (ow := 13) (e := (13, 0, RX13, 1301, 0)) (show decode cX13_undo 23 = .ok (.getfield 10, 3) by decide +kernel) rfl hk
set_option maxRecDepth 20000 in
theorem kX13_undo_26 {C : QC} {x : QP} {M : QM} {st : List CV} {L : QL} : Rr C mX13_undo (26, L, st, M) x = Rr C mX13_undo (27, L, qi 0 :: st, M) x := g_pl (show decode cX13_undo 26 = .ok (.iconst 0, 1) by decide +kernel) rfl
set_option maxRecDepth 20000 in
theorem kX13_undo_27 {C : QC} {x : QP} {M : QM} {st : List CV} {L : QL} {a : Nat} {j : Int} (hk : (q_kd M a).1 = 2) (h0 : 0 ≤ j) (h1 : j < ((q_kd M a).2 : Int)) : Rr C mX13_undo (27, L, qi j :: qr a :: st, M) x = Rr C mX13_undo (28, L, q_fv M a j.toNat :: st, M) x := g_iald (show decode cX13_undo 27 = .ok (.iaload, 1) by decide +kernel) hk h0 h1
set_option maxRecDepth 20000 in
theorem kX13_undo_28 {C : QC} {x : QP} {M : QM} {st : List CV} {L : QL} {z : Int} : Rr C mX13_undo (28, L, [qi z], M) x = x (some (qi z)) M := g_iret (show decode cX13_undo 28 = .ok (.ireturn, 1) by decide +kernel) rfl
set_option maxRecDepth 20000 in
theorem eX13_undo {d : Nat} {M : QM} {x : QP} {a : Nat} : q_T (d + 1) iX13_undo [qr a] M x = Rr (q_C d) mX13_undo (0, [some (qr a)], [], M) x := g_entryT (e := _) rfl (Nat.le_of_ble_eq_true rfl) rfl rfl
def mX13_count : QI := (13, cX13_count, false, some .int)
set_option maxRecDepth 20000 in
theorem kX13_count_0 {C : QC} {x : QP} {M : QM} {st : List CV} {L : QL} {l0 l1 : Option CV} {z : Int} : Rr C mX13_count (0, [l0, some (qi z)], st, M) x = Rr C mX13_count (1, [l0, some (qi z)], qi z :: st, M) x := g_pl (show decode cX13_count 0 = .ok (.iload_n 1, 1) by decide +kernel) rfl
set_option maxRecDepth 20000 in
theorem kX13_count_1 {C : QC} {x : QP} {M : QM} {st : List CV} {L : QL} {a : Int} (ha1 : -2147483648 ≤ a) (ha2 : a < 2147483648) : Rr C mX13_count (1, L, qi a :: st, M) x = (if a = 0 then Rr C mX13_count (40, L, st, M) x else if a = 1 then Rr C mX13_count (47, L, st, M) x else if a = 2 then Rr C mX13_count (54, L, st, M) x else if a = 3 then Rr C mX13_count (59, L, st, M) x else if a = 4 then Rr C mX13_count (64, L, st, M) x else if a = 5 then Rr C mX13_count (71, L, st, M) x else Rr C mX13_count (79, L, st, M) x) := by
  by_cases h0 : a = 0
  · subst h0; rw [if_pos rfl]; exact g_tsI (show decode cX13_count 1 = .ok (.tableswitch 78 0 5 #[39, 46, 53, 58, 63, 70], 39) by decide +kernel) (by decide) (by decide) rfl rfl
  rw [if_neg h0]
  by_cases h1 : a = 1
  · subst h1; rw [if_pos rfl]; exact g_tsI (show decode cX13_count 1 = .ok (.tableswitch 78 0 5 #[39, 46, 53, 58, 63, 70], 39) by decide +kernel) (by decide) (by decide) rfl rfl
  rw [if_neg h1]
  by_cases h2 : a = 2
  · subst h2; rw [if_pos rfl]; exact g_tsI (show decode cX13_count 1 = .ok (.tableswitch 78 0 5 #[39, 46, 53, 58, 63, 70], 39) by decide +kernel) (by decide) (by decide) rfl rfl
  rw [if_neg h2]
  by_cases h3 : a = 3
  · subst h3; rw [if_pos rfl]; exact g_tsI (show decode cX13_count 1 = .ok (.tableswitch 78 0 5 #[39, 46, 53, 58, 63, 70], 39) by decide +kernel) (by decide) (by decide) rfl rfl
  rw [if_neg h3]
  by_cases h4 : a = 4
  · subst h4; rw [if_pos rfl]; exact g_tsI (show decode cX13_count 1 = .ok (.tableswitch 78 0 5 #[39, 46, 53, 58, 63, 70], 39) by decide +kernel) (by decide) (by decide) rfl rfl
  rw [if_neg h4]
  by_cases h5 : a = 5
  · subst h5; rw [if_pos rfl]; exact g_tsI (show decode cX13_count 1 = .ok (.tableswitch 78 0 5 #[39, 46, 53, 58, 63, 70], 39) by decide +kernel) (by decide) (by decide) rfl rfl
  rw [if_neg h5]
  exact g_tsO (show decode cX13_count 1 = .ok (.tableswitch 78 0 5 #[39, 46, 53, 58, 63, 70], 39) by decide +kernel) ⟨ha1, ha2⟩ (by omega) rfl
set_option maxRecDepth 20000 in
theorem kX13_count_40 {C : QC} {x : QP} {M : QM} {st : List CV} {L : QL} {l0 l1 : Option CV} {r : Option Nat} : Rr C mX13_count (40, [some (.inr (.inr r)), l1], st, M) x = Rr C mX13_count (41, [some (.inr (.inr r)), l1], .inr (.inr r) :: st, M) x := g_pl (show decode cX13_count 40 = .ok (.aload_n 0, 1) by decide +kernel) rfl
set_option maxRecDepth 20000 in
theorem kX13_count_41 {C : QC} {x : QP} {M : QM} {st : List CV} {L : QL} {a : Nat} (hk : q_kd M a = (1, 13)) : Rr C mX13_count (41, L, qr a :: st, M) x = Rr C mX13_count (44, L, q_fv M a 0 :: st, M) x := g_getf (ow := 13) (e := (13, 0, RX13, 1301, 0)) (show decode cX13_count 41 = .ok (.getfield 10, 3) by decide +kernel) rfl hk
set_option maxRecDepth 20000 in
theorem kX13_count_44 {C : QC} {x : QP} {M : QM} {st : List CV} {L : QL} : Rr C mX13_count (44, L, st, M) x = Rr C mX13_count (45, L, qi 0 :: st, M) x := g_pl (show decode cX13_count 44 = .ok (.iconst 0, 1) by decide +kernel) rfl
set_option maxRecDepth 20000 in
theorem kX13_count_45 {C : QC} {x : QP} {M : QM} {st : List CV} {L : QL} {a : Nat} {j : Int} (hk : (q_kd M a).1 = 2) (h0 : 0 ≤ j) (h1 : j < ((q_kd M a).2 : Int)) : Rr C mX13_count (45, L, qi j :: qr a :: st, M) x = Rr C mX13_count (46, L, q_fv M a j.toNat :: st, M) x := g_iald (show decode cX13_count 45 = .ok (.iaload, 1) by decide +kernel) hk h0 h1
set_option maxRecDepth 20000 in
theorem kX13_count_46 {C : QC} {x : QP} {M : QM} {st : List CV} {L : QL} {z : Int} : Rr C mX13_count (46, L, [qi z], M) x = x (some (qi z)) M := g_iret (show decode cX13_count 46 = .ok (.ireturn, 1) by decide +kernel) rfl
set_option maxRecDepth 20000 in
theorem kX13_count_47 {C : QC} {x : QP} {M : QM} {st : List CV} {L : QL} {l0 l1 : Option CV} {r : Option Nat} : Rr C mX13_count (47, [some (.inr (.inr r)), l1], st, M) x = Rr C mX13_count (48, [some (.inr (.inr r)), l1], .inr (.inr r) :: st, M) x := g_pl (show decode cX13_count 47 = .ok (.aload_n 0, 1) by decide +kernel) rfl
set_option maxRecDepth 20000 in
theorem kX13_count_48 {C : QC} {x : QP} {M : QM} {st : List CV} {L : QL} {a : Nat} (hk : q_kd M a = (1, 13)) : Rr C mX13_count (48, L, qr a :: st, M) x = Rr C mX13_count (51, L, q_fv M a 0 :: st, M) x := g_getf (ow := 13) (e := (13, 0, RX13, 1301, 0)) (show decode cX13_count 48 = .ok (.getfield 10, 3) by decide +kernel) rfl hk
set_option maxRecDepth 20000 in
theorem kX13_count_51 {C : QC} {x : QP} {M : QM} {st : List CV} {L : QL} : Rr C mX13_count (51, L, st, M) x = Rr C mX13_count (52, L, qi 4 :: st, M) x := g_pl (show decode cX13_count 51 = .ok (.iconst 4, 1) by decide +kernel) rfl
set_option maxRecDepth 20000 in
theorem kX13_count_52 {C : QC} {x : QP} {M : QM} {st : List CV} {L : QL} {a : Nat} {j : Int} (hk : (q_kd M a).1 = 2) (h0 : 0 ≤ j) (h1 : j < ((q_kd M a).2 : Int)) : Rr C mX13_count (52, L, qi j :: qr a :: st, M) x = Rr C mX13_count (53, L, q_fv M a j.toNat :: st, M) x := g_iald (show decode cX13_count 52 = .ok (.iaload, 1) by decide +kernel) hk h0 h1
set_option maxRecDepth 20000 in
theorem kX13_count_53 {C : QC} {x : QP} {M : QM} {st : List CV} {L : QL} {z : Int} : Rr C mX13_count (53, L, [qi z], M) x = x (some (qi z)) M := g_iret (show decode cX13_count 53 = .ok (.ireturn, 1) by decide +kernel) rfl
set_option maxRecDepth 20000 in
theorem kX13_count_54 {C : QC} {x : QP} {M : QM} {st : List CV} {L : QL} {l0 l1 : Option CV} {r : Option Nat} : Rr C mX13_count (54, [some (.inr (.inr r)), l1], st, M) x = Rr C mX13_count (55, [some (.inr (.inr r)), l1], .inr (.inr r) :: st, M) x := g_pl (show decode cX13_count 54 = .ok (.aload_n 0, 1) by decide +kernel) rfl
set_option maxRecDepth 20000 in
theorem kX13_count_55 {C : QC} {x : QP} {M : QM} {st : List CV} {L : QL} {a : Nat} (hk : q_kd M a = (1, 13)) : Rr C mX13_count (55, L, qr a :: st, M) x = Rr C mX13_count (58, L, q_fv M a 4 :: st, M) x := g_getf (ow := 13) (e := (13, 4, RX13, 1305, 0)) (show decode cX13_count 55 = .ok (.getfield 69, 3) by decide +kernel) rfl hk
set_option maxRecDepth 20000 in
theorem kX13_count_58 {C : QC} {x : QP} {M : QM} {st : List CV} {L : QL} {z : Int} : Rr C mX13_count (58, L, [qi z], M) x = x (some (qi z)) M := g_iret (show decode cX13_count 58 = .ok (.ireturn, 1) by decide +kernel) rfl
set_option maxRecDepth 20000 in
theorem kX13_count_59 {C : QC} {x : QP} {M : QM} {st : List CV} {L : QL} {l0 l1 : Option CV} {r : Option Nat} : Rr C mX13_count (59, [some (.inr (.inr r)), l1], st, M) x = Rr C mX13_count (60, [some (.inr (.inr r)), l1], .inr (.inr r) :: st, M) x := g_pl (show decode cX13_count 59 = .ok (.aload_n 0, 1) by decide +kernel) rfl
set_option maxRecDepth 20000 in
theorem kX13_count_60 {C : QC} {x : QP} {M : QM} {st : List CV} {L : QL} {a : Nat} (hk : q_kd M a = (1, 13)) : Rr C mX13_count (60, L, qr a :: st, M) x = Rr C mX13_count (63, L, q_fv M a 1 :: st, M) x := g_getf (ow := 13) (e := (13, 1, RX13, 1302, 0)) (show decode cX13_count 60 = .ok (.getfield 36, 3) by decide +kernel) rfl hk
set_option maxRecDepth 20000 in
theorem kX13_count_63 {C : QC} {x : QP} {M : QM} {st : List CV} {L : QL} {z : Int} : Rr C mX13_count (63, L, [qi z], M) x = x (some (qi z)) M := g_iret (show decode cX13_count 63 = .ok (.ireturn, 1) by decide +kernel) rfl
set_option maxRecDepth 20000 in
theorem kX13_count_64 {C : QC} {x : QP} {M : QM} {st : List CV} {L : QL} {l0 l1 : Option CV} {r : Option Nat} : Rr C mX13_count (64, [some (.inr (.inr r)), l1], st, M) x = Rr C mX13_count (65, [some (.inr (.inr r)), l1], .inr (.inr r) :: st, M) x := g_pl (show decode cX13_count 64 = .ok (.aload_n 0, 1) by decide +kernel) rfl
set_option maxRecDepth 20000 in
theorem kX13_count_65 {C : QC} {x : QP} {M : QM} {st : List CV} {L : QL} {a : Nat} (hk : q_kd M a = (1, 13)) : Rr C mX13_count (65, L, qr a :: st, M) x = Rr C mX13_count (68, L, q_fv M a 0 :: st, M) x := g_getf (ow := 13) (e := (13, 0, RX13, 1301, 0)) (show decode cX13_count 65 = .ok (.getfield 10, 3) by decide +kernel) rfl hk
set_option maxRecDepth 20000 in
theorem kX13_count_68 {C : QC} {x : QP} {M : QM} {st : List CV} {L : QL} : Rr C mX13_count (68, L, st, M) x = Rr C mX13_count (69, L, qi 5 :: st, M) x := g_pl (show decode cX13_count 68 = .ok (.iconst 5, 1) by decide +kernel) rfl
set_option maxRecDepth 20000 in
theorem kX13_count_69 {C : QC} {x : QP} {M : QM} {st : List CV} {L : QL} {a : Nat} {j : Int} (hk : (q_kd M a).1 = 2) (h0 : 0 ≤ j) (h1 : j < ((q_kd M a).2 : Int)) : Rr C mX13_count (69, L, qi j :: qr a :: st, M) x = Rr C mX13_count (70, L, q_fv M a j.toNat :: st, M) x := g_iald (show decode cX13_count 69 = .ok (.iaload, 1) by decide +kernel) hk h0 h1
set_option maxRecDepth 20000 in
theorem kX13_count_70 {C : QC} {x : QP} {M : QM} {st : List CV} {L : QL} {z : Int} : Rr C mX13_count (70, L, [qi z], M) x = x (some (qi z)) M := g_iret (show decode cX13_count 70 = .ok (.ireturn, 1) by decide +kernel) rfl
set_option maxRecDepth 20000 in
theorem kX13_count_71 {C : QC} {x : QP} {M : QM} {st : List CV} {L : QL} {l0 l1 : Option CV} {r : Option Nat} : Rr C mX13_count (71, [some (.inr (.inr r)), l1], st, M) x = Rr C mX13_count (72, [some (.inr (.inr r)), l1], .inr (.inr r) :: st, M) x := g_pl (show decode cX13_count 71 = .ok (.aload_n 0, 1) by decide +kernel) rfl
set_option maxRecDepth 20000 in
theorem kX13_count_72 {C : QC} {x : QP} {M : QM} {st : List CV} {L : QL} {a : Nat} (hk : q_kd M a = (1, 13)) : Rr C mX13_count (72, L, qr a :: st, M) x = Rr C mX13_count (75, L, q_fv M a 0 :: st, M) x := g_getf (ow := 13) (e := (13, 0, RX13, 1301, 0)) (show decode cX13_count 72 = .ok (.getfield 10, 3) by decide +kernel) rfl hk
set_option maxRecDepth 20000 in
theorem kX13_count_75 {C : QC} {x : QP} {M : QM} {st : List CV} {L : QL} : Rr C mX13_count (75, L, st, M) x = Rr C mX13_count (77, L, qi 6 :: st, M) x := g_pl (show decode cX13_count 75 = .ok (.bipush 6, 2) by decide +kernel) rfl
set_option maxRecDepth 20000 in
theorem kX13_count_77 {C : QC} {x : QP} {M : QM} {st : List CV} {L : QL} {a : Nat} {j : Int} (hk : (q_kd M a).1 = 2) (h0 : 0 ≤ j) (h1 : j < ((q_kd M a).2 : Int)) : Rr C mX13_count (77, L, qi j :: qr a :: st, M) x = Rr C mX13_count (78, L, q_fv M a j.toNat :: st, M) x := g_iald (show decode cX13_count 77 = .ok (.iaload, 1) by decide +kernel) hk h0 h1
set_option maxRecDepth 20000 in
theorem kX13_count_78 {C : QC} {x : QP} {M : QM} {st : List CV} {L : QL} {z : Int} : Rr C mX13_count (78, L, [qi z], M) x = x (some (qi z)) M := g_iret (show decode cX13_count 78 = .ok (.ireturn, 1) by decide +kernel) rfl
set_option maxRecDepth 20000 in
theorem kX13_count_79 {C : QC} {x : QP} {M : QM} {st : List CV} {L : QL} : Rr C mX13_count (79, L, st, M) x = Rr C mX13_count (80, L, qi (-1) :: st, M) x := g_pl (show decode cX13_count 79 = .ok (.iconst (-1), 1) by decide +kernel) rfl
set_option maxRecDepth 20000 in
theorem kX13_count_80 {C : QC} {x : QP} {M : QM} {st : List CV} {L : QL} {z : Int} : Rr C mX13_count (80, L, [qi z], M) x = x (some (qi z)) M := g_iret (show decode cX13_count 80 = .ok (.ireturn, 1) by decide +kernel) rfl
set_option maxRecDepth 20000 in
theorem eX13_count {d : Nat} {M : QM} {x : QP} {a : Nat} {v0 : Int} : q_T (d + 1) iX13_count [qr a, qi v0] M x = Rr (q_C d) mX13_count (0, [some (qr a), some (qi v0)], [], M) x := g_entryT (e := _) rfl (Nat.le_of_ble_eq_true rfl) rfl rfl
