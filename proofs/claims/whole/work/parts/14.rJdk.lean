/-! rules, one for each instruction: written by a program out of the code -/
def mJ4_init_da8c8 : QI := (14, cJ4_init_da8c8, true, none)
set_option maxRecDepth 20000 in
theorem kJ4_init_da8c8_0 {C : QC} {x : QP} {M : QM} {st : List CV} {L : QL} {r : Option Nat} : Rr C mJ4_init_da8c8 (0, [some (.inr (.inr r))], st, M) x = Rr C mJ4_init_da8c8 (1, [some (.inr (.inr r))], .inr (.inr r) :: st, M) x := g_pl (show decode cJ4_init_da8c8 0 = .ok (.aload_n 0, 1) by decide +kernel) rfl
set_option maxRecDepth 20000 in
theorem kJ4_init_da8c8_1 {C : QC} {x : QP} {M : QM} {st : List CV} {L : QL} : Rr C mJ4_init_da8c8 (1, L, st, M) x = Rr C mJ4_init_da8c8 (3, L, qi 16 :: st, M) x := g_pl (show decode cJ4_init_da8c8 1 = .ok (.bipush 16, 2) by decide +kernel) rfl
set_option maxRecDepth 20000 in
theorem kJ4_init_da8c8_3 {C : QC} {x : QP} {M : QM} {L : QL} {rest : List CV} {a0 : CV} {M1 : QM} {b : Nat} (hC : C iJ5_init_d00df [qr b, a0] M none M1) (hw : (rest.map q_wd).sum ≤ 8) (k : Rr C mJ4_init_da8c8 (6, L, rest, M1) x) : Rr C mJ4_init_da8c8 (3, L, a0 :: qr b :: rest, M) x := g_ci (ow := 14) (e := (3, 14, 0, [350, 351, 90])) (as := [a0]) (show decode cJ4_init_da8c8 3 = .ok (.invokespecial 1, 3) by decide +kernel) rfl rfl rfl (Or.inl (Or.inl rfl)) rfl hC hw k
set_option maxRecDepth 20000 in
theorem kJ4_init_da8c8_6 {C : QC} {x : QP} {M : QM} {st : List CV} {L : QL} : Rr C mJ4_init_da8c8 (6, L, [], M) x = x none M := g_vret (show decode cJ4_init_da8c8 6 = .ok (.return_, 1) by decide +kernel)
set_option maxRecDepth 20000 in
theorem eJ4_init_da8c8 {d : Nat} {M : QM} {x : QP} {a : Nat} : q_T (d + 1) iJ4_init_da8c8 [qr a] M x = Rr (q_C d) mJ4_init_da8c8 (0, [some (qr a)], [], M) x := g_entryT (e := _) rfl (Nat.le_of_ble_eq_true rfl) rfl rfl
def mJ4_append_cf468 : QI := (14, cJ4_append_cf468, false, some (.object "java/lang/StringBuilder"))
set_option maxRecDepth 20000 in
theorem kJ4_append_cf468_0 {C : QC} {x : QP} {M : QM} {st : List CV} {L : QL} {l0 l1 : Option CV} {r : Option Nat} : Rr C mJ4_append_cf468 (0, [some (.inr (.inr r)), l1], st, M) x = Rr C mJ4_append_cf468 (1, [some (.inr (.inr r)), l1], .inr (.inr r) :: st, M) x := g_pl (show decode cJ4_append_cf468 0 = .ok (.aload_n 0, 1) by decide +kernel) rfl
set_option maxRecDepth 20000 in
theorem kJ4_append_cf468_1 {C : QC} {x : QP} {M : QM} {st : List CV} {L : QL} {l0 l1 : Option CV} {z : Int} : Rr C mJ4_append_cf468 (1, [l0, some (qi z)], st, M) x = Rr C mJ4_append_cf468 (2, [l0, some (qi z)], qi z :: st, M) x := g_pl (show decode cJ4_append_cf468 1 = .ok (.iload_n 1, 1) by decide +kernel) rfl
set_option maxRecDepth 20000 in
theorem kJ4_append_cf468_2 {C : QC} {x : QP} {M : QM} {L : QL} {rest : List CV} {a0 : CV} {v : CV} {M1 : QM} {b : Nat} (hb : (q_kd M b).1 = 1) (hC : C iJ5_append_3fe6f [qr b, a0] M (some v) M1) (hw : (rest.map q_wd).sum ≤ 8) (k : Rr C mJ4_append_cf468 (5, L, v :: rest, M1) x) : Rr C mJ4_append_cf468 (2, L, a0 :: qr b :: rest, M) x := g_ci (ow := 14) (e := (7, 155, 0, [1079, 1677, 375, 1080, 90])) (as := [a0]) (show decode cJ4_append_cf468 2 = .ok (.invokespecial 50, 3) by decide +kernel) rfl rfl rfl (Or.inr ⟨rfl, hb⟩) rfl hC hw k
set_option maxRecDepth 20000 in
theorem kJ4_append_cf468_5i {C : QC} {x : QP} {M : QM} {st : List CV} {L : QL} {a : Int} : Rr C mJ4_append_cf468 (5, L, qi a :: st, M) x = Rr C mJ4_append_cf468 (6, L, st, M) x := g_pl (show decode cJ4_append_cf468 5 = .ok (.pop, 1) by decide +kernel) rfl
set_option maxRecDepth 20000 in
theorem kJ4_append_cf468_5r {C : QC} {x : QP} {M : QM} {st : List CV} {L : QL} {a : Option Nat} : Rr C mJ4_append_cf468 (5, L, .inr (.inr a) :: st, M) x = Rr C mJ4_append_cf468 (6, L, st, M) x := g_pl (show decode cJ4_append_cf468 5 = .ok (.pop, 1) by decide +kernel) rfl
set_option maxRecDepth 20000 in
theorem kJ4_append_cf468_6 {C : QC} {x : QP} {M : QM} {st : List CV} {L : QL} {l0 l1 : Option CV} {r : Option Nat} : Rr C mJ4_append_cf468 (6, [some (.inr (.inr r)), l1], st, M) x = Rr C mJ4_append_cf468 (7, [some (.inr (.inr r)), l1], .inr (.inr r) :: st, M) x := g_pl (show decode cJ4_append_cf468 6 = .ok (.aload_n 0, 1) by decide +kernel) rfl
set_option maxRecDepth 20000 in
theorem kJ4_append_cf468_7 {C : QC} {x : QP} {M : QM} {st : List CV} {L : QL} {r : Option Nat} : Rr C mJ4_append_cf468 (7, L, [.inr (.inr r)], M) x = x (some (.inr (.inr r))) M := g_areto (show decode cJ4_append_cf468 7 = .ok (.areturn, 1) by decide +kernel)
set_option maxRecDepth 20000 in
theorem eJ4_append_cf468 {d : Nat} {M : QM} {x : QP} {a : Nat} {v0 : Int} : q_T (d + 1) iJ4_append_cf468 [qr a, qi v0] M x = Rr (q_C d) mJ4_append_cf468 (0, [some (qr a), some (qi v0)], [], M) x := g_entryT (e := _) rfl (Nat.le_of_ble_eq_true rfl) rfl rfl
def mJ4_append_bf812 : QI := (14, cJ4_append_bf812, false, some (.object "java/lang/StringBuilder"))
set_option maxRecDepth 20000 in
theorem kJ4_append_bf812_0 {C : QC} {x : QP} {M : QM} {st : List CV} {L : QL} {l0 l1 : Option CV} {r : Option Nat} : Rr C mJ4_append_bf812 (0, [some (.inr (.inr r)), l1], st, M) x = Rr C mJ4_append_bf812 (1, [some (.inr (.inr r)), l1], .inr (.inr r) :: st, M) x := g_pl (show decode cJ4_append_bf812 0 = .ok (.aload_n 0, 1) by decide +kernel) rfl
set_option maxRecDepth 20000 in
theorem kJ4_append_bf812_1 {C : QC} {x : QP} {M : QM} {st : List CV} {L : QL} {l0 l1 : Option CV} {z : Int} : Rr C mJ4_append_bf812 (1, [l0, some (qi z)], st, M) x = Rr C mJ4_append_bf812 (2, [l0, some (qi z)], qi z :: st, M) x := g_pl (show decode cJ4_append_bf812 1 = .ok (.iload_n 1, 1) by decide +kernel) rfl
set_option maxRecDepth 20000 in
theorem kJ4_append_bf812_2 {C : QC} {x : QP} {M : QM} {L : QL} {rest : List CV} {a0 : CV} {v : CV} {M1 : QM} {b : Nat} (hb : (q_kd M b).1 = 1) (hC : C iJ5_append_c97b9 [qr b, a0] M (some v) M1) (hw : (rest.map q_wd).sum ≤ 8) (k : Rr C mJ4_append_bf812 (5, L, v :: rest, M1) x) : Rr C mJ4_append_bf812 (2, L, a0 :: qr b :: rest, M) x := g_ci (ow := 14) (e := (7, 168, 0, [1160, 1679, 375, 1161, 90])) (as := [a0]) (show decode cJ4_append_bf812 2 = .ok (.invokespecial 53, 3) by decide +kernel) rfl rfl rfl (Or.inr ⟨rfl, hb⟩) rfl hC hw k
set_option maxRecDepth 20000 in
theorem kJ4_append_bf812_5i {C : QC} {x : QP} {M : QM} {st : List CV} {L : QL} {a : Int} : Rr C mJ4_append_bf812 (5, L, qi a :: st, M) x = Rr C mJ4_append_bf812 (6, L, st, M) x := g_pl (show decode cJ4_append_bf812 5 = .ok (.pop, 1) by decide +kernel) rfl
set_option maxRecDepth 20000 in
theorem kJ4_append_bf812_5r {C : QC} {x : QP} {M : QM} {st : List CV} {L : QL} {a : Option Nat} : Rr C mJ4_append_bf812 (5, L, .inr (.inr a) :: st, M) x = Rr C mJ4_append_bf812 (6, L, st, M) x := g_pl (show decode cJ4_append_bf812 5 = .ok (.pop, 1) by decide +kernel) rfl
set_option maxRecDepth 20000 in
theorem kJ4_append_bf812_6 {C : QC} {x : QP} {M : QM} {st : List CV} {L : QL} {l0 l1 : Option CV} {r : Option Nat} : Rr C mJ4_append_bf812 (6, [some (.inr (.inr r)), l1], st, M) x = Rr C mJ4_append_bf812 (7, [some (.inr (.inr r)), l1], .inr (.inr r) :: st, M) x := g_pl (show decode cJ4_append_bf812 6 = .ok (.aload_n 0, 1) by decide +kernel) rfl
set_option maxRecDepth 20000 in
theorem kJ4_append_bf812_7 {C : QC} {x : QP} {M : QM} {st : List CV} {L : QL} {r : Option Nat} : Rr C mJ4_append_bf812 (7, L, [.inr (.inr r)], M) x = x (some (.inr (.inr r))) M := g_areto (show decode cJ4_append_bf812 7 = .ok (.areturn, 1) by decide +kernel)
set_option maxRecDepth 20000 in
theorem eJ4_append_bf812 {d : Nat} {M : QM} {x : QP} {a : Nat} {v0 : Int} : q_T (d + 1) iJ4_append_bf812 [qr a, qi v0] M x = Rr (q_C d) mJ4_append_bf812 (0, [some (qr a), some (qi v0)], [], M) x := g_entryT (e := _) rfl (Nat.le_of_ble_eq_true rfl) rfl rfl
def mJ4_charAt_5068e : QI := (14, cJ4_charAt_5068e, false, some .char)
set_option maxRecDepth 20000 in
theorem kJ4_charAt_5068e_0 {C : QC} {x : QP} {M : QM} {st : List CV} {L : QL} {l0 l1 : Option CV} {r : Option Nat} : Rr C mJ4_charAt_5068e (0, [some (.inr (.inr r)), l1], st, M) x = Rr C mJ4_charAt_5068e (1, [some (.inr (.inr r)), l1], .inr (.inr r) :: st, M) x := g_pl (show decode cJ4_charAt_5068e 0 = .ok (.aload_n 0, 1) by decide +kernel) rfl
set_option maxRecDepth 20000 in
theorem kJ4_charAt_5068e_1 {C : QC} {x : QP} {M : QM} {st : List CV} {L : QL} {l0 l1 : Option CV} {z : Int} : Rr C mJ4_charAt_5068e (1, [l0, some (qi z)], st, M) x = Rr C mJ4_charAt_5068e (2, [l0, some (qi z)], qi z :: st, M) x := g_pl (show decode cJ4_charAt_5068e 1 = .ok (.iload_n 1, 1) by decide +kernel) rfl
set_option maxRecDepth 20000 in
theorem kJ4_charAt_5068e_2 {C : QC} {x : QP} {M : QM} {L : QL} {rest : List CV} {a0 : CV} {v : CV} {M1 : QM} {b : Nat} (hb : (q_kd M b).1 = 1) (hC : C iJ5_charAt_5068e [qr b, a0] M (some v) M1) (hw : (rest.map q_wd).sum ≤ 8) (k : Rr C mJ4_charAt_5068e (5, L, v :: rest, M1) x) : Rr C mJ4_charAt_5068e (2, L, a0 :: qr b :: rest, M) x := g_ci (ow := 14) (e := (7, 177, 0, [1205, 1681, 375, 1206, 90])) (as := [a0]) (show decode cJ4_charAt_5068e 2 = .ok (.invokespecial 329, 3) by decide +kernel) rfl rfl rfl (Or.inr ⟨rfl, hb⟩) rfl hC hw k
set_option maxRecDepth 20000 in
theorem kJ4_charAt_5068e_5 {C : QC} {x : QP} {M : QM} {st : List CV} {L : QL} {z : Int} (hz1 : 0 ≤ z) (hz2 : z ≤ 65535) : Rr C mJ4_charAt_5068e (5, L, [qi z], M) x = x (some (qi z)) M := g_iret (show decode cJ4_charAt_5068e 5 = .ok (.ireturn, 1) by decide +kernel) (by show (decide (0 ≤ z) && decide (z ≤ 65535)) = true; simp [hz1, hz2])
set_option maxRecDepth 20000 in
theorem eJ4_charAt_5068e {d : Nat} {M : QM} {x : QP} {a : Nat} {v0 : Int} : q_T (d + 1) iJ4_charAt_5068e [qr a, qi v0] M x = Rr (q_C d) mJ4_charAt_5068e (0, [some (qr a), some (qi v0)], [], M) x := g_entryT (e := _) rfl (Nat.le_of_ble_eq_true rfl) rfl rfl
def mJ4_setLength_d00df : QI := (14, cJ4_setLength_d00df, false, none)
set_option maxRecDepth 20000 in
theorem kJ4_setLength_d00df_0 {C : QC} {x : QP} {M : QM} {st : List CV} {L : QL} {l0 l1 : Option CV} {r : Option Nat} : Rr C mJ4_setLength_d00df (0, [some (.inr (.inr r)), l1], st, M) x = Rr C mJ4_setLength_d00df (1, [some (.inr (.inr r)), l1], .inr (.inr r) :: st, M) x := g_pl (show decode cJ4_setLength_d00df 0 = .ok (.aload_n 0, 1) by decide +kernel) rfl
set_option maxRecDepth 20000 in
theorem kJ4_setLength_d00df_1 {C : QC} {x : QP} {M : QM} {st : List CV} {L : QL} {l0 l1 : Option CV} {z : Int} : Rr C mJ4_setLength_d00df (1, [l0, some (qi z)], st, M) x = Rr C mJ4_setLength_d00df (2, [l0, some (qi z)], qi z :: st, M) x := g_pl (show decode cJ4_setLength_d00df 1 = .ok (.iload_n 1, 1) by decide +kernel) rfl
set_option maxRecDepth 20000 in
theorem kJ4_setLength_d00df_2 {C : QC} {x : QP} {M : QM} {L : QL} {rest : List CV} {a0 : CV} {M1 : QM} {b : Nat} (hb : (q_kd M b).1 = 1) (hC : C iJ5_setLength_d00df [qr b, a0] M none M1) (hw : (rest.map q_wd).sum ≤ 8) (k : Rr C mJ4_setLength_d00df (5, L, rest, M1) x) : Rr C mJ4_setLength_d00df (2, L, a0 :: qr b :: rest, M) x := g_ci (ow := 14) (e := (7, 145, 0, [1032, 1674, 375, 1033, 90])) (as := [a0]) (show decode cJ4_setLength_d00df 2 = .ok (.invokespecial 333, 3) by decide +kernel) rfl rfl rfl (Or.inr ⟨rfl, hb⟩) rfl hC hw k
set_option maxRecDepth 20000 in
theorem kJ4_setLength_d00df_5 {C : QC} {x : QP} {M : QM} {st : List CV} {L : QL} : Rr C mJ4_setLength_d00df (5, L, [], M) x = x none M := g_vret (show decode cJ4_setLength_d00df 5 = .ok (.return_, 1) by decide +kernel)
set_option maxRecDepth 20000 in
theorem eJ4_setLength_d00df {d : Nat} {M : QM} {x : QP} {a : Nat} {v0 : Int} : q_T (d + 1) iJ4_setLength_d00df [qr a, qi v0] M x = Rr (q_C d) mJ4_setLength_d00df (0, [some (qr a), some (qi v0)], [], M) x := g_entryT (e := _) rfl (Nat.le_of_ble_eq_true rfl) rfl rfl
def mJ4_length_8abf5 : QI := (14, cJ4_length_8abf5, false, some .int)
set_option maxRecDepth 20000 in
theorem kJ4_length_8abf5_0 {C : QC} {x : QP} {M : QM} {st : List CV} {L : QL} {r : Option Nat} : Rr C mJ4_length_8abf5 (0, [some (.inr (.inr r))], st, M) x = Rr C mJ4_length_8abf5 (1, [some (.inr (.inr r))], .inr (.inr r) :: st, M) x := g_pl (show decode cJ4_length_8abf5 0 = .ok (.aload_n 0, 1) by decide +kernel) rfl
set_option maxRecDepth 20000 in
theorem kJ4_length_8abf5_1 {C : QC} {x : QP} {M : QM} {L : QL} {rest : List CV} {v : CV} {M1 : QM} {b : Nat} (hb : (q_kd M b).1 = 1) (hC : C iJ5_length_8abf5 [qr b] M (some v) M1) (hw : (rest.map q_wd).sum ≤ 8) (k : Rr C mJ4_length_8abf5 (4, L, v :: rest, M1) x) : Rr C mJ4_length_8abf5 (1, L, qr b :: rest, M) x := g_ci (ow := 14) (e := (7, 174, 0, [1194, 1680, 375, 1195, 90])) (as := []) (show decode cJ4_length_8abf5 1 = .ok (.invokespecial 343, 3) by decide +kernel) rfl rfl rfl (Or.inr ⟨rfl, hb⟩) rfl hC hw k
set_option maxRecDepth 20000 in
theorem kJ4_length_8abf5_4 {C : QC} {x : QP} {M : QM} {st : List CV} {L : QL} {z : Int} : Rr C mJ4_length_8abf5 (4, L, [qi z], M) x = x (some (qi z)) M := g_iret (show decode cJ4_length_8abf5 4 = .ok (.ireturn, 1) by decide +kernel) rfl
set_option maxRecDepth 20000 in
theorem eJ4_length_8abf5 {d : Nat} {M : QM} {x : QP} {a : Nat} : q_T (d + 1) iJ4_length_8abf5 [qr a] M x = Rr (q_C d) mJ4_length_8abf5 (0, [some (qr a)], [], M) x := g_entryT (e := _) rfl (Nat.le_of_ble_eq_true rfl) rfl rfl
def mJ5_init_d00df : QI := (17, cJ5_init_d00df, true, none)
set_option maxRecDepth 20000 in
theorem kJ5_init_d00df_0 {C : QC} {x : QP} {M : QM} {st : List CV} {L : QL} {l0 l1 : Option CV} {r : Option Nat} : Rr C mJ5_init_d00df (0, [some (.inr (.inr r)), l1], st, M) x = Rr C mJ5_init_d00df (1, [some (.inr (.inr r)), l1], .inr (.inr r) :: st, M) x := g_pl (show decode cJ5_init_d00df 0 = .ok (.aload_n 0, 1) by decide +kernel) rfl
set_option maxRecDepth 20000 in
theorem kJ5_init_d00df_1 {C : QC} {x : QP} {M : QM} {st : List CV} {L : QL} {a : Nat} (hw : (st.map q_wd).sum ≤ 8) : Rr C mJ5_init_d00df (1, L, qr a :: st, M) x = Rr C mJ5_init_d00df (4, L, st, M) x := g_obj (ow := 17) (e := 353) (show decode cJ5_init_d00df 1 = .ok (.invokespecial 3, 3) by decide +kernel) rfl hw
set_option maxRecDepth 20000 in
theorem kJ5_init_d00df_4 {C : QC} {x : QP} {M : QM} {st : List CV} {L : QL} : Rr C mJ5_init_d00df (4, L, st, M) x = Rr C mJ5_init_d00df (7, L, qi 1 :: st, M) x := g_gets (ow := 17) (e := (1, "java/lang/String", "COMPACT_STRINGS", "Z", 354)) (show decode cJ5_init_d00df 4 = .ok (.getstatic 18, 3) by decide +kernel) rfl
set_option maxRecDepth 20000 in
theorem kJ5_init_d00df_7 {C : QC} {x : QP} {M : QM} {st : List CV} {L : QL} {a : Int} (ha1 : -2147483648 ≤ a) (ha2 : a < 2147483648) : Rr C mJ5_init_d00df (7, L, qi a :: st, M) x = (if a = 0 then Rr C mJ5_init_d00df (25, L, st, M) x else Rr C mJ5_init_d00df (10, L, st, M) x) := (g_if (show decode cJ5_init_d00df 7 = .ok (.ifCond .eq 18, 3) by decide +kernel) rfl ha1 ha2).trans (g_ite c_eq)
set_option maxRecDepth 20000 in
theorem kJ5_init_d00df_10 {C : QC} {x : QP} {M : QM} {st : List CV} {L : QL} {l0 l1 : Option CV} {r : Option Nat} : Rr C mJ5_init_d00df (10, [some (.inr (.inr r)), l1], st, M) x = Rr C mJ5_init_d00df (11, [some (.inr (.inr r)), l1], .inr (.inr r) :: st, M) x := g_pl (show decode cJ5_init_d00df 10 = .ok (.aload_n 0, 1) by decide +kernel) rfl
set_option maxRecDepth 20000 in
theorem kJ5_init_d00df_11 {C : QC} {x : QP} {M : QM} {st : List CV} {L : QL} {l0 l1 : Option CV} {z : Int} : Rr C mJ5_init_d00df (11, [l0, some (qi z)], st, M) x = Rr C mJ5_init_d00df (12, [l0, some (qi z)], qi z :: st, M) x := g_pl (show decode cJ5_init_d00df 11 = .ok (.iload_n 1, 1) by decide +kernel) rfl
set_option maxRecDepth 20000 in
theorem kJ5_init_d00df_12 {C : QC} {x : QP} {M : QM} {st : List CV} {L : QL} {n : Int} (h0 : 0 ≤ n) (h1 : n ≤ 60000000) : Rr C mJ5_init_d00df (12, L, qi n :: st, M) x = Rr C mJ5_init_d00df (14, L, qr (q_top M) :: st, q_al M (4, n.toNat) n.toNat (fun _ => qi 0)) x := g_newB (show decode cJ5_init_d00df 12 = .ok (.newarray .byte, 2) by decide +kernel) h0 h1
set_option maxRecDepth 20000 in
theorem kJ5_init_d00df_14 {C : QC} {x : QP} {M : QM} {st : List CV} {L : QL} {z : Option Nat} {a : Nat} (hk : q_kd M a = (1, 14)) : Rr C mJ5_init_d00df (14, L, .inr (.inr z) :: qr a :: st, M) x = Rr C mJ5_init_d00df (17, L, st, q_wr M a 0 (.inr (.inr z))) x := g_putf (ow := 17) (ini := true) (e := (14, 0, RJ5, 363, 0)) (r := (RJ4, TJ4, 4)) (t := tyJ4) (show decode cJ5_init_d00df 14 = .ok (.putfield 15, 3) by decide +kernel) rfl rfl rfl rfl (by decide +kernel) hk
set_option maxRecDepth 20000 in
theorem kJ5_init_d00df_17 {C : QC} {x : QP} {M : QM} {st : List CV} {L : QL} {l0 l1 : Option CV} {r : Option Nat} : Rr C mJ5_init_d00df (17, [some (.inr (.inr r)), l1], st, M) x = Rr C mJ5_init_d00df (18, [some (.inr (.inr r)), l1], .inr (.inr r) :: st, M) x := g_pl (show decode cJ5_init_d00df 17 = .ok (.aload_n 0, 1) by decide +kernel) rfl
set_option maxRecDepth 20000 in
theorem kJ5_init_d00df_18 {C : QC} {x : QP} {M : QM} {st : List CV} {L : QL} : Rr C mJ5_init_d00df (18, L, st, M) x = Rr C mJ5_init_d00df (19, L, qi 0 :: st, M) x := g_pl (show decode cJ5_init_d00df 18 = .ok (.iconst 0, 1) by decide +kernel) rfl
set_option maxRecDepth 20000 in
theorem kJ5_init_d00df_19 {C : QC} {x : QP} {M : QM} {st : List CV} {L : QL} {z : Int} (hz1 : -128 ≤ z) (hz2 : z ≤ 127) {a : Nat} (hk : q_kd M a = (1, 14)) : Rr C mJ5_init_d00df (19, L, qi z :: qr a :: st, M) x = Rr C mJ5_init_d00df (22, L, st, q_wr M a 1 (qi z)) x := g_putf (ow := 17) (ini := true) (e := (14, 1, RJ5, 364, 0)) (r := (RJ4, TJ4, 4)) (t := tyJ4) (show decode cJ5_init_d00df 19 = .ok (.putfield 22, 3) by decide +kernel) rfl rfl rfl (by show (decide (-128 ≤ z) && decide (z ≤ 127)) = true; simp [hz1, hz2]) (by decide +kernel) hk
set_option maxRecDepth 20000 in
theorem kJ5_init_d00df_22 {C : QC} {x : QP} {M : QM} {st : List CV} {L : QL} : Rr C mJ5_init_d00df (22, L, st, M) x = Rr C mJ5_init_d00df (38, L, st, M) x := g_pl (show decode cJ5_init_d00df 22 = .ok (.goto 16, 3) by decide +kernel) rfl
set_option maxRecDepth 20000 in
theorem kJ5_init_d00df_25 {C : QC} {x : QP} {M : QM} {st : List CV} {L : QL} {l0 l1 : Option CV} {r : Option Nat} : Rr C mJ5_init_d00df (25, [some (.inr (.inr r)), l1], st, M) x = Rr C mJ5_init_d00df (26, [some (.inr (.inr r)), l1], .inr (.inr r) :: st, M) x := g_pl (show decode cJ5_init_d00df 25 = .ok (.aload_n 0, 1) by decide +kernel) rfl
set_option maxRecDepth 20000 in
theorem kJ5_init_d00df_26 {C : QC} {x : QP} {M : QM} {st : List CV} {L : QL} {l0 l1 : Option CV} {z : Int} : Rr C mJ5_init_d00df (26, [l0, some (qi z)], st, M) x = Rr C mJ5_init_d00df (27, [l0, some (qi z)], qi z :: st, M) x := g_pl (show decode cJ5_init_d00df 26 = .ok (.iload_n 1, 1) by decide +kernel) rfl
set_option maxRecDepth 20000 in
theorem kJ5_init_d00df_30 {C : QC} {x : QP} {M : QM} {st : List CV} {L : QL} {z : Option Nat} {a : Nat} (hk : q_kd M a = (1, 14)) : Rr C mJ5_init_d00df (30, L, .inr (.inr z) :: qr a :: st, M) x = Rr C mJ5_init_d00df (33, L, st, q_wr M a 0 (.inr (.inr z))) x := g_putf (ow := 17) (ini := true) (e := (14, 0, RJ5, 363, 0)) (r := (RJ4, TJ4, 4)) (t := tyJ4) (show decode cJ5_init_d00df 30 = .ok (.putfield 15, 3) by decide +kernel) rfl rfl rfl rfl (by decide +kernel) hk
set_option maxRecDepth 20000 in
theorem kJ5_init_d00df_33 {C : QC} {x : QP} {M : QM} {st : List CV} {L : QL} {l0 l1 : Option CV} {r : Option Nat} : Rr C mJ5_init_d00df (33, [some (.inr (.inr r)), l1], st, M) x = Rr C mJ5_init_d00df (34, [some (.inr (.inr r)), l1], .inr (.inr r) :: st, M) x := g_pl (show decode cJ5_init_d00df 33 = .ok (.aload_n 0, 1) by decide +kernel) rfl
set_option maxRecDepth 20000 in
theorem kJ5_init_d00df_34 {C : QC} {x : QP} {M : QM} {st : List CV} {L : QL} : Rr C mJ5_init_d00df (34, L, st, M) x = Rr C mJ5_init_d00df (35, L, qi 1 :: st, M) x := g_pl (show decode cJ5_init_d00df 34 = .ok (.iconst 1, 1) by decide +kernel) rfl
set_option maxRecDepth 20000 in
theorem kJ5_init_d00df_35 {C : QC} {x : QP} {M : QM} {st : List CV} {L : QL} {z : Int} (hz1 : -128 ≤ z) (hz2 : z ≤ 127) {a : Nat} (hk : q_kd M a = (1, 14)) : Rr C mJ5_init_d00df (35, L, qi z :: qr a :: st, M) x = Rr C mJ5_init_d00df (38, L, st, q_wr M a 1 (qi z)) x := g_putf (ow := 17) (ini := true) (e := (14, 1, RJ5, 364, 0)) (r := (RJ4, TJ4, 4)) (t := tyJ4) (show decode cJ5_init_d00df 35 = .ok (.putfield 22, 3) by decide +kernel) rfl rfl rfl (by show (decide (-128 ≤ z) && decide (z ≤ 127)) = true; simp [hz1, hz2]) (by decide +kernel) hk
set_option maxRecDepth 20000 in
theorem kJ5_init_d00df_38 {C : QC} {x : QP} {M : QM} {st : List CV} {L : QL} : Rr C mJ5_init_d00df (38, L, [], M) x = x none M := g_vret (show decode cJ5_init_d00df 38 = .ok (.return_, 1) by decide +kernel)
set_option maxRecDepth 20000 in
theorem eJ5_init_d00df {d : Nat} {M : QM} {x : QP} {a : Nat} {v0 : Int} : q_T (d + 1) iJ5_init_d00df [qr a, qi v0] M x = Rr (q_C d) mJ5_init_d00df (0, [some (qr a), some (qi v0)], [], M) x := g_entryT (e := _) rfl (Nat.le_of_ble_eq_true rfl) rfl rfl
def mJ5_length_8abf5 : QI := (17, cJ5_length_8abf5, false, some .int)
set_option maxRecDepth 20000 in
theorem kJ5_length_8abf5_0 {C : QC} {x : QP} {M : QM} {st : List CV} {L : QL} {r : Option Nat} : Rr C mJ5_length_8abf5 (0, [some (.inr (.inr r))], st, M) x = Rr C mJ5_length_8abf5 (1, [some (.inr (.inr r))], .inr (.inr r) :: st, M) x := g_pl (show decode cJ5_length_8abf5 0 = .ok (.aload_n 0, 1) by decide +kernel) rfl
set_option maxRecDepth 20000 in
theorem kJ5_length_8abf5_1 {C : QC} {x : QP} {M : QM} {st : List CV} {L : QL} {a : Nat} (hk : q_kd M a = (1, 14)) : Rr C mJ5_length_8abf5 (1, L, qr a :: st, M) x = Rr C mJ5_length_8abf5 (4, L, q_fv M a 3 :: st, M) x := g_getf (ow := 17) (e := (14, 3, RJ5, 366, 0)) (show decode cJ5_length_8abf5 1 = .ok (.getfield 79, 3) by decide +kernel) rfl hk
set_option maxRecDepth 20000 in
theorem kJ5_length_8abf5_4 {C : QC} {x : QP} {M : QM} {st : List CV} {L : QL} {z : Int} : Rr C mJ5_length_8abf5 (4, L, [qi z], M) x = x (some (qi z)) M := g_iret (show decode cJ5_length_8abf5 4 = .ok (.ireturn, 1) by decide +kernel) rfl
set_option maxRecDepth 20000 in
theorem eJ5_length_8abf5 {d : Nat} {M : QM} {x : QP} {a : Nat} : q_T (d + 1) iJ5_length_8abf5 [qr a] M x = Rr (q_C d) mJ5_length_8abf5 (0, [some (qr a)], [], M) x := g_entryT (e := _) rfl (Nat.le_of_ble_eq_true rfl) rfl rfl
def mJ5_ensureCapacityInternal_d00df : QI := (17, cJ5_ensureCapacityInternal_d00df, false, none)
set_option maxRecDepth 20000 in
theorem kJ5_ensureCapacityInternal_d00df_0 {C : QC} {x : QP} {M : QM} {st : List CV} {L : QL} {l0 l1 l2 : Option CV} {r : Option Nat} : Rr C mJ5_ensureCapacityInternal_d00df (0, [some (.inr (.inr r)), l1, l2], st, M) x = Rr C mJ5_ensureCapacityInternal_d00df (1, [some (.inr (.inr r)), l1, l2], .inr (.inr r) :: st, M) x := g_pl (show decode cJ5_ensureCapacityInternal_d00df 0 = .ok (.aload_n 0, 1) by decide +kernel) rfl
set_option maxRecDepth 20000 in
theorem kJ5_ensureCapacityInternal_d00df_1 {C : QC} {x : QP} {M : QM} {st : List CV} {L : QL} {a : Nat} (hk : q_kd M a = (1, 14)) : Rr C mJ5_ensureCapacityInternal_d00df (1, L, qr a :: st, M) x = Rr C mJ5_ensureCapacityInternal_d00df (4, L, q_fv M a 0 :: st, M) x := g_getf (ow := 17) (e := (14, 0, RJ5, 363, 0)) (show decode cJ5_ensureCapacityInternal_d00df 1 = .ok (.getfield 15, 3) by decide +kernel) rfl hk
set_option maxRecDepth 20000 in
theorem kJ5_ensureCapacityInternal_d00df_4 {C : QC} {x : QP} {M : QM} {st : List CV} {L : QL} {a : Nat} (h1 : 2 ≤ (q_kd M a).1) (h2 : (q_kd M a).1 ≤ 9) : Rr C mJ5_ensureCapacityInternal_d00df (4, L, qr a :: st, M) x = Rr C mJ5_ensureCapacityInternal_d00df (5, L, qi (q_kd M a).2 :: st, M) x := g_alen (show decode cJ5_ensureCapacityInternal_d00df 4 = .ok (.arraylength, 1) by decide +kernel) h1 h2
set_option maxRecDepth 20000 in
theorem kJ5_ensureCapacityInternal_d00df_5 {C : QC} {x : QP} {M : QM} {st : List CV} {L : QL} {l0 l1 l2 : Option CV} {r : Option Nat} : Rr C mJ5_ensureCapacityInternal_d00df (5, [some (.inr (.inr r)), l1, l2], st, M) x = Rr C mJ5_ensureCapacityInternal_d00df (6, [some (.inr (.inr r)), l1, l2], .inr (.inr r) :: st, M) x := g_pl (show decode cJ5_ensureCapacityInternal_d00df 5 = .ok (.aload_n 0, 1) by decide +kernel) rfl
set_option maxRecDepth 20000 in
theorem kJ5_ensureCapacityInternal_d00df_6 {C : QC} {x : QP} {M : QM} {st : List CV} {L : QL} {a : Nat} (hk : q_kd M a = (1, 14)) : Rr C mJ5_ensureCapacityInternal_d00df (6, L, qr a :: st, M) x = Rr C mJ5_ensureCapacityInternal_d00df (9, L, q_fv M a 1 :: st, M) x := g_getf (ow := 17) (e := (14, 1, RJ5, 364, 0)) (show decode cJ5_ensureCapacityInternal_d00df 6 = .ok (.getfield 22, 3) by decide +kernel) rfl hk
set_option maxRecDepth 20000 in
theorem kJ5_ensureCapacityInternal_d00df_9 {C : QC} {x : QP} {M : QM} {st : List CV} {L : QL} {a b : Int} : Rr C mJ5_ensureCapacityInternal_d00df (9, L, qi b :: qi a :: st, M) x = Rr C mJ5_ensureCapacityInternal_d00df (10, L, qi (q_shr a b) :: st, M) x := g_pl (show decode cJ5_ensureCapacityInternal_d00df 9 = .ok (.ishr, 1) by decide +kernel) rfl
set_option maxRecDepth 20000 in
theorem kJ5_ensureCapacityInternal_d00df_10 {C : QC} {x : QP} {M : QM} {st : List CV} {L : QL} {l0 l1 l2 : Option CV} {z : Int} : Rr C mJ5_ensureCapacityInternal_d00df (10, [l0, l1, l2], qi z :: st, M) x = Rr C mJ5_ensureCapacityInternal_d00df (11, [l0, q_cut l1, some (qi z)], st, M) x := g_pl (show decode cJ5_ensureCapacityInternal_d00df 10 = .ok (.istore_n 2, 1) by decide +kernel) rfl
set_option maxRecDepth 20000 in
theorem kJ5_ensureCapacityInternal_d00df_11 {C : QC} {x : QP} {M : QM} {st : List CV} {L : QL} {l0 l1 l2 : Option CV} {z : Int} : Rr C mJ5_ensureCapacityInternal_d00df (11, [l0, some (qi z), l2], st, M) x = Rr C mJ5_ensureCapacityInternal_d00df (12, [l0, some (qi z), l2], qi z :: st, M) x := g_pl (show decode cJ5_ensureCapacityInternal_d00df 11 = .ok (.iload_n 1, 1) by decide +kernel) rfl
set_option maxRecDepth 20000 in
theorem kJ5_ensureCapacityInternal_d00df_12 {C : QC} {x : QP} {M : QM} {st : List CV} {L : QL} {l0 l1 l2 : Option CV} {z : Int} : Rr C mJ5_ensureCapacityInternal_d00df (12, [l0, l1, some (qi z)], st, M) x = Rr C mJ5_ensureCapacityInternal_d00df (13, [l0, l1, some (qi z)], qi z :: st, M) x := g_pl (show decode cJ5_ensureCapacityInternal_d00df 12 = .ok (.iload_n 2, 1) by decide +kernel) rfl
set_option maxRecDepth 20000 in
theorem kJ5_ensureCapacityInternal_d00df_13 {C : QC} {x : QP} {M : QM} {st : List CV} {L : QL} {a b : Int} : Rr C mJ5_ensureCapacityInternal_d00df (13, L, qi b :: qi a :: st, M) x = Rr C mJ5_ensureCapacityInternal_d00df (14, L, qi (a - b) :: st, M) x := g_pl (show decode cJ5_ensureCapacityInternal_d00df 13 = .ok (.isub, 1) by decide +kernel) rfl
set_option maxRecDepth 20000 in
theorem kJ5_ensureCapacityInternal_d00df_14 {C : QC} {x : QP} {M : QM} {st : List CV} {L : QL} {a : Int} (ha1 : -2147483648 ≤ a) (ha2 : a < 2147483648) : Rr C mJ5_ensureCapacityInternal_d00df (14, L, qi a :: st, M) x = (if 0 < a then Rr C mJ5_ensureCapacityInternal_d00df (17, L, st, M) x else Rr C mJ5_ensureCapacityInternal_d00df (38, L, st, M) x) := (g_if (show decode cJ5_ensureCapacityInternal_d00df 14 = .ok (.ifCond .le 24, 3) by decide +kernel) rfl ha1 ha2).trans (g_itn c_le)
set_option maxRecDepth 20000 in
theorem kJ5_ensureCapacityInternal_d00df_17 {C : QC} {x : QP} {M : QM} {st : List CV} {L : QL} {l0 l1 l2 : Option CV} {r : Option Nat} : Rr C mJ5_ensureCapacityInternal_d00df (17, [some (.inr (.inr r)), l1, l2], st, M) x = Rr C mJ5_ensureCapacityInternal_d00df (18, [some (.inr (.inr r)), l1, l2], .inr (.inr r) :: st, M) x := g_pl (show decode cJ5_ensureCapacityInternal_d00df 17 = .ok (.aload_n 0, 1) by decide +kernel) rfl
set_option maxRecDepth 20000 in
theorem kJ5_ensureCapacityInternal_d00df_18 {C : QC} {x : QP} {M : QM} {st : List CV} {L : QL} {l0 l1 l2 : Option CV} {r : Option Nat} : Rr C mJ5_ensureCapacityInternal_d00df (18, [some (.inr (.inr r)), l1, l2], st, M) x = Rr C mJ5_ensureCapacityInternal_d00df (19, [some (.inr (.inr r)), l1, l2], .inr (.inr r) :: st, M) x := g_pl (show decode cJ5_ensureCapacityInternal_d00df 18 = .ok (.aload_n 0, 1) by decide +kernel) rfl
set_option maxRecDepth 20000 in
theorem kJ5_ensureCapacityInternal_d00df_19 {C : QC} {x : QP} {M : QM} {st : List CV} {L : QL} {a : Nat} (hk : q_kd M a = (1, 14)) : Rr C mJ5_ensureCapacityInternal_d00df (19, L, qr a :: st, M) x = Rr C mJ5_ensureCapacityInternal_d00df (22, L, q_fv M a 0 :: st, M) x := g_getf (ow := 17) (e := (14, 0, RJ5, 363, 0)) (show decode cJ5_ensureCapacityInternal_d00df 19 = .ok (.getfield 15, 3) by decide +kernel) rfl hk
set_option maxRecDepth 20000 in
theorem kJ5_ensureCapacityInternal_d00df_22 {C : QC} {x : QP} {M : QM} {st : List CV} {L : QL} {l0 l1 l2 : Option CV} {r : Option Nat} : Rr C mJ5_ensureCapacityInternal_d00df (22, [some (.inr (.inr r)), l1, l2], st, M) x = Rr C mJ5_ensureCapacityInternal_d00df (23, [some (.inr (.inr r)), l1, l2], .inr (.inr r) :: st, M) x := g_pl (show decode cJ5_ensureCapacityInternal_d00df 22 = .ok (.aload_n 0, 1) by decide +kernel) rfl
set_option maxRecDepth 20000 in
theorem kJ5_ensureCapacityInternal_d00df_23 {C : QC} {x : QP} {M : QM} {st : List CV} {L : QL} {l0 l1 l2 : Option CV} {z : Int} : Rr C mJ5_ensureCapacityInternal_d00df (23, [l0, some (qi z), l2], st, M) x = Rr C mJ5_ensureCapacityInternal_d00df (24, [l0, some (qi z), l2], qi z :: st, M) x := g_pl (show decode cJ5_ensureCapacityInternal_d00df 23 = .ok (.iload_n 1, 1) by decide +kernel) rfl
set_option maxRecDepth 20000 in
theorem kJ5_ensureCapacityInternal_d00df_24 {C : QC} {x : QP} {M : QM} {L : QL} {rest : List CV} {a0 : CV} {v : CV} {M1 : QM} {b : Nat} (hb : q_kd M b = (1, 14)) (hC : C iJ5_newCapacity_0f7a4 [qr b, a0] M (some v) M1) (hw : (rest.map q_wd).sum ≤ 8) (k : Rr C mJ5_ensureCapacityInternal_d00df (27, L, v :: rest, M1) x) : Rr C mJ5_ensureCapacityInternal_d00df (24, L, a0 :: qr b :: rest, M) x := g_cv (ow := 17) (e := (5, 147, 14, [1039, 1676, 1708, 1041, 90])) (as := [a0]) (show decode cJ5_ensureCapacityInternal_d00df 24 = .ok (.invokevirtual 104, 3) by decide +kernel) rfl rfl rfl (Or.inr rfl) rfl hb hC hw k
set_option maxRecDepth 20000 in
theorem kJ5_ensureCapacityInternal_d00df_27 {C : QC} {x : QP} {M : QM} {st : List CV} {L : QL} {l0 l1 l2 : Option CV} {r : Option Nat} : Rr C mJ5_ensureCapacityInternal_d00df (27, [some (.inr (.inr r)), l1, l2], st, M) x = Rr C mJ5_ensureCapacityInternal_d00df (28, [some (.inr (.inr r)), l1, l2], .inr (.inr r) :: st, M) x := g_pl (show decode cJ5_ensureCapacityInternal_d00df 27 = .ok (.aload_n 0, 1) by decide +kernel) rfl
set_option maxRecDepth 20000 in
theorem kJ5_ensureCapacityInternal_d00df_28 {C : QC} {x : QP} {M : QM} {st : List CV} {L : QL} {a : Nat} (hk : q_kd M a = (1, 14)) : Rr C mJ5_ensureCapacityInternal_d00df (28, L, qr a :: st, M) x = Rr C mJ5_ensureCapacityInternal_d00df (31, L, q_fv M a 1 :: st, M) x := g_getf (ow := 17) (e := (14, 1, RJ5, 364, 0)) (show decode cJ5_ensureCapacityInternal_d00df 28 = .ok (.getfield 22, 3) by decide +kernel) rfl hk
set_option maxRecDepth 20000 in
theorem kJ5_ensureCapacityInternal_d00df_31 {C : QC} {x : QP} {M : QM} {st : List CV} {L : QL} {a b : Int} : Rr C mJ5_ensureCapacityInternal_d00df (31, L, qi b :: qi a :: st, M) x = Rr C mJ5_ensureCapacityInternal_d00df (32, L, qi (q_shl a b) :: st, M) x := g_pl (show decode cJ5_ensureCapacityInternal_d00df 31 = .ok (.ishl, 1) by decide +kernel) rfl
set_option maxRecDepth 20000 in
theorem kJ5_ensureCapacityInternal_d00df_32 {C : QC} {x : QP} {M : QM} {L : QL} {rest : List CV} {a0 a1 : CV} {v : CV} {M1 : QM} (hC : C iJ7_copyOf_9075b [a0, a1] M (some v) M1) (hw : (rest.map q_wd).sum ≤ 8) (k : Rr C mJ5_ensureCapacityInternal_d00df (35, L, v :: rest, M1) x) : Rr C mJ5_ensureCapacityInternal_d00df (32, L, a1 :: a0 :: rest, M) x := g_cs (ow := 17) (e := (1, 148, 0, [1045, 1046, 101])) (as := [a0, a1]) (show decode cJ5_ensureCapacityInternal_d00df 32 = .ok (.invokestatic 108, 3) by decide +kernel) rfl rfl rfl rfl (Or.inl rfl) rfl hC hw k
set_option maxRecDepth 20000 in
theorem kJ5_ensureCapacityInternal_d00df_35 {C : QC} {x : QP} {M : QM} {st : List CV} {L : QL} {z : Option Nat} {a : Nat} (hk : q_kd M a = (1, 14)) : Rr C mJ5_ensureCapacityInternal_d00df (35, L, .inr (.inr z) :: qr a :: st, M) x = Rr C mJ5_ensureCapacityInternal_d00df (38, L, st, q_wr M a 0 (.inr (.inr z))) x := g_putf (ow := 17) (ini := false) (e := (14, 0, RJ5, 363, 0)) (r := (RJ4, TJ4, 4)) (t := tyJ4) (show decode cJ5_ensureCapacityInternal_d00df 35 = .ok (.putfield 15, 3) by decide +kernel) rfl rfl rfl rfl (by decide +kernel) hk
set_option maxRecDepth 20000 in
theorem kJ5_ensureCapacityInternal_d00df_38 {C : QC} {x : QP} {M : QM} {st : List CV} {L : QL} : Rr C mJ5_ensureCapacityInternal_d00df (38, L, [], M) x = x none M := g_vret (show decode cJ5_ensureCapacityInternal_d00df 38 = .ok (.return_, 1) by decide +kernel)
set_option maxRecDepth 20000 in
theorem eJ5_ensureCapacityInternal_d00df {d : Nat} {M : QM} {x : QP} {a : Nat} {v0 : Int} : q_T (d + 1) iJ5_ensureCapacityInternal_d00df [qr a, qi v0] M x = Rr (q_C d) mJ5_ensureCapacityInternal_d00df (0, [some (qr a), some (qi v0), none], [], M) x := g_entryT (e := _) rfl (Nat.le_of_ble_eq_true rfl) rfl rfl
def mJ5_newCapacity_0f7a4 : QI := (17, cJ5_newCapacity_0f7a4, false, some .int)
set_option maxRecDepth 20000 in
theorem kJ5_newCapacity_0f7a4_0 {C : QC} {x : QP} {M : QM} {st : List CV} {L : QL} {l0 l1 l2 l3 l4 l5 : Option CV} {r : Option Nat} : Rr C mJ5_newCapacity_0f7a4 (0, [some (.inr (.inr r)), l1, l2, l3, l4, l5], st, M) x = Rr C mJ5_newCapacity_0f7a4 (1, [some (.inr (.inr r)), l1, l2, l3, l4, l5], .inr (.inr r) :: st, M) x := g_pl (show decode cJ5_newCapacity_0f7a4 0 = .ok (.aload_n 0, 1) by decide +kernel) rfl
set_option maxRecDepth 20000 in
theorem kJ5_newCapacity_0f7a4_1 {C : QC} {x : QP} {M : QM} {st : List CV} {L : QL} {a : Nat} (hk : q_kd M a = (1, 14)) : Rr C mJ5_newCapacity_0f7a4 (1, L, qr a :: st, M) x = Rr C mJ5_newCapacity_0f7a4 (4, L, q_fv M a 0 :: st, M) x := g_getf (ow := 17) (e := (14, 0, RJ5, 363, 0)) (show decode cJ5_newCapacity_0f7a4 1 = .ok (.getfield 15, 3) by decide +kernel) rfl hk
set_option maxRecDepth 20000 in
theorem kJ5_newCapacity_0f7a4_4 {C : QC} {x : QP} {M : QM} {st : List CV} {L : QL} {a : Nat} (h1 : 2 ≤ (q_kd M a).1) (h2 : (q_kd M a).1 ≤ 9) : Rr C mJ5_newCapacity_0f7a4 (4, L, qr a :: st, M) x = Rr C mJ5_newCapacity_0f7a4 (5, L, qi (q_kd M a).2 :: st, M) x := g_alen (show decode cJ5_newCapacity_0f7a4 4 = .ok (.arraylength, 1) by decide +kernel) h1 h2
set_option maxRecDepth 20000 in
theorem kJ5_newCapacity_0f7a4_5 {C : QC} {x : QP} {M : QM} {st : List CV} {L : QL} {l0 l1 l2 l3 l4 l5 : Option CV} {z : Int} : Rr C mJ5_newCapacity_0f7a4 (5, [l0, l1, l2, l3, l4, l5], qi z :: st, M) x = Rr C mJ5_newCapacity_0f7a4 (6, [l0, q_cut l1, some (qi z), l3, l4, l5], st, M) x := g_pl (show decode cJ5_newCapacity_0f7a4 5 = .ok (.istore_n 2, 1) by decide +kernel) rfl
set_option maxRecDepth 20000 in
theorem kJ5_newCapacity_0f7a4_6 {C : QC} {x : QP} {M : QM} {st : List CV} {L : QL} {l0 l1 l2 l3 l4 l5 : Option CV} {z : Int} : Rr C mJ5_newCapacity_0f7a4 (6, [l0, some (qi z), l2, l3, l4, l5], st, M) x = Rr C mJ5_newCapacity_0f7a4 (7, [l0, some (qi z), l2, l3, l4, l5], qi z :: st, M) x := g_pl (show decode cJ5_newCapacity_0f7a4 6 = .ok (.iload_n 1, 1) by decide +kernel) rfl
set_option maxRecDepth 20000 in
theorem kJ5_newCapacity_0f7a4_7 {C : QC} {x : QP} {M : QM} {st : List CV} {L : QL} {l0 l1 l2 l3 l4 l5 : Option CV} {r : Option Nat} : Rr C mJ5_newCapacity_0f7a4 (7, [some (.inr (.inr r)), l1, l2, l3, l4, l5], st, M) x = Rr C mJ5_newCapacity_0f7a4 (8, [some (.inr (.inr r)), l1, l2, l3, l4, l5], .inr (.inr r) :: st, M) x := g_pl (show decode cJ5_newCapacity_0f7a4 7 = .ok (.aload_n 0, 1) by decide +kernel) rfl
set_option maxRecDepth 20000 in
theorem kJ5_newCapacity_0f7a4_8 {C : QC} {x : QP} {M : QM} {st : List CV} {L : QL} {a : Nat} (hk : q_kd M a = (1, 14)) : Rr C mJ5_newCapacity_0f7a4 (8, L, qr a :: st, M) x = Rr C mJ5_newCapacity_0f7a4 (11, L, q_fv M a 1 :: st, M) x := g_getf (ow := 17) (e := (14, 1, RJ5, 364, 0)) (show decode cJ5_newCapacity_0f7a4 8 = .ok (.getfield 22, 3) by decide +kernel) rfl hk
set_option maxRecDepth 20000 in
theorem kJ5_newCapacity_0f7a4_11 {C : QC} {x : QP} {M : QM} {st : List CV} {L : QL} {a b : Int} : Rr C mJ5_newCapacity_0f7a4 (11, L, qi b :: qi a :: st, M) x = Rr C mJ5_newCapacity_0f7a4 (12, L, qi (q_shl a b) :: st, M) x := g_pl (show decode cJ5_newCapacity_0f7a4 11 = .ok (.ishl, 1) by decide +kernel) rfl
set_option maxRecDepth 20000 in
theorem kJ5_newCapacity_0f7a4_12 {C : QC} {x : QP} {M : QM} {st : List CV} {L : QL} {l0 l1 l2 l3 l4 l5 : Option CV} {z : Int} : Rr C mJ5_newCapacity_0f7a4 (12, [l0, l1, l2, l3, l4, l5], qi z :: st, M) x = Rr C mJ5_newCapacity_0f7a4 (13, [l0, l1, q_cut l2, some (qi z), l4, l5], st, M) x := g_pl (show decode cJ5_newCapacity_0f7a4 12 = .ok (.istore_n 3, 1) by decide +kernel) rfl
set_option maxRecDepth 20000 in
theorem kJ5_newCapacity_0f7a4_13 {C : QC} {x : QP} {M : QM} {st : List CV} {L : QL} {l0 l1 l2 l3 l4 l5 : Option CV} {z : Int} : Rr C mJ5_newCapacity_0f7a4 (13, [l0, l1, l2, some (qi z), l4, l5], st, M) x = Rr C mJ5_newCapacity_0f7a4 (14, [l0, l1, l2, some (qi z), l4, l5], qi z :: st, M) x := g_pl (show decode cJ5_newCapacity_0f7a4 13 = .ok (.iload_n 3, 1) by decide +kernel) rfl
set_option maxRecDepth 20000 in
theorem kJ5_newCapacity_0f7a4_14 {C : QC} {x : QP} {M : QM} {st : List CV} {L : QL} {l0 l1 l2 l3 l4 l5 : Option CV} {z : Int} : Rr C mJ5_newCapacity_0f7a4 (14, [l0, l1, some (qi z), l3, l4, l5], st, M) x = Rr C mJ5_newCapacity_0f7a4 (15, [l0, l1, some (qi z), l3, l4, l5], qi z :: st, M) x := g_pl (show decode cJ5_newCapacity_0f7a4 14 = .ok (.iload_n 2, 1) by decide +kernel) rfl
set_option maxRecDepth 20000 in
theorem kJ5_newCapacity_0f7a4_15 {C : QC} {x : QP} {M : QM} {st : List CV} {L : QL} {a b : Int} : Rr C mJ5_newCapacity_0f7a4 (15, L, qi b :: qi a :: st, M) x = Rr C mJ5_newCapacity_0f7a4 (16, L, qi (a - b) :: st, M) x := g_pl (show decode cJ5_newCapacity_0f7a4 15 = .ok (.isub, 1) by decide +kernel) rfl
set_option maxRecDepth 20000 in
theorem kJ5_newCapacity_0f7a4_16 {C : QC} {x : QP} {M : QM} {st : List CV} {L : QL} {l0 l1 l2 l3 l4 l5 : Option CV} {z : Int} : Rr C mJ5_newCapacity_0f7a4 (16, [l0, l1, l2, l3, l4, l5], qi z :: st, M) x = Rr C mJ5_newCapacity_0f7a4 (18, [l0, l1, l2, q_cut l3, some (qi z), l5], st, M) x := g_pl (show decode cJ5_newCapacity_0f7a4 16 = .ok (.istore 4, 2) by decide +kernel) rfl
set_option maxRecDepth 20000 in
theorem kJ5_newCapacity_0f7a4_18 {C : QC} {x : QP} {M : QM} {st : List CV} {L : QL} {l0 l1 l2 l3 l4 l5 : Option CV} {z : Int} : Rr C mJ5_newCapacity_0f7a4 (18, [l0, l1, some (qi z), l3, l4, l5], st, M) x = Rr C mJ5_newCapacity_0f7a4 (19, [l0, l1, some (qi z), l3, l4, l5], qi z :: st, M) x := g_pl (show decode cJ5_newCapacity_0f7a4 18 = .ok (.iload_n 2, 1) by decide +kernel) rfl
set_option maxRecDepth 20000 in
theorem kJ5_newCapacity_0f7a4_19 {C : QC} {x : QP} {M : QM} {st : List CV} {L : QL} {l0 l1 l2 l3 l4 l5 : Option CV} {z : Int} : Rr C mJ5_newCapacity_0f7a4 (19, [l0, l1, l2, l3, some (qi z), l5], st, M) x = Rr C mJ5_newCapacity_0f7a4 (21, [l0, l1, l2, l3, some (qi z), l5], qi z :: st, M) x := g_pl (show decode cJ5_newCapacity_0f7a4 19 = .ok (.iload 4, 2) by decide +kernel) rfl
set_option maxRecDepth 20000 in
theorem kJ5_newCapacity_0f7a4_21 {C : QC} {x : QP} {M : QM} {st : List CV} {L : QL} {l0 l1 l2 l3 l4 l5 : Option CV} {z : Int} : Rr C mJ5_newCapacity_0f7a4 (21, [l0, l1, some (qi z), l3, l4, l5], st, M) x = Rr C mJ5_newCapacity_0f7a4 (22, [l0, l1, some (qi z), l3, l4, l5], qi z :: st, M) x := g_pl (show decode cJ5_newCapacity_0f7a4 21 = .ok (.iload_n 2, 1) by decide +kernel) rfl
set_option maxRecDepth 20000 in
theorem kJ5_newCapacity_0f7a4_22 {C : QC} {x : QP} {M : QM} {st : List CV} {L : QL} : Rr C mJ5_newCapacity_0f7a4 (22, L, st, M) x = Rr C mJ5_newCapacity_0f7a4 (23, L, qi 2 :: st, M) x := g_pl (show decode cJ5_newCapacity_0f7a4 22 = .ok (.iconst 2, 1) by decide +kernel) rfl
set_option maxRecDepth 20000 in
theorem kJ5_newCapacity_0f7a4_23 {C : QC} {x : QP} {M : QM} {st : List CV} {L : QL} {l0 l1 l2 l3 l4 l5 : Option CV} {r : Option Nat} : Rr C mJ5_newCapacity_0f7a4 (23, [some (.inr (.inr r)), l1, l2, l3, l4, l5], st, M) x = Rr C mJ5_newCapacity_0f7a4 (24, [some (.inr (.inr r)), l1, l2, l3, l4, l5], .inr (.inr r) :: st, M) x := g_pl (show decode cJ5_newCapacity_0f7a4 23 = .ok (.aload_n 0, 1) by decide +kernel) rfl
set_option maxRecDepth 20000 in
theorem kJ5_newCapacity_0f7a4_24 {C : QC} {x : QP} {M : QM} {st : List CV} {L : QL} {a : Nat} (hk : q_kd M a = (1, 14)) : Rr C mJ5_newCapacity_0f7a4 (24, L, qr a :: st, M) x = Rr C mJ5_newCapacity_0f7a4 (27, L, q_fv M a 1 :: st, M) x := g_getf (ow := 17) (e := (14, 1, RJ5, 364, 0)) (show decode cJ5_newCapacity_0f7a4 24 = .ok (.getfield 22, 3) by decide +kernel) rfl hk
set_option maxRecDepth 20000 in
theorem kJ5_newCapacity_0f7a4_27 {C : QC} {x : QP} {M : QM} {st : List CV} {L : QL} {a b : Int} : Rr C mJ5_newCapacity_0f7a4 (27, L, qi b :: qi a :: st, M) x = Rr C mJ5_newCapacity_0f7a4 (28, L, qi (q_shl a b) :: st, M) x := g_pl (show decode cJ5_newCapacity_0f7a4 27 = .ok (.ishl, 1) by decide +kernel) rfl
set_option maxRecDepth 20000 in
theorem kJ5_newCapacity_0f7a4_28 {C : QC} {x : QP} {M : QM} {st : List CV} {L : QL} {a b : Int} : Rr C mJ5_newCapacity_0f7a4 (28, L, qi b :: qi a :: st, M) x = Rr C mJ5_newCapacity_0f7a4 (29, L, qi (a + b) :: st, M) x := g_pl (show decode cJ5_newCapacity_0f7a4 28 = .ok (.iadd, 1) by decide +kernel) rfl
set_option maxRecDepth 20000 in
theorem kJ5_newCapacity_0f7a4_29 {C : QC} {x : QP} {M : QM} {L : QL} {rest : List CV} {a0 a1 a2 : CV} {v : CV} {M1 : QM} (hC : C iJ8_newLength_cabcc [a0, a1, a2] M (some v) M1) (hw : (rest.map q_wd).sum ≤ 8) (k : Rr C mJ5_newCapacity_0f7a4 (32, L, v :: rest, M1) x) : Rr C mJ5_newCapacity_0f7a4 (29, L, a2 :: a1 :: a0 :: rest, M) x := g_cs (ow := 17) (e := (1, 49, 0, [1043, 586, 100])) (as := [a0, a1, a2]) (show decode cJ5_newCapacity_0f7a4 29 = .ok (.invokestatic 114, 3) by decide +kernel) rfl rfl rfl rfl (Or.inl rfl) rfl hC hw k
set_option maxRecDepth 20000 in
theorem kJ5_newCapacity_0f7a4_32 {C : QC} {x : QP} {M : QM} {st : List CV} {L : QL} {l0 l1 l2 l3 l4 l5 : Option CV} {z : Int} : Rr C mJ5_newCapacity_0f7a4 (32, [l0, l1, l2, l3, l4, l5], qi z :: st, M) x = Rr C mJ5_newCapacity_0f7a4 (34, [l0, l1, l2, l3, q_cut l4, some (qi z)], st, M) x := g_pl (show decode cJ5_newCapacity_0f7a4 32 = .ok (.istore 5, 2) by decide +kernel) rfl
set_option maxRecDepth 20000 in
theorem kJ5_newCapacity_0f7a4_34 {C : QC} {x : QP} {M : QM} {st : List CV} {L : QL} {l0 l1 l2 l3 l4 l5 : Option CV} {z : Int} : Rr C mJ5_newCapacity_0f7a4 (34, [l0, l1, l2, l3, l4, some (qi z)], st, M) x = Rr C mJ5_newCapacity_0f7a4 (36, [l0, l1, l2, l3, l4, some (qi z)], qi z :: st, M) x := g_pl (show decode cJ5_newCapacity_0f7a4 34 = .ok (.iload 5, 2) by decide +kernel) rfl
set_option maxRecDepth 20000 in
theorem kJ5_newCapacity_0f7a4_36 {C : QC} {x : QP} {M : QM} {st : List CV} {L : QL} : Rr C mJ5_newCapacity_0f7a4 (36, L, st, M) x = Rr C mJ5_newCapacity_0f7a4 (38, L, qi 2147483647 :: st, M) x := g_ldc (ow := 17) (e := (2147483647, 1044)) (show decode cJ5_newCapacity_0f7a4 36 = .ok (.ldc 39, 2) by decide +kernel) rfl
set_option maxRecDepth 20000 in
theorem kJ5_newCapacity_0f7a4_38 {C : QC} {x : QP} {M : QM} {st : List CV} {L : QL} {a b : Int} (ha1 : -2147483648 ≤ a) (ha2 : a < 2147483648) (hb1 : -2147483648 ≤ b) (hb2 : b < 2147483648) : Rr C mJ5_newCapacity_0f7a4 (38, L, qi b :: qi a :: st, M) x = (if a = b then Rr C mJ5_newCapacity_0f7a4 (41, L, st, M) x else Rr C mJ5_newCapacity_0f7a4 (51, L, st, M) x) := (g_icmp (show decode cJ5_newCapacity_0f7a4 38 = .ok (.if_icmp .ne 13, 3) by decide +kernel) rfl ha1 ha2 hb1 hb2).trans (g_itn c_ne)
set_option maxRecDepth 20000 in
theorem kJ5_newCapacity_0f7a4_44i {C : QC} {x : QP} {M : QM} {st : List CV} {L : QL} {a : Int} : Rr C mJ5_newCapacity_0f7a4 (44, L, qi a :: st, M) x = Rr C mJ5_newCapacity_0f7a4 (45, L, qi a :: qi a :: st, M) x := g_pl (show decode cJ5_newCapacity_0f7a4 44 = .ok (.dup, 1) by decide +kernel) rfl
set_option maxRecDepth 20000 in
theorem kJ5_newCapacity_0f7a4_44r {C : QC} {x : QP} {M : QM} {st : List CV} {L : QL} {a : Option Nat} : Rr C mJ5_newCapacity_0f7a4 (44, L, .inr (.inr a) :: st, M) x = Rr C mJ5_newCapacity_0f7a4 (45, L, .inr (.inr a) :: .inr (.inr a) :: st, M) x := g_pl (show decode cJ5_newCapacity_0f7a4 44 = .ok (.dup, 1) by decide +kernel) rfl
set_option maxRecDepth 20000 in
theorem kJ5_newCapacity_0f7a4_51 {C : QC} {x : QP} {M : QM} {st : List CV} {L : QL} {l0 l1 l2 l3 l4 l5 : Option CV} {z : Int} : Rr C mJ5_newCapacity_0f7a4 (51, [l0, l1, l2, l3, l4, some (qi z)], st, M) x = Rr C mJ5_newCapacity_0f7a4 (53, [l0, l1, l2, l3, l4, some (qi z)], qi z :: st, M) x := g_pl (show decode cJ5_newCapacity_0f7a4 51 = .ok (.iload 5, 2) by decide +kernel) rfl
set_option maxRecDepth 20000 in
theorem kJ5_newCapacity_0f7a4_53 {C : QC} {x : QP} {M : QM} {st : List CV} {L : QL} {l0 l1 l2 l3 l4 l5 : Option CV} {r : Option Nat} : Rr C mJ5_newCapacity_0f7a4 (53, [some (.inr (.inr r)), l1, l2, l3, l4, l5], st, M) x = Rr C mJ5_newCapacity_0f7a4 (54, [some (.inr (.inr r)), l1, l2, l3, l4, l5], .inr (.inr r) :: st, M) x := g_pl (show decode cJ5_newCapacity_0f7a4 53 = .ok (.aload_n 0, 1) by decide +kernel) rfl
set_option maxRecDepth 20000 in
theorem kJ5_newCapacity_0f7a4_54 {C : QC} {x : QP} {M : QM} {st : List CV} {L : QL} {a : Nat} (hk : q_kd M a = (1, 14)) : Rr C mJ5_newCapacity_0f7a4 (54, L, qr a :: st, M) x = Rr C mJ5_newCapacity_0f7a4 (57, L, q_fv M a 1 :: st, M) x := g_getf (ow := 17) (e := (14, 1, RJ5, 364, 0)) (show decode cJ5_newCapacity_0f7a4 54 = .ok (.getfield 22, 3) by decide +kernel) rfl hk
set_option maxRecDepth 20000 in
theorem kJ5_newCapacity_0f7a4_57 {C : QC} {x : QP} {M : QM} {st : List CV} {L : QL} {a b : Int} : Rr C mJ5_newCapacity_0f7a4 (57, L, qi b :: qi a :: st, M) x = Rr C mJ5_newCapacity_0f7a4 (58, L, qi (q_shr a b) :: st, M) x := g_pl (show decode cJ5_newCapacity_0f7a4 57 = .ok (.ishr, 1) by decide +kernel) rfl
set_option maxRecDepth 20000 in
theorem kJ5_newCapacity_0f7a4_58 {C : QC} {x : QP} {M : QM} {st : List CV} {L : QL} {z : Int} : Rr C mJ5_newCapacity_0f7a4 (58, L, [qi z], M) x = x (some (qi z)) M := g_iret (show decode cJ5_newCapacity_0f7a4 58 = .ok (.ireturn, 1) by decide +kernel) rfl
set_option maxRecDepth 20000 in
theorem eJ5_newCapacity_0f7a4 {d : Nat} {M : QM} {x : QP} {a : Nat} {v0 : Int} : q_T (d + 1) iJ5_newCapacity_0f7a4 [qr a, qi v0] M x = Rr (q_C d) mJ5_newCapacity_0f7a4 (0, [some (qr a), some (qi v0), none, none, none, none], [], M) x := g_entryT (e := _) rfl (Nat.le_of_ble_eq_true rfl) rfl rfl
def mJ5_setLength_d00df : QI := (17, cJ5_setLength_d00df, false, none)
set_option maxRecDepth 20000 in
theorem kJ5_setLength_d00df_0 {C : QC} {x : QP} {M : QM} {st : List CV} {L : QL} {l0 l1 : Option CV} {z : Int} : Rr C mJ5_setLength_d00df (0, [l0, some (qi z)], st, M) x = Rr C mJ5_setLength_d00df (1, [l0, some (qi z)], qi z :: st, M) x := g_pl (show decode cJ5_setLength_d00df 0 = .ok (.iload_n 1, 1) by decide +kernel) rfl
set_option maxRecDepth 20000 in
theorem kJ5_setLength_d00df_1 {C : QC} {x : QP} {M : QM} {st : List CV} {L : QL} {a : Int} (ha1 : -2147483648 ≤ a) (ha2 : a < 2147483648) : Rr C mJ5_setLength_d00df (1, L, qi a :: st, M) x = (if a < 0 then Rr C mJ5_setLength_d00df (4, L, st, M) x else Rr C mJ5_setLength_d00df (13, L, st, M) x) := (g_if (show decode cJ5_setLength_d00df 1 = .ok (.ifCond .ge 12, 3) by decide +kernel) rfl ha1 ha2).trans (g_itn c_ge)
set_option maxRecDepth 20000 in
theorem kJ5_setLength_d00df_7i {C : QC} {x : QP} {M : QM} {st : List CV} {L : QL} {a : Int} : Rr C mJ5_setLength_d00df (7, L, qi a :: st, M) x = Rr C mJ5_setLength_d00df (8, L, qi a :: qi a :: st, M) x := g_pl (show decode cJ5_setLength_d00df 7 = .ok (.dup, 1) by decide +kernel) rfl
set_option maxRecDepth 20000 in
theorem kJ5_setLength_d00df_7r {C : QC} {x : QP} {M : QM} {st : List CV} {L : QL} {a : Option Nat} : Rr C mJ5_setLength_d00df (7, L, .inr (.inr a) :: st, M) x = Rr C mJ5_setLength_d00df (8, L, .inr (.inr a) :: .inr (.inr a) :: st, M) x := g_pl (show decode cJ5_setLength_d00df 7 = .ok (.dup, 1) by decide +kernel) rfl
set_option maxRecDepth 20000 in
theorem kJ5_setLength_d00df_8 {C : QC} {x : QP} {M : QM} {st : List CV} {L : QL} {l0 l1 : Option CV} {z : Int} : Rr C mJ5_setLength_d00df (8, [l0, some (qi z)], st, M) x = Rr C mJ5_setLength_d00df (9, [l0, some (qi z)], qi z :: st, M) x := g_pl (show decode cJ5_setLength_d00df 8 = .ok (.iload_n 1, 1) by decide +kernel) rfl
set_option maxRecDepth 20000 in
theorem kJ5_setLength_d00df_13 {C : QC} {x : QP} {M : QM} {st : List CV} {L : QL} {l0 l1 : Option CV} {r : Option Nat} : Rr C mJ5_setLength_d00df (13, [some (.inr (.inr r)), l1], st, M) x = Rr C mJ5_setLength_d00df (14, [some (.inr (.inr r)), l1], .inr (.inr r) :: st, M) x := g_pl (show decode cJ5_setLength_d00df 13 = .ok (.aload_n 0, 1) by decide +kernel) rfl
set_option maxRecDepth 20000 in
theorem kJ5_setLength_d00df_14 {C : QC} {x : QP} {M : QM} {st : List CV} {L : QL} {l0 l1 : Option CV} {z : Int} : Rr C mJ5_setLength_d00df (14, [l0, some (qi z)], st, M) x = Rr C mJ5_setLength_d00df (15, [l0, some (qi z)], qi z :: st, M) x := g_pl (show decode cJ5_setLength_d00df 14 = .ok (.iload_n 1, 1) by decide +kernel) rfl
set_option maxRecDepth 20000 in
theorem kJ5_setLength_d00df_15 {C : QC} {x : QP} {M : QM} {L : QL} {rest : List CV} {a0 : CV} {M1 : QM} {b : Nat} (hb : q_kd M b = (1, 14)) (hC : C iJ5_ensureCapacityInternal_d00df [qr b, a0] M none M1) (hw : (rest.map q_wd).sum ≤ 8) (k : Rr C mJ5_setLength_d00df (18, L, rest, M1) x) : Rr C mJ5_setLength_d00df (15, L, a0 :: qr b :: rest, M) x := g_cv (ow := 17) (e := (5, 146, 14, [1035, 1675, 1707, 1037, 90])) (as := [a0]) (show decode cJ5_setLength_d00df 15 = .ok (.invokevirtual 100, 3) by decide +kernel) rfl rfl rfl (Or.inr rfl) rfl hb hC hw k
set_option maxRecDepth 20000 in
theorem kJ5_setLength_d00df_18 {C : QC} {x : QP} {M : QM} {st : List CV} {L : QL} {l0 l1 : Option CV} {r : Option Nat} : Rr C mJ5_setLength_d00df (18, [some (.inr (.inr r)), l1], st, M) x = Rr C mJ5_setLength_d00df (19, [some (.inr (.inr r)), l1], .inr (.inr r) :: st, M) x := g_pl (show decode cJ5_setLength_d00df 18 = .ok (.aload_n 0, 1) by decide +kernel) rfl
set_option maxRecDepth 20000 in
theorem kJ5_setLength_d00df_19 {C : QC} {x : QP} {M : QM} {st : List CV} {L : QL} {a : Nat} (hk : q_kd M a = (1, 14)) : Rr C mJ5_setLength_d00df (19, L, qr a :: st, M) x = Rr C mJ5_setLength_d00df (22, L, q_fv M a 3 :: st, M) x := g_getf (ow := 17) (e := (14, 3, RJ5, 366, 0)) (show decode cJ5_setLength_d00df 19 = .ok (.getfield 79, 3) by decide +kernel) rfl hk
set_option maxRecDepth 20000 in
theorem kJ5_setLength_d00df_22 {C : QC} {x : QP} {M : QM} {st : List CV} {L : QL} {l0 l1 : Option CV} {z : Int} : Rr C mJ5_setLength_d00df (22, [l0, some (qi z)], st, M) x = Rr C mJ5_setLength_d00df (23, [l0, some (qi z)], qi z :: st, M) x := g_pl (show decode cJ5_setLength_d00df 22 = .ok (.iload_n 1, 1) by decide +kernel) rfl
set_option maxRecDepth 20000 in
theorem kJ5_setLength_d00df_23 {C : QC} {x : QP} {M : QM} {st : List CV} {L : QL} {a b : Int} (ha1 : -2147483648 ≤ a) (ha2 : a < 2147483648) (hb1 : -2147483648 ≤ b) (hb2 : b < 2147483648) : Rr C mJ5_setLength_d00df (23, L, qi b :: qi a :: st, M) x = (if a < b then Rr C mJ5_setLength_d00df (26, L, st, M) x else Rr C mJ5_setLength_d00df (63, L, st, M) x) := (g_icmp (show decode cJ5_setLength_d00df 23 = .ok (.if_icmp .ge 40, 3) by decide +kernel) rfl ha1 ha2 hb1 hb2).trans (g_itn c_ge)
set_option maxRecDepth 20000 in
theorem kJ5_setLength_d00df_26 {C : QC} {x : QP} {M : QM} {st : List CV} {L : QL} {l0 l1 : Option CV} {r : Option Nat} : Rr C mJ5_setLength_d00df (26, [some (.inr (.inr r)), l1], st, M) x = Rr C mJ5_setLength_d00df (27, [some (.inr (.inr r)), l1], .inr (.inr r) :: st, M) x := g_pl (show decode cJ5_setLength_d00df 26 = .ok (.aload_n 0, 1) by decide +kernel) rfl
set_option maxRecDepth 20000 in
theorem kJ5_setLength_d00df_27 {C : QC} {x : QP} {M : QM} {L : QL} {rest : List CV} {v : CV} {M1 : QM} {b : Nat} (hb : q_kd M b = (1, 14)) (hC : C iJ5_isLatin1_aae02 [qr b] M (some v) M1) (hw : (rest.map q_wd).sum ≤ 8) (k : Rr C mJ5_setLength_d00df (30, L, v :: rest, M1) x) : Rr C mJ5_setLength_d00df (27, L, qr b :: rest, M) x := g_cv (ow := 17) (e := (5, 149, 14, [1053, 1055, 1056, 1054, 90])) (as := []) (show decode cJ5_setLength_d00df 27 = .ok (.invokevirtual 83, 3) by decide +kernel) rfl rfl rfl (Or.inr rfl) rfl hb hC hw k
set_option maxRecDepth 20000 in
theorem kJ5_setLength_d00df_30 {C : QC} {x : QP} {M : QM} {st : List CV} {L : QL} {a : Int} (ha1 : -2147483648 ≤ a) (ha2 : a < 2147483648) : Rr C mJ5_setLength_d00df (30, L, qi a :: st, M) x = (if a = 0 then Rr C mJ5_setLength_d00df (48, L, st, M) x else Rr C mJ5_setLength_d00df (33, L, st, M) x) := (g_if (show decode cJ5_setLength_d00df 30 = .ok (.ifCond .eq 18, 3) by decide +kernel) rfl ha1 ha2).trans (g_ite c_eq)
set_option maxRecDepth 20000 in
theorem kJ5_setLength_d00df_33 {C : QC} {x : QP} {M : QM} {st : List CV} {L : QL} {l0 l1 : Option CV} {r : Option Nat} : Rr C mJ5_setLength_d00df (33, [some (.inr (.inr r)), l1], st, M) x = Rr C mJ5_setLength_d00df (34, [some (.inr (.inr r)), l1], .inr (.inr r) :: st, M) x := g_pl (show decode cJ5_setLength_d00df 33 = .ok (.aload_n 0, 1) by decide +kernel) rfl
set_option maxRecDepth 20000 in
theorem kJ5_setLength_d00df_34 {C : QC} {x : QP} {M : QM} {st : List CV} {L : QL} {a : Nat} (hk : q_kd M a = (1, 14)) : Rr C mJ5_setLength_d00df (34, L, qr a :: st, M) x = Rr C mJ5_setLength_d00df (37, L, q_fv M a 0 :: st, M) x := g_getf (ow := 17) (e := (14, 0, RJ5, 363, 0)) (show decode cJ5_setLength_d00df 34 = .ok (.getfield 15, 3) by decide +kernel) rfl hk
set_option maxRecDepth 20000 in
theorem kJ5_setLength_d00df_37 {C : QC} {x : QP} {M : QM} {st : List CV} {L : QL} {l0 l1 : Option CV} {r : Option Nat} : Rr C mJ5_setLength_d00df (37, [some (.inr (.inr r)), l1], st, M) x = Rr C mJ5_setLength_d00df (38, [some (.inr (.inr r)), l1], .inr (.inr r) :: st, M) x := g_pl (show decode cJ5_setLength_d00df 37 = .ok (.aload_n 0, 1) by decide +kernel) rfl
set_option maxRecDepth 20000 in
theorem kJ5_setLength_d00df_38 {C : QC} {x : QP} {M : QM} {st : List CV} {L : QL} {a : Nat} (hk : q_kd M a = (1, 14)) : Rr C mJ5_setLength_d00df (38, L, qr a :: st, M) x = Rr C mJ5_setLength_d00df (41, L, q_fv M a 3 :: st, M) x := g_getf (ow := 17) (e := (14, 3, RJ5, 366, 0)) (show decode cJ5_setLength_d00df 38 = .ok (.getfield 79, 3) by decide +kernel) rfl hk
set_option maxRecDepth 20000 in
theorem kJ5_setLength_d00df_41 {C : QC} {x : QP} {M : QM} {st : List CV} {L : QL} {l0 l1 : Option CV} {z : Int} : Rr C mJ5_setLength_d00df (41, [l0, some (qi z)], st, M) x = Rr C mJ5_setLength_d00df (42, [l0, some (qi z)], qi z :: st, M) x := g_pl (show decode cJ5_setLength_d00df 41 = .ok (.iload_n 1, 1) by decide +kernel) rfl
set_option maxRecDepth 20000 in
theorem kJ5_setLength_d00df_42 {C : QC} {x : QP} {M : QM} {L : QL} {rest : List CV} {a0 a1 a2 : CV} {M1 : QM} (hC : C iJ1_fillNull_b72d1 [a0, a1, a2] M none M1) (hw : (rest.map q_wd).sum ≤ 8) (k : Rr C mJ5_setLength_d00df (45, L, rest, M1) x) : Rr C mJ5_setLength_d00df (42, L, a2 :: a1 :: a0 :: rest, M) x := g_cs (ow := 17) (e := (1, 150, 0, [1058, 1059, 106])) (as := [a0, a1, a2]) (show decode cJ5_setLength_d00df 42 = .ok (.invokestatic 133, 3) by decide +kernel) rfl rfl rfl rfl (Or.inl rfl) rfl hC hw k
set_option maxRecDepth 20000 in
theorem kJ5_setLength_d00df_45 {C : QC} {x : QP} {M : QM} {st : List CV} {L : QL} : Rr C mJ5_setLength_d00df (45, L, st, M) x = Rr C mJ5_setLength_d00df (76, L, st, M) x := g_pl (show decode cJ5_setLength_d00df 45 = .ok (.goto 31, 3) by decide +kernel) rfl
set_option maxRecDepth 20000 in
theorem kJ5_setLength_d00df_48 {C : QC} {x : QP} {M : QM} {st : List CV} {L : QL} {l0 l1 : Option CV} {r : Option Nat} : Rr C mJ5_setLength_d00df (48, [some (.inr (.inr r)), l1], st, M) x = Rr C mJ5_setLength_d00df (49, [some (.inr (.inr r)), l1], .inr (.inr r) :: st, M) x := g_pl (show decode cJ5_setLength_d00df 48 = .ok (.aload_n 0, 1) by decide +kernel) rfl
set_option maxRecDepth 20000 in
theorem kJ5_setLength_d00df_49 {C : QC} {x : QP} {M : QM} {st : List CV} {L : QL} {a : Nat} (hk : q_kd M a = (1, 14)) : Rr C mJ5_setLength_d00df (49, L, qr a :: st, M) x = Rr C mJ5_setLength_d00df (52, L, q_fv M a 0 :: st, M) x := g_getf (ow := 17) (e := (14, 0, RJ5, 363, 0)) (show decode cJ5_setLength_d00df 49 = .ok (.getfield 15, 3) by decide +kernel) rfl hk
set_option maxRecDepth 20000 in
theorem kJ5_setLength_d00df_52 {C : QC} {x : QP} {M : QM} {st : List CV} {L : QL} {l0 l1 : Option CV} {r : Option Nat} : Rr C mJ5_setLength_d00df (52, [some (.inr (.inr r)), l1], st, M) x = Rr C mJ5_setLength_d00df (53, [some (.inr (.inr r)), l1], .inr (.inr r) :: st, M) x := g_pl (show decode cJ5_setLength_d00df 52 = .ok (.aload_n 0, 1) by decide +kernel) rfl
set_option maxRecDepth 20000 in
theorem kJ5_setLength_d00df_53 {C : QC} {x : QP} {M : QM} {st : List CV} {L : QL} {a : Nat} (hk : q_kd M a = (1, 14)) : Rr C mJ5_setLength_d00df (53, L, qr a :: st, M) x = Rr C mJ5_setLength_d00df (56, L, q_fv M a 3 :: st, M) x := g_getf (ow := 17) (e := (14, 3, RJ5, 366, 0)) (show decode cJ5_setLength_d00df 53 = .ok (.getfield 79, 3) by decide +kernel) rfl hk
set_option maxRecDepth 20000 in
theorem kJ5_setLength_d00df_56 {C : QC} {x : QP} {M : QM} {st : List CV} {L : QL} {l0 l1 : Option CV} {z : Int} : Rr C mJ5_setLength_d00df (56, [l0, some (qi z)], st, M) x = Rr C mJ5_setLength_d00df (57, [l0, some (qi z)], qi z :: st, M) x := g_pl (show decode cJ5_setLength_d00df 56 = .ok (.iload_n 1, 1) by decide +kernel) rfl
set_option maxRecDepth 20000 in
theorem kJ5_setLength_d00df_60 {C : QC} {x : QP} {M : QM} {st : List CV} {L : QL} : Rr C mJ5_setLength_d00df (60, L, st, M) x = Rr C mJ5_setLength_d00df (76, L, st, M) x := g_pl (show decode cJ5_setLength_d00df 60 = .ok (.goto 16, 3) by decide +kernel) rfl
set_option maxRecDepth 20000 in
theorem kJ5_setLength_d00df_63 {C : QC} {x : QP} {M : QM} {st : List CV} {L : QL} {l0 l1 : Option CV} {r : Option Nat} : Rr C mJ5_setLength_d00df (63, [some (.inr (.inr r)), l1], st, M) x = Rr C mJ5_setLength_d00df (64, [some (.inr (.inr r)), l1], .inr (.inr r) :: st, M) x := g_pl (show decode cJ5_setLength_d00df 63 = .ok (.aload_n 0, 1) by decide +kernel) rfl
set_option maxRecDepth 20000 in
theorem kJ5_setLength_d00df_64 {C : QC} {x : QP} {M : QM} {st : List CV} {L : QL} {a : Nat} (hk : q_kd M a = (1, 14)) : Rr C mJ5_setLength_d00df (64, L, qr a :: st, M) x = Rr C mJ5_setLength_d00df (67, L, q_fv M a 3 :: st, M) x := g_getf (ow := 17) (e := (14, 3, RJ5, 366, 0)) (show decode cJ5_setLength_d00df 64 = .ok (.getfield 79, 3) by decide +kernel) rfl hk
set_option maxRecDepth 20000 in
theorem kJ5_setLength_d00df_67 {C : QC} {x : QP} {M : QM} {st : List CV} {L : QL} {l0 l1 : Option CV} {z : Int} : Rr C mJ5_setLength_d00df (67, [l0, some (qi z)], st, M) x = Rr C mJ5_setLength_d00df (68, [l0, some (qi z)], qi z :: st, M) x := g_pl (show decode cJ5_setLength_d00df 67 = .ok (.iload_n 1, 1) by decide +kernel) rfl
set_option maxRecDepth 20000 in
theorem kJ5_setLength_d00df_68 {C : QC} {x : QP} {M : QM} {st : List CV} {L : QL} {a b : Int} (ha1 : -2147483648 ≤ a) (ha2 : a < 2147483648) (hb1 : -2147483648 ≤ b) (hb2 : b < 2147483648) : Rr C mJ5_setLength_d00df (68, L, qi b :: qi a :: st, M) x = (if b < a then Rr C mJ5_setLength_d00df (71, L, st, M) x else Rr C mJ5_setLength_d00df (76, L, st, M) x) := (g_icmp (show decode cJ5_setLength_d00df 68 = .ok (.if_icmp .le 8, 3) by decide +kernel) rfl ha1 ha2 hb1 hb2).trans (g_itn c_le)
set_option maxRecDepth 20000 in
theorem kJ5_setLength_d00df_71 {C : QC} {x : QP} {M : QM} {st : List CV} {L : QL} {l0 l1 : Option CV} {r : Option Nat} : Rr C mJ5_setLength_d00df (71, [some (.inr (.inr r)), l1], st, M) x = Rr C mJ5_setLength_d00df (72, [some (.inr (.inr r)), l1], .inr (.inr r) :: st, M) x := g_pl (show decode cJ5_setLength_d00df 71 = .ok (.aload_n 0, 1) by decide +kernel) rfl
set_option maxRecDepth 20000 in
theorem kJ5_setLength_d00df_72 {C : QC} {x : QP} {M : QM} {st : List CV} {L : QL} : Rr C mJ5_setLength_d00df (72, L, st, M) x = Rr C mJ5_setLength_d00df (73, L, qi 1 :: st, M) x := g_pl (show decode cJ5_setLength_d00df 72 = .ok (.iconst 1, 1) by decide +kernel) rfl
set_option maxRecDepth 20000 in
theorem kJ5_setLength_d00df_73 {C : QC} {x : QP} {M : QM} {st : List CV} {L : QL} {z : Int} (hz : z = 0 ∨ z = 1) {a : Nat} (hk : q_kd M a = (1, 14)) : Rr C mJ5_setLength_d00df (73, L, qi z :: qr a :: st, M) x = Rr C mJ5_setLength_d00df (76, L, st, q_wr M a 2 (qi z)) x := g_putf (ow := 17) (ini := false) (e := (14, 2, RJ5, 365, 0)) (r := (RJ4, TJ4, 4)) (t := tyJ4) (show decode cJ5_setLength_d00df 73 = .ok (.putfield 73, 3) by decide +kernel) rfl rfl rfl (by rcases hz with rfl | rfl <;> rfl) (by decide +kernel) hk
set_option maxRecDepth 20000 in
theorem kJ5_setLength_d00df_76 {C : QC} {x : QP} {M : QM} {st : List CV} {L : QL} {l0 l1 : Option CV} {r : Option Nat} : Rr C mJ5_setLength_d00df (76, [some (.inr (.inr r)), l1], st, M) x = Rr C mJ5_setLength_d00df (77, [some (.inr (.inr r)), l1], .inr (.inr r) :: st, M) x := g_pl (show decode cJ5_setLength_d00df 76 = .ok (.aload_n 0, 1) by decide +kernel) rfl
set_option maxRecDepth 20000 in
theorem kJ5_setLength_d00df_77 {C : QC} {x : QP} {M : QM} {st : List CV} {L : QL} {l0 l1 : Option CV} {z : Int} : Rr C mJ5_setLength_d00df (77, [l0, some (qi z)], st, M) x = Rr C mJ5_setLength_d00df (78, [l0, some (qi z)], qi z :: st, M) x := g_pl (show decode cJ5_setLength_d00df 77 = .ok (.iload_n 1, 1) by decide +kernel) rfl
set_option maxRecDepth 20000 in
theorem kJ5_setLength_d00df_78 {C : QC} {x : QP} {M : QM} {st : List CV} {L : QL} {z : Int} {a : Nat} (hk : q_kd M a = (1, 14)) : Rr C mJ5_setLength_d00df (78, L, qi z :: qr a :: st, M) x = Rr C mJ5_setLength_d00df (81, L, st, q_wr M a 3 (qi z)) x := g_putf (ow := 17) (ini := false) (e := (14, 3, RJ5, 366, 0)) (r := (RJ4, TJ4, 4)) (t := tyJ4) (show decode cJ5_setLength_d00df 78 = .ok (.putfield 79, 3) by decide +kernel) rfl rfl rfl rfl (by decide +kernel) hk
set_option maxRecDepth 20000 in
theorem kJ5_setLength_d00df_81 {C : QC} {x : QP} {M : QM} {st : List CV} {L : QL} : Rr C mJ5_setLength_d00df (81, L, [], M) x = x none M := g_vret (show decode cJ5_setLength_d00df 81 = .ok (.return_, 1) by decide +kernel)
set_option maxRecDepth 20000 in
theorem eJ5_setLength_d00df {d : Nat} {M : QM} {x : QP} {a : Nat} {v0 : Int} : q_T (d + 1) iJ5_setLength_d00df [qr a, qi v0] M x = Rr (q_C d) mJ5_setLength_d00df (0, [some (qr a), some (qi v0)], [], M) x := g_entryT (e := _) rfl (Nat.le_of_ble_eq_true rfl) rfl rfl
def mJ5_charAt_5068e : QI := (17, cJ5_charAt_5068e, false, some .char)
set_option maxRecDepth 20000 in
theorem kJ5_charAt_5068e_0 {C : QC} {x : QP} {M : QM} {st : List CV} {L : QL} {l0 l1 l2 l3 l4 : Option CV} {r : Option Nat} : Rr C mJ5_charAt_5068e (0, [some (.inr (.inr r)), l1, l2, l3, l4], st, M) x = Rr C mJ5_charAt_5068e (1, [some (.inr (.inr r)), l1, l2, l3, l4], .inr (.inr r) :: st, M) x := g_pl (show decode cJ5_charAt_5068e 0 = .ok (.aload_n 0, 1) by decide +kernel) rfl
set_option maxRecDepth 20000 in
theorem kJ5_charAt_5068e_1 {C : QC} {x : QP} {M : QM} {st : List CV} {L : QL} {a : Nat} (hk : q_kd M a = (1, 14)) : Rr C mJ5_charAt_5068e (1, L, qr a :: st, M) x = Rr C mJ5_charAt_5068e (4, L, q_fv M a 1 :: st, M) x := g_getf (ow := 17) (e := (14, 1, RJ5, 364, 0)) (show decode cJ5_charAt_5068e 1 = .ok (.getfield 22, 3) by decide +kernel) rfl hk
set_option maxRecDepth 20000 in
theorem kJ5_charAt_5068e_4 {C : QC} {x : QP} {M : QM} {st : List CV} {L : QL} {l0 l1 l2 l3 l4 : Option CV} {z : Int} : Rr C mJ5_charAt_5068e (4, [l0, l1, l2, l3, l4], qi z :: st, M) x = Rr C mJ5_charAt_5068e (5, [l0, q_cut l1, some (qi z), l3, l4], st, M) x := g_pl (show decode cJ5_charAt_5068e 4 = .ok (.istore_n 2, 1) by decide +kernel) rfl
set_option maxRecDepth 20000 in
theorem kJ5_charAt_5068e_5 {C : QC} {x : QP} {M : QM} {st : List CV} {L : QL} {l0 l1 l2 l3 l4 : Option CV} {r : Option Nat} : Rr C mJ5_charAt_5068e (5, [some (.inr (.inr r)), l1, l2, l3, l4], st, M) x = Rr C mJ5_charAt_5068e (6, [some (.inr (.inr r)), l1, l2, l3, l4], .inr (.inr r) :: st, M) x := g_pl (show decode cJ5_charAt_5068e 5 = .ok (.aload_n 0, 1) by decide +kernel) rfl
set_option maxRecDepth 20000 in
theorem kJ5_charAt_5068e_6 {C : QC} {x : QP} {M : QM} {st : List CV} {L : QL} {a : Nat} (hk : q_kd M a = (1, 14)) : Rr C mJ5_charAt_5068e (6, L, qr a :: st, M) x = Rr C mJ5_charAt_5068e (9, L, q_fv M a 0 :: st, M) x := g_getf (ow := 17) (e := (14, 0, RJ5, 363, 0)) (show decode cJ5_charAt_5068e 6 = .ok (.getfield 15, 3) by decide +kernel) rfl hk
set_option maxRecDepth 20000 in
theorem kJ5_charAt_5068e_9 {C : QC} {x : QP} {M : QM} {st : List CV} {L : QL} {l0 l1 l2 l3 l4 : Option CV} {z : Option Nat} : Rr C mJ5_charAt_5068e (9, [l0, l1, l2, l3, l4], .inr (.inr z) :: st, M) x = Rr C mJ5_charAt_5068e (10, [l0, l1, q_cut l2, some (.inr (.inr z)), l4], st, M) x := g_pl (show decode cJ5_charAt_5068e 9 = .ok (.astore_n 3, 1) by decide +kernel) rfl
set_option maxRecDepth 20000 in
theorem kJ5_charAt_5068e_10 {C : QC} {x : QP} {M : QM} {st : List CV} {L : QL} {l0 l1 l2 l3 l4 : Option CV} {r : Option Nat} : Rr C mJ5_charAt_5068e (10, [some (.inr (.inr r)), l1, l2, l3, l4], st, M) x = Rr C mJ5_charAt_5068e (11, [some (.inr (.inr r)), l1, l2, l3, l4], .inr (.inr r) :: st, M) x := g_pl (show decode cJ5_charAt_5068e 10 = .ok (.aload_n 0, 1) by decide +kernel) rfl
set_option maxRecDepth 20000 in
theorem kJ5_charAt_5068e_11 {C : QC} {x : QP} {M : QM} {st : List CV} {L : QL} {a : Nat} (hk : q_kd M a = (1, 14)) : Rr C mJ5_charAt_5068e (11, L, qr a :: st, M) x = Rr C mJ5_charAt_5068e (14, L, q_fv M a 3 :: st, M) x := g_getf (ow := 17) (e := (14, 3, RJ5, 366, 0)) (show decode cJ5_charAt_5068e 11 = .ok (.getfield 79, 3) by decide +kernel) rfl hk
set_option maxRecDepth 20000 in
theorem kJ5_charAt_5068e_14 {C : QC} {x : QP} {M : QM} {st : List CV} {L : QL} {l0 l1 l2 l3 l4 : Option CV} {r : Option Nat} : Rr C mJ5_charAt_5068e (14, [l0, l1, l2, some (.inr (.inr r)), l4], st, M) x = Rr C mJ5_charAt_5068e (15, [l0, l1, l2, some (.inr (.inr r)), l4], .inr (.inr r) :: st, M) x := g_pl (show decode cJ5_charAt_5068e 14 = .ok (.aload_n 3, 1) by decide +kernel) rfl
set_option maxRecDepth 20000 in
theorem kJ5_charAt_5068e_15 {C : QC} {x : QP} {M : QM} {st : List CV} {L : QL} {a : Nat} (h1 : 2 ≤ (q_kd M a).1) (h2 : (q_kd M a).1 ≤ 9) : Rr C mJ5_charAt_5068e (15, L, qr a :: st, M) x = Rr C mJ5_charAt_5068e (16, L, qi (q_kd M a).2 :: st, M) x := g_alen (show decode cJ5_charAt_5068e 15 = .ok (.arraylength, 1) by decide +kernel) h1 h2
set_option maxRecDepth 20000 in
theorem kJ5_charAt_5068e_16 {C : QC} {x : QP} {M : QM} {st : List CV} {L : QL} {l0 l1 l2 l3 l4 : Option CV} {z : Int} : Rr C mJ5_charAt_5068e (16, [l0, l1, some (qi z), l3, l4], st, M) x = Rr C mJ5_charAt_5068e (17, [l0, l1, some (qi z), l3, l4], qi z :: st, M) x := g_pl (show decode cJ5_charAt_5068e 16 = .ok (.iload_n 2, 1) by decide +kernel) rfl
set_option maxRecDepth 20000 in
theorem kJ5_charAt_5068e_17 {C : QC} {x : QP} {M : QM} {st : List CV} {L : QL} {a b : Int} : Rr C mJ5_charAt_5068e (17, L, qi b :: qi a :: st, M) x = Rr C mJ5_charAt_5068e (18, L, qi (q_shr a b) :: st, M) x := g_pl (show decode cJ5_charAt_5068e 17 = .ok (.ishr, 1) by decide +kernel) rfl
set_option maxRecDepth 20000 in
theorem kJ5_charAt_5068e_18 {C : QC} {x : QP} {M : QM} {st : List CV} {L : QL} {a b : Int} (ha1 : -2147483648 ≤ a) (ha2 : a < 2147483648) (hb1 : -2147483648 ≤ b) (hb2 : b < 2147483648) (hw : (st.map q_wd).sum ≤ 8) : Rr C mJ5_charAt_5068e (18, L, qi b :: qi a :: st, M) x = Rr C mJ5_charAt_5068e (21, L, qi (min a b) :: st, M) x := g_mx (ow := 17) (e := (1, 1208)) (show decode cJ5_charAt_5068e 18 = .ok (.invokestatic 138, 3) by decide +kernel) rfl rfl ha1 ha2 hb1 hb2 hw
set_option maxRecDepth 20000 in
theorem kJ5_charAt_5068e_21 {C : QC} {x : QP} {M : QM} {st : List CV} {L : QL} {l0 l1 l2 l3 l4 : Option CV} {z : Int} : Rr C mJ5_charAt_5068e (21, [l0, l1, l2, l3, l4], qi z :: st, M) x = Rr C mJ5_charAt_5068e (23, [l0, l1, l2, q_cut l3, some (qi z)], st, M) x := g_pl (show decode cJ5_charAt_5068e 21 = .ok (.istore 4, 2) by decide +kernel) rfl
set_option maxRecDepth 20000 in
theorem kJ5_charAt_5068e_23 {C : QC} {x : QP} {M : QM} {st : List CV} {L : QL} {l0 l1 l2 l3 l4 : Option CV} {z : Int} : Rr C mJ5_charAt_5068e (23, [l0, some (qi z), l2, l3, l4], st, M) x = Rr C mJ5_charAt_5068e (24, [l0, some (qi z), l2, l3, l4], qi z :: st, M) x := g_pl (show decode cJ5_charAt_5068e 23 = .ok (.iload_n 1, 1) by decide +kernel) rfl
set_option maxRecDepth 20000 in
theorem kJ5_charAt_5068e_24 {C : QC} {x : QP} {M : QM} {st : List CV} {L : QL} {l0 l1 l2 l3 l4 : Option CV} {z : Int} : Rr C mJ5_charAt_5068e (24, [l0, l1, l2, l3, some (qi z)], st, M) x = Rr C mJ5_charAt_5068e (26, [l0, l1, l2, l3, some (qi z)], qi z :: st, M) x := g_pl (show decode cJ5_charAt_5068e 24 = .ok (.iload 4, 2) by decide +kernel) rfl
set_option maxRecDepth 20000 in
theorem kJ5_charAt_5068e_26 {C : QC} {x : QP} {M : QM} {L : QL} {rest : List CV} {a0 a1 : CV} {M1 : QM} (hC : C iJ0_checkIndex_df160 [a0, a1] M none M1) (hw : (rest.map q_wd).sum ≤ 8) (k : Rr C mJ5_charAt_5068e (29, L, rest, M1) x) : Rr C mJ5_charAt_5068e (26, L, a1 :: a0 :: rest, M) x := g_cs (ow := 17) (e := (1, 161, 0, [1209, 1125, 92])) (as := [a0, a1]) (show decode cJ5_charAt_5068e 26 = .ok (.invokestatic 144, 3) by decide +kernel) rfl rfl rfl rfl (Or.inl rfl) rfl hC hw k
set_option maxRecDepth 20000 in
theorem kJ5_charAt_5068e_29 {C : QC} {x : QP} {M : QM} {st : List CV} {L : QL} {l0 l1 l2 l3 l4 : Option CV} {z : Int} : Rr C mJ5_charAt_5068e (29, [l0, l1, some (qi z), l3, l4], st, M) x = Rr C mJ5_charAt_5068e (30, [l0, l1, some (qi z), l3, l4], qi z :: st, M) x := g_pl (show decode cJ5_charAt_5068e 29 = .ok (.iload_n 2, 1) by decide +kernel) rfl
set_option maxRecDepth 20000 in
theorem kJ5_charAt_5068e_30 {C : QC} {x : QP} {M : QM} {st : List CV} {L : QL} {a : Int} (ha1 : -2147483648 ≤ a) (ha2 : a < 2147483648) : Rr C mJ5_charAt_5068e (30, L, qi a :: st, M) x = (if a = 0 then Rr C mJ5_charAt_5068e (33, L, st, M) x else Rr C mJ5_charAt_5068e (42, L, st, M) x) := (g_if (show decode cJ5_charAt_5068e 30 = .ok (.ifCond .ne 12, 3) by decide +kernel) rfl ha1 ha2).trans (g_itn c_ne)
set_option maxRecDepth 20000 in
theorem kJ5_charAt_5068e_33 {C : QC} {x : QP} {M : QM} {st : List CV} {L : QL} {l0 l1 l2 l3 l4 : Option CV} {r : Option Nat} : Rr C mJ5_charAt_5068e (33, [l0, l1, l2, some (.inr (.inr r)), l4], st, M) x = Rr C mJ5_charAt_5068e (34, [l0, l1, l2, some (.inr (.inr r)), l4], .inr (.inr r) :: st, M) x := g_pl (show decode cJ5_charAt_5068e 33 = .ok (.aload_n 3, 1) by decide +kernel) rfl
set_option maxRecDepth 20000 in
theorem kJ5_charAt_5068e_34 {C : QC} {x : QP} {M : QM} {st : List CV} {L : QL} {l0 l1 l2 l3 l4 : Option CV} {z : Int} : Rr C mJ5_charAt_5068e (34, [l0, some (qi z), l2, l3, l4], st, M) x = Rr C mJ5_charAt_5068e (35, [l0, some (qi z), l2, l3, l4], qi z :: st, M) x := g_pl (show decode cJ5_charAt_5068e 34 = .ok (.iload_n 1, 1) by decide +kernel) rfl
set_option maxRecDepth 20000 in
theorem kJ5_charAt_5068e_35 {C : QC} {x : QP} {M : QM} {st : List CV} {L : QL} {a : Nat} {j : Int} (hk : (q_kd M a).1 = 4 ∨ (q_kd M a).1 = 8) (h0 : 0 ≤ j) (h1 : j < ((q_kd M a).2 : Int)) : Rr C mJ5_charAt_5068e (35, L, qi j :: qr a :: st, M) x = Rr C mJ5_charAt_5068e (36, L, q_fv M a j.toNat :: st, M) x := g_bald (show decode cJ5_charAt_5068e 35 = .ok (.baload, 1) by decide +kernel) hk h0 h1
set_option maxRecDepth 20000 in
theorem kJ5_charAt_5068e_36 {C : QC} {x : QP} {M : QM} {st : List CV} {L : QL} : Rr C mJ5_charAt_5068e (36, L, st, M) x = Rr C mJ5_charAt_5068e (39, L, qi 255 :: st, M) x := g_pl (show decode cJ5_charAt_5068e 36 = .ok (.sipush 255, 3) by decide +kernel) rfl
set_option maxRecDepth 20000 in
theorem kJ5_charAt_5068e_39 {C : QC} {x : QP} {M : QM} {st : List CV} {L : QL} {a b : Int} : Rr C mJ5_charAt_5068e (39, L, qi b :: qi a :: st, M) x = Rr C mJ5_charAt_5068e (40, L, qi (q_and a b) :: st, M) x := g_pl (show decode cJ5_charAt_5068e 39 = .ok (.iand, 1) by decide +kernel) rfl
set_option maxRecDepth 20000 in
theorem kJ5_charAt_5068e_40 {C : QC} {x : QP} {M : QM} {st : List CV} {L : QL} {a : Int} : Rr C mJ5_charAt_5068e (40, L, qi a :: st, M) x = Rr C mJ5_charAt_5068e (41, L, qi (q_i2c a) :: st, M) x := g_pl (show decode cJ5_charAt_5068e 40 = .ok (.i2c, 1) by decide +kernel) rfl
set_option maxRecDepth 20000 in
theorem kJ5_charAt_5068e_41 {C : QC} {x : QP} {M : QM} {st : List CV} {L : QL} {z : Int} (hz1 : 0 ≤ z) (hz2 : z ≤ 65535) : Rr C mJ5_charAt_5068e (41, L, [qi z], M) x = x (some (qi z)) M := g_iret (show decode cJ5_charAt_5068e 41 = .ok (.ireturn, 1) by decide +kernel) (by show (decide (0 ≤ z) && decide (z ≤ 65535)) = true; simp [hz1, hz2])
set_option maxRecDepth 20000 in
theorem kJ5_charAt_5068e_42 {C : QC} {x : QP} {M : QM} {st : List CV} {L : QL} {l0 l1 l2 l3 l4 : Option CV} {r : Option Nat} : Rr C mJ5_charAt_5068e (42, [l0, l1, l2, some (.inr (.inr r)), l4], st, M) x = Rr C mJ5_charAt_5068e (43, [l0, l1, l2, some (.inr (.inr r)), l4], .inr (.inr r) :: st, M) x := g_pl (show decode cJ5_charAt_5068e 42 = .ok (.aload_n 3, 1) by decide +kernel) rfl
set_option maxRecDepth 20000 in
theorem kJ5_charAt_5068e_43 {C : QC} {x : QP} {M : QM} {st : List CV} {L : QL} {l0 l1 l2 l3 l4 : Option CV} {z : Int} : Rr C mJ5_charAt_5068e (43, [l0, some (qi z), l2, l3, l4], st, M) x = Rr C mJ5_charAt_5068e (44, [l0, some (qi z), l2, l3, l4], qi z :: st, M) x := g_pl (show decode cJ5_charAt_5068e 43 = .ok (.iload_n 1, 1) by decide +kernel) rfl
set_option maxRecDepth 20000 in
theorem kJ5_charAt_5068e_47 {C : QC} {x : QP} {M : QM} {st : List CV} {L : QL} {z : Int} (hz1 : 0 ≤ z) (hz2 : z ≤ 65535) : Rr C mJ5_charAt_5068e (47, L, [qi z], M) x = x (some (qi z)) M := g_iret (show decode cJ5_charAt_5068e 47 = .ok (.ireturn, 1) by decide +kernel) (by show (decide (0 ≤ z) && decide (z ≤ 65535)) = true; simp [hz1, hz2])
set_option maxRecDepth 20000 in
theorem eJ5_charAt_5068e {d : Nat} {M : QM} {x : QP} {a : Nat} {v0 : Int} : q_T (d + 1) iJ5_charAt_5068e [qr a, qi v0] M x = Rr (q_C d) mJ5_charAt_5068e (0, [some (qr a), some (qi v0), none, none, none], [], M) x := g_entryT (e := _) rfl (Nat.le_of_ble_eq_true rfl) rfl rfl
def mJ5_append_3fe6f : QI := (17, cJ5_append_3fe6f, false, some (.object "java/lang/AbstractStringBuilder"))
set_option maxRecDepth 20000 in
theorem kJ5_append_3fe6f_0 {C : QC} {x : QP} {M : QM} {st : List CV} {L : QL} {l0 l1 : Option CV} {r : Option Nat} : Rr C mJ5_append_3fe6f (0, [some (.inr (.inr r)), l1], st, M) x = Rr C mJ5_append_3fe6f (1, [some (.inr (.inr r)), l1], .inr (.inr r) :: st, M) x := g_pl (show decode cJ5_append_3fe6f 0 = .ok (.aload_n 0, 1) by decide +kernel) rfl
set_option maxRecDepth 20000 in
theorem kJ5_append_3fe6f_1 {C : QC} {x : QP} {M : QM} {st : List CV} {L : QL} {l0 l1 : Option CV} {r : Option Nat} : Rr C mJ5_append_3fe6f (1, [some (.inr (.inr r)), l1], st, M) x = Rr C mJ5_append_3fe6f (2, [some (.inr (.inr r)), l1], .inr (.inr r) :: st, M) x := g_pl (show decode cJ5_append_3fe6f 1 = .ok (.aload_n 0, 1) by decide +kernel) rfl
set_option maxRecDepth 20000 in
theorem kJ5_append_3fe6f_2 {C : QC} {x : QP} {M : QM} {st : List CV} {L : QL} {a : Nat} (hk : q_kd M a = (1, 14)) : Rr C mJ5_append_3fe6f (2, L, qr a :: st, M) x = Rr C mJ5_append_3fe6f (5, L, q_fv M a 3 :: st, M) x := g_getf (ow := 17) (e := (14, 3, RJ5, 366, 0)) (show decode cJ5_append_3fe6f 2 = .ok (.getfield 79, 3) by decide +kernel) rfl hk
set_option maxRecDepth 20000 in
theorem kJ5_append_3fe6f_5 {C : QC} {x : QP} {M : QM} {st : List CV} {L : QL} : Rr C mJ5_append_3fe6f (5, L, st, M) x = Rr C mJ5_append_3fe6f (6, L, qi 1 :: st, M) x := g_pl (show decode cJ5_append_3fe6f 5 = .ok (.iconst 1, 1) by decide +kernel) rfl
set_option maxRecDepth 20000 in
theorem kJ5_append_3fe6f_6 {C : QC} {x : QP} {M : QM} {st : List CV} {L : QL} {a b : Int} : Rr C mJ5_append_3fe6f (6, L, qi b :: qi a :: st, M) x = Rr C mJ5_append_3fe6f (7, L, qi (a + b) :: st, M) x := g_pl (show decode cJ5_append_3fe6f 6 = .ok (.iadd, 1) by decide +kernel) rfl
set_option maxRecDepth 20000 in
theorem kJ5_append_3fe6f_7 {C : QC} {x : QP} {M : QM} {L : QL} {rest : List CV} {a0 : CV} {M1 : QM} {b : Nat} (hb : q_kd M b = (1, 14)) (hC : C iJ5_ensureCapacityInternal_d00df [qr b, a0] M none M1) (hw : (rest.map q_wd).sum ≤ 8) (k : Rr C mJ5_append_3fe6f (10, L, rest, M1) x) : Rr C mJ5_append_3fe6f (7, L, a0 :: qr b :: rest, M) x := g_cv (ow := 17) (e := (5, 146, 14, [1035, 1675, 1707, 1037, 90])) (as := [a0]) (show decode cJ5_append_3fe6f 7 = .ok (.invokevirtual 100, 3) by decide +kernel) rfl rfl rfl (Or.inr rfl) rfl hb hC hw k
set_option maxRecDepth 20000 in
theorem kJ5_append_3fe6f_10 {C : QC} {x : QP} {M : QM} {st : List CV} {L : QL} {l0 l1 : Option CV} {r : Option Nat} : Rr C mJ5_append_3fe6f (10, [some (.inr (.inr r)), l1], st, M) x = Rr C mJ5_append_3fe6f (11, [some (.inr (.inr r)), l1], .inr (.inr r) :: st, M) x := g_pl (show decode cJ5_append_3fe6f 10 = .ok (.aload_n 0, 1) by decide +kernel) rfl
set_option maxRecDepth 20000 in
theorem kJ5_append_3fe6f_11 {C : QC} {x : QP} {M : QM} {L : QL} {rest : List CV} {v : CV} {M1 : QM} {b : Nat} (hb : q_kd M b = (1, 14)) (hC : C iJ5_isLatin1_aae02 [qr b] M (some v) M1) (hw : (rest.map q_wd).sum ≤ 8) (k : Rr C mJ5_append_3fe6f (14, L, v :: rest, M1) x) : Rr C mJ5_append_3fe6f (11, L, qr b :: rest, M) x := g_cv (ow := 17) (e := (5, 149, 14, [1053, 1055, 1056, 1054, 90])) (as := []) (show decode cJ5_append_3fe6f 11 = .ok (.invokevirtual 83, 3) by decide +kernel) rfl rfl rfl (Or.inr rfl) rfl hb hC hw k
set_option maxRecDepth 20000 in
theorem kJ5_append_3fe6f_14 {C : QC} {x : QP} {M : QM} {st : List CV} {L : QL} {a : Int} (ha1 : -2147483648 ≤ a) (ha2 : a < 2147483648) : Rr C mJ5_append_3fe6f (14, L, qi a :: st, M) x = (if a = 0 then Rr C mJ5_append_3fe6f (45, L, st, M) x else Rr C mJ5_append_3fe6f (17, L, st, M) x) := (g_if (show decode cJ5_append_3fe6f 14 = .ok (.ifCond .eq 31, 3) by decide +kernel) rfl ha1 ha2).trans (g_ite c_eq)
set_option maxRecDepth 20000 in
theorem kJ5_append_3fe6f_17 {C : QC} {x : QP} {M : QM} {st : List CV} {L : QL} {l0 l1 : Option CV} {z : Int} : Rr C mJ5_append_3fe6f (17, [l0, some (qi z)], st, M) x = Rr C mJ5_append_3fe6f (18, [l0, some (qi z)], qi z :: st, M) x := g_pl (show decode cJ5_append_3fe6f 17 = .ok (.iload_n 1, 1) by decide +kernel) rfl
set_option maxRecDepth 20000 in
theorem kJ5_append_3fe6f_18 {C : QC} {x : QP} {M : QM} {L : QL} {rest : List CV} {a0 : CV} {v : CV} {M1 : QM} (hC : C iJ1_canEncode_fc78d [a0] M (some v) M1) (hw : (rest.map q_wd).sum ≤ 8) (k : Rr C mJ5_append_3fe6f (21, L, v :: rest, M1) x) : Rr C mJ5_append_3fe6f (18, L, a0 :: rest, M) x := g_cs (ow := 17) (e := (1, 156, 0, [1082, 1083, 106])) (as := [a0]) (show decode cJ5_append_3fe6f 18 = .ok (.invokestatic 191, 3) by decide +kernel) rfl rfl rfl rfl (Or.inl rfl) rfl hC hw k
set_option maxRecDepth 20000 in
theorem kJ5_append_3fe6f_21 {C : QC} {x : QP} {M : QM} {st : List CV} {L : QL} {a : Int} (ha1 : -2147483648 ≤ a) (ha2 : a < 2147483648) : Rr C mJ5_append_3fe6f (21, L, qi a :: st, M) x = (if a = 0 then Rr C mJ5_append_3fe6f (45, L, st, M) x else Rr C mJ5_append_3fe6f (24, L, st, M) x) := (g_if (show decode cJ5_append_3fe6f 21 = .ok (.ifCond .eq 24, 3) by decide +kernel) rfl ha1 ha2).trans (g_ite c_eq)
set_option maxRecDepth 20000 in
theorem kJ5_append_3fe6f_24 {C : QC} {x : QP} {M : QM} {st : List CV} {L : QL} {l0 l1 : Option CV} {r : Option Nat} : Rr C mJ5_append_3fe6f (24, [some (.inr (.inr r)), l1], st, M) x = Rr C mJ5_append_3fe6f (25, [some (.inr (.inr r)), l1], .inr (.inr r) :: st, M) x := g_pl (show decode cJ5_append_3fe6f 24 = .ok (.aload_n 0, 1) by decide +kernel) rfl
set_option maxRecDepth 20000 in
theorem kJ5_append_3fe6f_25 {C : QC} {x : QP} {M : QM} {st : List CV} {L : QL} {a : Nat} (hk : q_kd M a = (1, 14)) : Rr C mJ5_append_3fe6f (25, L, qr a :: st, M) x = Rr C mJ5_append_3fe6f (28, L, q_fv M a 0 :: st, M) x := g_getf (ow := 17) (e := (14, 0, RJ5, 363, 0)) (show decode cJ5_append_3fe6f 25 = .ok (.getfield 15, 3) by decide +kernel) rfl hk
set_option maxRecDepth 20000 in
theorem kJ5_append_3fe6f_28 {C : QC} {x : QP} {M : QM} {st : List CV} {L : QL} {l0 l1 : Option CV} {r : Option Nat} : Rr C mJ5_append_3fe6f (28, [some (.inr (.inr r)), l1], st, M) x = Rr C mJ5_append_3fe6f (29, [some (.inr (.inr r)), l1], .inr (.inr r) :: st, M) x := g_pl (show decode cJ5_append_3fe6f 28 = .ok (.aload_n 0, 1) by decide +kernel) rfl
set_option maxRecDepth 20000 in
theorem kJ5_append_3fe6f_29i {C : QC} {x : QP} {M : QM} {st : List CV} {L : QL} {a : Int} : Rr C mJ5_append_3fe6f (29, L, qi a :: st, M) x = Rr C mJ5_append_3fe6f (30, L, qi a :: qi a :: st, M) x := g_pl (show decode cJ5_append_3fe6f 29 = .ok (.dup, 1) by decide +kernel) rfl
set_option maxRecDepth 20000 in
theorem kJ5_append_3fe6f_29r {C : QC} {x : QP} {M : QM} {st : List CV} {L : QL} {a : Option Nat} : Rr C mJ5_append_3fe6f (29, L, .inr (.inr a) :: st, M) x = Rr C mJ5_append_3fe6f (30, L, .inr (.inr a) :: .inr (.inr a) :: st, M) x := g_pl (show decode cJ5_append_3fe6f 29 = .ok (.dup, 1) by decide +kernel) rfl
set_option maxRecDepth 20000 in
theorem kJ5_append_3fe6f_30 {C : QC} {x : QP} {M : QM} {st : List CV} {L : QL} {a : Nat} (hk : q_kd M a = (1, 14)) : Rr C mJ5_append_3fe6f (30, L, qr a :: st, M) x = Rr C mJ5_append_3fe6f (33, L, q_fv M a 3 :: st, M) x := g_getf (ow := 17) (e := (14, 3, RJ5, 366, 0)) (show decode cJ5_append_3fe6f 30 = .ok (.getfield 79, 3) by decide +kernel) rfl hk
set_option maxRecDepth 20000 in
theorem kJ5_append_3fe6f_33ii {C : QC} {x : QP} {M : QM} {st : List CV} {L : QL} {a : Int} {b : Int} : Rr C mJ5_append_3fe6f (33, L, qi a :: qi b :: st, M) x = Rr C mJ5_append_3fe6f (34, L, qi a :: qi b :: qi a :: st, M) x := g_pl (show decode cJ5_append_3fe6f 33 = .ok (.dup_x1, 1) by decide +kernel) rfl
set_option maxRecDepth 20000 in
theorem kJ5_append_3fe6f_33ir {C : QC} {x : QP} {M : QM} {st : List CV} {L : QL} {a : Int} {b : Option Nat} : Rr C mJ5_append_3fe6f (33, L, qi a :: .inr (.inr b) :: st, M) x = Rr C mJ5_append_3fe6f (34, L, qi a :: .inr (.inr b) :: qi a :: st, M) x := g_pl (show decode cJ5_append_3fe6f 33 = .ok (.dup_x1, 1) by decide +kernel) rfl
set_option maxRecDepth 20000 in
theorem kJ5_append_3fe6f_33ri {C : QC} {x : QP} {M : QM} {st : List CV} {L : QL} {a : Option Nat} {b : Int} : Rr C mJ5_append_3fe6f (33, L, .inr (.inr a) :: qi b :: st, M) x = Rr C mJ5_append_3fe6f (34, L, .inr (.inr a) :: qi b :: .inr (.inr a) :: st, M) x := g_pl (show decode cJ5_append_3fe6f 33 = .ok (.dup_x1, 1) by decide +kernel) rfl
set_option maxRecDepth 20000 in
theorem kJ5_append_3fe6f_33rr {C : QC} {x : QP} {M : QM} {st : List CV} {L : QL} {a : Option Nat} {b : Option Nat} : Rr C mJ5_append_3fe6f (33, L, .inr (.inr a) :: .inr (.inr b) :: st, M) x = Rr C mJ5_append_3fe6f (34, L, .inr (.inr a) :: .inr (.inr b) :: .inr (.inr a) :: st, M) x := g_pl (show decode cJ5_append_3fe6f 33 = .ok (.dup_x1, 1) by decide +kernel) rfl
set_option maxRecDepth 20000 in
theorem kJ5_append_3fe6f_34 {C : QC} {x : QP} {M : QM} {st : List CV} {L : QL} : Rr C mJ5_append_3fe6f (34, L, st, M) x = Rr C mJ5_append_3fe6f (35, L, qi 1 :: st, M) x := g_pl (show decode cJ5_append_3fe6f 34 = .ok (.iconst 1, 1) by decide +kernel) rfl
set_option maxRecDepth 20000 in
theorem kJ5_append_3fe6f_35 {C : QC} {x : QP} {M : QM} {st : List CV} {L : QL} {a b : Int} : Rr C mJ5_append_3fe6f (35, L, qi b :: qi a :: st, M) x = Rr C mJ5_append_3fe6f (36, L, qi (a + b) :: st, M) x := g_pl (show decode cJ5_append_3fe6f 35 = .ok (.iadd, 1) by decide +kernel) rfl
set_option maxRecDepth 20000 in
theorem kJ5_append_3fe6f_36 {C : QC} {x : QP} {M : QM} {st : List CV} {L : QL} {z : Int} {a : Nat} (hk : q_kd M a = (1, 14)) : Rr C mJ5_append_3fe6f (36, L, qi z :: qr a :: st, M) x = Rr C mJ5_append_3fe6f (39, L, st, q_wr M a 3 (qi z)) x := g_putf (ow := 17) (ini := false) (e := (14, 3, RJ5, 366, 0)) (r := (RJ4, TJ4, 4)) (t := tyJ4) (show decode cJ5_append_3fe6f 36 = .ok (.putfield 79, 3) by decide +kernel) rfl rfl rfl rfl (by decide +kernel) hk
set_option maxRecDepth 20000 in
theorem kJ5_append_3fe6f_39 {C : QC} {x : QP} {M : QM} {st : List CV} {L : QL} {l0 l1 : Option CV} {z : Int} : Rr C mJ5_append_3fe6f (39, [l0, some (qi z)], st, M) x = Rr C mJ5_append_3fe6f (40, [l0, some (qi z)], qi z :: st, M) x := g_pl (show decode cJ5_append_3fe6f 39 = .ok (.iload_n 1, 1) by decide +kernel) rfl
set_option maxRecDepth 20000 in
theorem kJ5_append_3fe6f_40 {C : QC} {x : QP} {M : QM} {st : List CV} {L : QL} {a : Int} : Rr C mJ5_append_3fe6f (40, L, qi a :: st, M) x = Rr C mJ5_append_3fe6f (41, L, qi (q_i2b a) :: st, M) x := g_pl (show decode cJ5_append_3fe6f 40 = .ok (.i2b, 1) by decide +kernel) rfl
set_option maxRecDepth 20000 in
theorem kJ5_append_3fe6f_41 {C : QC} {x : QP} {M : QM} {st : List CV} {L : QL} {a : Nat} {j v : Int} (hk : (q_kd M a).1 = 4) (h0 : 0 ≤ j) (h1 : j < ((q_kd M a).2 : Int)) : Rr C mJ5_append_3fe6f (41, L, qi v :: qi j :: qr a :: st, M) x = Rr C mJ5_append_3fe6f (42, L, st, q_wr M a j.toNat (qi (q_i2b v))) x := g_bast (show decode cJ5_append_3fe6f 41 = .ok (.bastore, 1) by decide +kernel) hk h0 h1
set_option maxRecDepth 20000 in
theorem kJ5_append_3fe6f_42 {C : QC} {x : QP} {M : QM} {st : List CV} {L : QL} : Rr C mJ5_append_3fe6f (42, L, st, M) x = Rr C mJ5_append_3fe6f (75, L, st, M) x := g_pl (show decode cJ5_append_3fe6f 42 = .ok (.goto 33, 3) by decide +kernel) rfl
set_option maxRecDepth 20000 in
theorem kJ5_append_3fe6f_45 {C : QC} {x : QP} {M : QM} {st : List CV} {L : QL} {l0 l1 : Option CV} {r : Option Nat} : Rr C mJ5_append_3fe6f (45, [some (.inr (.inr r)), l1], st, M) x = Rr C mJ5_append_3fe6f (46, [some (.inr (.inr r)), l1], .inr (.inr r) :: st, M) x := g_pl (show decode cJ5_append_3fe6f 45 = .ok (.aload_n 0, 1) by decide +kernel) rfl
set_option maxRecDepth 20000 in
theorem kJ5_append_3fe6f_46 {C : QC} {x : QP} {M : QM} {L : QL} {rest : List CV} {v : CV} {M1 : QM} {b : Nat} (hb : q_kd M b = (1, 14)) (hC : C iJ5_isLatin1_aae02 [qr b] M (some v) M1) (hw : (rest.map q_wd).sum ≤ 8) (k : Rr C mJ5_append_3fe6f (49, L, v :: rest, M1) x) : Rr C mJ5_append_3fe6f (46, L, qr b :: rest, M) x := g_cv (ow := 17) (e := (5, 149, 14, [1053, 1055, 1056, 1054, 90])) (as := []) (show decode cJ5_append_3fe6f 46 = .ok (.invokevirtual 83, 3) by decide +kernel) rfl rfl rfl (Or.inr rfl) rfl hb hC hw k
set_option maxRecDepth 20000 in
theorem kJ5_append_3fe6f_49 {C : QC} {x : QP} {M : QM} {st : List CV} {L : QL} {a : Int} (ha1 : -2147483648 ≤ a) (ha2 : a < 2147483648) : Rr C mJ5_append_3fe6f (49, L, qi a :: st, M) x = (if a = 0 then Rr C mJ5_append_3fe6f (56, L, st, M) x else Rr C mJ5_append_3fe6f (52, L, st, M) x) := (g_if (show decode cJ5_append_3fe6f 49 = .ok (.ifCond .eq 7, 3) by decide +kernel) rfl ha1 ha2).trans (g_ite c_eq)
set_option maxRecDepth 20000 in
theorem kJ5_append_3fe6f_52 {C : QC} {x : QP} {M : QM} {st : List CV} {L : QL} {l0 l1 : Option CV} {r : Option Nat} : Rr C mJ5_append_3fe6f (52, [some (.inr (.inr r)), l1], st, M) x = Rr C mJ5_append_3fe6f (53, [some (.inr (.inr r)), l1], .inr (.inr r) :: st, M) x := g_pl (show decode cJ5_append_3fe6f 52 = .ok (.aload_n 0, 1) by decide +kernel) rfl
set_option maxRecDepth 20000 in
theorem kJ5_append_3fe6f_53 {C : QC} {x : QP} {M : QM} {L : QL} {rest : List CV} {M1 : QM} {b : Nat} (hb : q_kd M b = (1, 14)) (hC : C iJ5_inflate_da8c8 [qr b] M none M1) (hw : (rest.map q_wd).sum ≤ 8) (k : Rr C mJ5_append_3fe6f (56, L, rest, M1) x) : Rr C mJ5_append_3fe6f (53, L, qr b :: rest, M) x := g_cv (ow := 17) (e := (5, 157, 14, [1085, 1678, 1709, 1087, 90])) (as := []) (show decode cJ5_append_3fe6f 53 = .ok (.invokevirtual 195, 3) by decide +kernel) rfl rfl rfl (Or.inr rfl) rfl hb hC hw k
set_option maxRecDepth 20000 in
theorem kJ5_append_3fe6f_56 {C : QC} {x : QP} {M : QM} {st : List CV} {L : QL} {l0 l1 : Option CV} {r : Option Nat} : Rr C mJ5_append_3fe6f (56, [some (.inr (.inr r)), l1], st, M) x = Rr C mJ5_append_3fe6f (57, [some (.inr (.inr r)), l1], .inr (.inr r) :: st, M) x := g_pl (show decode cJ5_append_3fe6f 56 = .ok (.aload_n 0, 1) by decide +kernel) rfl
set_option maxRecDepth 20000 in
theorem kJ5_append_3fe6f_57 {C : QC} {x : QP} {M : QM} {st : List CV} {L : QL} {a : Nat} (hk : q_kd M a = (1, 14)) : Rr C mJ5_append_3fe6f (57, L, qr a :: st, M) x = Rr C mJ5_append_3fe6f (60, L, q_fv M a 0 :: st, M) x := g_getf (ow := 17) (e := (14, 0, RJ5, 363, 0)) (show decode cJ5_append_3fe6f 57 = .ok (.getfield 15, 3) by decide +kernel) rfl hk
set_option maxRecDepth 20000 in
theorem kJ5_append_3fe6f_60 {C : QC} {x : QP} {M : QM} {st : List CV} {L : QL} {l0 l1 : Option CV} {r : Option Nat} : Rr C mJ5_append_3fe6f (60, [some (.inr (.inr r)), l1], st, M) x = Rr C mJ5_append_3fe6f (61, [some (.inr (.inr r)), l1], .inr (.inr r) :: st, M) x := g_pl (show decode cJ5_append_3fe6f 60 = .ok (.aload_n 0, 1) by decide +kernel) rfl
set_option maxRecDepth 20000 in
theorem kJ5_append_3fe6f_61i {C : QC} {x : QP} {M : QM} {st : List CV} {L : QL} {a : Int} : Rr C mJ5_append_3fe6f (61, L, qi a :: st, M) x = Rr C mJ5_append_3fe6f (62, L, qi a :: qi a :: st, M) x := g_pl (show decode cJ5_append_3fe6f 61 = .ok (.dup, 1) by decide +kernel) rfl
set_option maxRecDepth 20000 in
theorem kJ5_append_3fe6f_61r {C : QC} {x : QP} {M : QM} {st : List CV} {L : QL} {a : Option Nat} : Rr C mJ5_append_3fe6f (61, L, .inr (.inr a) :: st, M) x = Rr C mJ5_append_3fe6f (62, L, .inr (.inr a) :: .inr (.inr a) :: st, M) x := g_pl (show decode cJ5_append_3fe6f 61 = .ok (.dup, 1) by decide +kernel) rfl
set_option maxRecDepth 20000 in
theorem kJ5_append_3fe6f_62 {C : QC} {x : QP} {M : QM} {st : List CV} {L : QL} {a : Nat} (hk : q_kd M a = (1, 14)) : Rr C mJ5_append_3fe6f (62, L, qr a :: st, M) x = Rr C mJ5_append_3fe6f (65, L, q_fv M a 3 :: st, M) x := g_getf (ow := 17) (e := (14, 3, RJ5, 366, 0)) (show decode cJ5_append_3fe6f 62 = .ok (.getfield 79, 3) by decide +kernel) rfl hk
set_option maxRecDepth 20000 in
theorem kJ5_append_3fe6f_65ii {C : QC} {x : QP} {M : QM} {st : List CV} {L : QL} {a : Int} {b : Int} : Rr C mJ5_append_3fe6f (65, L, qi a :: qi b :: st, M) x = Rr C mJ5_append_3fe6f (66, L, qi a :: qi b :: qi a :: st, M) x := g_pl (show decode cJ5_append_3fe6f 65 = .ok (.dup_x1, 1) by decide +kernel) rfl
set_option maxRecDepth 20000 in
theorem kJ5_append_3fe6f_65ir {C : QC} {x : QP} {M : QM} {st : List CV} {L : QL} {a : Int} {b : Option Nat} : Rr C mJ5_append_3fe6f (65, L, qi a :: .inr (.inr b) :: st, M) x = Rr C mJ5_append_3fe6f (66, L, qi a :: .inr (.inr b) :: qi a :: st, M) x := g_pl (show decode cJ5_append_3fe6f 65 = .ok (.dup_x1, 1) by decide +kernel) rfl
set_option maxRecDepth 20000 in
theorem kJ5_append_3fe6f_65ri {C : QC} {x : QP} {M : QM} {st : List CV} {L : QL} {a : Option Nat} {b : Int} : Rr C mJ5_append_3fe6f (65, L, .inr (.inr a) :: qi b :: st, M) x = Rr C mJ5_append_3fe6f (66, L, .inr (.inr a) :: qi b :: .inr (.inr a) :: st, M) x := g_pl (show decode cJ5_append_3fe6f 65 = .ok (.dup_x1, 1) by decide +kernel) rfl
set_option maxRecDepth 20000 in
theorem kJ5_append_3fe6f_65rr {C : QC} {x : QP} {M : QM} {st : List CV} {L : QL} {a : Option Nat} {b : Option Nat} : Rr C mJ5_append_3fe6f (65, L, .inr (.inr a) :: .inr (.inr b) :: st, M) x = Rr C mJ5_append_3fe6f (66, L, .inr (.inr a) :: .inr (.inr b) :: .inr (.inr a) :: st, M) x := g_pl (show decode cJ5_append_3fe6f 65 = .ok (.dup_x1, 1) by decide +kernel) rfl
set_option maxRecDepth 20000 in
theorem kJ5_append_3fe6f_66 {C : QC} {x : QP} {M : QM} {st : List CV} {L : QL} : Rr C mJ5_append_3fe6f (66, L, st, M) x = Rr C mJ5_append_3fe6f (67, L, qi 1 :: st, M) x := g_pl (show decode cJ5_append_3fe6f 66 = .ok (.iconst 1, 1) by decide +kernel) rfl
set_option maxRecDepth 20000 in
theorem kJ5_append_3fe6f_67 {C : QC} {x : QP} {M : QM} {st : List CV} {L : QL} {a b : Int} : Rr C mJ5_append_3fe6f (67, L, qi b :: qi a :: st, M) x = Rr C mJ5_append_3fe6f (68, L, qi (a + b) :: st, M) x := g_pl (show decode cJ5_append_3fe6f 67 = .ok (.iadd, 1) by decide +kernel) rfl
set_option maxRecDepth 20000 in
theorem kJ5_append_3fe6f_68 {C : QC} {x : QP} {M : QM} {st : List CV} {L : QL} {z : Int} {a : Nat} (hk : q_kd M a = (1, 14)) : Rr C mJ5_append_3fe6f (68, L, qi z :: qr a :: st, M) x = Rr C mJ5_append_3fe6f (71, L, st, q_wr M a 3 (qi z)) x := g_putf (ow := 17) (ini := false) (e := (14, 3, RJ5, 366, 0)) (r := (RJ4, TJ4, 4)) (t := tyJ4) (show decode cJ5_append_3fe6f 68 = .ok (.putfield 79, 3) by decide +kernel) rfl rfl rfl rfl (by decide +kernel) hk
set_option maxRecDepth 20000 in
theorem kJ5_append_3fe6f_71 {C : QC} {x : QP} {M : QM} {st : List CV} {L : QL} {l0 l1 : Option CV} {z : Int} : Rr C mJ5_append_3fe6f (71, [l0, some (qi z)], st, M) x = Rr C mJ5_append_3fe6f (72, [l0, some (qi z)], qi z :: st, M) x := g_pl (show decode cJ5_append_3fe6f 71 = .ok (.iload_n 1, 1) by decide +kernel) rfl
set_option maxRecDepth 20000 in
theorem kJ5_append_3fe6f_75 {C : QC} {x : QP} {M : QM} {st : List CV} {L : QL} {l0 l1 : Option CV} {r : Option Nat} : Rr C mJ5_append_3fe6f (75, [some (.inr (.inr r)), l1], st, M) x = Rr C mJ5_append_3fe6f (76, [some (.inr (.inr r)), l1], .inr (.inr r) :: st, M) x := g_pl (show decode cJ5_append_3fe6f 75 = .ok (.aload_n 0, 1) by decide +kernel) rfl
set_option maxRecDepth 20000 in
theorem kJ5_append_3fe6f_76 {C : QC} {x : QP} {M : QM} {st : List CV} {L : QL} {r : Option Nat} : Rr C mJ5_append_3fe6f (76, L, [.inr (.inr r)], M) x = x (some (.inr (.inr r))) M := g_areto (show decode cJ5_append_3fe6f 76 = .ok (.areturn, 1) by decide +kernel)
set_option maxRecDepth 20000 in
theorem eJ5_append_3fe6f {d : Nat} {M : QM} {x : QP} {a : Nat} {v0 : Int} : q_T (d + 1) iJ5_append_3fe6f [qr a, qi v0] M x = Rr (q_C d) mJ5_append_3fe6f (0, [some (qr a), some (qi v0)], [], M) x := g_entryT (e := _) rfl (Nat.le_of_ble_eq_true rfl) rfl rfl
def mJ5_append_c97b9 : QI := (17, cJ5_append_c97b9, false, some (.object "java/lang/AbstractStringBuilder"))
set_option maxRecDepth 20000 in
theorem kJ5_append_c97b9_0 {C : QC} {x : QP} {M : QM} {st : List CV} {L : QL} {l0 l1 l2 l3 : Option CV} {r : Option Nat} : Rr C mJ5_append_c97b9 (0, [some (.inr (.inr r)), l1, l2, l3], st, M) x = Rr C mJ5_append_c97b9 (1, [some (.inr (.inr r)), l1, l2, l3], .inr (.inr r) :: st, M) x := g_pl (show decode cJ5_append_c97b9 0 = .ok (.aload_n 0, 1) by decide +kernel) rfl
set_option maxRecDepth 20000 in
theorem kJ5_append_c97b9_1 {C : QC} {x : QP} {M : QM} {st : List CV} {L : QL} {a : Nat} (hk : q_kd M a = (1, 14)) : Rr C mJ5_append_c97b9 (1, L, qr a :: st, M) x = Rr C mJ5_append_c97b9 (4, L, q_fv M a 3 :: st, M) x := g_getf (ow := 17) (e := (14, 3, RJ5, 366, 0)) (show decode cJ5_append_c97b9 1 = .ok (.getfield 79, 3) by decide +kernel) rfl hk
set_option maxRecDepth 20000 in
theorem kJ5_append_c97b9_4 {C : QC} {x : QP} {M : QM} {st : List CV} {L : QL} {l0 l1 l2 l3 : Option CV} {z : Int} : Rr C mJ5_append_c97b9 (4, [l0, l1, l2, l3], qi z :: st, M) x = Rr C mJ5_append_c97b9 (5, [l0, q_cut l1, some (qi z), l3], st, M) x := g_pl (show decode cJ5_append_c97b9 4 = .ok (.istore_n 2, 1) by decide +kernel) rfl
set_option maxRecDepth 20000 in
theorem kJ5_append_c97b9_5 {C : QC} {x : QP} {M : QM} {st : List CV} {L : QL} {l0 l1 l2 l3 : Option CV} {z : Int} : Rr C mJ5_append_c97b9 (5, [l0, l1, some (qi z), l3], st, M) x = Rr C mJ5_append_c97b9 (6, [l0, l1, some (qi z), l3], qi z :: st, M) x := g_pl (show decode cJ5_append_c97b9 5 = .ok (.iload_n 2, 1) by decide +kernel) rfl
set_option maxRecDepth 20000 in
theorem kJ5_append_c97b9_6 {C : QC} {x : QP} {M : QM} {st : List CV} {L : QL} {l0 l1 l2 l3 : Option CV} {z : Int} : Rr C mJ5_append_c97b9 (6, [l0, some (qi z), l2, l3], st, M) x = Rr C mJ5_append_c97b9 (7, [l0, some (qi z), l2, l3], qi z :: st, M) x := g_pl (show decode cJ5_append_c97b9 6 = .ok (.iload_n 1, 1) by decide +kernel) rfl
set_option maxRecDepth 20000 in
theorem kJ5_append_c97b9_7 {C : QC} {x : QP} {M : QM} {L : QL} {rest : List CV} {a0 : CV} {v : CV} {M1 : QM} (hC : C iJ6_stringSize_0f7a4 [a0] M (some v) M1) (hw : (rest.map q_wd).sum ≤ 8) (k : Rr C mJ5_append_c97b9 (10, L, v :: rest, M1) x) : Rr C mJ5_append_c97b9 (7, L, a0 :: rest, M) x := g_cs (ow := 17) (e := (1, 169, 0, [1163, 1164, 105])) (as := [a0]) (show decode cJ5_append_c97b9 7 = .ok (.invokestatic 245, 3) by decide +kernel) rfl rfl rfl rfl (Or.inl rfl) rfl hC hw k
set_option maxRecDepth 20000 in
theorem kJ5_append_c97b9_10 {C : QC} {x : QP} {M : QM} {st : List CV} {L : QL} {a b : Int} : Rr C mJ5_append_c97b9 (10, L, qi b :: qi a :: st, M) x = Rr C mJ5_append_c97b9 (11, L, qi (a + b) :: st, M) x := g_pl (show decode cJ5_append_c97b9 10 = .ok (.iadd, 1) by decide +kernel) rfl
set_option maxRecDepth 20000 in
theorem kJ5_append_c97b9_11 {C : QC} {x : QP} {M : QM} {st : List CV} {L : QL} {l0 l1 l2 l3 : Option CV} {z : Int} : Rr C mJ5_append_c97b9 (11, [l0, l1, l2, l3], qi z :: st, M) x = Rr C mJ5_append_c97b9 (12, [l0, l1, q_cut l2, some (qi z)], st, M) x := g_pl (show decode cJ5_append_c97b9 11 = .ok (.istore_n 3, 1) by decide +kernel) rfl
set_option maxRecDepth 20000 in
theorem kJ5_append_c97b9_12 {C : QC} {x : QP} {M : QM} {st : List CV} {L : QL} {l0 l1 l2 l3 : Option CV} {r : Option Nat} : Rr C mJ5_append_c97b9 (12, [some (.inr (.inr r)), l1, l2, l3], st, M) x = Rr C mJ5_append_c97b9 (13, [some (.inr (.inr r)), l1, l2, l3], .inr (.inr r) :: st, M) x := g_pl (show decode cJ5_append_c97b9 12 = .ok (.aload_n 0, 1) by decide +kernel) rfl
set_option maxRecDepth 20000 in
theorem kJ5_append_c97b9_13 {C : QC} {x : QP} {M : QM} {st : List CV} {L : QL} {l0 l1 l2 l3 : Option CV} {z : Int} : Rr C mJ5_append_c97b9 (13, [l0, l1, l2, some (qi z)], st, M) x = Rr C mJ5_append_c97b9 (14, [l0, l1, l2, some (qi z)], qi z :: st, M) x := g_pl (show decode cJ5_append_c97b9 13 = .ok (.iload_n 3, 1) by decide +kernel) rfl
set_option maxRecDepth 20000 in
theorem kJ5_append_c97b9_14 {C : QC} {x : QP} {M : QM} {L : QL} {rest : List CV} {a0 : CV} {M1 : QM} {b : Nat} (hb : q_kd M b = (1, 14)) (hC : C iJ5_ensureCapacityInternal_d00df [qr b, a0] M none M1) (hw : (rest.map q_wd).sum ≤ 8) (k : Rr C mJ5_append_c97b9 (17, L, rest, M1) x) : Rr C mJ5_append_c97b9 (14, L, a0 :: qr b :: rest, M) x := g_cv (ow := 17) (e := (5, 146, 14, [1035, 1675, 1707, 1037, 90])) (as := [a0]) (show decode cJ5_append_c97b9 14 = .ok (.invokevirtual 100, 3) by decide +kernel) rfl rfl rfl (Or.inr rfl) rfl hb hC hw k
set_option maxRecDepth 20000 in
theorem kJ5_append_c97b9_17 {C : QC} {x : QP} {M : QM} {st : List CV} {L : QL} {l0 l1 l2 l3 : Option CV} {r : Option Nat} : Rr C mJ5_append_c97b9 (17, [some (.inr (.inr r)), l1, l2, l3], st, M) x = Rr C mJ5_append_c97b9 (18, [some (.inr (.inr r)), l1, l2, l3], .inr (.inr r) :: st, M) x := g_pl (show decode cJ5_append_c97b9 17 = .ok (.aload_n 0, 1) by decide +kernel) rfl
set_option maxRecDepth 20000 in
theorem kJ5_append_c97b9_18 {C : QC} {x : QP} {M : QM} {L : QL} {rest : List CV} {v : CV} {M1 : QM} {b : Nat} (hb : q_kd M b = (1, 14)) (hC : C iJ5_isLatin1_aae02 [qr b] M (some v) M1) (hw : (rest.map q_wd).sum ≤ 8) (k : Rr C mJ5_append_c97b9 (21, L, v :: rest, M1) x) : Rr C mJ5_append_c97b9 (18, L, qr b :: rest, M) x := g_cv (ow := 17) (e := (5, 149, 14, [1053, 1055, 1056, 1054, 90])) (as := []) (show decode cJ5_append_c97b9 18 = .ok (.invokevirtual 83, 3) by decide +kernel) rfl rfl rfl (Or.inr rfl) rfl hb hC hw k
set_option maxRecDepth 20000 in
theorem kJ5_append_c97b9_21 {C : QC} {x : QP} {M : QM} {st : List CV} {L : QL} {a : Int} (ha1 : -2147483648 ≤ a) (ha2 : a < 2147483648) : Rr C mJ5_append_c97b9 (21, L, qi a :: st, M) x = (if a = 0 then Rr C mJ5_append_c97b9 (37, L, st, M) x else Rr C mJ5_append_c97b9 (24, L, st, M) x) := (g_if (show decode cJ5_append_c97b9 21 = .ok (.ifCond .eq 16, 3) by decide +kernel) rfl ha1 ha2).trans (g_ite c_eq)
set_option maxRecDepth 20000 in
theorem kJ5_append_c97b9_24 {C : QC} {x : QP} {M : QM} {st : List CV} {L : QL} {l0 l1 l2 l3 : Option CV} {z : Int} : Rr C mJ5_append_c97b9 (24, [l0, some (qi z), l2, l3], st, M) x = Rr C mJ5_append_c97b9 (25, [l0, some (qi z), l2, l3], qi z :: st, M) x := g_pl (show decode cJ5_append_c97b9 24 = .ok (.iload_n 1, 1) by decide +kernel) rfl
set_option maxRecDepth 20000 in
theorem kJ5_append_c97b9_25 {C : QC} {x : QP} {M : QM} {st : List CV} {L : QL} {l0 l1 l2 l3 : Option CV} {z : Int} : Rr C mJ5_append_c97b9 (25, [l0, l1, l2, some (qi z)], st, M) x = Rr C mJ5_append_c97b9 (26, [l0, l1, l2, some (qi z)], qi z :: st, M) x := g_pl (show decode cJ5_append_c97b9 25 = .ok (.iload_n 3, 1) by decide +kernel) rfl
set_option maxRecDepth 20000 in
theorem kJ5_append_c97b9_26 {C : QC} {x : QP} {M : QM} {st : List CV} {L : QL} {l0 l1 l2 l3 : Option CV} {r : Option Nat} : Rr C mJ5_append_c97b9 (26, [some (.inr (.inr r)), l1, l2, l3], st, M) x = Rr C mJ5_append_c97b9 (27, [some (.inr (.inr r)), l1, l2, l3], .inr (.inr r) :: st, M) x := g_pl (show decode cJ5_append_c97b9 26 = .ok (.aload_n 0, 1) by decide +kernel) rfl
set_option maxRecDepth 20000 in
theorem kJ5_append_c97b9_27 {C : QC} {x : QP} {M : QM} {st : List CV} {L : QL} {a : Nat} (hk : q_kd M a = (1, 14)) : Rr C mJ5_append_c97b9 (27, L, qr a :: st, M) x = Rr C mJ5_append_c97b9 (30, L, q_fv M a 0 :: st, M) x := g_getf (ow := 17) (e := (14, 0, RJ5, 363, 0)) (show decode cJ5_append_c97b9 27 = .ok (.getfield 15, 3) by decide +kernel) rfl hk
set_option maxRecDepth 20000 in
theorem kJ5_append_c97b9_30 {C : QC} {x : QP} {M : QM} {L : QL} {rest : List CV} {a0 a1 a2 : CV} {v : CV} {M1 : QM} (hC : C iJ6_getChars_ba4f3 [a0, a1, a2] M (some v) M1) (hw : (rest.map q_wd).sum ≤ 8) (k : Rr C mJ5_append_c97b9 (33, L, v :: rest, M1) x) : Rr C mJ5_append_c97b9 (30, L, a2 :: a1 :: a0 :: rest, M) x := g_cs (ow := 17) (e := (1, 170, 0, [1166, 1167, 105])) (as := [a0, a1, a2]) (show decode cJ5_append_c97b9 30 = .ok (.invokestatic 248, 3) by decide +kernel) rfl rfl rfl rfl (Or.inl rfl) rfl hC hw k
set_option maxRecDepth 20000 in
theorem kJ5_append_c97b9_33i {C : QC} {x : QP} {M : QM} {st : List CV} {L : QL} {a : Int} : Rr C mJ5_append_c97b9 (33, L, qi a :: st, M) x = Rr C mJ5_append_c97b9 (34, L, st, M) x := g_pl (show decode cJ5_append_c97b9 33 = .ok (.pop, 1) by decide +kernel) rfl
set_option maxRecDepth 20000 in
theorem kJ5_append_c97b9_33r {C : QC} {x : QP} {M : QM} {st : List CV} {L : QL} {a : Option Nat} : Rr C mJ5_append_c97b9 (33, L, .inr (.inr a) :: st, M) x = Rr C mJ5_append_c97b9 (34, L, st, M) x := g_pl (show decode cJ5_append_c97b9 33 = .ok (.pop, 1) by decide +kernel) rfl
set_option maxRecDepth 20000 in
theorem kJ5_append_c97b9_34 {C : QC} {x : QP} {M : QM} {st : List CV} {L : QL} : Rr C mJ5_append_c97b9 (34, L, st, M) x = Rr C mJ5_append_c97b9 (48, L, st, M) x := g_pl (show decode cJ5_append_c97b9 34 = .ok (.goto 14, 3) by decide +kernel) rfl
set_option maxRecDepth 20000 in
theorem kJ5_append_c97b9_37 {C : QC} {x : QP} {M : QM} {st : List CV} {L : QL} {l0 l1 l2 l3 : Option CV} {z : Int} : Rr C mJ5_append_c97b9 (37, [l0, some (qi z), l2, l3], st, M) x = Rr C mJ5_append_c97b9 (38, [l0, some (qi z), l2, l3], qi z :: st, M) x := g_pl (show decode cJ5_append_c97b9 37 = .ok (.iload_n 1, 1) by decide +kernel) rfl
set_option maxRecDepth 20000 in
theorem kJ5_append_c97b9_38 {C : QC} {x : QP} {M : QM} {st : List CV} {L : QL} {l0 l1 l2 l3 : Option CV} {z : Int} : Rr C mJ5_append_c97b9 (38, [l0, l1, some (qi z), l3], st, M) x = Rr C mJ5_append_c97b9 (39, [l0, l1, some (qi z), l3], qi z :: st, M) x := g_pl (show decode cJ5_append_c97b9 38 = .ok (.iload_n 2, 1) by decide +kernel) rfl
set_option maxRecDepth 20000 in
theorem kJ5_append_c97b9_39 {C : QC} {x : QP} {M : QM} {st : List CV} {L : QL} {l0 l1 l2 l3 : Option CV} {z : Int} : Rr C mJ5_append_c97b9 (39, [l0, l1, l2, some (qi z)], st, M) x = Rr C mJ5_append_c97b9 (40, [l0, l1, l2, some (qi z)], qi z :: st, M) x := g_pl (show decode cJ5_append_c97b9 39 = .ok (.iload_n 3, 1) by decide +kernel) rfl
set_option maxRecDepth 20000 in
theorem kJ5_append_c97b9_40 {C : QC} {x : QP} {M : QM} {st : List CV} {L : QL} {l0 l1 l2 l3 : Option CV} {r : Option Nat} : Rr C mJ5_append_c97b9 (40, [some (.inr (.inr r)), l1, l2, l3], st, M) x = Rr C mJ5_append_c97b9 (41, [some (.inr (.inr r)), l1, l2, l3], .inr (.inr r) :: st, M) x := g_pl (show decode cJ5_append_c97b9 40 = .ok (.aload_n 0, 1) by decide +kernel) rfl
set_option maxRecDepth 20000 in
theorem kJ5_append_c97b9_41 {C : QC} {x : QP} {M : QM} {st : List CV} {L : QL} {a : Nat} (hk : q_kd M a = (1, 14)) : Rr C mJ5_append_c97b9 (41, L, qr a :: st, M) x = Rr C mJ5_append_c97b9 (44, L, q_fv M a 0 :: st, M) x := g_getf (ow := 17) (e := (14, 0, RJ5, 363, 0)) (show decode cJ5_append_c97b9 41 = .ok (.getfield 15, 3) by decide +kernel) rfl hk
set_option maxRecDepth 20000 in
theorem kJ5_append_c97b9_47i {C : QC} {x : QP} {M : QM} {st : List CV} {L : QL} {a : Int} : Rr C mJ5_append_c97b9 (47, L, qi a :: st, M) x = Rr C mJ5_append_c97b9 (48, L, st, M) x := g_pl (show decode cJ5_append_c97b9 47 = .ok (.pop, 1) by decide +kernel) rfl
set_option maxRecDepth 20000 in
theorem kJ5_append_c97b9_47r {C : QC} {x : QP} {M : QM} {st : List CV} {L : QL} {a : Option Nat} : Rr C mJ5_append_c97b9 (47, L, .inr (.inr a) :: st, M) x = Rr C mJ5_append_c97b9 (48, L, st, M) x := g_pl (show decode cJ5_append_c97b9 47 = .ok (.pop, 1) by decide +kernel) rfl
set_option maxRecDepth 20000 in
theorem kJ5_append_c97b9_48 {C : QC} {x : QP} {M : QM} {st : List CV} {L : QL} {l0 l1 l2 l3 : Option CV} {r : Option Nat} : Rr C mJ5_append_c97b9 (48, [some (.inr (.inr r)), l1, l2, l3], st, M) x = Rr C mJ5_append_c97b9 (49, [some (.inr (.inr r)), l1, l2, l3], .inr (.inr r) :: st, M) x := g_pl (show decode cJ5_append_c97b9 48 = .ok (.aload_n 0, 1) by decide +kernel) rfl
set_option maxRecDepth 20000 in
theorem kJ5_append_c97b9_49 {C : QC} {x : QP} {M : QM} {st : List CV} {L : QL} {l0 l1 l2 l3 : Option CV} {z : Int} : Rr C mJ5_append_c97b9 (49, [l0, l1, l2, some (qi z)], st, M) x = Rr C mJ5_append_c97b9 (50, [l0, l1, l2, some (qi z)], qi z :: st, M) x := g_pl (show decode cJ5_append_c97b9 49 = .ok (.iload_n 3, 1) by decide +kernel) rfl
set_option maxRecDepth 20000 in
theorem kJ5_append_c97b9_50 {C : QC} {x : QP} {M : QM} {st : List CV} {L : QL} {z : Int} {a : Nat} (hk : q_kd M a = (1, 14)) : Rr C mJ5_append_c97b9 (50, L, qi z :: qr a :: st, M) x = Rr C mJ5_append_c97b9 (53, L, st, q_wr M a 3 (qi z)) x := g_putf (ow := 17) (ini := false) (e := (14, 3, RJ5, 366, 0)) (r := (RJ4, TJ4, 4)) (t := tyJ4) (show decode cJ5_append_c97b9 50 = .ok (.putfield 79, 3) by decide +kernel) rfl rfl rfl rfl (by decide +kernel) hk
set_option maxRecDepth 20000 in
theorem kJ5_append_c97b9_53 {C : QC} {x : QP} {M : QM} {st : List CV} {L : QL} {l0 l1 l2 l3 : Option CV} {r : Option Nat} : Rr C mJ5_append_c97b9 (53, [some (.inr (.inr r)), l1, l2, l3], st, M) x = Rr C mJ5_append_c97b9 (54, [some (.inr (.inr r)), l1, l2, l3], .inr (.inr r) :: st, M) x := g_pl (show decode cJ5_append_c97b9 53 = .ok (.aload_n 0, 1) by decide +kernel) rfl
set_option maxRecDepth 20000 in
theorem kJ5_append_c97b9_54 {C : QC} {x : QP} {M : QM} {st : List CV} {L : QL} {r : Option Nat} : Rr C mJ5_append_c97b9 (54, L, [.inr (.inr r)], M) x = x (some (.inr (.inr r))) M := g_areto (show decode cJ5_append_c97b9 54 = .ok (.areturn, 1) by decide +kernel)
set_option maxRecDepth 20000 in
theorem eJ5_append_c97b9 {d : Nat} {M : QM} {x : QP} {a : Nat} {v0 : Int} : q_T (d + 1) iJ5_append_c97b9 [qr a, qi v0] M x = Rr (q_C d) mJ5_append_c97b9 (0, [some (qr a), some (qi v0), none, none], [], M) x := g_entryT (e := _) rfl (Nat.le_of_ble_eq_true rfl) rfl rfl
def mJ5_isLatin1_aae02 : QI := (17, cJ5_isLatin1_aae02, false, some .boolean)
set_option maxRecDepth 20000 in
theorem kJ5_isLatin1_aae02_0 {C : QC} {x : QP} {M : QM} {st : List CV} {L : QL} : Rr C mJ5_isLatin1_aae02 (0, L, st, M) x = Rr C mJ5_isLatin1_aae02 (3, L, qi 1 :: st, M) x := g_gets (ow := 17) (e := (1, "java/lang/String", "COMPACT_STRINGS", "Z", 354)) (show decode cJ5_isLatin1_aae02 0 = .ok (.getstatic 18, 3) by decide +kernel) rfl
set_option maxRecDepth 20000 in
theorem kJ5_isLatin1_aae02_3 {C : QC} {x : QP} {M : QM} {st : List CV} {L : QL} {a : Int} (ha1 : -2147483648 ≤ a) (ha2 : a < 2147483648) : Rr C mJ5_isLatin1_aae02 (3, L, qi a :: st, M) x = (if a = 0 then Rr C mJ5_isLatin1_aae02 (17, L, st, M) x else Rr C mJ5_isLatin1_aae02 (6, L, st, M) x) := (g_if (show decode cJ5_isLatin1_aae02 3 = .ok (.ifCond .eq 14, 3) by decide +kernel) rfl ha1 ha2).trans (g_ite c_eq)
set_option maxRecDepth 20000 in
theorem kJ5_isLatin1_aae02_6 {C : QC} {x : QP} {M : QM} {st : List CV} {L : QL} {r : Option Nat} : Rr C mJ5_isLatin1_aae02 (6, [some (.inr (.inr r))], st, M) x = Rr C mJ5_isLatin1_aae02 (7, [some (.inr (.inr r))], .inr (.inr r) :: st, M) x := g_pl (show decode cJ5_isLatin1_aae02 6 = .ok (.aload_n 0, 1) by decide +kernel) rfl
set_option maxRecDepth 20000 in
theorem kJ5_isLatin1_aae02_7 {C : QC} {x : QP} {M : QM} {st : List CV} {L : QL} {a : Nat} (hk : q_kd M a = (1, 14)) : Rr C mJ5_isLatin1_aae02 (7, L, qr a :: st, M) x = Rr C mJ5_isLatin1_aae02 (10, L, q_fv M a 1 :: st, M) x := g_getf (ow := 17) (e := (14, 1, RJ5, 364, 0)) (show decode cJ5_isLatin1_aae02 7 = .ok (.getfield 22, 3) by decide +kernel) rfl hk
set_option maxRecDepth 20000 in
theorem kJ5_isLatin1_aae02_10 {C : QC} {x : QP} {M : QM} {st : List CV} {L : QL} {a : Int} (ha1 : -2147483648 ≤ a) (ha2 : a < 2147483648) : Rr C mJ5_isLatin1_aae02 (10, L, qi a :: st, M) x = (if a = 0 then Rr C mJ5_isLatin1_aae02 (13, L, st, M) x else Rr C mJ5_isLatin1_aae02 (17, L, st, M) x) := (g_if (show decode cJ5_isLatin1_aae02 10 = .ok (.ifCond .ne 7, 3) by decide +kernel) rfl ha1 ha2).trans (g_itn c_ne)
set_option maxRecDepth 20000 in
theorem kJ5_isLatin1_aae02_13 {C : QC} {x : QP} {M : QM} {st : List CV} {L : QL} : Rr C mJ5_isLatin1_aae02 (13, L, st, M) x = Rr C mJ5_isLatin1_aae02 (14, L, qi 1 :: st, M) x := g_pl (show decode cJ5_isLatin1_aae02 13 = .ok (.iconst 1, 1) by decide +kernel) rfl
set_option maxRecDepth 20000 in
theorem kJ5_isLatin1_aae02_14 {C : QC} {x : QP} {M : QM} {st : List CV} {L : QL} : Rr C mJ5_isLatin1_aae02 (14, L, st, M) x = Rr C mJ5_isLatin1_aae02 (18, L, st, M) x := g_pl (show decode cJ5_isLatin1_aae02 14 = .ok (.goto 4, 3) by decide +kernel) rfl
set_option maxRecDepth 20000 in
theorem kJ5_isLatin1_aae02_17 {C : QC} {x : QP} {M : QM} {st : List CV} {L : QL} : Rr C mJ5_isLatin1_aae02 (17, L, st, M) x = Rr C mJ5_isLatin1_aae02 (18, L, qi 0 :: st, M) x := g_pl (show decode cJ5_isLatin1_aae02 17 = .ok (.iconst 0, 1) by decide +kernel) rfl
set_option maxRecDepth 20000 in
theorem kJ5_isLatin1_aae02_18 {C : QC} {x : QP} {M : QM} {st : List CV} {L : QL} {z : Int} (hz : z = 0 ∨ z = 1) : Rr C mJ5_isLatin1_aae02 (18, L, [qi z], M) x = x (some (qi z)) M := g_iret (show decode cJ5_isLatin1_aae02 18 = .ok (.ireturn, 1) by decide +kernel) (by rcases hz with rfl | rfl <;> rfl)
set_option maxRecDepth 20000 in
theorem eJ5_isLatin1_aae02 {d : Nat} {M : QM} {x : QP} {a : Nat} : q_T (d + 1) iJ5_isLatin1_aae02 [qr a] M x = Rr (q_C d) mJ5_isLatin1_aae02 (0, [some (qr a)], [], M) x := g_entryT (e := _) rfl (Nat.le_of_ble_eq_true rfl) rfl rfl
def mJ6_getChars_ba4f3 : QI := (20, cJ6_getChars_ba4f3, false, some .int)
set_option maxRecDepth 20000 in
theorem kJ6_getChars_ba4f3_0 {C : QC} {x : QP} {M : QM} {st : List CV} {L : QL} {l0 l1 l2 l3 l4 l5 l6 : Option CV} {z : Int} : Rr C mJ6_getChars_ba4f3 (0, [l0, some (qi z), l2, l3, l4, l5, l6], st, M) x = Rr C mJ6_getChars_ba4f3 (1, [l0, some (qi z), l2, l3, l4, l5, l6], qi z :: st, M) x := g_pl (show decode cJ6_getChars_ba4f3 0 = .ok (.iload_n 1, 1) by decide +kernel) rfl
set_option maxRecDepth 20000 in
theorem kJ6_getChars_ba4f3_1 {C : QC} {x : QP} {M : QM} {st : List CV} {L : QL} {l0 l1 l2 l3 l4 l5 l6 : Option CV} {z : Int} : Rr C mJ6_getChars_ba4f3 (1, [l0, l1, l2, l3, l4, l5, l6], qi z :: st, M) x = Rr C mJ6_getChars_ba4f3 (3, [l0, l1, l2, l3, q_cut l4, some (qi z), l6], st, M) x := g_pl (show decode cJ6_getChars_ba4f3 1 = .ok (.istore 5, 2) by decide +kernel) rfl
set_option maxRecDepth 20000 in
theorem kJ6_getChars_ba4f3_3 {C : QC} {x : QP} {M : QM} {st : List CV} {L : QL} {l0 l1 l2 l3 l4 l5 l6 : Option CV} {z : Int} : Rr C mJ6_getChars_ba4f3 (3, [some (qi z), l1, l2, l3, l4, l5, l6], st, M) x = Rr C mJ6_getChars_ba4f3 (4, [some (qi z), l1, l2, l3, l4, l5, l6], qi z :: st, M) x := g_pl (show decode cJ6_getChars_ba4f3 3 = .ok (.iload_n 0, 1) by decide +kernel) rfl
set_option maxRecDepth 20000 in
theorem kJ6_getChars_ba4f3_4 {C : QC} {x : QP} {M : QM} {st : List CV} {L : QL} {a : Int} (ha1 : -2147483648 ≤ a) (ha2 : a < 2147483648) : Rr C mJ6_getChars_ba4f3 (4, L, qi a :: st, M) x = (if a < 0 then Rr C mJ6_getChars_ba4f3 (7, L, st, M) x else Rr C mJ6_getChars_ba4f3 (11, L, st, M) x) := (g_if (show decode cJ6_getChars_ba4f3 4 = .ok (.ifCond .ge 7, 3) by decide +kernel) rfl ha1 ha2).trans (g_itn c_ge)
set_option maxRecDepth 20000 in
theorem kJ6_getChars_ba4f3_7 {C : QC} {x : QP} {M : QM} {st : List CV} {L : QL} : Rr C mJ6_getChars_ba4f3 (7, L, st, M) x = Rr C mJ6_getChars_ba4f3 (8, L, qi 1 :: st, M) x := g_pl (show decode cJ6_getChars_ba4f3 7 = .ok (.iconst 1, 1) by decide +kernel) rfl
set_option maxRecDepth 20000 in
theorem kJ6_getChars_ba4f3_8 {C : QC} {x : QP} {M : QM} {st : List CV} {L : QL} : Rr C mJ6_getChars_ba4f3 (8, L, st, M) x = Rr C mJ6_getChars_ba4f3 (12, L, st, M) x := g_pl (show decode cJ6_getChars_ba4f3 8 = .ok (.goto 4, 3) by decide +kernel) rfl
set_option maxRecDepth 20000 in
theorem kJ6_getChars_ba4f3_11 {C : QC} {x : QP} {M : QM} {st : List CV} {L : QL} : Rr C mJ6_getChars_ba4f3 (11, L, st, M) x = Rr C mJ6_getChars_ba4f3 (12, L, qi 0 :: st, M) x := g_pl (show decode cJ6_getChars_ba4f3 11 = .ok (.iconst 0, 1) by decide +kernel) rfl
set_option maxRecDepth 20000 in
theorem kJ6_getChars_ba4f3_12 {C : QC} {x : QP} {M : QM} {st : List CV} {L : QL} {l0 l1 l2 l3 l4 l5 l6 : Option CV} {z : Int} : Rr C mJ6_getChars_ba4f3 (12, [l0, l1, l2, l3, l4, l5, l6], qi z :: st, M) x = Rr C mJ6_getChars_ba4f3 (14, [l0, l1, l2, l3, l4, q_cut l5, some (qi z)], st, M) x := g_pl (show decode cJ6_getChars_ba4f3 12 = .ok (.istore 6, 2) by decide +kernel) rfl
set_option maxRecDepth 20000 in
theorem kJ6_getChars_ba4f3_14 {C : QC} {x : QP} {M : QM} {st : List CV} {L : QL} {l0 l1 l2 l3 l4 l5 l6 : Option CV} {z : Int} : Rr C mJ6_getChars_ba4f3 (14, [l0, l1, l2, l3, l4, l5, some (qi z)], st, M) x = Rr C mJ6_getChars_ba4f3 (16, [l0, l1, l2, l3, l4, l5, some (qi z)], qi z :: st, M) x := g_pl (show decode cJ6_getChars_ba4f3 14 = .ok (.iload 6, 2) by decide +kernel) rfl
set_option maxRecDepth 20000 in
theorem kJ6_getChars_ba4f3_16 {C : QC} {x : QP} {M : QM} {st : List CV} {L : QL} {a : Int} (ha1 : -2147483648 ≤ a) (ha2 : a < 2147483648) : Rr C mJ6_getChars_ba4f3 (16, L, qi a :: st, M) x = (if a = 0 then Rr C mJ6_getChars_ba4f3 (19, L, st, M) x else Rr C mJ6_getChars_ba4f3 (22, L, st, M) x) := (g_if (show decode cJ6_getChars_ba4f3 16 = .ok (.ifCond .ne 6, 3) by decide +kernel) rfl ha1 ha2).trans (g_itn c_ne)
set_option maxRecDepth 20000 in
theorem kJ6_getChars_ba4f3_19 {C : QC} {x : QP} {M : QM} {st : List CV} {L : QL} {l0 l1 l2 l3 l4 l5 l6 : Option CV} {z : Int} : Rr C mJ6_getChars_ba4f3 (19, [some (qi z), l1, l2, l3, l4, l5, l6], st, M) x = Rr C mJ6_getChars_ba4f3 (20, [some (qi z), l1, l2, l3, l4, l5, l6], qi z :: st, M) x := g_pl (show decode cJ6_getChars_ba4f3 19 = .ok (.iload_n 0, 1) by decide +kernel) rfl
set_option maxRecDepth 20000 in
theorem kJ6_getChars_ba4f3_20 {C : QC} {x : QP} {M : QM} {st : List CV} {L : QL} {a : Int} : Rr C mJ6_getChars_ba4f3 (20, L, qi a :: st, M) x = Rr C mJ6_getChars_ba4f3 (21, L, qi (-a) :: st, M) x := g_pl (show decode cJ6_getChars_ba4f3 20 = .ok (.ineg, 1) by decide +kernel) rfl
set_option maxRecDepth 20000 in
theorem kJ6_getChars_ba4f3_21 {C : QC} {x : QP} {M : QM} {st : List CV} {L : QL} {l0 l1 l2 l3 l4 l5 l6 : Option CV} {z : Int} : Rr C mJ6_getChars_ba4f3 (21, [l0, l1, l2, l3, l4, l5, l6], qi z :: st, M) x = Rr C mJ6_getChars_ba4f3 (22, [some (qi z), l1, l2, l3, l4, l5, l6], st, M) x := g_pl (show decode cJ6_getChars_ba4f3 21 = .ok (.istore_n 0, 1) by decide +kernel) rfl
set_option maxRecDepth 20000 in
theorem kJ6_getChars_ba4f3_22 {C : QC} {x : QP} {M : QM} {st : List CV} {L : QL} {l0 l1 l2 l3 l4 l5 l6 : Option CV} {z : Int} : Rr C mJ6_getChars_ba4f3 (22, [some (qi z), l1, l2, l3, l4, l5, l6], st, M) x = Rr C mJ6_getChars_ba4f3 (23, [some (qi z), l1, l2, l3, l4, l5, l6], qi z :: st, M) x := g_pl (show decode cJ6_getChars_ba4f3 22 = .ok (.iload_n 0, 1) by decide +kernel) rfl
set_option maxRecDepth 20000 in
theorem kJ6_getChars_ba4f3_23 {C : QC} {x : QP} {M : QM} {st : List CV} {L : QL} : Rr C mJ6_getChars_ba4f3 (23, L, st, M) x = Rr C mJ6_getChars_ba4f3 (25, L, qi (-100) :: st, M) x := g_pl (show decode cJ6_getChars_ba4f3 23 = .ok (.bipush (-100), 2) by decide +kernel) rfl
set_option maxRecDepth 20000 in
theorem kJ6_getChars_ba4f3_25 {C : QC} {x : QP} {M : QM} {st : List CV} {L : QL} {a b : Int} (ha1 : -2147483648 ≤ a) (ha2 : a < 2147483648) (hb1 : -2147483648 ≤ b) (hb2 : b < 2147483648) : Rr C mJ6_getChars_ba4f3 (25, L, qi b :: qi a :: st, M) x = (if b < a then Rr C mJ6_getChars_ba4f3 (72, L, st, M) x else Rr C mJ6_getChars_ba4f3 (28, L, st, M) x) := (g_icmp (show decode cJ6_getChars_ba4f3 25 = .ok (.if_icmp .gt 47, 3) by decide +kernel) rfl ha1 ha2 hb1 hb2).trans (g_ite c_gt)
set_option maxRecDepth 20000 in
theorem kJ6_getChars_ba4f3_28 {C : QC} {x : QP} {M : QM} {st : List CV} {L : QL} {l0 l1 l2 l3 l4 l5 l6 : Option CV} {z : Int} : Rr C mJ6_getChars_ba4f3 (28, [some (qi z), l1, l2, l3, l4, l5, l6], st, M) x = Rr C mJ6_getChars_ba4f3 (29, [some (qi z), l1, l2, l3, l4, l5, l6], qi z :: st, M) x := g_pl (show decode cJ6_getChars_ba4f3 28 = .ok (.iload_n 0, 1) by decide +kernel) rfl
set_option maxRecDepth 20000 in
theorem kJ6_getChars_ba4f3_29 {C : QC} {x : QP} {M : QM} {st : List CV} {L : QL} : Rr C mJ6_getChars_ba4f3 (29, L, st, M) x = Rr C mJ6_getChars_ba4f3 (31, L, qi 100 :: st, M) x := g_pl (show decode cJ6_getChars_ba4f3 29 = .ok (.bipush 100, 2) by decide +kernel) rfl
set_option maxRecDepth 20000 in
theorem kJ6_getChars_ba4f3_31 {C : QC} {x : QP} {M : QM} {st : List CV} {L : QL} {a b : Int} (hb : ¬ Int32.ofInt b = 0) : Rr C mJ6_getChars_ba4f3 (31, L, qi b :: qi a :: st, M) x = Rr C mJ6_getChars_ba4f3 (32, L, qi (q_div a b) :: st, M) x := g_pl (show decode cJ6_getChars_ba4f3 31 = .ok (.idiv, 1) by decide +kernel) (by simp only [q_pl]; exact if_neg hb)
set_option maxRecDepth 20000 in
theorem kJ6_getChars_ba4f3_32 {C : QC} {x : QP} {M : QM} {st : List CV} {L : QL} {l0 l1 l2 l3 l4 l5 l6 : Option CV} {z : Int} : Rr C mJ6_getChars_ba4f3 (32, [l0, l1, l2, l3, l4, l5, l6], qi z :: st, M) x = Rr C mJ6_getChars_ba4f3 (33, [l0, l1, q_cut l2, some (qi z), l4, l5, l6], st, M) x := g_pl (show decode cJ6_getChars_ba4f3 32 = .ok (.istore_n 3, 1) by decide +kernel) rfl
set_option maxRecDepth 20000 in
theorem kJ6_getChars_ba4f3_33 {C : QC} {x : QP} {M : QM} {st : List CV} {L : QL} {l0 l1 l2 l3 l4 l5 l6 : Option CV} {z : Int} : Rr C mJ6_getChars_ba4f3 (33, [l0, l1, l2, some (qi z), l4, l5, l6], st, M) x = Rr C mJ6_getChars_ba4f3 (34, [l0, l1, l2, some (qi z), l4, l5, l6], qi z :: st, M) x := g_pl (show decode cJ6_getChars_ba4f3 33 = .ok (.iload_n 3, 1) by decide +kernel) rfl
set_option maxRecDepth 20000 in
theorem kJ6_getChars_ba4f3_34 {C : QC} {x : QP} {M : QM} {st : List CV} {L : QL} : Rr C mJ6_getChars_ba4f3 (34, L, st, M) x = Rr C mJ6_getChars_ba4f3 (36, L, qi 100 :: st, M) x := g_pl (show decode cJ6_getChars_ba4f3 34 = .ok (.bipush 100, 2) by decide +kernel) rfl
set_option maxRecDepth 20000 in
theorem kJ6_getChars_ba4f3_36 {C : QC} {x : QP} {M : QM} {st : List CV} {L : QL} {a b : Int} : Rr C mJ6_getChars_ba4f3 (36, L, qi b :: qi a :: st, M) x = Rr C mJ6_getChars_ba4f3 (37, L, qi (a * b) :: st, M) x := g_pl (show decode cJ6_getChars_ba4f3 36 = .ok (.imul, 1) by decide +kernel) rfl
set_option maxRecDepth 20000 in
theorem kJ6_getChars_ba4f3_37 {C : QC} {x : QP} {M : QM} {st : List CV} {L : QL} {l0 l1 l2 l3 l4 l5 l6 : Option CV} {z : Int} : Rr C mJ6_getChars_ba4f3 (37, [some (qi z), l1, l2, l3, l4, l5, l6], st, M) x = Rr C mJ6_getChars_ba4f3 (38, [some (qi z), l1, l2, l3, l4, l5, l6], qi z :: st, M) x := g_pl (show decode cJ6_getChars_ba4f3 37 = .ok (.iload_n 0, 1) by decide +kernel) rfl
set_option maxRecDepth 20000 in
theorem kJ6_getChars_ba4f3_38 {C : QC} {x : QP} {M : QM} {st : List CV} {L : QL} {a b : Int} : Rr C mJ6_getChars_ba4f3 (38, L, qi b :: qi a :: st, M) x = Rr C mJ6_getChars_ba4f3 (39, L, qi (a - b) :: st, M) x := g_pl (show decode cJ6_getChars_ba4f3 38 = .ok (.isub, 1) by decide +kernel) rfl
set_option maxRecDepth 20000 in
theorem kJ6_getChars_ba4f3_39 {C : QC} {x : QP} {M : QM} {st : List CV} {L : QL} {l0 l1 l2 l3 l4 l5 l6 : Option CV} {z : Int} : Rr C mJ6_getChars_ba4f3 (39, [l0, l1, l2, l3, l4, l5, l6], qi z :: st, M) x = Rr C mJ6_getChars_ba4f3 (41, [l0, l1, l2, q_cut l3, some (qi z), l5, l6], st, M) x := g_pl (show decode cJ6_getChars_ba4f3 39 = .ok (.istore 4, 2) by decide +kernel) rfl
set_option maxRecDepth 20000 in
theorem kJ6_getChars_ba4f3_41 {C : QC} {x : QP} {M : QM} {st : List CV} {L : QL} {l0 l1 l2 l3 l4 l5 l6 : Option CV} {z : Int} : Rr C mJ6_getChars_ba4f3 (41, [l0, l1, l2, some (qi z), l4, l5, l6], st, M) x = Rr C mJ6_getChars_ba4f3 (42, [l0, l1, l2, some (qi z), l4, l5, l6], qi z :: st, M) x := g_pl (show decode cJ6_getChars_ba4f3 41 = .ok (.iload_n 3, 1) by decide +kernel) rfl
set_option maxRecDepth 20000 in
theorem kJ6_getChars_ba4f3_42 {C : QC} {x : QP} {M : QM} {st : List CV} {L : QL} {l0 l1 l2 l3 l4 l5 l6 : Option CV} {z : Int} : Rr C mJ6_getChars_ba4f3 (42, [l0, l1, l2, l3, l4, l5, l6], qi z :: st, M) x = Rr C mJ6_getChars_ba4f3 (43, [some (qi z), l1, l2, l3, l4, l5, l6], st, M) x := g_pl (show decode cJ6_getChars_ba4f3 42 = .ok (.istore_n 0, 1) by decide +kernel) rfl
set_option maxRecDepth 20000 in
theorem kJ6_getChars_ba4f3_43 {C : QC} {x : QP} {M : QM} {st : List CV} {L : QL} {l0 l1 l2 l3 l4 l5 l6 : Option CV} {r : Option Nat} : Rr C mJ6_getChars_ba4f3 (43, [l0, l1, some (.inr (.inr r)), l3, l4, l5, l6], st, M) x = Rr C mJ6_getChars_ba4f3 (44, [l0, l1, some (.inr (.inr r)), l3, l4, l5, l6], .inr (.inr r) :: st, M) x := g_pl (show decode cJ6_getChars_ba4f3 43 = .ok (.aload_n 2, 1) by decide +kernel) rfl
set_option maxRecDepth 20000 in
theorem kJ6_getChars_ba4f3_44 {C : QC} {x : QP} {M : QM} {st : List CV} {L : QL} {l0 l1 l2 l3 l4 l5 l6 : Option CV} {z : Int} : Rr C mJ6_getChars_ba4f3 (44, [l0, l1, l2, l3, l4, some (qi z), l6], st, M) x = Rr C mJ6_getChars_ba4f3 (47, [l0, l1, l2, l3, q_cut l4, some (qi (z + (-1))), l6], st, M) x := g_pl (show decode cJ6_getChars_ba4f3 44 = .ok (.iinc 5 (-1), 3) by decide +kernel) rfl
set_option maxRecDepth 20000 in
theorem kJ6_getChars_ba4f3_47 {C : QC} {x : QP} {M : QM} {st : List CV} {L : QL} {l0 l1 l2 l3 l4 l5 l6 : Option CV} {z : Int} : Rr C mJ6_getChars_ba4f3 (47, [l0, l1, l2, l3, l4, some (qi z), l6], st, M) x = Rr C mJ6_getChars_ba4f3 (49, [l0, l1, l2, l3, l4, some (qi z), l6], qi z :: st, M) x := g_pl (show decode cJ6_getChars_ba4f3 47 = .ok (.iload 5, 2) by decide +kernel) rfl
set_option maxRecDepth 20000 in
theorem kJ6_getChars_ba4f3_49 {C : QC} {x : QP} {M : QM} {st : List CV} {L : QL} : Rr C mJ6_getChars_ba4f3 (49, L, st, M) x = Rr C mJ6_getChars_ba4f3 (52, L, qr (q_gs M 2) :: st, M) x := g_gets (ow := 20) (e := (2, "java/lang/Integer", "DigitOnes", "[B", 1169)) (show decode cJ6_getChars_ba4f3 49 = .ok (.getstatic 83, 3) by decide +kernel) rfl
set_option maxRecDepth 20000 in
theorem kJ6_getChars_ba4f3_52 {C : QC} {x : QP} {M : QM} {st : List CV} {L : QL} {l0 l1 l2 l3 l4 l5 l6 : Option CV} {z : Int} : Rr C mJ6_getChars_ba4f3 (52, [l0, l1, l2, l3, some (qi z), l5, l6], st, M) x = Rr C mJ6_getChars_ba4f3 (54, [l0, l1, l2, l3, some (qi z), l5, l6], qi z :: st, M) x := g_pl (show decode cJ6_getChars_ba4f3 52 = .ok (.iload 4, 2) by decide +kernel) rfl
set_option maxRecDepth 20000 in
theorem kJ6_getChars_ba4f3_54 {C : QC} {x : QP} {M : QM} {st : List CV} {L : QL} {a : Nat} {j : Int} (hk : (q_kd M a).1 = 4 ∨ (q_kd M a).1 = 8) (h0 : 0 ≤ j) (h1 : j < ((q_kd M a).2 : Int)) : Rr C mJ6_getChars_ba4f3 (54, L, qi j :: qr a :: st, M) x = Rr C mJ6_getChars_ba4f3 (55, L, q_fv M a j.toNat :: st, M) x := g_bald (show decode cJ6_getChars_ba4f3 54 = .ok (.baload, 1) by decide +kernel) hk h0 h1
set_option maxRecDepth 20000 in
theorem kJ6_getChars_ba4f3_55 {C : QC} {x : QP} {M : QM} {st : List CV} {L : QL} {a : Nat} {j v : Int} (hk : (q_kd M a).1 = 4) (h0 : 0 ≤ j) (h1 : j < ((q_kd M a).2 : Int)) : Rr C mJ6_getChars_ba4f3 (55, L, qi v :: qi j :: qr a :: st, M) x = Rr C mJ6_getChars_ba4f3 (56, L, st, q_wr M a j.toNat (qi (q_i2b v))) x := g_bast (show decode cJ6_getChars_ba4f3 55 = .ok (.bastore, 1) by decide +kernel) hk h0 h1
set_option maxRecDepth 20000 in
theorem kJ6_getChars_ba4f3_56 {C : QC} {x : QP} {M : QM} {st : List CV} {L : QL} {l0 l1 l2 l3 l4 l5 l6 : Option CV} {r : Option Nat} : Rr C mJ6_getChars_ba4f3 (56, [l0, l1, some (.inr (.inr r)), l3, l4, l5, l6], st, M) x = Rr C mJ6_getChars_ba4f3 (57, [l0, l1, some (.inr (.inr r)), l3, l4, l5, l6], .inr (.inr r) :: st, M) x := g_pl (show decode cJ6_getChars_ba4f3 56 = .ok (.aload_n 2, 1) by decide +kernel) rfl
set_option maxRecDepth 20000 in
theorem kJ6_getChars_ba4f3_57 {C : QC} {x : QP} {M : QM} {st : List CV} {L : QL} {l0 l1 l2 l3 l4 l5 l6 : Option CV} {z : Int} : Rr C mJ6_getChars_ba4f3 (57, [l0, l1, l2, l3, l4, some (qi z), l6], st, M) x = Rr C mJ6_getChars_ba4f3 (60, [l0, l1, l2, l3, q_cut l4, some (qi (z + (-1))), l6], st, M) x := g_pl (show decode cJ6_getChars_ba4f3 57 = .ok (.iinc 5 (-1), 3) by decide +kernel) rfl
set_option maxRecDepth 20000 in
theorem kJ6_getChars_ba4f3_60 {C : QC} {x : QP} {M : QM} {st : List CV} {L : QL} {l0 l1 l2 l3 l4 l5 l6 : Option CV} {z : Int} : Rr C mJ6_getChars_ba4f3 (60, [l0, l1, l2, l3, l4, some (qi z), l6], st, M) x = Rr C mJ6_getChars_ba4f3 (62, [l0, l1, l2, l3, l4, some (qi z), l6], qi z :: st, M) x := g_pl (show decode cJ6_getChars_ba4f3 60 = .ok (.iload 5, 2) by decide +kernel) rfl
set_option maxRecDepth 20000 in
theorem kJ6_getChars_ba4f3_62 {C : QC} {x : QP} {M : QM} {st : List CV} {L : QL} : Rr C mJ6_getChars_ba4f3 (62, L, st, M) x = Rr C mJ6_getChars_ba4f3 (65, L, qr (q_gs M 3) :: st, M) x := g_gets (ow := 20) (e := (3, "java/lang/Integer", "DigitTens", "[B", 1171)) (show decode cJ6_getChars_ba4f3 62 = .ok (.getstatic 87, 3) by decide +kernel) rfl
set_option maxRecDepth 20000 in
theorem kJ6_getChars_ba4f3_65 {C : QC} {x : QP} {M : QM} {st : List CV} {L : QL} {l0 l1 l2 l3 l4 l5 l6 : Option CV} {z : Int} : Rr C mJ6_getChars_ba4f3 (65, [l0, l1, l2, l3, some (qi z), l5, l6], st, M) x = Rr C mJ6_getChars_ba4f3 (67, [l0, l1, l2, l3, some (qi z), l5, l6], qi z :: st, M) x := g_pl (show decode cJ6_getChars_ba4f3 65 = .ok (.iload 4, 2) by decide +kernel) rfl
set_option maxRecDepth 20000 in
theorem kJ6_getChars_ba4f3_67 {C : QC} {x : QP} {M : QM} {st : List CV} {L : QL} {a : Nat} {j : Int} (hk : (q_kd M a).1 = 4 ∨ (q_kd M a).1 = 8) (h0 : 0 ≤ j) (h1 : j < ((q_kd M a).2 : Int)) : Rr C mJ6_getChars_ba4f3 (67, L, qi j :: qr a :: st, M) x = Rr C mJ6_getChars_ba4f3 (68, L, q_fv M a j.toNat :: st, M) x := g_bald (show decode cJ6_getChars_ba4f3 67 = .ok (.baload, 1) by decide +kernel) hk h0 h1
set_option maxRecDepth 20000 in
theorem kJ6_getChars_ba4f3_68 {C : QC} {x : QP} {M : QM} {st : List CV} {L : QL} {a : Nat} {j v : Int} (hk : (q_kd M a).1 = 4) (h0 : 0 ≤ j) (h1 : j < ((q_kd M a).2 : Int)) : Rr C mJ6_getChars_ba4f3 (68, L, qi v :: qi j :: qr a :: st, M) x = Rr C mJ6_getChars_ba4f3 (69, L, st, q_wr M a j.toNat (qi (q_i2b v))) x := g_bast (show decode cJ6_getChars_ba4f3 68 = .ok (.bastore, 1) by decide +kernel) hk h0 h1
set_option maxRecDepth 20000 in
theorem kJ6_getChars_ba4f3_69 {C : QC} {x : QP} {M : QM} {st : List CV} {L : QL} : Rr C mJ6_getChars_ba4f3 (69, L, st, M) x = Rr C mJ6_getChars_ba4f3 (22, L, st, M) x := g_pl (show decode cJ6_getChars_ba4f3 69 = .ok (.goto (-47), 3) by decide +kernel) rfl
set_option maxRecDepth 20000 in
theorem kJ6_getChars_ba4f3_72 {C : QC} {x : QP} {M : QM} {st : List CV} {L : QL} {l0 l1 l2 l3 l4 l5 l6 : Option CV} {r : Option Nat} : Rr C mJ6_getChars_ba4f3 (72, [l0, l1, some (.inr (.inr r)), l3, l4, l5, l6], st, M) x = Rr C mJ6_getChars_ba4f3 (73, [l0, l1, some (.inr (.inr r)), l3, l4, l5, l6], .inr (.inr r) :: st, M) x := g_pl (show decode cJ6_getChars_ba4f3 72 = .ok (.aload_n 2, 1) by decide +kernel) rfl
set_option maxRecDepth 20000 in
theorem kJ6_getChars_ba4f3_73 {C : QC} {x : QP} {M : QM} {st : List CV} {L : QL} {l0 l1 l2 l3 l4 l5 l6 : Option CV} {z : Int} : Rr C mJ6_getChars_ba4f3 (73, [l0, l1, l2, l3, l4, some (qi z), l6], st, M) x = Rr C mJ6_getChars_ba4f3 (76, [l0, l1, l2, l3, q_cut l4, some (qi (z + (-1))), l6], st, M) x := g_pl (show decode cJ6_getChars_ba4f3 73 = .ok (.iinc 5 (-1), 3) by decide +kernel) rfl
set_option maxRecDepth 20000 in
theorem kJ6_getChars_ba4f3_76 {C : QC} {x : QP} {M : QM} {st : List CV} {L : QL} {l0 l1 l2 l3 l4 l5 l6 : Option CV} {z : Int} : Rr C mJ6_getChars_ba4f3 (76, [l0, l1, l2, l3, l4, some (qi z), l6], st, M) x = Rr C mJ6_getChars_ba4f3 (78, [l0, l1, l2, l3, l4, some (qi z), l6], qi z :: st, M) x := g_pl (show decode cJ6_getChars_ba4f3 76 = .ok (.iload 5, 2) by decide +kernel) rfl
set_option maxRecDepth 20000 in
theorem kJ6_getChars_ba4f3_78 {C : QC} {x : QP} {M : QM} {st : List CV} {L : QL} : Rr C mJ6_getChars_ba4f3 (78, L, st, M) x = Rr C mJ6_getChars_ba4f3 (81, L, qr (q_gs M 2) :: st, M) x := g_gets (ow := 20) (e := (2, "java/lang/Integer", "DigitOnes", "[B", 1169)) (show decode cJ6_getChars_ba4f3 78 = .ok (.getstatic 83, 3) by decide +kernel) rfl
set_option maxRecDepth 20000 in
theorem kJ6_getChars_ba4f3_81 {C : QC} {x : QP} {M : QM} {st : List CV} {L : QL} {l0 l1 l2 l3 l4 l5 l6 : Option CV} {z : Int} : Rr C mJ6_getChars_ba4f3 (81, [some (qi z), l1, l2, l3, l4, l5, l6], st, M) x = Rr C mJ6_getChars_ba4f3 (82, [some (qi z), l1, l2, l3, l4, l5, l6], qi z :: st, M) x := g_pl (show decode cJ6_getChars_ba4f3 81 = .ok (.iload_n 0, 1) by decide +kernel) rfl
set_option maxRecDepth 20000 in
theorem kJ6_getChars_ba4f3_82 {C : QC} {x : QP} {M : QM} {st : List CV} {L : QL} {a : Int} : Rr C mJ6_getChars_ba4f3 (82, L, qi a :: st, M) x = Rr C mJ6_getChars_ba4f3 (83, L, qi (-a) :: st, M) x := g_pl (show decode cJ6_getChars_ba4f3 82 = .ok (.ineg, 1) by decide +kernel) rfl
set_option maxRecDepth 20000 in
theorem kJ6_getChars_ba4f3_83 {C : QC} {x : QP} {M : QM} {st : List CV} {L : QL} {a : Nat} {j : Int} (hk : (q_kd M a).1 = 4 ∨ (q_kd M a).1 = 8) (h0 : 0 ≤ j) (h1 : j < ((q_kd M a).2 : Int)) : Rr C mJ6_getChars_ba4f3 (83, L, qi j :: qr a :: st, M) x = Rr C mJ6_getChars_ba4f3 (84, L, q_fv M a j.toNat :: st, M) x := g_bald (show decode cJ6_getChars_ba4f3 83 = .ok (.baload, 1) by decide +kernel) hk h0 h1
set_option maxRecDepth 20000 in
theorem kJ6_getChars_ba4f3_84 {C : QC} {x : QP} {M : QM} {st : List CV} {L : QL} {a : Nat} {j v : Int} (hk : (q_kd M a).1 = 4) (h0 : 0 ≤ j) (h1 : j < ((q_kd M a).2 : Int)) : Rr C mJ6_getChars_ba4f3 (84, L, qi v :: qi j :: qr a :: st, M) x = Rr C mJ6_getChars_ba4f3 (85, L, st, q_wr M a j.toNat (qi (q_i2b v))) x := g_bast (show decode cJ6_getChars_ba4f3 84 = .ok (.bastore, 1) by decide +kernel) hk h0 h1
set_option maxRecDepth 20000 in
theorem kJ6_getChars_ba4f3_85 {C : QC} {x : QP} {M : QM} {st : List CV} {L : QL} {l0 l1 l2 l3 l4 l5 l6 : Option CV} {z : Int} : Rr C mJ6_getChars_ba4f3 (85, [some (qi z), l1, l2, l3, l4, l5, l6], st, M) x = Rr C mJ6_getChars_ba4f3 (86, [some (qi z), l1, l2, l3, l4, l5, l6], qi z :: st, M) x := g_pl (show decode cJ6_getChars_ba4f3 85 = .ok (.iload_n 0, 1) by decide +kernel) rfl
set_option maxRecDepth 20000 in
theorem kJ6_getChars_ba4f3_86 {C : QC} {x : QP} {M : QM} {st : List CV} {L : QL} : Rr C mJ6_getChars_ba4f3 (86, L, st, M) x = Rr C mJ6_getChars_ba4f3 (88, L, qi (-9) :: st, M) x := g_pl (show decode cJ6_getChars_ba4f3 86 = .ok (.bipush (-9), 2) by decide +kernel) rfl
set_option maxRecDepth 20000 in
theorem kJ6_getChars_ba4f3_88 {C : QC} {x : QP} {M : QM} {st : List CV} {L : QL} {a b : Int} (ha1 : -2147483648 ≤ a) (ha2 : a < 2147483648) (hb1 : -2147483648 ≤ b) (hb2 : b < 2147483648) : Rr C mJ6_getChars_ba4f3 (88, L, qi b :: qi a :: st, M) x = (if a < b then Rr C mJ6_getChars_ba4f3 (91, L, st, M) x else Rr C mJ6_getChars_ba4f3 (104, L, st, M) x) := (g_icmp (show decode cJ6_getChars_ba4f3 88 = .ok (.if_icmp .ge 16, 3) by decide +kernel) rfl ha1 ha2 hb1 hb2).trans (g_itn c_ge)
set_option maxRecDepth 20000 in
theorem kJ6_getChars_ba4f3_91 {C : QC} {x : QP} {M : QM} {st : List CV} {L : QL} {l0 l1 l2 l3 l4 l5 l6 : Option CV} {r : Option Nat} : Rr C mJ6_getChars_ba4f3 (91, [l0, l1, some (.inr (.inr r)), l3, l4, l5, l6], st, M) x = Rr C mJ6_getChars_ba4f3 (92, [l0, l1, some (.inr (.inr r)), l3, l4, l5, l6], .inr (.inr r) :: st, M) x := g_pl (show decode cJ6_getChars_ba4f3 91 = .ok (.aload_n 2, 1) by decide +kernel) rfl
set_option maxRecDepth 20000 in
theorem kJ6_getChars_ba4f3_92 {C : QC} {x : QP} {M : QM} {st : List CV} {L : QL} {l0 l1 l2 l3 l4 l5 l6 : Option CV} {z : Int} : Rr C mJ6_getChars_ba4f3 (92, [l0, l1, l2, l3, l4, some (qi z), l6], st, M) x = Rr C mJ6_getChars_ba4f3 (95, [l0, l1, l2, l3, q_cut l4, some (qi (z + (-1))), l6], st, M) x := g_pl (show decode cJ6_getChars_ba4f3 92 = .ok (.iinc 5 (-1), 3) by decide +kernel) rfl
set_option maxRecDepth 20000 in
theorem kJ6_getChars_ba4f3_95 {C : QC} {x : QP} {M : QM} {st : List CV} {L : QL} {l0 l1 l2 l3 l4 l5 l6 : Option CV} {z : Int} : Rr C mJ6_getChars_ba4f3 (95, [l0, l1, l2, l3, l4, some (qi z), l6], st, M) x = Rr C mJ6_getChars_ba4f3 (97, [l0, l1, l2, l3, l4, some (qi z), l6], qi z :: st, M) x := g_pl (show decode cJ6_getChars_ba4f3 95 = .ok (.iload 5, 2) by decide +kernel) rfl
set_option maxRecDepth 20000 in
theorem kJ6_getChars_ba4f3_97 {C : QC} {x : QP} {M : QM} {st : List CV} {L : QL} : Rr C mJ6_getChars_ba4f3 (97, L, st, M) x = Rr C mJ6_getChars_ba4f3 (100, L, qr (q_gs M 3) :: st, M) x := g_gets (ow := 20) (e := (3, "java/lang/Integer", "DigitTens", "[B", 1171)) (show decode cJ6_getChars_ba4f3 97 = .ok (.getstatic 87, 3) by decide +kernel) rfl
set_option maxRecDepth 20000 in
theorem kJ6_getChars_ba4f3_100 {C : QC} {x : QP} {M : QM} {st : List CV} {L : QL} {l0 l1 l2 l3 l4 l5 l6 : Option CV} {z : Int} : Rr C mJ6_getChars_ba4f3 (100, [some (qi z), l1, l2, l3, l4, l5, l6], st, M) x = Rr C mJ6_getChars_ba4f3 (101, [some (qi z), l1, l2, l3, l4, l5, l6], qi z :: st, M) x := g_pl (show decode cJ6_getChars_ba4f3 100 = .ok (.iload_n 0, 1) by decide +kernel) rfl
set_option maxRecDepth 20000 in
theorem kJ6_getChars_ba4f3_101 {C : QC} {x : QP} {M : QM} {st : List CV} {L : QL} {a : Int} : Rr C mJ6_getChars_ba4f3 (101, L, qi a :: st, M) x = Rr C mJ6_getChars_ba4f3 (102, L, qi (-a) :: st, M) x := g_pl (show decode cJ6_getChars_ba4f3 101 = .ok (.ineg, 1) by decide +kernel) rfl
set_option maxRecDepth 20000 in
theorem kJ6_getChars_ba4f3_102 {C : QC} {x : QP} {M : QM} {st : List CV} {L : QL} {a : Nat} {j : Int} (hk : (q_kd M a).1 = 4 ∨ (q_kd M a).1 = 8) (h0 : 0 ≤ j) (h1 : j < ((q_kd M a).2 : Int)) : Rr C mJ6_getChars_ba4f3 (102, L, qi j :: qr a :: st, M) x = Rr C mJ6_getChars_ba4f3 (103, L, q_fv M a j.toNat :: st, M) x := g_bald (show decode cJ6_getChars_ba4f3 102 = .ok (.baload, 1) by decide +kernel) hk h0 h1
set_option maxRecDepth 20000 in
theorem kJ6_getChars_ba4f3_103 {C : QC} {x : QP} {M : QM} {st : List CV} {L : QL} {a : Nat} {j v : Int} (hk : (q_kd M a).1 = 4) (h0 : 0 ≤ j) (h1 : j < ((q_kd M a).2 : Int)) : Rr C mJ6_getChars_ba4f3 (103, L, qi v :: qi j :: qr a :: st, M) x = Rr C mJ6_getChars_ba4f3 (104, L, st, q_wr M a j.toNat (qi (q_i2b v))) x := g_bast (show decode cJ6_getChars_ba4f3 103 = .ok (.bastore, 1) by decide +kernel) hk h0 h1
set_option maxRecDepth 20000 in
theorem kJ6_getChars_ba4f3_104 {C : QC} {x : QP} {M : QM} {st : List CV} {L : QL} {l0 l1 l2 l3 l4 l5 l6 : Option CV} {z : Int} : Rr C mJ6_getChars_ba4f3 (104, [l0, l1, l2, l3, l4, l5, some (qi z)], st, M) x = Rr C mJ6_getChars_ba4f3 (106, [l0, l1, l2, l3, l4, l5, some (qi z)], qi z :: st, M) x := g_pl (show decode cJ6_getChars_ba4f3 104 = .ok (.iload 6, 2) by decide +kernel) rfl
set_option maxRecDepth 20000 in
theorem kJ6_getChars_ba4f3_106 {C : QC} {x : QP} {M : QM} {st : List CV} {L : QL} {a : Int} (ha1 : -2147483648 ≤ a) (ha2 : a < 2147483648) : Rr C mJ6_getChars_ba4f3 (106, L, qi a :: st, M) x = (if a = 0 then Rr C mJ6_getChars_ba4f3 (118, L, st, M) x else Rr C mJ6_getChars_ba4f3 (109, L, st, M) x) := (g_if (show decode cJ6_getChars_ba4f3 106 = .ok (.ifCond .eq 12, 3) by decide +kernel) rfl ha1 ha2).trans (g_ite c_eq)
set_option maxRecDepth 20000 in
theorem kJ6_getChars_ba4f3_109 {C : QC} {x : QP} {M : QM} {st : List CV} {L : QL} {l0 l1 l2 l3 l4 l5 l6 : Option CV} {r : Option Nat} : Rr C mJ6_getChars_ba4f3 (109, [l0, l1, some (.inr (.inr r)), l3, l4, l5, l6], st, M) x = Rr C mJ6_getChars_ba4f3 (110, [l0, l1, some (.inr (.inr r)), l3, l4, l5, l6], .inr (.inr r) :: st, M) x := g_pl (show decode cJ6_getChars_ba4f3 109 = .ok (.aload_n 2, 1) by decide +kernel) rfl
set_option maxRecDepth 20000 in
theorem kJ6_getChars_ba4f3_110 {C : QC} {x : QP} {M : QM} {st : List CV} {L : QL} {l0 l1 l2 l3 l4 l5 l6 : Option CV} {z : Int} : Rr C mJ6_getChars_ba4f3 (110, [l0, l1, l2, l3, l4, some (qi z), l6], st, M) x = Rr C mJ6_getChars_ba4f3 (113, [l0, l1, l2, l3, q_cut l4, some (qi (z + (-1))), l6], st, M) x := g_pl (show decode cJ6_getChars_ba4f3 110 = .ok (.iinc 5 (-1), 3) by decide +kernel) rfl
set_option maxRecDepth 20000 in
theorem kJ6_getChars_ba4f3_113 {C : QC} {x : QP} {M : QM} {st : List CV} {L : QL} {l0 l1 l2 l3 l4 l5 l6 : Option CV} {z : Int} : Rr C mJ6_getChars_ba4f3 (113, [l0, l1, l2, l3, l4, some (qi z), l6], st, M) x = Rr C mJ6_getChars_ba4f3 (115, [l0, l1, l2, l3, l4, some (qi z), l6], qi z :: st, M) x := g_pl (show decode cJ6_getChars_ba4f3 113 = .ok (.iload 5, 2) by decide +kernel) rfl
set_option maxRecDepth 20000 in
theorem kJ6_getChars_ba4f3_115 {C : QC} {x : QP} {M : QM} {st : List CV} {L : QL} : Rr C mJ6_getChars_ba4f3 (115, L, st, M) x = Rr C mJ6_getChars_ba4f3 (117, L, qi 45 :: st, M) x := g_pl (show decode cJ6_getChars_ba4f3 115 = .ok (.bipush 45, 2) by decide +kernel) rfl
set_option maxRecDepth 20000 in
theorem kJ6_getChars_ba4f3_117 {C : QC} {x : QP} {M : QM} {st : List CV} {L : QL} {a : Nat} {j v : Int} (hk : (q_kd M a).1 = 4) (h0 : 0 ≤ j) (h1 : j < ((q_kd M a).2 : Int)) : Rr C mJ6_getChars_ba4f3 (117, L, qi v :: qi j :: qr a :: st, M) x = Rr C mJ6_getChars_ba4f3 (118, L, st, q_wr M a j.toNat (qi (q_i2b v))) x := g_bast (show decode cJ6_getChars_ba4f3 117 = .ok (.bastore, 1) by decide +kernel) hk h0 h1
set_option maxRecDepth 20000 in
theorem kJ6_getChars_ba4f3_118 {C : QC} {x : QP} {M : QM} {st : List CV} {L : QL} {l0 l1 l2 l3 l4 l5 l6 : Option CV} {z : Int} : Rr C mJ6_getChars_ba4f3 (118, [l0, l1, l2, l3, l4, some (qi z), l6], st, M) x = Rr C mJ6_getChars_ba4f3 (120, [l0, l1, l2, l3, l4, some (qi z), l6], qi z :: st, M) x := g_pl (show decode cJ6_getChars_ba4f3 118 = .ok (.iload 5, 2) by decide +kernel) rfl
set_option maxRecDepth 20000 in
theorem kJ6_getChars_ba4f3_120 {C : QC} {x : QP} {M : QM} {st : List CV} {L : QL} {z : Int} : Rr C mJ6_getChars_ba4f3 (120, L, [qi z], M) x = x (some (qi z)) M := g_iret (show decode cJ6_getChars_ba4f3 120 = .ok (.ireturn, 1) by decide +kernel) rfl
set_option maxRecDepth 20000 in
theorem eJ6_getChars_ba4f3 {d : Nat} {M : QM} {x : QP} {v0 : Int} {v1 : Int} {v2 : Option Nat} : q_T (d + 1) iJ6_getChars_ba4f3 [qi v0, qi v1, .inr (.inr v2)] M x = Rr (q_C d) mJ6_getChars_ba4f3 (0, [some (qi v0), some (qi v1), some (.inr (.inr v2)), none, none, none, none], [], M) x := g_entryT (e := _) rfl (Nat.le_of_ble_eq_true rfl) rfl rfl
def mJ6_stringSize_0f7a4 : QI := (20, cJ6_stringSize_0f7a4, false, some .int)
set_option maxRecDepth 20000 in
theorem kJ6_stringSize_0f7a4_0 {C : QC} {x : QP} {M : QM} {st : List CV} {L : QL} : Rr C mJ6_stringSize_0f7a4 (0, L, st, M) x = Rr C mJ6_stringSize_0f7a4 (1, L, qi 1 :: st, M) x := g_pl (show decode cJ6_stringSize_0f7a4 0 = .ok (.iconst 1, 1) by decide +kernel) rfl
set_option maxRecDepth 20000 in
theorem kJ6_stringSize_0f7a4_1 {C : QC} {x : QP} {M : QM} {st : List CV} {L : QL} {l0 l1 l2 l3 : Option CV} {z : Int} : Rr C mJ6_stringSize_0f7a4 (1, [l0, l1, l2, l3], qi z :: st, M) x = Rr C mJ6_stringSize_0f7a4 (2, [q_cut l0, some (qi z), l2, l3], st, M) x := g_pl (show decode cJ6_stringSize_0f7a4 1 = .ok (.istore_n 1, 1) by decide +kernel) rfl
set_option maxRecDepth 20000 in
theorem kJ6_stringSize_0f7a4_2 {C : QC} {x : QP} {M : QM} {st : List CV} {L : QL} {l0 l1 l2 l3 : Option CV} {z : Int} : Rr C mJ6_stringSize_0f7a4 (2, [some (qi z), l1, l2, l3], st, M) x = Rr C mJ6_stringSize_0f7a4 (3, [some (qi z), l1, l2, l3], qi z :: st, M) x := g_pl (show decode cJ6_stringSize_0f7a4 2 = .ok (.iload_n 0, 1) by decide +kernel) rfl
set_option maxRecDepth 20000 in
theorem kJ6_stringSize_0f7a4_3 {C : QC} {x : QP} {M : QM} {st : List CV} {L : QL} {a : Int} (ha1 : -2147483648 ≤ a) (ha2 : a < 2147483648) : Rr C mJ6_stringSize_0f7a4 (3, L, qi a :: st, M) x = (if a < 0 then Rr C mJ6_stringSize_0f7a4 (11, L, st, M) x else Rr C mJ6_stringSize_0f7a4 (6, L, st, M) x) := (g_if (show decode cJ6_stringSize_0f7a4 3 = .ok (.ifCond .lt 8, 3) by decide +kernel) rfl ha1 ha2).trans (g_ite c_lt)
set_option maxRecDepth 20000 in
theorem kJ6_stringSize_0f7a4_6 {C : QC} {x : QP} {M : QM} {st : List CV} {L : QL} : Rr C mJ6_stringSize_0f7a4 (6, L, st, M) x = Rr C mJ6_stringSize_0f7a4 (7, L, qi 0 :: st, M) x := g_pl (show decode cJ6_stringSize_0f7a4 6 = .ok (.iconst 0, 1) by decide +kernel) rfl
set_option maxRecDepth 20000 in
theorem kJ6_stringSize_0f7a4_7 {C : QC} {x : QP} {M : QM} {st : List CV} {L : QL} {l0 l1 l2 l3 : Option CV} {z : Int} : Rr C mJ6_stringSize_0f7a4 (7, [l0, l1, l2, l3], qi z :: st, M) x = Rr C mJ6_stringSize_0f7a4 (8, [q_cut l0, some (qi z), l2, l3], st, M) x := g_pl (show decode cJ6_stringSize_0f7a4 7 = .ok (.istore_n 1, 1) by decide +kernel) rfl
set_option maxRecDepth 20000 in
theorem kJ6_stringSize_0f7a4_8 {C : QC} {x : QP} {M : QM} {st : List CV} {L : QL} {l0 l1 l2 l3 : Option CV} {z : Int} : Rr C mJ6_stringSize_0f7a4 (8, [some (qi z), l1, l2, l3], st, M) x = Rr C mJ6_stringSize_0f7a4 (9, [some (qi z), l1, l2, l3], qi z :: st, M) x := g_pl (show decode cJ6_stringSize_0f7a4 8 = .ok (.iload_n 0, 1) by decide +kernel) rfl
set_option maxRecDepth 20000 in
theorem kJ6_stringSize_0f7a4_9 {C : QC} {x : QP} {M : QM} {st : List CV} {L : QL} {a : Int} : Rr C mJ6_stringSize_0f7a4 (9, L, qi a :: st, M) x = Rr C mJ6_stringSize_0f7a4 (10, L, qi (-a) :: st, M) x := g_pl (show decode cJ6_stringSize_0f7a4 9 = .ok (.ineg, 1) by decide +kernel) rfl
set_option maxRecDepth 20000 in
theorem kJ6_stringSize_0f7a4_10 {C : QC} {x : QP} {M : QM} {st : List CV} {L : QL} {l0 l1 l2 l3 : Option CV} {z : Int} : Rr C mJ6_stringSize_0f7a4 (10, [l0, l1, l2, l3], qi z :: st, M) x = Rr C mJ6_stringSize_0f7a4 (11, [some (qi z), l1, l2, l3], st, M) x := g_pl (show decode cJ6_stringSize_0f7a4 10 = .ok (.istore_n 0, 1) by decide +kernel) rfl
set_option maxRecDepth 20000 in
theorem kJ6_stringSize_0f7a4_11 {C : QC} {x : QP} {M : QM} {st : List CV} {L : QL} : Rr C mJ6_stringSize_0f7a4 (11, L, st, M) x = Rr C mJ6_stringSize_0f7a4 (13, L, qi (-10) :: st, M) x := g_pl (show decode cJ6_stringSize_0f7a4 11 = .ok (.bipush (-10), 2) by decide +kernel) rfl
set_option maxRecDepth 20000 in
theorem kJ6_stringSize_0f7a4_13 {C : QC} {x : QP} {M : QM} {st : List CV} {L : QL} {l0 l1 l2 l3 : Option CV} {z : Int} : Rr C mJ6_stringSize_0f7a4 (13, [l0, l1, l2, l3], qi z :: st, M) x = Rr C mJ6_stringSize_0f7a4 (14, [l0, q_cut l1, some (qi z), l3], st, M) x := g_pl (show decode cJ6_stringSize_0f7a4 13 = .ok (.istore_n 2, 1) by decide +kernel) rfl
set_option maxRecDepth 20000 in
theorem kJ6_stringSize_0f7a4_14 {C : QC} {x : QP} {M : QM} {st : List CV} {L : QL} : Rr C mJ6_stringSize_0f7a4 (14, L, st, M) x = Rr C mJ6_stringSize_0f7a4 (15, L, qi 1 :: st, M) x := g_pl (show decode cJ6_stringSize_0f7a4 14 = .ok (.iconst 1, 1) by decide +kernel) rfl
set_option maxRecDepth 20000 in
theorem kJ6_stringSize_0f7a4_15 {C : QC} {x : QP} {M : QM} {st : List CV} {L : QL} {l0 l1 l2 l3 : Option CV} {z : Int} : Rr C mJ6_stringSize_0f7a4 (15, [l0, l1, l2, l3], qi z :: st, M) x = Rr C mJ6_stringSize_0f7a4 (16, [l0, l1, q_cut l2, some (qi z)], st, M) x := g_pl (show decode cJ6_stringSize_0f7a4 15 = .ok (.istore_n 3, 1) by decide +kernel) rfl
set_option maxRecDepth 20000 in
theorem kJ6_stringSize_0f7a4_16 {C : QC} {x : QP} {M : QM} {st : List CV} {L : QL} {l0 l1 l2 l3 : Option CV} {z : Int} : Rr C mJ6_stringSize_0f7a4 (16, [l0, l1, l2, some (qi z)], st, M) x = Rr C mJ6_stringSize_0f7a4 (17, [l0, l1, l2, some (qi z)], qi z :: st, M) x := g_pl (show decode cJ6_stringSize_0f7a4 16 = .ok (.iload_n 3, 1) by decide +kernel) rfl
set_option maxRecDepth 20000 in
theorem kJ6_stringSize_0f7a4_17 {C : QC} {x : QP} {M : QM} {st : List CV} {L : QL} : Rr C mJ6_stringSize_0f7a4 (17, L, st, M) x = Rr C mJ6_stringSize_0f7a4 (19, L, qi 10 :: st, M) x := g_pl (show decode cJ6_stringSize_0f7a4 17 = .ok (.bipush 10, 2) by decide +kernel) rfl
set_option maxRecDepth 20000 in
theorem kJ6_stringSize_0f7a4_19 {C : QC} {x : QP} {M : QM} {st : List CV} {L : QL} {a b : Int} (ha1 : -2147483648 ≤ a) (ha2 : a < 2147483648) (hb1 : -2147483648 ≤ b) (hb2 : b < 2147483648) : Rr C mJ6_stringSize_0f7a4 (19, L, qi b :: qi a :: st, M) x = (if a < b then Rr C mJ6_stringSize_0f7a4 (22, L, st, M) x else Rr C mJ6_stringSize_0f7a4 (42, L, st, M) x) := (g_icmp (show decode cJ6_stringSize_0f7a4 19 = .ok (.if_icmp .ge 23, 3) by decide +kernel) rfl ha1 ha2 hb1 hb2).trans (g_itn c_ge)
set_option maxRecDepth 20000 in
theorem kJ6_stringSize_0f7a4_22 {C : QC} {x : QP} {M : QM} {st : List CV} {L : QL} {l0 l1 l2 l3 : Option CV} {z : Int} : Rr C mJ6_stringSize_0f7a4 (22, [some (qi z), l1, l2, l3], st, M) x = Rr C mJ6_stringSize_0f7a4 (23, [some (qi z), l1, l2, l3], qi z :: st, M) x := g_pl (show decode cJ6_stringSize_0f7a4 22 = .ok (.iload_n 0, 1) by decide +kernel) rfl
set_option maxRecDepth 20000 in
theorem kJ6_stringSize_0f7a4_23 {C : QC} {x : QP} {M : QM} {st : List CV} {L : QL} {l0 l1 l2 l3 : Option CV} {z : Int} : Rr C mJ6_stringSize_0f7a4 (23, [l0, l1, some (qi z), l3], st, M) x = Rr C mJ6_stringSize_0f7a4 (24, [l0, l1, some (qi z), l3], qi z :: st, M) x := g_pl (show decode cJ6_stringSize_0f7a4 23 = .ok (.iload_n 2, 1) by decide +kernel) rfl
set_option maxRecDepth 20000 in
theorem kJ6_stringSize_0f7a4_24 {C : QC} {x : QP} {M : QM} {st : List CV} {L : QL} {a b : Int} (ha1 : -2147483648 ≤ a) (ha2 : a < 2147483648) (hb1 : -2147483648 ≤ b) (hb2 : b < 2147483648) : Rr C mJ6_stringSize_0f7a4 (24, L, qi b :: qi a :: st, M) x = (if b < a then Rr C mJ6_stringSize_0f7a4 (27, L, st, M) x else Rr C mJ6_stringSize_0f7a4 (31, L, st, M) x) := (g_icmp (show decode cJ6_stringSize_0f7a4 24 = .ok (.if_icmp .le 7, 3) by decide +kernel) rfl ha1 ha2 hb1 hb2).trans (g_itn c_le)
set_option maxRecDepth 20000 in
theorem kJ6_stringSize_0f7a4_27 {C : QC} {x : QP} {M : QM} {st : List CV} {L : QL} {l0 l1 l2 l3 : Option CV} {z : Int} : Rr C mJ6_stringSize_0f7a4 (27, [l0, l1, l2, some (qi z)], st, M) x = Rr C mJ6_stringSize_0f7a4 (28, [l0, l1, l2, some (qi z)], qi z :: st, M) x := g_pl (show decode cJ6_stringSize_0f7a4 27 = .ok (.iload_n 3, 1) by decide +kernel) rfl
set_option maxRecDepth 20000 in
theorem kJ6_stringSize_0f7a4_28 {C : QC} {x : QP} {M : QM} {st : List CV} {L : QL} {l0 l1 l2 l3 : Option CV} {z : Int} : Rr C mJ6_stringSize_0f7a4 (28, [l0, some (qi z), l2, l3], st, M) x = Rr C mJ6_stringSize_0f7a4 (29, [l0, some (qi z), l2, l3], qi z :: st, M) x := g_pl (show decode cJ6_stringSize_0f7a4 28 = .ok (.iload_n 1, 1) by decide +kernel) rfl
set_option maxRecDepth 20000 in
theorem kJ6_stringSize_0f7a4_29 {C : QC} {x : QP} {M : QM} {st : List CV} {L : QL} {a b : Int} : Rr C mJ6_stringSize_0f7a4 (29, L, qi b :: qi a :: st, M) x = Rr C mJ6_stringSize_0f7a4 (30, L, qi (a + b) :: st, M) x := g_pl (show decode cJ6_stringSize_0f7a4 29 = .ok (.iadd, 1) by decide +kernel) rfl
set_option maxRecDepth 20000 in
theorem kJ6_stringSize_0f7a4_30 {C : QC} {x : QP} {M : QM} {st : List CV} {L : QL} {z : Int} : Rr C mJ6_stringSize_0f7a4 (30, L, [qi z], M) x = x (some (qi z)) M := g_iret (show decode cJ6_stringSize_0f7a4 30 = .ok (.ireturn, 1) by decide +kernel) rfl
set_option maxRecDepth 20000 in
theorem kJ6_stringSize_0f7a4_31 {C : QC} {x : QP} {M : QM} {st : List CV} {L : QL} : Rr C mJ6_stringSize_0f7a4 (31, L, st, M) x = Rr C mJ6_stringSize_0f7a4 (33, L, qi 10 :: st, M) x := g_pl (show decode cJ6_stringSize_0f7a4 31 = .ok (.bipush 10, 2) by decide +kernel) rfl
set_option maxRecDepth 20000 in
theorem kJ6_stringSize_0f7a4_33 {C : QC} {x : QP} {M : QM} {st : List CV} {L : QL} {l0 l1 l2 l3 : Option CV} {z : Int} : Rr C mJ6_stringSize_0f7a4 (33, [l0, l1, some (qi z), l3], st, M) x = Rr C mJ6_stringSize_0f7a4 (34, [l0, l1, some (qi z), l3], qi z :: st, M) x := g_pl (show decode cJ6_stringSize_0f7a4 33 = .ok (.iload_n 2, 1) by decide +kernel) rfl
set_option maxRecDepth 20000 in
theorem kJ6_stringSize_0f7a4_34 {C : QC} {x : QP} {M : QM} {st : List CV} {L : QL} {a b : Int} : Rr C mJ6_stringSize_0f7a4 (34, L, qi b :: qi a :: st, M) x = Rr C mJ6_stringSize_0f7a4 (35, L, qi (a * b) :: st, M) x := g_pl (show decode cJ6_stringSize_0f7a4 34 = .ok (.imul, 1) by decide +kernel) rfl
set_option maxRecDepth 20000 in
theorem kJ6_stringSize_0f7a4_35 {C : QC} {x : QP} {M : QM} {st : List CV} {L : QL} {l0 l1 l2 l3 : Option CV} {z : Int} : Rr C mJ6_stringSize_0f7a4 (35, [l0, l1, l2, l3], qi z :: st, M) x = Rr C mJ6_stringSize_0f7a4 (36, [l0, q_cut l1, some (qi z), l3], st, M) x := g_pl (show decode cJ6_stringSize_0f7a4 35 = .ok (.istore_n 2, 1) by decide +kernel) rfl
set_option maxRecDepth 20000 in
theorem kJ6_stringSize_0f7a4_36 {C : QC} {x : QP} {M : QM} {st : List CV} {L : QL} {l0 l1 l2 l3 : Option CV} {z : Int} : Rr C mJ6_stringSize_0f7a4 (36, [l0, l1, l2, some (qi z)], st, M) x = Rr C mJ6_stringSize_0f7a4 (39, [l0, l1, q_cut l2, some (qi (z + 1))], st, M) x := g_pl (show decode cJ6_stringSize_0f7a4 36 = .ok (.iinc 3 1, 3) by decide +kernel) rfl
set_option maxRecDepth 20000 in
theorem kJ6_stringSize_0f7a4_39 {C : QC} {x : QP} {M : QM} {st : List CV} {L : QL} : Rr C mJ6_stringSize_0f7a4 (39, L, st, M) x = Rr C mJ6_stringSize_0f7a4 (16, L, st, M) x := g_pl (show decode cJ6_stringSize_0f7a4 39 = .ok (.goto (-23), 3) by decide +kernel) rfl
set_option maxRecDepth 20000 in
theorem kJ6_stringSize_0f7a4_42 {C : QC} {x : QP} {M : QM} {st : List CV} {L : QL} : Rr C mJ6_stringSize_0f7a4 (42, L, st, M) x = Rr C mJ6_stringSize_0f7a4 (44, L, qi 10 :: st, M) x := g_pl (show decode cJ6_stringSize_0f7a4 42 = .ok (.bipush 10, 2) by decide +kernel) rfl
set_option maxRecDepth 20000 in
theorem kJ6_stringSize_0f7a4_44 {C : QC} {x : QP} {M : QM} {st : List CV} {L : QL} {l0 l1 l2 l3 : Option CV} {z : Int} : Rr C mJ6_stringSize_0f7a4 (44, [l0, some (qi z), l2, l3], st, M) x = Rr C mJ6_stringSize_0f7a4 (45, [l0, some (qi z), l2, l3], qi z :: st, M) x := g_pl (show decode cJ6_stringSize_0f7a4 44 = .ok (.iload_n 1, 1) by decide +kernel) rfl
set_option maxRecDepth 20000 in
theorem kJ6_stringSize_0f7a4_45 {C : QC} {x : QP} {M : QM} {st : List CV} {L : QL} {a b : Int} : Rr C mJ6_stringSize_0f7a4 (45, L, qi b :: qi a :: st, M) x = Rr C mJ6_stringSize_0f7a4 (46, L, qi (a + b) :: st, M) x := g_pl (show decode cJ6_stringSize_0f7a4 45 = .ok (.iadd, 1) by decide +kernel) rfl
set_option maxRecDepth 20000 in
theorem kJ6_stringSize_0f7a4_46 {C : QC} {x : QP} {M : QM} {st : List CV} {L : QL} {z : Int} : Rr C mJ6_stringSize_0f7a4 (46, L, [qi z], M) x = x (some (qi z)) M := g_iret (show decode cJ6_stringSize_0f7a4 46 = .ok (.ireturn, 1) by decide +kernel) rfl
set_option maxRecDepth 20000 in
theorem eJ6_stringSize_0f7a4 {d : Nat} {M : QM} {x : QP} {v0 : Int} : q_T (d + 1) iJ6_stringSize_0f7a4 [qi v0] M x = Rr (q_C d) mJ6_stringSize_0f7a4 (0, [some (qi v0), none, none, none], [], M) x := g_entryT (e := _) rfl (Nat.le_of_ble_eq_true rfl) rfl rfl
def mJ6_bitCount_0f7a4 : QI := (20, cJ6_bitCount_0f7a4, false, some .int)
set_option maxRecDepth 20000 in
theorem kJ6_bitCount_0f7a4_0 {C : QC} {x : QP} {M : QM} {st : List CV} {L : QL} {z : Int} : Rr C mJ6_bitCount_0f7a4 (0, [some (qi z)], st, M) x = Rr C mJ6_bitCount_0f7a4 (1, [some (qi z)], qi z :: st, M) x := g_pl (show decode cJ6_bitCount_0f7a4 0 = .ok (.iload_n 0, 1) by decide +kernel) rfl
set_option maxRecDepth 20000 in
theorem kJ6_bitCount_0f7a4_1 {C : QC} {x : QP} {M : QM} {st : List CV} {L : QL} {z : Int} : Rr C mJ6_bitCount_0f7a4 (1, [some (qi z)], st, M) x = Rr C mJ6_bitCount_0f7a4 (2, [some (qi z)], qi z :: st, M) x := g_pl (show decode cJ6_bitCount_0f7a4 1 = .ok (.iload_n 0, 1) by decide +kernel) rfl
set_option maxRecDepth 20000 in
theorem kJ6_bitCount_0f7a4_2 {C : QC} {x : QP} {M : QM} {st : List CV} {L : QL} : Rr C mJ6_bitCount_0f7a4 (2, L, st, M) x = Rr C mJ6_bitCount_0f7a4 (3, L, qi 1 :: st, M) x := g_pl (show decode cJ6_bitCount_0f7a4 2 = .ok (.iconst 1, 1) by decide +kernel) rfl
set_option maxRecDepth 20000 in
theorem kJ6_bitCount_0f7a4_3 {C : QC} {x : QP} {M : QM} {st : List CV} {L : QL} {a b : Int} : Rr C mJ6_bitCount_0f7a4 (3, L, qi b :: qi a :: st, M) x = Rr C mJ6_bitCount_0f7a4 (4, L, qi (q_ushr a b) :: st, M) x := g_pl (show decode cJ6_bitCount_0f7a4 3 = .ok (.iushr, 1) by decide +kernel) rfl
set_option maxRecDepth 20000 in
theorem kJ6_bitCount_0f7a4_7 {C : QC} {x : QP} {M : QM} {st : List CV} {L : QL} {a b : Int} : Rr C mJ6_bitCount_0f7a4 (7, L, qi b :: qi a :: st, M) x = Rr C mJ6_bitCount_0f7a4 (8, L, qi (q_and a b) :: st, M) x := g_pl (show decode cJ6_bitCount_0f7a4 7 = .ok (.iand, 1) by decide +kernel) rfl
set_option maxRecDepth 20000 in
theorem kJ6_bitCount_0f7a4_8 {C : QC} {x : QP} {M : QM} {st : List CV} {L : QL} {a b : Int} : Rr C mJ6_bitCount_0f7a4 (8, L, qi b :: qi a :: st, M) x = Rr C mJ6_bitCount_0f7a4 (9, L, qi (a - b) :: st, M) x := g_pl (show decode cJ6_bitCount_0f7a4 8 = .ok (.isub, 1) by decide +kernel) rfl
set_option maxRecDepth 20000 in
theorem kJ6_bitCount_0f7a4_9 {C : QC} {x : QP} {M : QM} {st : List CV} {L : QL} {l0 : Option CV} {z : Int} : Rr C mJ6_bitCount_0f7a4 (9, [l0], qi z :: st, M) x = Rr C mJ6_bitCount_0f7a4 (10, [some (qi z)], st, M) x := g_pl (show decode cJ6_bitCount_0f7a4 9 = .ok (.istore_n 0, 1) by decide +kernel) rfl
set_option maxRecDepth 20000 in
theorem kJ6_bitCount_0f7a4_10 {C : QC} {x : QP} {M : QM} {st : List CV} {L : QL} {z : Int} : Rr C mJ6_bitCount_0f7a4 (10, [some (qi z)], st, M) x = Rr C mJ6_bitCount_0f7a4 (11, [some (qi z)], qi z :: st, M) x := g_pl (show decode cJ6_bitCount_0f7a4 10 = .ok (.iload_n 0, 1) by decide +kernel) rfl
set_option maxRecDepth 20000 in
theorem kJ6_bitCount_0f7a4_14 {C : QC} {x : QP} {M : QM} {st : List CV} {L : QL} {a b : Int} : Rr C mJ6_bitCount_0f7a4 (14, L, qi b :: qi a :: st, M) x = Rr C mJ6_bitCount_0f7a4 (15, L, qi (q_and a b) :: st, M) x := g_pl (show decode cJ6_bitCount_0f7a4 14 = .ok (.iand, 1) by decide +kernel) rfl
set_option maxRecDepth 20000 in
theorem kJ6_bitCount_0f7a4_15 {C : QC} {x : QP} {M : QM} {st : List CV} {L : QL} {z : Int} : Rr C mJ6_bitCount_0f7a4 (15, [some (qi z)], st, M) x = Rr C mJ6_bitCount_0f7a4 (16, [some (qi z)], qi z :: st, M) x := g_pl (show decode cJ6_bitCount_0f7a4 15 = .ok (.iload_n 0, 1) by decide +kernel) rfl
set_option maxRecDepth 20000 in
theorem kJ6_bitCount_0f7a4_16 {C : QC} {x : QP} {M : QM} {st : List CV} {L : QL} : Rr C mJ6_bitCount_0f7a4 (16, L, st, M) x = Rr C mJ6_bitCount_0f7a4 (17, L, qi 2 :: st, M) x := g_pl (show decode cJ6_bitCount_0f7a4 16 = .ok (.iconst 2, 1) by decide +kernel) rfl
set_option maxRecDepth 20000 in
theorem kJ6_bitCount_0f7a4_17 {C : QC} {x : QP} {M : QM} {st : List CV} {L : QL} {a b : Int} : Rr C mJ6_bitCount_0f7a4 (17, L, qi b :: qi a :: st, M) x = Rr C mJ6_bitCount_0f7a4 (18, L, qi (q_ushr a b) :: st, M) x := g_pl (show decode cJ6_bitCount_0f7a4 17 = .ok (.iushr, 1) by decide +kernel) rfl
set_option maxRecDepth 20000 in
theorem kJ6_bitCount_0f7a4_21 {C : QC} {x : QP} {M : QM} {st : List CV} {L : QL} {a b : Int} : Rr C mJ6_bitCount_0f7a4 (21, L, qi b :: qi a :: st, M) x = Rr C mJ6_bitCount_0f7a4 (22, L, qi (q_and a b) :: st, M) x := g_pl (show decode cJ6_bitCount_0f7a4 21 = .ok (.iand, 1) by decide +kernel) rfl
set_option maxRecDepth 20000 in
theorem kJ6_bitCount_0f7a4_22 {C : QC} {x : QP} {M : QM} {st : List CV} {L : QL} {a b : Int} : Rr C mJ6_bitCount_0f7a4 (22, L, qi b :: qi a :: st, M) x = Rr C mJ6_bitCount_0f7a4 (23, L, qi (a + b) :: st, M) x := g_pl (show decode cJ6_bitCount_0f7a4 22 = .ok (.iadd, 1) by decide +kernel) rfl
set_option maxRecDepth 20000 in
theorem kJ6_bitCount_0f7a4_23 {C : QC} {x : QP} {M : QM} {st : List CV} {L : QL} {l0 : Option CV} {z : Int} : Rr C mJ6_bitCount_0f7a4 (23, [l0], qi z :: st, M) x = Rr C mJ6_bitCount_0f7a4 (24, [some (qi z)], st, M) x := g_pl (show decode cJ6_bitCount_0f7a4 23 = .ok (.istore_n 0, 1) by decide +kernel) rfl
set_option maxRecDepth 20000 in
theorem kJ6_bitCount_0f7a4_24 {C : QC} {x : QP} {M : QM} {st : List CV} {L : QL} {z : Int} : Rr C mJ6_bitCount_0f7a4 (24, [some (qi z)], st, M) x = Rr C mJ6_bitCount_0f7a4 (25, [some (qi z)], qi z :: st, M) x := g_pl (show decode cJ6_bitCount_0f7a4 24 = .ok (.iload_n 0, 1) by decide +kernel) rfl
set_option maxRecDepth 20000 in
theorem kJ6_bitCount_0f7a4_25 {C : QC} {x : QP} {M : QM} {st : List CV} {L : QL} {z : Int} : Rr C mJ6_bitCount_0f7a4 (25, [some (qi z)], st, M) x = Rr C mJ6_bitCount_0f7a4 (26, [some (qi z)], qi z :: st, M) x := g_pl (show decode cJ6_bitCount_0f7a4 25 = .ok (.iload_n 0, 1) by decide +kernel) rfl
set_option maxRecDepth 20000 in
theorem kJ6_bitCount_0f7a4_26 {C : QC} {x : QP} {M : QM} {st : List CV} {L : QL} : Rr C mJ6_bitCount_0f7a4 (26, L, st, M) x = Rr C mJ6_bitCount_0f7a4 (27, L, qi 4 :: st, M) x := g_pl (show decode cJ6_bitCount_0f7a4 26 = .ok (.iconst 4, 1) by decide +kernel) rfl
set_option maxRecDepth 20000 in
theorem kJ6_bitCount_0f7a4_27 {C : QC} {x : QP} {M : QM} {st : List CV} {L : QL} {a b : Int} : Rr C mJ6_bitCount_0f7a4 (27, L, qi b :: qi a :: st, M) x = Rr C mJ6_bitCount_0f7a4 (28, L, qi (q_ushr a b) :: st, M) x := g_pl (show decode cJ6_bitCount_0f7a4 27 = .ok (.iushr, 1) by decide +kernel) rfl
set_option maxRecDepth 20000 in
theorem kJ6_bitCount_0f7a4_28 {C : QC} {x : QP} {M : QM} {st : List CV} {L : QL} {a b : Int} : Rr C mJ6_bitCount_0f7a4 (28, L, qi b :: qi a :: st, M) x = Rr C mJ6_bitCount_0f7a4 (29, L, qi (a + b) :: st, M) x := g_pl (show decode cJ6_bitCount_0f7a4 28 = .ok (.iadd, 1) by decide +kernel) rfl
set_option maxRecDepth 20000 in
theorem kJ6_bitCount_0f7a4_32 {C : QC} {x : QP} {M : QM} {st : List CV} {L : QL} {a b : Int} : Rr C mJ6_bitCount_0f7a4 (32, L, qi b :: qi a :: st, M) x = Rr C mJ6_bitCount_0f7a4 (33, L, qi (q_and a b) :: st, M) x := g_pl (show decode cJ6_bitCount_0f7a4 32 = .ok (.iand, 1) by decide +kernel) rfl
set_option maxRecDepth 20000 in
theorem kJ6_bitCount_0f7a4_33 {C : QC} {x : QP} {M : QM} {st : List CV} {L : QL} {l0 : Option CV} {z : Int} : Rr C mJ6_bitCount_0f7a4 (33, [l0], qi z :: st, M) x = Rr C mJ6_bitCount_0f7a4 (34, [some (qi z)], st, M) x := g_pl (show decode cJ6_bitCount_0f7a4 33 = .ok (.istore_n 0, 1) by decide +kernel) rfl
set_option maxRecDepth 20000 in
theorem kJ6_bitCount_0f7a4_34 {C : QC} {x : QP} {M : QM} {st : List CV} {L : QL} {z : Int} : Rr C mJ6_bitCount_0f7a4 (34, [some (qi z)], st, M) x = Rr C mJ6_bitCount_0f7a4 (35, [some (qi z)], qi z :: st, M) x := g_pl (show decode cJ6_bitCount_0f7a4 34 = .ok (.iload_n 0, 1) by decide +kernel) rfl
set_option maxRecDepth 20000 in
theorem kJ6_bitCount_0f7a4_35 {C : QC} {x : QP} {M : QM} {st : List CV} {L : QL} {z : Int} : Rr C mJ6_bitCount_0f7a4 (35, [some (qi z)], st, M) x = Rr C mJ6_bitCount_0f7a4 (36, [some (qi z)], qi z :: st, M) x := g_pl (show decode cJ6_bitCount_0f7a4 35 = .ok (.iload_n 0, 1) by decide +kernel) rfl
set_option maxRecDepth 20000 in
theorem kJ6_bitCount_0f7a4_36 {C : QC} {x : QP} {M : QM} {st : List CV} {L : QL} : Rr C mJ6_bitCount_0f7a4 (36, L, st, M) x = Rr C mJ6_bitCount_0f7a4 (38, L, qi 8 :: st, M) x := g_pl (show decode cJ6_bitCount_0f7a4 36 = .ok (.bipush 8, 2) by decide +kernel) rfl
set_option maxRecDepth 20000 in
theorem kJ6_bitCount_0f7a4_38 {C : QC} {x : QP} {M : QM} {st : List CV} {L : QL} {a b : Int} : Rr C mJ6_bitCount_0f7a4 (38, L, qi b :: qi a :: st, M) x = Rr C mJ6_bitCount_0f7a4 (39, L, qi (q_ushr a b) :: st, M) x := g_pl (show decode cJ6_bitCount_0f7a4 38 = .ok (.iushr, 1) by decide +kernel) rfl
set_option maxRecDepth 20000 in
theorem kJ6_bitCount_0f7a4_39 {C : QC} {x : QP} {M : QM} {st : List CV} {L : QL} {a b : Int} : Rr C mJ6_bitCount_0f7a4 (39, L, qi b :: qi a :: st, M) x = Rr C mJ6_bitCount_0f7a4 (40, L, qi (a + b) :: st, M) x := g_pl (show decode cJ6_bitCount_0f7a4 39 = .ok (.iadd, 1) by decide +kernel) rfl
set_option maxRecDepth 20000 in
theorem kJ6_bitCount_0f7a4_40 {C : QC} {x : QP} {M : QM} {st : List CV} {L : QL} {l0 : Option CV} {z : Int} : Rr C mJ6_bitCount_0f7a4 (40, [l0], qi z :: st, M) x = Rr C mJ6_bitCount_0f7a4 (41, [some (qi z)], st, M) x := g_pl (show decode cJ6_bitCount_0f7a4 40 = .ok (.istore_n 0, 1) by decide +kernel) rfl
set_option maxRecDepth 20000 in
theorem kJ6_bitCount_0f7a4_41 {C : QC} {x : QP} {M : QM} {st : List CV} {L : QL} {z : Int} : Rr C mJ6_bitCount_0f7a4 (41, [some (qi z)], st, M) x = Rr C mJ6_bitCount_0f7a4 (42, [some (qi z)], qi z :: st, M) x := g_pl (show decode cJ6_bitCount_0f7a4 41 = .ok (.iload_n 0, 1) by decide +kernel) rfl
set_option maxRecDepth 20000 in
theorem kJ6_bitCount_0f7a4_42 {C : QC} {x : QP} {M : QM} {st : List CV} {L : QL} {z : Int} : Rr C mJ6_bitCount_0f7a4 (42, [some (qi z)], st, M) x = Rr C mJ6_bitCount_0f7a4 (43, [some (qi z)], qi z :: st, M) x := g_pl (show decode cJ6_bitCount_0f7a4 42 = .ok (.iload_n 0, 1) by decide +kernel) rfl
set_option maxRecDepth 20000 in
theorem kJ6_bitCount_0f7a4_43 {C : QC} {x : QP} {M : QM} {st : List CV} {L : QL} : Rr C mJ6_bitCount_0f7a4 (43, L, st, M) x = Rr C mJ6_bitCount_0f7a4 (45, L, qi 16 :: st, M) x := g_pl (show decode cJ6_bitCount_0f7a4 43 = .ok (.bipush 16, 2) by decide +kernel) rfl
set_option maxRecDepth 20000 in
theorem kJ6_bitCount_0f7a4_45 {C : QC} {x : QP} {M : QM} {st : List CV} {L : QL} {a b : Int} : Rr C mJ6_bitCount_0f7a4 (45, L, qi b :: qi a :: st, M) x = Rr C mJ6_bitCount_0f7a4 (46, L, qi (q_ushr a b) :: st, M) x := g_pl (show decode cJ6_bitCount_0f7a4 45 = .ok (.iushr, 1) by decide +kernel) rfl
set_option maxRecDepth 20000 in
theorem kJ6_bitCount_0f7a4_46 {C : QC} {x : QP} {M : QM} {st : List CV} {L : QL} {a b : Int} : Rr C mJ6_bitCount_0f7a4 (46, L, qi b :: qi a :: st, M) x = Rr C mJ6_bitCount_0f7a4 (47, L, qi (a + b) :: st, M) x := g_pl (show decode cJ6_bitCount_0f7a4 46 = .ok (.iadd, 1) by decide +kernel) rfl
set_option maxRecDepth 20000 in
theorem kJ6_bitCount_0f7a4_47 {C : QC} {x : QP} {M : QM} {st : List CV} {L : QL} {l0 : Option CV} {z : Int} : Rr C mJ6_bitCount_0f7a4 (47, [l0], qi z :: st, M) x = Rr C mJ6_bitCount_0f7a4 (48, [some (qi z)], st, M) x := g_pl (show decode cJ6_bitCount_0f7a4 47 = .ok (.istore_n 0, 1) by decide +kernel) rfl
set_option maxRecDepth 20000 in
theorem kJ6_bitCount_0f7a4_48 {C : QC} {x : QP} {M : QM} {st : List CV} {L : QL} {z : Int} : Rr C mJ6_bitCount_0f7a4 (48, [some (qi z)], st, M) x = Rr C mJ6_bitCount_0f7a4 (49, [some (qi z)], qi z :: st, M) x := g_pl (show decode cJ6_bitCount_0f7a4 48 = .ok (.iload_n 0, 1) by decide +kernel) rfl
set_option maxRecDepth 20000 in
theorem kJ6_bitCount_0f7a4_49 {C : QC} {x : QP} {M : QM} {st : List CV} {L : QL} : Rr C mJ6_bitCount_0f7a4 (49, L, st, M) x = Rr C mJ6_bitCount_0f7a4 (51, L, qi 63 :: st, M) x := g_pl (show decode cJ6_bitCount_0f7a4 49 = .ok (.bipush 63, 2) by decide +kernel) rfl
set_option maxRecDepth 20000 in
theorem kJ6_bitCount_0f7a4_51 {C : QC} {x : QP} {M : QM} {st : List CV} {L : QL} {a b : Int} : Rr C mJ6_bitCount_0f7a4 (51, L, qi b :: qi a :: st, M) x = Rr C mJ6_bitCount_0f7a4 (52, L, qi (q_and a b) :: st, M) x := g_pl (show decode cJ6_bitCount_0f7a4 51 = .ok (.iand, 1) by decide +kernel) rfl
set_option maxRecDepth 20000 in
theorem kJ6_bitCount_0f7a4_52 {C : QC} {x : QP} {M : QM} {st : List CV} {L : QL} {z : Int} : Rr C mJ6_bitCount_0f7a4 (52, L, [qi z], M) x = x (some (qi z)) M := g_iret (show decode cJ6_bitCount_0f7a4 52 = .ok (.ireturn, 1) by decide +kernel) rfl
set_option maxRecDepth 20000 in
theorem eJ6_bitCount_0f7a4 {d : Nat} {M : QM} {x : QP} {v0 : Int} : q_T (d + 1) iJ6_bitCount_0f7a4 [qi v0] M x = Rr (q_C d) mJ6_bitCount_0f7a4 (0, [some (qi v0)], [], M) x := g_entryT (e := _) rfl (Nat.le_of_ble_eq_true rfl) rfl rfl
def mJ0_length_8abf5 : QI := (26, cJ0_length_8abf5, false, some .int)
set_option maxRecDepth 20000 in
theorem kJ0_length_8abf5_0 {C : QC} {x : QP} {M : QM} {st : List CV} {L : QL} {r : Option Nat} : Rr C mJ0_length_8abf5 (0, [some (.inr (.inr r))], st, M) x = Rr C mJ0_length_8abf5 (1, [some (.inr (.inr r))], .inr (.inr r) :: st, M) x := g_pl (show decode cJ0_length_8abf5 0 = .ok (.aload_n 0, 1) by decide +kernel) rfl
set_option maxRecDepth 20000 in
theorem kJ0_length_8abf5_1 {C : QC} {x : QP} {M : QM} {st : List CV} {L : QL} {a : Nat} (hk : a = q_gs M 1) : Rr C mJ0_length_8abf5 (1, L, qr a :: st, M) x = Rr C mJ0_length_8abf5 (4, L, qr (q_gs M 5) :: st, M) x := g_strf (ow := 26) (e := (0, 1705)) (show decode cJ0_length_8abf5 1 = .ok (.getfield 9, 3) by decide +kernel) rfl rfl hk
set_option maxRecDepth 20000 in
theorem kJ0_length_8abf5_4 {C : QC} {x : QP} {M : QM} {st : List CV} {L : QL} {a : Nat} (h1 : 2 ≤ (q_kd M a).1) (h2 : (q_kd M a).1 ≤ 9) : Rr C mJ0_length_8abf5 (4, L, qr a :: st, M) x = Rr C mJ0_length_8abf5 (5, L, qi (q_kd M a).2 :: st, M) x := g_alen (show decode cJ0_length_8abf5 4 = .ok (.arraylength, 1) by decide +kernel) h1 h2
set_option maxRecDepth 20000 in
theorem kJ0_length_8abf5_5 {C : QC} {x : QP} {M : QM} {st : List CV} {L : QL} {r : Option Nat} : Rr C mJ0_length_8abf5 (5, [some (.inr (.inr r))], st, M) x = Rr C mJ0_length_8abf5 (6, [some (.inr (.inr r))], .inr (.inr r) :: st, M) x := g_pl (show decode cJ0_length_8abf5 5 = .ok (.aload_n 0, 1) by decide +kernel) rfl
set_option maxRecDepth 20000 in
theorem kJ0_length_8abf5_6 {C : QC} {x : QP} {M : QM} {L : QL} {rest : List CV} {v : CV} {M1 : QM} {b : Nat} (hb : b = q_gs M 1) (hC : C iJ0_coder_7d493 [qr b] M (some v) M1) (hw : (rest.map q_wd).sum ≤ 8) (k : Rr C mJ0_length_8abf5 (9, L, v :: rest, M1) x) : Rr C mJ0_length_8abf5 (6, L, qr b :: rest, M) x := g_cstr (ow := 26) (e := (8, 163, 0, [1133, 1134, 1135, 92])) (as := []) (show decode cJ0_length_8abf5 6 = .ok (.invokevirtual 335, 3) by decide +kernel) rfl rfl rfl rfl rfl hb hC hw k
set_option maxRecDepth 20000 in
theorem kJ0_length_8abf5_9 {C : QC} {x : QP} {M : QM} {st : List CV} {L : QL} {a b : Int} : Rr C mJ0_length_8abf5 (9, L, qi b :: qi a :: st, M) x = Rr C mJ0_length_8abf5 (10, L, qi (q_shr a b) :: st, M) x := g_pl (show decode cJ0_length_8abf5 9 = .ok (.ishr, 1) by decide +kernel) rfl
set_option maxRecDepth 20000 in
theorem kJ0_length_8abf5_10 {C : QC} {x : QP} {M : QM} {st : List CV} {L : QL} {z : Int} : Rr C mJ0_length_8abf5 (10, L, [qi z], M) x = x (some (qi z)) M := g_iret (show decode cJ0_length_8abf5 10 = .ok (.ireturn, 1) by decide +kernel) rfl
set_option maxRecDepth 20000 in
theorem eJ0_length_8abf5 {d : Nat} {M : QM} {x : QP} {a : Nat} : q_T (d + 1) iJ0_length_8abf5 [qr a] M x = Rr (q_C d) mJ0_length_8abf5 (0, [some (qr a)], [], M) x := g_entryT (e := _) rfl (Nat.le_of_ble_eq_true rfl) rfl rfl
def mJ0_charAt_5068e : QI := (26, cJ0_charAt_5068e, false, some .char)
set_option maxRecDepth 20000 in
theorem kJ0_charAt_5068e_0 {C : QC} {x : QP} {M : QM} {st : List CV} {L : QL} {l0 l1 : Option CV} {r : Option Nat} : Rr C mJ0_charAt_5068e (0, [some (.inr (.inr r)), l1], st, M) x = Rr C mJ0_charAt_5068e (1, [some (.inr (.inr r)), l1], .inr (.inr r) :: st, M) x := g_pl (show decode cJ0_charAt_5068e 0 = .ok (.aload_n 0, 1) by decide +kernel) rfl
set_option maxRecDepth 20000 in
theorem kJ0_charAt_5068e_1 {C : QC} {x : QP} {M : QM} {L : QL} {rest : List CV} {v : CV} {M1 : QM} {b : Nat} (hb : b = q_gs M 1) (hC : C iJ0_isLatin1_aae02 [qr b] M (some v) M1) (hw : (rest.map q_wd).sum ≤ 8) (k : Rr C mJ0_charAt_5068e (4, L, v :: rest, M1) x) : Rr C mJ0_charAt_5068e (1, L, qr b :: rest, M) x := g_cstr (ow := 26) (e := (8, 165, 0, [1142, 1143, 1144, 92])) (as := []) (show decode cJ0_charAt_5068e 1 = .ok (.invokevirtual 492, 3) by decide +kernel) rfl rfl rfl rfl rfl hb hC hw k
set_option maxRecDepth 20000 in
theorem kJ0_charAt_5068e_4 {C : QC} {x : QP} {M : QM} {st : List CV} {L : QL} {a : Int} (ha1 : -2147483648 ≤ a) (ha2 : a < 2147483648) : Rr C mJ0_charAt_5068e (4, L, qi a :: st, M) x = (if a = 0 then Rr C mJ0_charAt_5068e (16, L, st, M) x else Rr C mJ0_charAt_5068e (7, L, st, M) x) := (g_if (show decode cJ0_charAt_5068e 4 = .ok (.ifCond .eq 12, 3) by decide +kernel) rfl ha1 ha2).trans (g_ite c_eq)
set_option maxRecDepth 20000 in
theorem kJ0_charAt_5068e_7 {C : QC} {x : QP} {M : QM} {st : List CV} {L : QL} {l0 l1 : Option CV} {r : Option Nat} : Rr C mJ0_charAt_5068e (7, [some (.inr (.inr r)), l1], st, M) x = Rr C mJ0_charAt_5068e (8, [some (.inr (.inr r)), l1], .inr (.inr r) :: st, M) x := g_pl (show decode cJ0_charAt_5068e 7 = .ok (.aload_n 0, 1) by decide +kernel) rfl
set_option maxRecDepth 20000 in
theorem kJ0_charAt_5068e_8 {C : QC} {x : QP} {M : QM} {st : List CV} {L : QL} {a : Nat} (hk : a = q_gs M 1) : Rr C mJ0_charAt_5068e (8, L, qr a :: st, M) x = Rr C mJ0_charAt_5068e (11, L, qr (q_gs M 5) :: st, M) x := g_strf (ow := 26) (e := (0, 1705)) (show decode cJ0_charAt_5068e 8 = .ok (.getfield 9, 3) by decide +kernel) rfl rfl hk
set_option maxRecDepth 20000 in
theorem kJ0_charAt_5068e_11 {C : QC} {x : QP} {M : QM} {st : List CV} {L : QL} {l0 l1 : Option CV} {z : Int} : Rr C mJ0_charAt_5068e (11, [l0, some (qi z)], st, M) x = Rr C mJ0_charAt_5068e (12, [l0, some (qi z)], qi z :: st, M) x := g_pl (show decode cJ0_charAt_5068e 11 = .ok (.iload_n 1, 1) by decide +kernel) rfl
set_option maxRecDepth 20000 in
theorem kJ0_charAt_5068e_12 {C : QC} {x : QP} {M : QM} {L : QL} {rest : List CV} {a0 a1 : CV} {v : CV} {M1 : QM} (hC : C iJ1_charAt_3b067 [a0, a1] M (some v) M1) (hw : (rest.map q_wd).sum ≤ 8) (k : Rr C mJ0_charAt_5068e (15, L, v :: rest, M1) x) : Rr C mJ0_charAt_5068e (12, L, a1 :: a0 :: rest, M) x := g_cs (ow := 26) (e := (1, 166, 0, [1146, 1147, 106])) (as := [a0, a1]) (show decode cJ0_charAt_5068e 12 = .ok (.invokestatic 495, 3) by decide +kernel) rfl rfl rfl rfl (Or.inl rfl) rfl hC hw k
set_option maxRecDepth 20000 in
theorem kJ0_charAt_5068e_15 {C : QC} {x : QP} {M : QM} {st : List CV} {L : QL} {z : Int} (hz1 : 0 ≤ z) (hz2 : z ≤ 65535) : Rr C mJ0_charAt_5068e (15, L, [qi z], M) x = x (some (qi z)) M := g_iret (show decode cJ0_charAt_5068e 15 = .ok (.ireturn, 1) by decide +kernel) (by show (decide (0 ≤ z) && decide (z ≤ 65535)) = true; simp [hz1, hz2])
set_option maxRecDepth 20000 in
theorem kJ0_charAt_5068e_16 {C : QC} {x : QP} {M : QM} {st : List CV} {L : QL} {l0 l1 : Option CV} {r : Option Nat} : Rr C mJ0_charAt_5068e (16, [some (.inr (.inr r)), l1], st, M) x = Rr C mJ0_charAt_5068e (17, [some (.inr (.inr r)), l1], .inr (.inr r) :: st, M) x := g_pl (show decode cJ0_charAt_5068e 16 = .ok (.aload_n 0, 1) by decide +kernel) rfl
set_option maxRecDepth 20000 in
theorem kJ0_charAt_5068e_17 {C : QC} {x : QP} {M : QM} {st : List CV} {L : QL} {a : Nat} (hk : a = q_gs M 1) : Rr C mJ0_charAt_5068e (17, L, qr a :: st, M) x = Rr C mJ0_charAt_5068e (20, L, qr (q_gs M 5) :: st, M) x := g_strf (ow := 26) (e := (0, 1705)) (show decode cJ0_charAt_5068e 17 = .ok (.getfield 9, 3) by decide +kernel) rfl rfl hk
set_option maxRecDepth 20000 in
theorem kJ0_charAt_5068e_20 {C : QC} {x : QP} {M : QM} {st : List CV} {L : QL} {l0 l1 : Option CV} {z : Int} : Rr C mJ0_charAt_5068e (20, [l0, some (qi z)], st, M) x = Rr C mJ0_charAt_5068e (21, [l0, some (qi z)], qi z :: st, M) x := g_pl (show decode cJ0_charAt_5068e 20 = .ok (.iload_n 1, 1) by decide +kernel) rfl
set_option maxRecDepth 20000 in
theorem kJ0_charAt_5068e_24 {C : QC} {x : QP} {M : QM} {st : List CV} {L : QL} {z : Int} (hz1 : 0 ≤ z) (hz2 : z ≤ 65535) : Rr C mJ0_charAt_5068e (24, L, [qi z], M) x = x (some (qi z)) M := g_iret (show decode cJ0_charAt_5068e 24 = .ok (.ireturn, 1) by decide +kernel) (by show (decide (0 ≤ z) && decide (z ≤ 65535)) = true; simp [hz1, hz2])
set_option maxRecDepth 20000 in
theorem eJ0_charAt_5068e {d : Nat} {M : QM} {x : QP} {a : Nat} {v0 : Int} : q_T (d + 1) iJ0_charAt_5068e [qr a, qi v0] M x = Rr (q_C d) mJ0_charAt_5068e (0, [some (qr a), some (qi v0)], [], M) x := g_entryT (e := _) rfl (Nat.le_of_ble_eq_true rfl) rfl rfl
def mJ0_coder_7d493 : QI := (26, cJ0_coder_7d493, false, some .byte)
set_option maxRecDepth 20000 in
theorem kJ0_coder_7d493_0 {C : QC} {x : QP} {M : QM} {st : List CV} {L : QL} : Rr C mJ0_coder_7d493 (0, L, st, M) x = Rr C mJ0_coder_7d493 (3, L, qi 1 :: st, M) x := g_gets (ow := 26) (e := (1, "java/lang/String", "COMPACT_STRINGS", "Z", 1137)) (show decode cJ0_coder_7d493 0 = .ok (.getstatic 38, 3) by decide +kernel) rfl
set_option maxRecDepth 20000 in
theorem kJ0_coder_7d493_3 {C : QC} {x : QP} {M : QM} {st : List CV} {L : QL} {a : Int} (ha1 : -2147483648 ≤ a) (ha2 : a < 2147483648) : Rr C mJ0_coder_7d493 (3, L, qi a :: st, M) x = (if a = 0 then Rr C mJ0_coder_7d493 (13, L, st, M) x else Rr C mJ0_coder_7d493 (6, L, st, M) x) := (g_if (show decode cJ0_coder_7d493 3 = .ok (.ifCond .eq 10, 3) by decide +kernel) rfl ha1 ha2).trans (g_ite c_eq)
set_option maxRecDepth 20000 in
theorem kJ0_coder_7d493_6 {C : QC} {x : QP} {M : QM} {st : List CV} {L : QL} {r : Option Nat} : Rr C mJ0_coder_7d493 (6, [some (.inr (.inr r))], st, M) x = Rr C mJ0_coder_7d493 (7, [some (.inr (.inr r))], .inr (.inr r) :: st, M) x := g_pl (show decode cJ0_coder_7d493 6 = .ok (.aload_n 0, 1) by decide +kernel) rfl
set_option maxRecDepth 20000 in
theorem kJ0_coder_7d493_7 {C : QC} {x : QP} {M : QM} {st : List CV} {L : QL} {a : Nat} (hk : a = q_gs M 1) : Rr C mJ0_coder_7d493 (7, L, qr a :: st, M) x = Rr C mJ0_coder_7d493 (10, L, qi 0 :: st, M) x := g_strf (ow := 26) (e := (1, 1706)) (show decode cJ0_coder_7d493 7 = .ok (.getfield 15, 3) by decide +kernel) rfl rfl hk
set_option maxRecDepth 20000 in
theorem kJ0_coder_7d493_10 {C : QC} {x : QP} {M : QM} {st : List CV} {L : QL} : Rr C mJ0_coder_7d493 (10, L, st, M) x = Rr C mJ0_coder_7d493 (14, L, st, M) x := g_pl (show decode cJ0_coder_7d493 10 = .ok (.goto 4, 3) by decide +kernel) rfl
set_option maxRecDepth 20000 in
theorem kJ0_coder_7d493_13 {C : QC} {x : QP} {M : QM} {st : List CV} {L : QL} : Rr C mJ0_coder_7d493 (13, L, st, M) x = Rr C mJ0_coder_7d493 (14, L, qi 1 :: st, M) x := g_pl (show decode cJ0_coder_7d493 13 = .ok (.iconst 1, 1) by decide +kernel) rfl
set_option maxRecDepth 20000 in
theorem kJ0_coder_7d493_14 {C : QC} {x : QP} {M : QM} {st : List CV} {L : QL} {z : Int} (hz1 : -128 ≤ z) (hz2 : z ≤ 127) : Rr C mJ0_coder_7d493 (14, L, [qi z], M) x = x (some (qi z)) M := g_iret (show decode cJ0_coder_7d493 14 = .ok (.ireturn, 1) by decide +kernel) (by show (decide (-128 ≤ z) && decide (z ≤ 127)) = true; simp [hz1, hz2])
set_option maxRecDepth 20000 in
theorem eJ0_coder_7d493 {d : Nat} {M : QM} {x : QP} {a : Nat} : q_T (d + 1) iJ0_coder_7d493 [qr a] M x = Rr (q_C d) mJ0_coder_7d493 (0, [some (qr a)], [], M) x := g_entryT (e := _) rfl (Nat.le_of_ble_eq_true rfl) rfl rfl
def mJ0_isLatin1_aae02 : QI := (26, cJ0_isLatin1_aae02, false, some .boolean)
set_option maxRecDepth 20000 in
theorem kJ0_isLatin1_aae02_0 {C : QC} {x : QP} {M : QM} {st : List CV} {L : QL} : Rr C mJ0_isLatin1_aae02 (0, L, st, M) x = Rr C mJ0_isLatin1_aae02 (3, L, qi 1 :: st, M) x := g_gets (ow := 26) (e := (1, "java/lang/String", "COMPACT_STRINGS", "Z", 1137)) (show decode cJ0_isLatin1_aae02 0 = .ok (.getstatic 38, 3) by decide +kernel) rfl
set_option maxRecDepth 20000 in
theorem kJ0_isLatin1_aae02_3 {C : QC} {x : QP} {M : QM} {st : List CV} {L : QL} {a : Int} (ha1 : -2147483648 ≤ a) (ha2 : a < 2147483648) : Rr C mJ0_isLatin1_aae02 (3, L, qi a :: st, M) x = (if a = 0 then Rr C mJ0_isLatin1_aae02 (17, L, st, M) x else Rr C mJ0_isLatin1_aae02 (6, L, st, M) x) := (g_if (show decode cJ0_isLatin1_aae02 3 = .ok (.ifCond .eq 14, 3) by decide +kernel) rfl ha1 ha2).trans (g_ite c_eq)
set_option maxRecDepth 20000 in
theorem kJ0_isLatin1_aae02_6 {C : QC} {x : QP} {M : QM} {st : List CV} {L : QL} {r : Option Nat} : Rr C mJ0_isLatin1_aae02 (6, [some (.inr (.inr r))], st, M) x = Rr C mJ0_isLatin1_aae02 (7, [some (.inr (.inr r))], .inr (.inr r) :: st, M) x := g_pl (show decode cJ0_isLatin1_aae02 6 = .ok (.aload_n 0, 1) by decide +kernel) rfl
set_option maxRecDepth 20000 in
theorem kJ0_isLatin1_aae02_7 {C : QC} {x : QP} {M : QM} {st : List CV} {L : QL} {a : Nat} (hk : a = q_gs M 1) : Rr C mJ0_isLatin1_aae02 (7, L, qr a :: st, M) x = Rr C mJ0_isLatin1_aae02 (10, L, qi 0 :: st, M) x := g_strf (ow := 26) (e := (1, 1706)) (show decode cJ0_isLatin1_aae02 7 = .ok (.getfield 15, 3) by decide +kernel) rfl rfl hk
set_option maxRecDepth 20000 in
theorem kJ0_isLatin1_aae02_10 {C : QC} {x : QP} {M : QM} {st : List CV} {L : QL} {a : Int} (ha1 : -2147483648 ≤ a) (ha2 : a < 2147483648) : Rr C mJ0_isLatin1_aae02 (10, L, qi a :: st, M) x = (if a = 0 then Rr C mJ0_isLatin1_aae02 (13, L, st, M) x else Rr C mJ0_isLatin1_aae02 (17, L, st, M) x) := (g_if (show decode cJ0_isLatin1_aae02 10 = .ok (.ifCond .ne 7, 3) by decide +kernel) rfl ha1 ha2).trans (g_itn c_ne)
set_option maxRecDepth 20000 in
theorem kJ0_isLatin1_aae02_13 {C : QC} {x : QP} {M : QM} {st : List CV} {L : QL} : Rr C mJ0_isLatin1_aae02 (13, L, st, M) x = Rr C mJ0_isLatin1_aae02 (14, L, qi 1 :: st, M) x := g_pl (show decode cJ0_isLatin1_aae02 13 = .ok (.iconst 1, 1) by decide +kernel) rfl
set_option maxRecDepth 20000 in
theorem kJ0_isLatin1_aae02_14 {C : QC} {x : QP} {M : QM} {st : List CV} {L : QL} : Rr C mJ0_isLatin1_aae02 (14, L, st, M) x = Rr C mJ0_isLatin1_aae02 (18, L, st, M) x := g_pl (show decode cJ0_isLatin1_aae02 14 = .ok (.goto 4, 3) by decide +kernel) rfl
set_option maxRecDepth 20000 in
theorem kJ0_isLatin1_aae02_17 {C : QC} {x : QP} {M : QM} {st : List CV} {L : QL} : Rr C mJ0_isLatin1_aae02 (17, L, st, M) x = Rr C mJ0_isLatin1_aae02 (18, L, qi 0 :: st, M) x := g_pl (show decode cJ0_isLatin1_aae02 17 = .ok (.iconst 0, 1) by decide +kernel) rfl
set_option maxRecDepth 20000 in
theorem kJ0_isLatin1_aae02_18 {C : QC} {x : QP} {M : QM} {st : List CV} {L : QL} {z : Int} (hz : z = 0 ∨ z = 1) : Rr C mJ0_isLatin1_aae02 (18, L, [qi z], M) x = x (some (qi z)) M := g_iret (show decode cJ0_isLatin1_aae02 18 = .ok (.ireturn, 1) by decide +kernel) (by rcases hz with rfl | rfl <;> rfl)
set_option maxRecDepth 20000 in
theorem eJ0_isLatin1_aae02 {d : Nat} {M : QM} {x : QP} {a : Nat} : q_T (d + 1) iJ0_isLatin1_aae02 [qr a] M x = Rr (q_C d) mJ0_isLatin1_aae02 (0, [some (qr a)], [], M) x := g_entryT (e := _) rfl (Nat.le_of_ble_eq_true rfl) rfl rfl
def mJ0_checkIndex_df160 : QI := (26, cJ0_checkIndex_df160, false, none)
set_option maxRecDepth 20000 in
theorem kJ0_checkIndex_df160_0 {C : QC} {x : QP} {M : QM} {st : List CV} {L : QL} {l0 l1 : Option CV} {z : Int} : Rr C mJ0_checkIndex_df160 (0, [some (qi z), l1], st, M) x = Rr C mJ0_checkIndex_df160 (1, [some (qi z), l1], qi z :: st, M) x := g_pl (show decode cJ0_checkIndex_df160 0 = .ok (.iload_n 0, 1) by decide +kernel) rfl
set_option maxRecDepth 20000 in
theorem kJ0_checkIndex_df160_1 {C : QC} {x : QP} {M : QM} {st : List CV} {L : QL} {l0 l1 : Option CV} {z : Int} : Rr C mJ0_checkIndex_df160 (1, [l0, some (qi z)], st, M) x = Rr C mJ0_checkIndex_df160 (2, [l0, some (qi z)], qi z :: st, M) x := g_pl (show decode cJ0_checkIndex_df160 1 = .ok (.iload_n 1, 1) by decide +kernel) rfl
set_option maxRecDepth 20000 in
theorem kJ0_checkIndex_df160_2 {C : QC} {x : QP} {M : QM} {st : List CV} {L : QL} : Rr C mJ0_checkIndex_df160 (2, L, st, M) x = Rr C mJ0_checkIndex_df160 (5, L, (if q_gs M 4 = 0 then qn else qr (q_gs M 4 - 1)) :: st, M) x := g_gets (ow := 26) (e := (4, "jdk/internal/util/Preconditions", "SIOOBE_FORMATTER", "Ljava/util/function/BiFunction;", 1104)) (show decode cJ0_checkIndex_df160 2 = .ok (.getstatic 1053, 3) by decide +kernel) rfl
set_option maxRecDepth 20000 in
theorem kJ0_checkIndex_df160_5 {C : QC} {x : QP} {M : QM} {L : QL} {rest : List CV} {a0 a1 a2 : CV} {v : CV} {M1 : QM} (hC : C iJ3_checkIndex_8e157 [a0, a1, a2] M (some v) M1) (hw : (rest.map q_wd).sum ≤ 8) (k : Rr C mJ0_checkIndex_df160 (8, L, v :: rest, M1) x) : Rr C mJ0_checkIndex_df160 (5, L, a2 :: a1 :: a0 :: rest, M) x := g_cs (ow := 26) (e := (1, 99, 0, [1127, 827, 103])) (as := [a0, a1, a2]) (show decode cJ0_checkIndex_df160 5 = .ok (.invokestatic 1059, 3) by decide +kernel) rfl rfl rfl rfl (Or.inl rfl) rfl hC hw k
set_option maxRecDepth 20000 in
theorem kJ0_checkIndex_df160_8i {C : QC} {x : QP} {M : QM} {st : List CV} {L : QL} {a : Int} : Rr C mJ0_checkIndex_df160 (8, L, qi a :: st, M) x = Rr C mJ0_checkIndex_df160 (9, L, st, M) x := g_pl (show decode cJ0_checkIndex_df160 8 = .ok (.pop, 1) by decide +kernel) rfl
set_option maxRecDepth 20000 in
theorem kJ0_checkIndex_df160_8r {C : QC} {x : QP} {M : QM} {st : List CV} {L : QL} {a : Option Nat} : Rr C mJ0_checkIndex_df160 (8, L, .inr (.inr a) :: st, M) x = Rr C mJ0_checkIndex_df160 (9, L, st, M) x := g_pl (show decode cJ0_checkIndex_df160 8 = .ok (.pop, 1) by decide +kernel) rfl
set_option maxRecDepth 20000 in
theorem kJ0_checkIndex_df160_9 {C : QC} {x : QP} {M : QM} {st : List CV} {L : QL} : Rr C mJ0_checkIndex_df160 (9, L, [], M) x = x none M := g_vret (show decode cJ0_checkIndex_df160 9 = .ok (.return_, 1) by decide +kernel)
set_option maxRecDepth 20000 in
theorem eJ0_checkIndex_df160 {d : Nat} {M : QM} {x : QP} {v0 : Int} {v1 : Int} : q_T (d + 1) iJ0_checkIndex_df160 [qi v0, qi v1] M x = Rr (q_C d) mJ0_checkIndex_df160 (0, [some (qi v0), some (qi v1)], [], M) x := g_entryT (e := _) rfl (Nat.le_of_ble_eq_true rfl) rfl rfl
def mJ1_charAt_3b067 : QI := (27, cJ1_charAt_3b067, false, some .char)
set_option maxRecDepth 20000 in
theorem kJ1_charAt_3b067_0 {C : QC} {x : QP} {M : QM} {st : List CV} {L : QL} {l0 l1 : Option CV} {z : Int} : Rr C mJ1_charAt_3b067 (0, [l0, some (qi z)], st, M) x = Rr C mJ1_charAt_3b067 (1, [l0, some (qi z)], qi z :: st, M) x := g_pl (show decode cJ1_charAt_3b067 0 = .ok (.iload_n 1, 1) by decide +kernel) rfl
set_option maxRecDepth 20000 in
theorem kJ1_charAt_3b067_1 {C : QC} {x : QP} {M : QM} {st : List CV} {L : QL} {l0 l1 : Option CV} {r : Option Nat} : Rr C mJ1_charAt_3b067 (1, [some (.inr (.inr r)), l1], st, M) x = Rr C mJ1_charAt_3b067 (2, [some (.inr (.inr r)), l1], .inr (.inr r) :: st, M) x := g_pl (show decode cJ1_charAt_3b067 1 = .ok (.aload_n 0, 1) by decide +kernel) rfl
set_option maxRecDepth 20000 in
theorem kJ1_charAt_3b067_2 {C : QC} {x : QP} {M : QM} {st : List CV} {L : QL} {a : Nat} (h1 : 2 ≤ (q_kd M a).1) (h2 : (q_kd M a).1 ≤ 9) : Rr C mJ1_charAt_3b067 (2, L, qr a :: st, M) x = Rr C mJ1_charAt_3b067 (3, L, qi (q_kd M a).2 :: st, M) x := g_alen (show decode cJ1_charAt_3b067 2 = .ok (.arraylength, 1) by decide +kernel) h1 h2
set_option maxRecDepth 20000 in
theorem kJ1_charAt_3b067_3 {C : QC} {x : QP} {M : QM} {L : QL} {rest : List CV} {a0 a1 : CV} {M1 : QM} (hC : C iJ0_checkIndex_df160 [a0, a1] M none M1) (hw : (rest.map q_wd).sum ≤ 8) (k : Rr C mJ1_charAt_3b067 (6, L, rest, M1) x) : Rr C mJ1_charAt_3b067 (3, L, a1 :: a0 :: rest, M) x := g_cs (ow := 27) (e := (1, 161, 0, [1149, 1125, 92])) (as := [a0, a1]) (show decode cJ1_charAt_3b067 3 = .ok (.invokestatic 9, 3) by decide +kernel) rfl rfl rfl rfl (Or.inl rfl) rfl hC hw k
set_option maxRecDepth 20000 in
theorem kJ1_charAt_3b067_6 {C : QC} {x : QP} {M : QM} {st : List CV} {L : QL} {l0 l1 : Option CV} {r : Option Nat} : Rr C mJ1_charAt_3b067 (6, [some (.inr (.inr r)), l1], st, M) x = Rr C mJ1_charAt_3b067 (7, [some (.inr (.inr r)), l1], .inr (.inr r) :: st, M) x := g_pl (show decode cJ1_charAt_3b067 6 = .ok (.aload_n 0, 1) by decide +kernel) rfl
set_option maxRecDepth 20000 in
theorem kJ1_charAt_3b067_7 {C : QC} {x : QP} {M : QM} {st : List CV} {L : QL} {l0 l1 : Option CV} {z : Int} : Rr C mJ1_charAt_3b067 (7, [l0, some (qi z)], st, M) x = Rr C mJ1_charAt_3b067 (8, [l0, some (qi z)], qi z :: st, M) x := g_pl (show decode cJ1_charAt_3b067 7 = .ok (.iload_n 1, 1) by decide +kernel) rfl
set_option maxRecDepth 20000 in
theorem kJ1_charAt_3b067_8 {C : QC} {x : QP} {M : QM} {st : List CV} {L : QL} {a : Nat} {j : Int} (hk : (q_kd M a).1 = 4 ∨ (q_kd M a).1 = 8) (h0 : 0 ≤ j) (h1 : j < ((q_kd M a).2 : Int)) : Rr C mJ1_charAt_3b067 (8, L, qi j :: qr a :: st, M) x = Rr C mJ1_charAt_3b067 (9, L, q_fv M a j.toNat :: st, M) x := g_bald (show decode cJ1_charAt_3b067 8 = .ok (.baload, 1) by decide +kernel) hk h0 h1
set_option maxRecDepth 20000 in
theorem kJ1_charAt_3b067_9 {C : QC} {x : QP} {M : QM} {st : List CV} {L : QL} : Rr C mJ1_charAt_3b067 (9, L, st, M) x = Rr C mJ1_charAt_3b067 (12, L, qi 255 :: st, M) x := g_pl (show decode cJ1_charAt_3b067 9 = .ok (.sipush 255, 3) by decide +kernel) rfl
set_option maxRecDepth 20000 in
theorem kJ1_charAt_3b067_12 {C : QC} {x : QP} {M : QM} {st : List CV} {L : QL} {a b : Int} : Rr C mJ1_charAt_3b067 (12, L, qi b :: qi a :: st, M) x = Rr C mJ1_charAt_3b067 (13, L, qi (q_and a b) :: st, M) x := g_pl (show decode cJ1_charAt_3b067 12 = .ok (.iand, 1) by decide +kernel) rfl
set_option maxRecDepth 20000 in
theorem kJ1_charAt_3b067_13 {C : QC} {x : QP} {M : QM} {st : List CV} {L : QL} {a : Int} : Rr C mJ1_charAt_3b067 (13, L, qi a :: st, M) x = Rr C mJ1_charAt_3b067 (14, L, qi (q_i2c a) :: st, M) x := g_pl (show decode cJ1_charAt_3b067 13 = .ok (.i2c, 1) by decide +kernel) rfl
set_option maxRecDepth 20000 in
theorem kJ1_charAt_3b067_14 {C : QC} {x : QP} {M : QM} {st : List CV} {L : QL} {z : Int} (hz1 : 0 ≤ z) (hz2 : z ≤ 65535) : Rr C mJ1_charAt_3b067 (14, L, [qi z], M) x = x (some (qi z)) M := g_iret (show decode cJ1_charAt_3b067 14 = .ok (.ireturn, 1) by decide +kernel) (by show (decide (0 ≤ z) && decide (z ≤ 65535)) = true; simp [hz1, hz2])
set_option maxRecDepth 20000 in
theorem eJ1_charAt_3b067 {d : Nat} {M : QM} {x : QP} {v0 : Option Nat} {v1 : Int} : q_T (d + 1) iJ1_charAt_3b067 [.inr (.inr v0), qi v1] M x = Rr (q_C d) mJ1_charAt_3b067 (0, [some (.inr (.inr v0)), some (qi v1)], [], M) x := g_entryT (e := _) rfl (Nat.le_of_ble_eq_true rfl) rfl rfl
def mJ1_canEncode_fc78d : QI := (27, cJ1_canEncode_fc78d, false, some .boolean)
set_option maxRecDepth 20000 in
theorem kJ1_canEncode_fc78d_0 {C : QC} {x : QP} {M : QM} {st : List CV} {L : QL} {z : Int} : Rr C mJ1_canEncode_fc78d (0, [some (qi z)], st, M) x = Rr C mJ1_canEncode_fc78d (1, [some (qi z)], qi z :: st, M) x := g_pl (show decode cJ1_canEncode_fc78d 0 = .ok (.iload_n 0, 1) by decide +kernel) rfl
set_option maxRecDepth 20000 in
theorem kJ1_canEncode_fc78d_1 {C : QC} {x : QP} {M : QM} {st : List CV} {L : QL} : Rr C mJ1_canEncode_fc78d (1, L, st, M) x = Rr C mJ1_canEncode_fc78d (4, L, qi 255 :: st, M) x := g_pl (show decode cJ1_canEncode_fc78d 1 = .ok (.sipush 255, 3) by decide +kernel) rfl
set_option maxRecDepth 20000 in
theorem kJ1_canEncode_fc78d_4 {C : QC} {x : QP} {M : QM} {st : List CV} {L : QL} {a b : Int} (ha1 : -2147483648 ≤ a) (ha2 : a < 2147483648) (hb1 : -2147483648 ≤ b) (hb2 : b < 2147483648) : Rr C mJ1_canEncode_fc78d (4, L, qi b :: qi a :: st, M) x = (if b < a then Rr C mJ1_canEncode_fc78d (11, L, st, M) x else Rr C mJ1_canEncode_fc78d (7, L, st, M) x) := (g_icmp (show decode cJ1_canEncode_fc78d 4 = .ok (.if_icmp .gt 7, 3) by decide +kernel) rfl ha1 ha2 hb1 hb2).trans (g_ite c_gt)
set_option maxRecDepth 20000 in
theorem kJ1_canEncode_fc78d_7 {C : QC} {x : QP} {M : QM} {st : List CV} {L : QL} : Rr C mJ1_canEncode_fc78d (7, L, st, M) x = Rr C mJ1_canEncode_fc78d (8, L, qi 1 :: st, M) x := g_pl (show decode cJ1_canEncode_fc78d 7 = .ok (.iconst 1, 1) by decide +kernel) rfl
set_option maxRecDepth 20000 in
theorem kJ1_canEncode_fc78d_8 {C : QC} {x : QP} {M : QM} {st : List CV} {L : QL} : Rr C mJ1_canEncode_fc78d (8, L, st, M) x = Rr C mJ1_canEncode_fc78d (12, L, st, M) x := g_pl (show decode cJ1_canEncode_fc78d 8 = .ok (.goto 4, 3) by decide +kernel) rfl
set_option maxRecDepth 20000 in
theorem kJ1_canEncode_fc78d_11 {C : QC} {x : QP} {M : QM} {st : List CV} {L : QL} : Rr C mJ1_canEncode_fc78d (11, L, st, M) x = Rr C mJ1_canEncode_fc78d (12, L, qi 0 :: st, M) x := g_pl (show decode cJ1_canEncode_fc78d 11 = .ok (.iconst 0, 1) by decide +kernel) rfl
set_option maxRecDepth 20000 in
theorem kJ1_canEncode_fc78d_12 {C : QC} {x : QP} {M : QM} {st : List CV} {L : QL} {z : Int} (hz : z = 0 ∨ z = 1) : Rr C mJ1_canEncode_fc78d (12, L, [qi z], M) x = x (some (qi z)) M := g_iret (show decode cJ1_canEncode_fc78d 12 = .ok (.ireturn, 1) by decide +kernel) (by rcases hz with rfl | rfl <;> rfl)
set_option maxRecDepth 20000 in
theorem eJ1_canEncode_fc78d {d : Nat} {M : QM} {x : QP} {v0 : Int} : q_T (d + 1) iJ1_canEncode_fc78d [qi v0] M x = Rr (q_C d) mJ1_canEncode_fc78d (0, [some (qi v0)], [], M) x := g_entryT (e := _) rfl (Nat.le_of_ble_eq_true rfl) rfl rfl
def mJxa1e45_init_da8c8 : QI := (25, cJxa1e45_init_da8c8, true, none)
set_option maxRecDepth 20000 in
theorem kJxa1e45_init_da8c8_0 {C : QC} {x : QP} {M : QM} {st : List CV} {L : QL} {r : Option Nat} : Rr C mJxa1e45_init_da8c8 (0, [some (.inr (.inr r))], st, M) x = Rr C mJxa1e45_init_da8c8 (1, [some (.inr (.inr r))], .inr (.inr r) :: st, M) x := g_pl (show decode cJxa1e45_init_da8c8 0 = .ok (.aload_n 0, 1) by decide +kernel) rfl
set_option maxRecDepth 20000 in
theorem kJxa1e45_init_da8c8_1 {C : QC} {x : QP} {M : QM} {st : List CV} {L : QL} {a : Nat} (hw : (st.map q_wd).sum ≤ 8) : Rr C mJxa1e45_init_da8c8 (1, L, qr a :: st, M) x = Rr C mJxa1e45_init_da8c8 (4, L, st, M) x := g_obj (ow := 25) (e := 146) (show decode cJxa1e45_init_da8c8 1 = .ok (.invokespecial 1, 3) by decide +kernel) rfl hw
set_option maxRecDepth 20000 in
theorem kJxa1e45_init_da8c8_4 {C : QC} {x : QP} {M : QM} {st : List CV} {L : QL} : Rr C mJxa1e45_init_da8c8 (4, L, [], M) x = x none M := g_vret (show decode cJxa1e45_init_da8c8 4 = .ok (.return_, 1) by decide +kernel)
set_option maxRecDepth 20000 in
theorem eJxa1e45_init_da8c8 {d : Nat} {M : QM} {x : QP} {a : Nat} : q_T (d + 1) iJxa1e45_init_da8c8 [qr a] M x = Rr (q_C d) mJxa1e45_init_da8c8 (0, [some (qr a)], [], M) x := g_entryT (e := _) rfl (Nat.le_of_ble_eq_true rfl) rfl rfl
def mJxc12de_init_da8c8 : QI := (24, cJxc12de_init_da8c8, true, none)
set_option maxRecDepth 20000 in
theorem kJxc12de_init_da8c8_0 {C : QC} {x : QP} {M : QM} {st : List CV} {L : QL} {r : Option Nat} : Rr C mJxc12de_init_da8c8 (0, [some (.inr (.inr r))], st, M) x = Rr C mJxc12de_init_da8c8 (1, [some (.inr (.inr r))], .inr (.inr r) :: st, M) x := g_pl (show decode cJxc12de_init_da8c8 0 = .ok (.aload_n 0, 1) by decide +kernel) rfl
set_option maxRecDepth 20000 in
theorem kJxc12de_init_da8c8_1 {C : QC} {x : QP} {M : QM} {L : QL} {rest : List CV} {M1 : QM} {b : Nat} (hC : C iJxa1e45_init_da8c8 [qr b] M none M1) (hw : (rest.map q_wd).sum ≤ 8) (k : Rr C mJxc12de_init_da8c8 (4, L, rest, M1) x) : Rr C mJxc12de_init_da8c8 (1, L, qr b :: rest, M) x := g_ci (ow := 24) (e := (3, 5, 0, [143, 144, 80])) (as := []) (show decode cJxc12de_init_da8c8 1 = .ok (.invokespecial 1, 3) by decide +kernel) rfl rfl rfl (Or.inl (Or.inl rfl)) rfl hC hw k
set_option maxRecDepth 20000 in
theorem kJxc12de_init_da8c8_4 {C : QC} {x : QP} {M : QM} {st : List CV} {L : QL} {r : Option Nat} : Rr C mJxc12de_init_da8c8 (4, [some (.inr (.inr r))], st, M) x = Rr C mJxc12de_init_da8c8 (5, [some (.inr (.inr r))], .inr (.inr r) :: st, M) x := g_pl (show decode cJxc12de_init_da8c8 4 = .ok (.aload_n 0, 1) by decide +kernel) rfl
set_option maxRecDepth 20000 in
theorem kJxc12de_init_da8c8_5 {C : QC} {x : QP} {M : QM} {st : List CV} {L : QL} : Rr C mJxc12de_init_da8c8 (5, L, st, M) x = Rr C mJxc12de_init_da8c8 (6, L, qi 0 :: st, M) x := g_pl (show decode cJxc12de_init_da8c8 5 = .ok (.iconst 0, 1) by decide +kernel) rfl
set_option maxRecDepth 20000 in
theorem kJxc12de_init_da8c8_6 {C : QC} {x : QP} {M : QM} {st : List CV} {L : QL} {z : Int} {a : Nat} (hk : q_kd M a = (1, 15)) : Rr C mJxc12de_init_da8c8 (6, L, qi z :: qr a :: st, M) x = Rr C mJxc12de_init_da8c8 (9, L, st, q_wr M a 0 (qi z)) x := g_putf (ow := 24) (ini := true) (e := (15, 0, RJxc12de, 151, 0)) (r := (RJx4a65c, TJx4a65c, 3)) (t := tyJx4a65c) (show decode cJxc12de_init_da8c8 6 = .ok (.putfield 7, 3) by decide +kernel) rfl rfl rfl rfl (by decide +kernel) hk
set_option maxRecDepth 20000 in
theorem kJxc12de_init_da8c8_9 {C : QC} {x : QP} {M : QM} {st : List CV} {L : QL} : Rr C mJxc12de_init_da8c8 (9, L, [], M) x = x none M := g_vret (show decode cJxc12de_init_da8c8 9 = .ok (.return_, 1) by decide +kernel)
set_option maxRecDepth 20000 in
theorem eJxc12de_init_da8c8 {d : Nat} {M : QM} {x : QP} {a : Nat} : q_T (d + 1) iJxc12de_init_da8c8 [qr a] M x = Rr (q_C d) mJxc12de_init_da8c8 (0, [some (qr a)], [], M) x := g_entryT (e := _) rfl (Nat.le_of_ble_eq_true rfl) rfl rfl
def mJx4a65c_init_da8c8 : QI := (15, cJx4a65c_init_da8c8, true, none)
set_option maxRecDepth 20000 in
theorem kJx4a65c_init_da8c8_0 {C : QC} {x : QP} {M : QM} {st : List CV} {L : QL} {r : Option Nat} : Rr C mJx4a65c_init_da8c8 (0, [some (.inr (.inr r))], st, M) x = Rr C mJx4a65c_init_da8c8 (1, [some (.inr (.inr r))], .inr (.inr r) :: st, M) x := g_pl (show decode cJx4a65c_init_da8c8 0 = .ok (.aload_n 0, 1) by decide +kernel) rfl
set_option maxRecDepth 20000 in
theorem kJx4a65c_init_da8c8_1 {C : QC} {x : QP} {M : QM} {L : QL} {rest : List CV} {M1 : QM} {b : Nat} (hC : C iJxc12de_init_da8c8 [qr b] M none M1) (hw : (rest.map q_wd).sum ≤ 8) (k : Rr C mJx4a65c_init_da8c8 (4, L, rest, M1) x) : Rr C mJx4a65c_init_da8c8 (1, L, qr b :: rest, M) x := g_ci (ow := 15) (e := (3, 4, 0, [140, 141, 81])) (as := []) (show decode cJx4a65c_init_da8c8 1 = .ok (.invokespecial 1, 3) by decide +kernel) rfl rfl rfl (Or.inl (Or.inl rfl)) rfl hC hw k
set_option maxRecDepth 20000 in
theorem kJx4a65c_init_da8c8_4 {C : QC} {x : QP} {M : QM} {st : List CV} {L : QL} {r : Option Nat} : Rr C mJx4a65c_init_da8c8 (4, [some (.inr (.inr r))], st, M) x = Rr C mJx4a65c_init_da8c8 (5, [some (.inr (.inr r))], .inr (.inr r) :: st, M) x := g_pl (show decode cJx4a65c_init_da8c8 4 = .ok (.aload_n 0, 1) by decide +kernel) rfl
set_option maxRecDepth 20000 in
theorem kJx4a65c_init_da8c8_5 {C : QC} {x : QP} {M : QM} {st : List CV} {L : QL} : Rr C mJx4a65c_init_da8c8 (5, L, st, M) x = Rr C mJx4a65c_init_da8c8 (8, L, qr (q_gs M 0) :: st, M) x := g_gets (ow := 15) (e := (0, "java/util/ArrayList", "DEFAULTCAPACITY_EMPTY_ELEMENTDATA", "[Ljava/lang/Object;", 147)) (show decode cJx4a65c_init_da8c8 5 = .ok (.getstatic 39, 3) by decide +kernel) rfl
set_option maxRecDepth 20000 in
theorem kJx4a65c_init_da8c8_8 {C : QC} {x : QP} {M : QM} {st : List CV} {L : QL} {z : Option Nat} {a : Nat} (hk : q_kd M a = (1, 15)) : Rr C mJx4a65c_init_da8c8 (8, L, .inr (.inr z) :: qr a :: st, M) x = Rr C mJx4a65c_init_da8c8 (11, L, st, q_wr M a 1 (.inr (.inr z))) x := g_putf (ow := 15) (ini := true) (e := (15, 1, RJx4a65c, 149, 0)) (r := (RJx4a65c, TJx4a65c, 3)) (t := tyJx4a65c) (show decode cJx4a65c_init_da8c8 8 = .ok (.putfield 9, 3) by decide +kernel) rfl rfl rfl rfl (by decide +kernel) hk
set_option maxRecDepth 20000 in
theorem kJx4a65c_init_da8c8_11 {C : QC} {x : QP} {M : QM} {st : List CV} {L : QL} : Rr C mJx4a65c_init_da8c8 (11, L, [], M) x = x none M := g_vret (show decode cJx4a65c_init_da8c8 11 = .ok (.return_, 1) by decide +kernel)
set_option maxRecDepth 20000 in
theorem eJx4a65c_init_da8c8 {d : Nat} {M : QM} {x : QP} {a : Nat} : q_T (d + 1) iJx4a65c_init_da8c8 [qr a] M x = Rr (q_C d) mJx4a65c_init_da8c8 (0, [some (qr a)], [], M) x := g_entryT (e := _) rfl (Nat.le_of_ble_eq_true rfl) rfl rfl
def mJx4a65c_grow_92f84 : QI := (15, cJx4a65c_grow_92f84, false, some (.array (.object "java/lang/Object")))
set_option maxRecDepth 20000 in
theorem kJx4a65c_grow_92f84_0 {C : QC} {x : QP} {M : QM} {st : List CV} {L : QL} {l0 l1 l2 l3 : Option CV} {r : Option Nat} : Rr C mJx4a65c_grow_92f84 (0, [some (.inr (.inr r)), l1, l2, l3], st, M) x = Rr C mJx4a65c_grow_92f84 (1, [some (.inr (.inr r)), l1, l2, l3], .inr (.inr r) :: st, M) x := g_pl (show decode cJx4a65c_grow_92f84 0 = .ok (.aload_n 0, 1) by decide +kernel) rfl
set_option maxRecDepth 20000 in
theorem kJx4a65c_grow_92f84_1 {C : QC} {x : QP} {M : QM} {st : List CV} {L : QL} {a : Nat} (hk : q_kd M a = (1, 15)) : Rr C mJx4a65c_grow_92f84 (1, L, qr a :: st, M) x = Rr C mJx4a65c_grow_92f84 (4, L, q_fv M a 1 :: st, M) x := g_getf (ow := 15) (e := (15, 1, RJx4a65c, 149, 0)) (show decode cJx4a65c_grow_92f84 1 = .ok (.getfield 9, 3) by decide +kernel) rfl hk
set_option maxRecDepth 20000 in
theorem kJx4a65c_grow_92f84_4 {C : QC} {x : QP} {M : QM} {st : List CV} {L : QL} {a : Nat} (h1 : 2 ≤ (q_kd M a).1) (h2 : (q_kd M a).1 ≤ 9) : Rr C mJx4a65c_grow_92f84 (4, L, qr a :: st, M) x = Rr C mJx4a65c_grow_92f84 (5, L, qi (q_kd M a).2 :: st, M) x := g_alen (show decode cJx4a65c_grow_92f84 4 = .ok (.arraylength, 1) by decide +kernel) h1 h2
set_option maxRecDepth 20000 in
theorem kJx4a65c_grow_92f84_5 {C : QC} {x : QP} {M : QM} {st : List CV} {L : QL} {l0 l1 l2 l3 : Option CV} {z : Int} : Rr C mJx4a65c_grow_92f84 (5, [l0, l1, l2, l3], qi z :: st, M) x = Rr C mJx4a65c_grow_92f84 (6, [l0, q_cut l1, some (qi z), l3], st, M) x := g_pl (show decode cJx4a65c_grow_92f84 5 = .ok (.istore_n 2, 1) by decide +kernel) rfl
set_option maxRecDepth 20000 in
theorem kJx4a65c_grow_92f84_6 {C : QC} {x : QP} {M : QM} {st : List CV} {L : QL} {l0 l1 l2 l3 : Option CV} {z : Int} : Rr C mJx4a65c_grow_92f84 (6, [l0, l1, some (qi z), l3], st, M) x = Rr C mJx4a65c_grow_92f84 (7, [l0, l1, some (qi z), l3], qi z :: st, M) x := g_pl (show decode cJx4a65c_grow_92f84 6 = .ok (.iload_n 2, 1) by decide +kernel) rfl
set_option maxRecDepth 20000 in
theorem kJx4a65c_grow_92f84_7 {C : QC} {x : QP} {M : QM} {st : List CV} {L : QL} {a : Int} (ha1 : -2147483648 ≤ a) (ha2 : a < 2147483648) : Rr C mJx4a65c_grow_92f84 (7, L, qi a :: st, M) x = (if 0 < a then Rr C mJx4a65c_grow_92f84 (20, L, st, M) x else Rr C mJx4a65c_grow_92f84 (10, L, st, M) x) := (g_if (show decode cJx4a65c_grow_92f84 7 = .ok (.ifCond .gt 13, 3) by decide +kernel) rfl ha1 ha2).trans (g_ite c_gt)
set_option maxRecDepth 20000 in
theorem kJx4a65c_grow_92f84_10 {C : QC} {x : QP} {M : QM} {st : List CV} {L : QL} {l0 l1 l2 l3 : Option CV} {r : Option Nat} : Rr C mJx4a65c_grow_92f84 (10, [some (.inr (.inr r)), l1, l2, l3], st, M) x = Rr C mJx4a65c_grow_92f84 (11, [some (.inr (.inr r)), l1, l2, l3], .inr (.inr r) :: st, M) x := g_pl (show decode cJx4a65c_grow_92f84 10 = .ok (.aload_n 0, 1) by decide +kernel) rfl
set_option maxRecDepth 20000 in
theorem kJx4a65c_grow_92f84_11 {C : QC} {x : QP} {M : QM} {st : List CV} {L : QL} {a : Nat} (hk : q_kd M a = (1, 15)) : Rr C mJx4a65c_grow_92f84 (11, L, qr a :: st, M) x = Rr C mJx4a65c_grow_92f84 (14, L, q_fv M a 1 :: st, M) x := g_getf (ow := 15) (e := (15, 1, RJx4a65c, 149, 0)) (show decode cJx4a65c_grow_92f84 11 = .ok (.getfield 9, 3) by decide +kernel) rfl hk
set_option maxRecDepth 20000 in
theorem kJx4a65c_grow_92f84_14 {C : QC} {x : QP} {M : QM} {st : List CV} {L : QL} : Rr C mJx4a65c_grow_92f84 (14, L, st, M) x = Rr C mJx4a65c_grow_92f84 (17, L, qr (q_gs M 0) :: st, M) x := g_gets (ow := 15) (e := (0, "java/util/ArrayList", "DEFAULTCAPACITY_EMPTY_ELEMENTDATA", "[Ljava/lang/Object;", 147)) (show decode cJx4a65c_grow_92f84 14 = .ok (.getstatic 39, 3) by decide +kernel) rfl
set_option maxRecDepth 20000 in
theorem kJx4a65c_grow_92f84_17 {C : QC} {x : QP} {M : QM} {st : List CV} {L : QL} {a b : Option Nat} : Rr C mJx4a65c_grow_92f84 (17, L, .inr (.inr b) :: .inr (.inr a) :: st, M) x = (if a = b then Rr C mJx4a65c_grow_92f84 (45, L, st, M) x else Rr C mJx4a65c_grow_92f84 (20, L, st, M) x) := g_acmpE (show decode cJx4a65c_grow_92f84 17 = .ok (.if_acmp .eq 28, 3) by decide +kernel) rfl
set_option maxRecDepth 20000 in
theorem kJx4a65c_grow_92f84_20 {C : QC} {x : QP} {M : QM} {st : List CV} {L : QL} {l0 l1 l2 l3 : Option CV} {z : Int} : Rr C mJx4a65c_grow_92f84 (20, [l0, l1, some (qi z), l3], st, M) x = Rr C mJx4a65c_grow_92f84 (21, [l0, l1, some (qi z), l3], qi z :: st, M) x := g_pl (show decode cJx4a65c_grow_92f84 20 = .ok (.iload_n 2, 1) by decide +kernel) rfl
set_option maxRecDepth 20000 in
theorem kJx4a65c_grow_92f84_21 {C : QC} {x : QP} {M : QM} {st : List CV} {L : QL} {l0 l1 l2 l3 : Option CV} {z : Int} : Rr C mJx4a65c_grow_92f84 (21, [l0, some (qi z), l2, l3], st, M) x = Rr C mJx4a65c_grow_92f84 (22, [l0, some (qi z), l2, l3], qi z :: st, M) x := g_pl (show decode cJx4a65c_grow_92f84 21 = .ok (.iload_n 1, 1) by decide +kernel) rfl
set_option maxRecDepth 20000 in
theorem kJx4a65c_grow_92f84_22 {C : QC} {x : QP} {M : QM} {st : List CV} {L : QL} {l0 l1 l2 l3 : Option CV} {z : Int} : Rr C mJx4a65c_grow_92f84 (22, [l0, l1, some (qi z), l3], st, M) x = Rr C mJx4a65c_grow_92f84 (23, [l0, l1, some (qi z), l3], qi z :: st, M) x := g_pl (show decode cJx4a65c_grow_92f84 22 = .ok (.iload_n 2, 1) by decide +kernel) rfl
set_option maxRecDepth 20000 in
theorem kJx4a65c_grow_92f84_23 {C : QC} {x : QP} {M : QM} {st : List CV} {L : QL} {a b : Int} : Rr C mJx4a65c_grow_92f84 (23, L, qi b :: qi a :: st, M) x = Rr C mJx4a65c_grow_92f84 (24, L, qi (a - b) :: st, M) x := g_pl (show decode cJx4a65c_grow_92f84 23 = .ok (.isub, 1) by decide +kernel) rfl
set_option maxRecDepth 20000 in
theorem kJx4a65c_grow_92f84_24 {C : QC} {x : QP} {M : QM} {st : List CV} {L : QL} {l0 l1 l2 l3 : Option CV} {z : Int} : Rr C mJx4a65c_grow_92f84 (24, [l0, l1, some (qi z), l3], st, M) x = Rr C mJx4a65c_grow_92f84 (25, [l0, l1, some (qi z), l3], qi z :: st, M) x := g_pl (show decode cJx4a65c_grow_92f84 24 = .ok (.iload_n 2, 1) by decide +kernel) rfl
set_option maxRecDepth 20000 in
theorem kJx4a65c_grow_92f84_25 {C : QC} {x : QP} {M : QM} {st : List CV} {L : QL} : Rr C mJx4a65c_grow_92f84 (25, L, st, M) x = Rr C mJx4a65c_grow_92f84 (26, L, qi 1 :: st, M) x := g_pl (show decode cJx4a65c_grow_92f84 25 = .ok (.iconst 1, 1) by decide +kernel) rfl
set_option maxRecDepth 20000 in
theorem kJx4a65c_grow_92f84_26 {C : QC} {x : QP} {M : QM} {st : List CV} {L : QL} {a b : Int} : Rr C mJx4a65c_grow_92f84 (26, L, qi b :: qi a :: st, M) x = Rr C mJx4a65c_grow_92f84 (27, L, qi (q_shr a b) :: st, M) x := g_pl (show decode cJx4a65c_grow_92f84 26 = .ok (.ishr, 1) by decide +kernel) rfl
set_option maxRecDepth 20000 in
theorem kJx4a65c_grow_92f84_27 {C : QC} {x : QP} {M : QM} {L : QL} {rest : List CV} {a0 a1 a2 : CV} {v : CV} {M1 : QM} (hC : C iJ8_newLength_cabcc [a0, a1, a2] M (some v) M1) (hw : (rest.map q_wd).sum ≤ 8) (k : Rr C mJx4a65c_grow_92f84 (30, L, v :: rest, M1) x) : Rr C mJx4a65c_grow_92f84 (27, L, a2 :: a1 :: a0 :: rest, M) x := g_cs (ow := 15) (e := (1, 49, 0, [585, 586, 100])) (as := [a0, a1, a2]) (show decode cJx4a65c_grow_92f84 27 = .ok (.invokestatic 73, 3) by decide +kernel) rfl rfl rfl rfl (Or.inl rfl) rfl hC hw k
set_option maxRecDepth 20000 in
theorem kJx4a65c_grow_92f84_30 {C : QC} {x : QP} {M : QM} {st : List CV} {L : QL} {l0 l1 l2 l3 : Option CV} {z : Int} : Rr C mJx4a65c_grow_92f84 (30, [l0, l1, l2, l3], qi z :: st, M) x = Rr C mJx4a65c_grow_92f84 (31, [l0, l1, q_cut l2, some (qi z)], st, M) x := g_pl (show decode cJx4a65c_grow_92f84 30 = .ok (.istore_n 3, 1) by decide +kernel) rfl
set_option maxRecDepth 20000 in
theorem kJx4a65c_grow_92f84_31 {C : QC} {x : QP} {M : QM} {st : List CV} {L : QL} {l0 l1 l2 l3 : Option CV} {r : Option Nat} : Rr C mJx4a65c_grow_92f84 (31, [some (.inr (.inr r)), l1, l2, l3], st, M) x = Rr C mJx4a65c_grow_92f84 (32, [some (.inr (.inr r)), l1, l2, l3], .inr (.inr r) :: st, M) x := g_pl (show decode cJx4a65c_grow_92f84 31 = .ok (.aload_n 0, 1) by decide +kernel) rfl
set_option maxRecDepth 20000 in
theorem kJx4a65c_grow_92f84_32 {C : QC} {x : QP} {M : QM} {st : List CV} {L : QL} {l0 l1 l2 l3 : Option CV} {r : Option Nat} : Rr C mJx4a65c_grow_92f84 (32, [some (.inr (.inr r)), l1, l2, l3], st, M) x = Rr C mJx4a65c_grow_92f84 (33, [some (.inr (.inr r)), l1, l2, l3], .inr (.inr r) :: st, M) x := g_pl (show decode cJx4a65c_grow_92f84 32 = .ok (.aload_n 0, 1) by decide +kernel) rfl
set_option maxRecDepth 20000 in
theorem kJx4a65c_grow_92f84_33 {C : QC} {x : QP} {M : QM} {st : List CV} {L : QL} {a : Nat} (hk : q_kd M a = (1, 15)) : Rr C mJx4a65c_grow_92f84 (33, L, qr a :: st, M) x = Rr C mJx4a65c_grow_92f84 (36, L, q_fv M a 1 :: st, M) x := g_getf (ow := 15) (e := (15, 1, RJx4a65c, 149, 0)) (show decode cJx4a65c_grow_92f84 33 = .ok (.getfield 9, 3) by decide +kernel) rfl hk
set_option maxRecDepth 20000 in
theorem kJx4a65c_grow_92f84_36 {C : QC} {x : QP} {M : QM} {st : List CV} {L : QL} {l0 l1 l2 l3 : Option CV} {z : Int} : Rr C mJx4a65c_grow_92f84 (36, [l0, l1, l2, some (qi z)], st, M) x = Rr C mJx4a65c_grow_92f84 (37, [l0, l1, l2, some (qi z)], qi z :: st, M) x := g_pl (show decode cJx4a65c_grow_92f84 36 = .ok (.iload_n 3, 1) by decide +kernel) rfl
set_option maxRecDepth 20000 in
theorem kJx4a65c_grow_92f84_37 {C : QC} {x : QP} {M : QM} {L : QL} {rest : List CV} {a0 a1 : CV} {v : CV} {M1 : QM} (hC : C iJ7_copyOf_1904c [a0, a1] M (some v) M1) (hw : (rest.map q_wd).sum ≤ 8) (k : Rr C mJx4a65c_grow_92f84 (40, L, v :: rest, M1) x) : Rr C mJx4a65c_grow_92f84 (37, L, a1 :: a0 :: rest, M) x := g_cs (ow := 15) (e := (1, 51, 0, [593, 594, 101])) (as := [a0, a1]) (show decode cJx4a65c_grow_92f84 37 = .ok (.invokestatic 66, 3) by decide +kernel) rfl rfl rfl rfl (Or.inl rfl) rfl hC hw k
set_option maxRecDepth 20000 in
theorem kJx4a65c_grow_92f84_40ii {C : QC} {x : QP} {M : QM} {st : List CV} {L : QL} {a : Int} {b : Int} : Rr C mJx4a65c_grow_92f84 (40, L, qi a :: qi b :: st, M) x = Rr C mJx4a65c_grow_92f84 (41, L, qi a :: qi b :: qi a :: st, M) x := g_pl (show decode cJx4a65c_grow_92f84 40 = .ok (.dup_x1, 1) by decide +kernel) rfl
set_option maxRecDepth 20000 in
theorem kJx4a65c_grow_92f84_40ir {C : QC} {x : QP} {M : QM} {st : List CV} {L : QL} {a : Int} {b : Option Nat} : Rr C mJx4a65c_grow_92f84 (40, L, qi a :: .inr (.inr b) :: st, M) x = Rr C mJx4a65c_grow_92f84 (41, L, qi a :: .inr (.inr b) :: qi a :: st, M) x := g_pl (show decode cJx4a65c_grow_92f84 40 = .ok (.dup_x1, 1) by decide +kernel) rfl
set_option maxRecDepth 20000 in
theorem kJx4a65c_grow_92f84_40ri {C : QC} {x : QP} {M : QM} {st : List CV} {L : QL} {a : Option Nat} {b : Int} : Rr C mJx4a65c_grow_92f84 (40, L, .inr (.inr a) :: qi b :: st, M) x = Rr C mJx4a65c_grow_92f84 (41, L, .inr (.inr a) :: qi b :: .inr (.inr a) :: st, M) x := g_pl (show decode cJx4a65c_grow_92f84 40 = .ok (.dup_x1, 1) by decide +kernel) rfl
set_option maxRecDepth 20000 in
theorem kJx4a65c_grow_92f84_40rr {C : QC} {x : QP} {M : QM} {st : List CV} {L : QL} {a : Option Nat} {b : Option Nat} : Rr C mJx4a65c_grow_92f84 (40, L, .inr (.inr a) :: .inr (.inr b) :: st, M) x = Rr C mJx4a65c_grow_92f84 (41, L, .inr (.inr a) :: .inr (.inr b) :: .inr (.inr a) :: st, M) x := g_pl (show decode cJx4a65c_grow_92f84 40 = .ok (.dup_x1, 1) by decide +kernel) rfl
set_option maxRecDepth 20000 in
theorem kJx4a65c_grow_92f84_41 {C : QC} {x : QP} {M : QM} {st : List CV} {L : QL} {z : Option Nat} {a : Nat} (hk : q_kd M a = (1, 15)) : Rr C mJx4a65c_grow_92f84 (41, L, .inr (.inr z) :: qr a :: st, M) x = Rr C mJx4a65c_grow_92f84 (44, L, st, q_wr M a 1 (.inr (.inr z))) x := g_putf (ow := 15) (ini := false) (e := (15, 1, RJx4a65c, 149, 0)) (r := (RJx4a65c, TJx4a65c, 3)) (t := tyJx4a65c) (show decode cJx4a65c_grow_92f84 41 = .ok (.putfield 9, 3) by decide +kernel) rfl rfl rfl rfl (by decide +kernel) hk
set_option maxRecDepth 20000 in
theorem kJx4a65c_grow_92f84_44 {C : QC} {x : QP} {M : QM} {st : List CV} {L : QL} {r : Option Nat} : Rr C mJx4a65c_grow_92f84 (44, L, [.inr (.inr r)], M) x = x (some (.inr (.inr r))) M := g_areta (show decode cJx4a65c_grow_92f84 44 = .ok (.areturn, 1) by decide +kernel)
set_option maxRecDepth 20000 in
theorem kJx4a65c_grow_92f84_45 {C : QC} {x : QP} {M : QM} {st : List CV} {L : QL} {l0 l1 l2 l3 : Option CV} {r : Option Nat} : Rr C mJx4a65c_grow_92f84 (45, [some (.inr (.inr r)), l1, l2, l3], st, M) x = Rr C mJx4a65c_grow_92f84 (46, [some (.inr (.inr r)), l1, l2, l3], .inr (.inr r) :: st, M) x := g_pl (show decode cJx4a65c_grow_92f84 45 = .ok (.aload_n 0, 1) by decide +kernel) rfl
set_option maxRecDepth 20000 in
theorem kJx4a65c_grow_92f84_46 {C : QC} {x : QP} {M : QM} {st : List CV} {L : QL} : Rr C mJx4a65c_grow_92f84 (46, L, st, M) x = Rr C mJx4a65c_grow_92f84 (48, L, qi 10 :: st, M) x := g_pl (show decode cJx4a65c_grow_92f84 46 = .ok (.bipush 10, 2) by decide +kernel) rfl
set_option maxRecDepth 20000 in
theorem kJx4a65c_grow_92f84_48 {C : QC} {x : QP} {M : QM} {st : List CV} {L : QL} {l0 l1 l2 l3 : Option CV} {z : Int} : Rr C mJx4a65c_grow_92f84 (48, [l0, some (qi z), l2, l3], st, M) x = Rr C mJx4a65c_grow_92f84 (49, [l0, some (qi z), l2, l3], qi z :: st, M) x := g_pl (show decode cJx4a65c_grow_92f84 48 = .ok (.iload_n 1, 1) by decide +kernel) rfl
set_option maxRecDepth 20000 in
theorem kJx4a65c_grow_92f84_49 {C : QC} {x : QP} {M : QM} {st : List CV} {L : QL} {a b : Int} (ha1 : -2147483648 ≤ a) (ha2 : a < 2147483648) (hb1 : -2147483648 ≤ b) (hb2 : b < 2147483648) (hw : (st.map q_wd).sum ≤ 8) : Rr C mJx4a65c_grow_92f84 (49, L, qi b :: qi a :: st, M) x = Rr C mJx4a65c_grow_92f84 (52, L, qi (max a b) :: st, M) x := g_mx (ow := 15) (e := (0, 622)) (show decode cJx4a65c_grow_92f84 49 = .ok (.invokestatic 79, 3) by decide +kernel) rfl rfl ha1 ha2 hb1 hb2 hw
set_option maxRecDepth 20000 in
theorem kJx4a65c_grow_92f84_52 {C : QC} {x : QP} {M : QM} {st : List CV} {L : QL} {n : Int} (h0 : 0 ≤ n) (h1 : n ≤ 60000000) : Rr C mJx4a65c_grow_92f84 (52, L, qi n :: st, M) x = Rr C mJx4a65c_grow_92f84 (55, L, qr (q_top M) :: st, q_al M (5, n.toNat) n.toNat (fun _ => qn)) x := g_anew (ow := 15) (e := (5, 623)) (show decode cJx4a65c_grow_92f84 52 = .ok (.anewarray 7, 3) by decide +kernel) rfl (Or.inl rfl) h0 h1
set_option maxRecDepth 20000 in
theorem kJx4a65c_grow_92f84_55ii {C : QC} {x : QP} {M : QM} {st : List CV} {L : QL} {a : Int} {b : Int} : Rr C mJx4a65c_grow_92f84 (55, L, qi a :: qi b :: st, M) x = Rr C mJx4a65c_grow_92f84 (56, L, qi a :: qi b :: qi a :: st, M) x := g_pl (show decode cJx4a65c_grow_92f84 55 = .ok (.dup_x1, 1) by decide +kernel) rfl
set_option maxRecDepth 20000 in
theorem kJx4a65c_grow_92f84_55ir {C : QC} {x : QP} {M : QM} {st : List CV} {L : QL} {a : Int} {b : Option Nat} : Rr C mJx4a65c_grow_92f84 (55, L, qi a :: .inr (.inr b) :: st, M) x = Rr C mJx4a65c_grow_92f84 (56, L, qi a :: .inr (.inr b) :: qi a :: st, M) x := g_pl (show decode cJx4a65c_grow_92f84 55 = .ok (.dup_x1, 1) by decide +kernel) rfl
set_option maxRecDepth 20000 in
theorem kJx4a65c_grow_92f84_55ri {C : QC} {x : QP} {M : QM} {st : List CV} {L : QL} {a : Option Nat} {b : Int} : Rr C mJx4a65c_grow_92f84 (55, L, .inr (.inr a) :: qi b :: st, M) x = Rr C mJx4a65c_grow_92f84 (56, L, .inr (.inr a) :: qi b :: .inr (.inr a) :: st, M) x := g_pl (show decode cJx4a65c_grow_92f84 55 = .ok (.dup_x1, 1) by decide +kernel) rfl
set_option maxRecDepth 20000 in
theorem kJx4a65c_grow_92f84_55rr {C : QC} {x : QP} {M : QM} {st : List CV} {L : QL} {a : Option Nat} {b : Option Nat} : Rr C mJx4a65c_grow_92f84 (55, L, .inr (.inr a) :: .inr (.inr b) :: st, M) x = Rr C mJx4a65c_grow_92f84 (56, L, .inr (.inr a) :: .inr (.inr b) :: .inr (.inr a) :: st, M) x := g_pl (show decode cJx4a65c_grow_92f84 55 = .ok (.dup_x1, 1) by decide +kernel) rfl
set_option maxRecDepth 20000 in
theorem kJx4a65c_grow_92f84_56 {C : QC} {x : QP} {M : QM} {st : List CV} {L : QL} {z : Option Nat} {a : Nat} (hk : q_kd M a = (1, 15)) : Rr C mJx4a65c_grow_92f84 (56, L, .inr (.inr z) :: qr a :: st, M) x = Rr C mJx4a65c_grow_92f84 (59, L, st, q_wr M a 1 (.inr (.inr z))) x := g_putf (ow := 15) (ini := false) (e := (15, 1, RJx4a65c, 149, 0)) (r := (RJx4a65c, TJx4a65c, 3)) (t := tyJx4a65c) (show decode cJx4a65c_grow_92f84 56 = .ok (.putfield 9, 3) by decide +kernel) rfl rfl rfl rfl (by decide +kernel) hk
set_option maxRecDepth 20000 in
theorem kJx4a65c_grow_92f84_59 {C : QC} {x : QP} {M : QM} {st : List CV} {L : QL} {r : Option Nat} : Rr C mJx4a65c_grow_92f84 (59, L, [.inr (.inr r)], M) x = x (some (.inr (.inr r))) M := g_areta (show decode cJx4a65c_grow_92f84 59 = .ok (.areturn, 1) by decide +kernel)
set_option maxRecDepth 20000 in
theorem eJx4a65c_grow_92f84 {d : Nat} {M : QM} {x : QP} {a : Nat} {v0 : Int} : q_T (d + 1) iJx4a65c_grow_92f84 [qr a, qi v0] M x = Rr (q_C d) mJx4a65c_grow_92f84 (0, [some (qr a), some (qi v0), none, none], [], M) x := g_entryT (e := _) rfl (Nat.le_of_ble_eq_true rfl) rfl rfl
def mJx4a65c_grow_d5877 : QI := (15, cJx4a65c_grow_d5877, false, some (.array (.object "java/lang/Object")))
set_option maxRecDepth 20000 in
theorem kJx4a65c_grow_d5877_0 {C : QC} {x : QP} {M : QM} {st : List CV} {L : QL} {r : Option Nat} : Rr C mJx4a65c_grow_d5877 (0, [some (.inr (.inr r))], st, M) x = Rr C mJx4a65c_grow_d5877 (1, [some (.inr (.inr r))], .inr (.inr r) :: st, M) x := g_pl (show decode cJx4a65c_grow_d5877 0 = .ok (.aload_n 0, 1) by decide +kernel) rfl
set_option maxRecDepth 20000 in
theorem kJx4a65c_grow_d5877_1 {C : QC} {x : QP} {M : QM} {st : List CV} {L : QL} {r : Option Nat} : Rr C mJx4a65c_grow_d5877 (1, [some (.inr (.inr r))], st, M) x = Rr C mJx4a65c_grow_d5877 (2, [some (.inr (.inr r))], .inr (.inr r) :: st, M) x := g_pl (show decode cJx4a65c_grow_d5877 1 = .ok (.aload_n 0, 1) by decide +kernel) rfl
set_option maxRecDepth 20000 in
theorem kJx4a65c_grow_d5877_2 {C : QC} {x : QP} {M : QM} {st : List CV} {L : QL} {a : Nat} (hk : q_kd M a = (1, 15)) : Rr C mJx4a65c_grow_d5877 (2, L, qr a :: st, M) x = Rr C mJx4a65c_grow_d5877 (5, L, q_fv M a 2 :: st, M) x := g_getf (ow := 15) (e := (15, 2, RJx4a65c, 150, 0)) (show decode cJx4a65c_grow_d5877 2 = .ok (.getfield 48, 3) by decide +kernel) rfl hk
set_option maxRecDepth 20000 in
theorem kJx4a65c_grow_d5877_5 {C : QC} {x : QP} {M : QM} {st : List CV} {L : QL} : Rr C mJx4a65c_grow_d5877 (5, L, st, M) x = Rr C mJx4a65c_grow_d5877 (6, L, qi 1 :: st, M) x := g_pl (show decode cJx4a65c_grow_d5877 5 = .ok (.iconst 1, 1) by decide +kernel) rfl
set_option maxRecDepth 20000 in
theorem kJx4a65c_grow_d5877_6 {C : QC} {x : QP} {M : QM} {st : List CV} {L : QL} {a b : Int} : Rr C mJx4a65c_grow_d5877 (6, L, qi b :: qi a :: st, M) x = Rr C mJx4a65c_grow_d5877 (7, L, qi (a + b) :: st, M) x := g_pl (show decode cJx4a65c_grow_d5877 6 = .ok (.iadd, 1) by decide +kernel) rfl
set_option maxRecDepth 20000 in
theorem kJx4a65c_grow_d5877_7 {C : QC} {x : QP} {M : QM} {L : QL} {rest : List CV} {a0 : CV} {v : CV} {M1 : QM} {b : Nat} (hb : q_kd M b = (1, 15)) (hC : C iJx4a65c_grow_92f84 [qr b, a0] M (some v) M1) (hw : (rest.map q_wd).sum ≤ 8) (k : Rr C mJx4a65c_grow_d5877 (10, L, v :: rest, M1) x) : Rr C mJx4a65c_grow_d5877 (7, L, a0 :: qr b :: rest, M) x := g_cv (ow := 15) (e := (0, 48, 15, [581, 583, 5, 82])) (as := [a0]) (show decode cJx4a65c_grow_d5877 7 = .ok (.invokevirtual 69, 3) by decide +kernel) rfl rfl rfl (Or.inl rfl) rfl hb hC hw k
set_option maxRecDepth 20000 in
theorem kJx4a65c_grow_d5877_10 {C : QC} {x : QP} {M : QM} {st : List CV} {L : QL} {r : Option Nat} : Rr C mJx4a65c_grow_d5877 (10, L, [.inr (.inr r)], M) x = x (some (.inr (.inr r))) M := g_areta (show decode cJx4a65c_grow_d5877 10 = .ok (.areturn, 1) by decide +kernel)
set_option maxRecDepth 20000 in
theorem eJx4a65c_grow_d5877 {d : Nat} {M : QM} {x : QP} {a : Nat} : q_T (d + 1) iJx4a65c_grow_d5877 [qr a] M x = Rr (q_C d) mJx4a65c_grow_d5877 (0, [some (qr a)], [], M) x := g_entryT (e := _) rfl (Nat.le_of_ble_eq_true rfl) rfl rfl
def mJx4a65c_size_8abf5 : QI := (15, cJx4a65c_size_8abf5, false, some .int)
set_option maxRecDepth 20000 in
theorem kJx4a65c_size_8abf5_0 {C : QC} {x : QP} {M : QM} {st : List CV} {L : QL} {r : Option Nat} : Rr C mJx4a65c_size_8abf5 (0, [some (.inr (.inr r))], st, M) x = Rr C mJx4a65c_size_8abf5 (1, [some (.inr (.inr r))], .inr (.inr r) :: st, M) x := g_pl (show decode cJx4a65c_size_8abf5 0 = .ok (.aload_n 0, 1) by decide +kernel) rfl
set_option maxRecDepth 20000 in
theorem kJx4a65c_size_8abf5_1 {C : QC} {x : QP} {M : QM} {st : List CV} {L : QL} {a : Nat} (hk : q_kd M a = (1, 15)) : Rr C mJx4a65c_size_8abf5 (1, L, qr a :: st, M) x = Rr C mJx4a65c_size_8abf5 (4, L, q_fv M a 2 :: st, M) x := g_getf (ow := 15) (e := (15, 2, RJx4a65c, 150, 0)) (show decode cJx4a65c_size_8abf5 1 = .ok (.getfield 48, 3) by decide +kernel) rfl hk
set_option maxRecDepth 20000 in
theorem kJx4a65c_size_8abf5_4 {C : QC} {x : QP} {M : QM} {st : List CV} {L : QL} {z : Int} : Rr C mJx4a65c_size_8abf5 (4, L, [qi z], M) x = x (some (qi z)) M := g_iret (show decode cJx4a65c_size_8abf5 4 = .ok (.ireturn, 1) by decide +kernel) rfl
set_option maxRecDepth 20000 in
theorem eJx4a65c_size_8abf5 {d : Nat} {M : QM} {x : QP} {a : Nat} : q_T (d + 1) iJx4a65c_size_8abf5 [qr a] M x = Rr (q_C d) mJx4a65c_size_8abf5 (0, [some (qr a)], [], M) x := g_entryT (e := _) rfl (Nat.le_of_ble_eq_true rfl) rfl rfl
def mJx4a65c_elementData_915e3 : QI := (15, cJx4a65c_elementData_915e3, false, some (.object "java/lang/Object"))
set_option maxRecDepth 20000 in
theorem kJx4a65c_elementData_915e3_0 {C : QC} {x : QP} {M : QM} {st : List CV} {L : QL} {l0 l1 : Option CV} {r : Option Nat} : Rr C mJx4a65c_elementData_915e3 (0, [some (.inr (.inr r)), l1], st, M) x = Rr C mJx4a65c_elementData_915e3 (1, [some (.inr (.inr r)), l1], .inr (.inr r) :: st, M) x := g_pl (show decode cJx4a65c_elementData_915e3 0 = .ok (.aload_n 0, 1) by decide +kernel) rfl
set_option maxRecDepth 20000 in
theorem kJx4a65c_elementData_915e3_1 {C : QC} {x : QP} {M : QM} {st : List CV} {L : QL} {a : Nat} (hk : q_kd M a = (1, 15)) : Rr C mJx4a65c_elementData_915e3 (1, L, qr a :: st, M) x = Rr C mJx4a65c_elementData_915e3 (4, L, q_fv M a 1 :: st, M) x := g_getf (ow := 15) (e := (15, 1, RJx4a65c, 149, 0)) (show decode cJx4a65c_elementData_915e3 1 = .ok (.getfield 9, 3) by decide +kernel) rfl hk
set_option maxRecDepth 20000 in
theorem kJx4a65c_elementData_915e3_4 {C : QC} {x : QP} {M : QM} {st : List CV} {L : QL} {l0 l1 : Option CV} {z : Int} : Rr C mJx4a65c_elementData_915e3 (4, [l0, some (qi z)], st, M) x = Rr C mJx4a65c_elementData_915e3 (5, [l0, some (qi z)], qi z :: st, M) x := g_pl (show decode cJx4a65c_elementData_915e3 4 = .ok (.iload_n 1, 1) by decide +kernel) rfl
set_option maxRecDepth 20000 in
theorem kJx4a65c_elementData_915e3_5 {C : QC} {x : QP} {M : QM} {st : List CV} {L : QL} {a : Nat} {j : Int} (hk : (q_kd M a).1 = 5 ∨ (q_kd M a).1 = 6) (h0 : 0 ≤ j) (h1 : j < ((q_kd M a).2 : Int)) : Rr C mJx4a65c_elementData_915e3 (5, L, qi j :: qr a :: st, M) x = Rr C mJx4a65c_elementData_915e3 (6, L, q_fv M a j.toNat :: st, M) x := g_aald (show decode cJx4a65c_elementData_915e3 5 = .ok (.aaload, 1) by decide +kernel) hk h0 h1
set_option maxRecDepth 20000 in
theorem kJx4a65c_elementData_915e3_6 {C : QC} {x : QP} {M : QM} {st : List CV} {L : QL} {r : Option Nat} : Rr C mJx4a65c_elementData_915e3 (6, L, [.inr (.inr r)], M) x = x (some (.inr (.inr r))) M := g_areto (show decode cJx4a65c_elementData_915e3 6 = .ok (.areturn, 1) by decide +kernel)
set_option maxRecDepth 20000 in
theorem eJx4a65c_elementData_915e3 {d : Nat} {M : QM} {x : QP} {a : Nat} {v0 : Int} : q_T (d + 1) iJx4a65c_elementData_915e3 [qr a, qi v0] M x = Rr (q_C d) mJx4a65c_elementData_915e3 (0, [some (qr a), some (qi v0)], [], M) x := g_entryT (e := _) rfl (Nat.le_of_ble_eq_true rfl) rfl rfl
def mJx4a65c_get_915e3 : QI := (15, cJx4a65c_get_915e3, false, some (.object "java/lang/Object"))
set_option maxRecDepth 20000 in
theorem kJx4a65c_get_915e3_0 {C : QC} {x : QP} {M : QM} {st : List CV} {L : QL} {l0 l1 : Option CV} {z : Int} : Rr C mJx4a65c_get_915e3 (0, [l0, some (qi z)], st, M) x = Rr C mJx4a65c_get_915e3 (1, [l0, some (qi z)], qi z :: st, M) x := g_pl (show decode cJx4a65c_get_915e3 0 = .ok (.iload_n 1, 1) by decide +kernel) rfl
set_option maxRecDepth 20000 in
theorem kJx4a65c_get_915e3_1 {C : QC} {x : QP} {M : QM} {st : List CV} {L : QL} {l0 l1 : Option CV} {r : Option Nat} : Rr C mJx4a65c_get_915e3 (1, [some (.inr (.inr r)), l1], st, M) x = Rr C mJx4a65c_get_915e3 (2, [some (.inr (.inr r)), l1], .inr (.inr r) :: st, M) x := g_pl (show decode cJx4a65c_get_915e3 1 = .ok (.aload_n 0, 1) by decide +kernel) rfl
set_option maxRecDepth 20000 in
theorem kJx4a65c_get_915e3_2 {C : QC} {x : QP} {M : QM} {st : List CV} {L : QL} {a : Nat} (hk : q_kd M a = (1, 15)) : Rr C mJx4a65c_get_915e3 (2, L, qr a :: st, M) x = Rr C mJx4a65c_get_915e3 (5, L, q_fv M a 2 :: st, M) x := g_getf (ow := 15) (e := (15, 2, RJx4a65c, 150, 0)) (show decode cJx4a65c_get_915e3 2 = .ok (.getfield 48, 3) by decide +kernel) rfl hk
set_option maxRecDepth 20000 in
theorem kJx4a65c_get_915e3_5 {C : QC} {x : QP} {M : QM} {L : QL} {rest : List CV} {a0 a1 : CV} {v : CV} {M1 : QM} (hC : C iJ15_checkIndex_7cf53 [a0, a1] M (some v) M1) (hw : (rest.map q_wd).sum ≤ 8) (k : Rr C mJx4a65c_get_915e3 (8, L, v :: rest, M1) x) : Rr C mJx4a65c_get_915e3 (5, L, a1 :: a0 :: rest, M) x := g_cs (ow := 15) (e := (1, 98, 0, [823, 824, 102])) (as := [a0, a1]) (show decode cJx4a65c_get_915e3 5 = .ok (.invokestatic 118, 3) by decide +kernel) rfl rfl rfl rfl (Or.inl rfl) rfl hC hw k
set_option maxRecDepth 20000 in
theorem kJx4a65c_get_915e3_8i {C : QC} {x : QP} {M : QM} {st : List CV} {L : QL} {a : Int} : Rr C mJx4a65c_get_915e3 (8, L, qi a :: st, M) x = Rr C mJx4a65c_get_915e3 (9, L, st, M) x := g_pl (show decode cJx4a65c_get_915e3 8 = .ok (.pop, 1) by decide +kernel) rfl
set_option maxRecDepth 20000 in
theorem kJx4a65c_get_915e3_8r {C : QC} {x : QP} {M : QM} {st : List CV} {L : QL} {a : Option Nat} : Rr C mJx4a65c_get_915e3 (8, L, .inr (.inr a) :: st, M) x = Rr C mJx4a65c_get_915e3 (9, L, st, M) x := g_pl (show decode cJx4a65c_get_915e3 8 = .ok (.pop, 1) by decide +kernel) rfl
set_option maxRecDepth 20000 in
theorem kJx4a65c_get_915e3_9 {C : QC} {x : QP} {M : QM} {st : List CV} {L : QL} {l0 l1 : Option CV} {r : Option Nat} : Rr C mJx4a65c_get_915e3 (9, [some (.inr (.inr r)), l1], st, M) x = Rr C mJx4a65c_get_915e3 (10, [some (.inr (.inr r)), l1], .inr (.inr r) :: st, M) x := g_pl (show decode cJx4a65c_get_915e3 9 = .ok (.aload_n 0, 1) by decide +kernel) rfl
set_option maxRecDepth 20000 in
theorem kJx4a65c_get_915e3_10 {C : QC} {x : QP} {M : QM} {st : List CV} {L : QL} {l0 l1 : Option CV} {z : Int} : Rr C mJx4a65c_get_915e3 (10, [l0, some (qi z)], st, M) x = Rr C mJx4a65c_get_915e3 (11, [l0, some (qi z)], qi z :: st, M) x := g_pl (show decode cJx4a65c_get_915e3 10 = .ok (.iload_n 1, 1) by decide +kernel) rfl
set_option maxRecDepth 20000 in
theorem kJx4a65c_get_915e3_11 {C : QC} {x : QP} {M : QM} {L : QL} {rest : List CV} {a0 : CV} {v : CV} {M1 : QM} {b : Nat} (hb : q_kd M b = (1, 15)) (hC : C iJx4a65c_elementData_915e3 [qr b, a0] M (some v) M1) (hw : (rest.map q_wd).sum ≤ 8) (k : Rr C mJx4a65c_get_915e3 (14, L, v :: rest, M1) x) : Rr C mJx4a65c_get_915e3 (11, L, a0 :: qr b :: rest, M) x := g_cv (ow := 15) (e := (0, 100, 15, [829, 830, 831, 82])) (as := [a0]) (show decode cJx4a65c_get_915e3 11 = .ok (.invokevirtual 123, 3) by decide +kernel) rfl rfl rfl (Or.inl rfl) rfl hb hC hw k
set_option maxRecDepth 20000 in
theorem kJx4a65c_get_915e3_14 {C : QC} {x : QP} {M : QM} {st : List CV} {L : QL} {r : Option Nat} : Rr C mJx4a65c_get_915e3 (14, L, [.inr (.inr r)], M) x = x (some (.inr (.inr r))) M := g_areto (show decode cJx4a65c_get_915e3 14 = .ok (.areturn, 1) by decide +kernel)
set_option maxRecDepth 20000 in
theorem eJx4a65c_get_915e3 {d : Nat} {M : QM} {x : QP} {a : Nat} {v0 : Int} : q_T (d + 1) iJx4a65c_get_915e3 [qr a, qi v0] M x = Rr (q_C d) mJx4a65c_get_915e3 (0, [some (qr a), some (qi v0)], [], M) x := g_entryT (e := _) rfl (Nat.le_of_ble_eq_true rfl) rfl rfl
def mJx4a65c_add_72be8 : QI := (15, cJx4a65c_add_72be8, false, none)
set_option maxRecDepth 20000 in
theorem kJx4a65c_add_72be8_0 {C : QC} {x : QP} {M : QM} {st : List CV} {L : QL} {l0 l1 l2 l3 : Option CV} {z : Int} : Rr C mJx4a65c_add_72be8 (0, [l0, l1, l2, some (qi z)], st, M) x = Rr C mJx4a65c_add_72be8 (1, [l0, l1, l2, some (qi z)], qi z :: st, M) x := g_pl (show decode cJx4a65c_add_72be8 0 = .ok (.iload_n 3, 1) by decide +kernel) rfl
set_option maxRecDepth 20000 in
theorem kJx4a65c_add_72be8_1 {C : QC} {x : QP} {M : QM} {st : List CV} {L : QL} {l0 l1 l2 l3 : Option CV} {r : Option Nat} : Rr C mJx4a65c_add_72be8 (1, [l0, l1, some (.inr (.inr r)), l3], st, M) x = Rr C mJx4a65c_add_72be8 (2, [l0, l1, some (.inr (.inr r)), l3], .inr (.inr r) :: st, M) x := g_pl (show decode cJx4a65c_add_72be8 1 = .ok (.aload_n 2, 1) by decide +kernel) rfl
set_option maxRecDepth 20000 in
theorem kJx4a65c_add_72be8_2 {C : QC} {x : QP} {M : QM} {st : List CV} {L : QL} {a : Nat} (h1 : 2 ≤ (q_kd M a).1) (h2 : (q_kd M a).1 ≤ 9) : Rr C mJx4a65c_add_72be8 (2, L, qr a :: st, M) x = Rr C mJx4a65c_add_72be8 (3, L, qi (q_kd M a).2 :: st, M) x := g_alen (show decode cJx4a65c_add_72be8 2 = .ok (.arraylength, 1) by decide +kernel) h1 h2
set_option maxRecDepth 20000 in
theorem kJx4a65c_add_72be8_3 {C : QC} {x : QP} {M : QM} {st : List CV} {L : QL} {a b : Int} (ha1 : -2147483648 ≤ a) (ha2 : a < 2147483648) (hb1 : -2147483648 ≤ b) (hb2 : b < 2147483648) : Rr C mJx4a65c_add_72be8 (3, L, qi b :: qi a :: st, M) x = (if a = b then Rr C mJx4a65c_add_72be8 (6, L, st, M) x else Rr C mJx4a65c_add_72be8 (11, L, st, M) x) := (g_icmp (show decode cJx4a65c_add_72be8 3 = .ok (.if_icmp .ne 8, 3) by decide +kernel) rfl ha1 ha2 hb1 hb2).trans (g_itn c_ne)
set_option maxRecDepth 20000 in
theorem kJx4a65c_add_72be8_6 {C : QC} {x : QP} {M : QM} {st : List CV} {L : QL} {l0 l1 l2 l3 : Option CV} {r : Option Nat} : Rr C mJx4a65c_add_72be8 (6, [some (.inr (.inr r)), l1, l2, l3], st, M) x = Rr C mJx4a65c_add_72be8 (7, [some (.inr (.inr r)), l1, l2, l3], .inr (.inr r) :: st, M) x := g_pl (show decode cJx4a65c_add_72be8 6 = .ok (.aload_n 0, 1) by decide +kernel) rfl
set_option maxRecDepth 20000 in
theorem kJx4a65c_add_72be8_7 {C : QC} {x : QP} {M : QM} {L : QL} {rest : List CV} {v : CV} {M1 : QM} {b : Nat} (hb : q_kd M b = (1, 15)) (hC : C iJx4a65c_grow_d5877 [qr b] M (some v) M1) (hw : (rest.map q_wd).sum ≤ 8) (k : Rr C mJx4a65c_add_72be8 (10, L, v :: rest, M1) x) : Rr C mJx4a65c_add_72be8 (7, L, qr b :: rest, M) x := g_cv (ow := 15) (e := (0, 47, 15, [577, 579, 4, 82])) (as := []) (show decode cJx4a65c_add_72be8 7 = .ok (.invokevirtual 129, 3) by decide +kernel) rfl rfl rfl (Or.inl rfl) rfl hb hC hw k
set_option maxRecDepth 20000 in
theorem kJx4a65c_add_72be8_10 {C : QC} {x : QP} {M : QM} {st : List CV} {L : QL} {l0 l1 l2 l3 : Option CV} {z : Option Nat} : Rr C mJx4a65c_add_72be8 (10, [l0, l1, l2, l3], .inr (.inr z) :: st, M) x = Rr C mJx4a65c_add_72be8 (11, [l0, q_cut l1, some (.inr (.inr z)), l3], st, M) x := g_pl (show decode cJx4a65c_add_72be8 10 = .ok (.astore_n 2, 1) by decide +kernel) rfl
set_option maxRecDepth 20000 in
theorem kJx4a65c_add_72be8_11 {C : QC} {x : QP} {M : QM} {st : List CV} {L : QL} {l0 l1 l2 l3 : Option CV} {r : Option Nat} : Rr C mJx4a65c_add_72be8 (11, [l0, l1, some (.inr (.inr r)), l3], st, M) x = Rr C mJx4a65c_add_72be8 (12, [l0, l1, some (.inr (.inr r)), l3], .inr (.inr r) :: st, M) x := g_pl (show decode cJx4a65c_add_72be8 11 = .ok (.aload_n 2, 1) by decide +kernel) rfl
set_option maxRecDepth 20000 in
theorem kJx4a65c_add_72be8_12 {C : QC} {x : QP} {M : QM} {st : List CV} {L : QL} {l0 l1 l2 l3 : Option CV} {z : Int} : Rr C mJx4a65c_add_72be8 (12, [l0, l1, l2, some (qi z)], st, M) x = Rr C mJx4a65c_add_72be8 (13, [l0, l1, l2, some (qi z)], qi z :: st, M) x := g_pl (show decode cJx4a65c_add_72be8 12 = .ok (.iload_n 3, 1) by decide +kernel) rfl
set_option maxRecDepth 20000 in
theorem kJx4a65c_add_72be8_13 {C : QC} {x : QP} {M : QM} {st : List CV} {L : QL} {l0 l1 l2 l3 : Option CV} {r : Option Nat} : Rr C mJx4a65c_add_72be8 (13, [l0, some (.inr (.inr r)), l2, l3], st, M) x = Rr C mJx4a65c_add_72be8 (14, [l0, some (.inr (.inr r)), l2, l3], .inr (.inr r) :: st, M) x := g_pl (show decode cJx4a65c_add_72be8 13 = .ok (.aload_n 1, 1) by decide +kernel) rfl
set_option maxRecDepth 20000 in
theorem kJx4a65c_add_72be8_145 {C : QC} {x : QP} {M : QM} {st : List CV} {L : QL} {a b : Nat} {j : Int} (hb : q_kd M b = (1, 3)) (hk : (q_kd M a).1 = 5) (h0 : 0 ≤ j) (h1 : j < ((q_kd M a).2 : Int)) : Rr C mJx4a65c_add_72be8 (14, L, qr b :: qi j :: qr a :: st, M) x = Rr C mJx4a65c_add_72be8 (15, L, st, q_wr M a j.toNat (qr b)) x := g_aast5 (show decode cJx4a65c_add_72be8 14 = .ok (.aastore, 1) by decide +kernel) hb hk h0 h1
set_option maxRecDepth 20000 in
theorem kJx4a65c_add_72be8_146 {C : QC} {x : QP} {M : QM} {st : List CV} {L : QL} {a b : Nat} {j : Int} (hb : q_kd M b = (1, 4)) (hk : (q_kd M a).1 = 6) (h0 : 0 ≤ j) (h1 : j < ((q_kd M a).2 : Int)) : Rr C mJx4a65c_add_72be8 (14, L, qr b :: qi j :: qr a :: st, M) x = Rr C mJx4a65c_add_72be8 (15, L, st, q_wr M a j.toNat (qr b)) x := g_aast6 (show decode cJx4a65c_add_72be8 14 = .ok (.aastore, 1) by decide +kernel) hb hk h0 h1
set_option maxRecDepth 20000 in
theorem kJx4a65c_add_72be8_14n {C : QC} {x : QP} {M : QM} {st : List CV} {L : QL} {a : Nat} {j : Int} (hk : (q_kd M a).1 = 5) (h0 : 0 ≤ j) (h1 : j < ((q_kd M a).2 : Int)) : Rr C mJx4a65c_add_72be8 (14, L, qn :: qi j :: qr a :: st, M) x = Rr C mJx4a65c_add_72be8 (15, L, st, q_wr M a j.toNat qn) x := g_aastN (show decode cJx4a65c_add_72be8 14 = .ok (.aastore, 1) by decide +kernel) hk h0 h1
set_option maxRecDepth 20000 in
theorem kJx4a65c_add_72be8_15 {C : QC} {x : QP} {M : QM} {st : List CV} {L : QL} {l0 l1 l2 l3 : Option CV} {r : Option Nat} : Rr C mJx4a65c_add_72be8 (15, [some (.inr (.inr r)), l1, l2, l3], st, M) x = Rr C mJx4a65c_add_72be8 (16, [some (.inr (.inr r)), l1, l2, l3], .inr (.inr r) :: st, M) x := g_pl (show decode cJx4a65c_add_72be8 15 = .ok (.aload_n 0, 1) by decide +kernel) rfl
set_option maxRecDepth 20000 in
theorem kJx4a65c_add_72be8_16 {C : QC} {x : QP} {M : QM} {st : List CV} {L : QL} {l0 l1 l2 l3 : Option CV} {z : Int} : Rr C mJx4a65c_add_72be8 (16, [l0, l1, l2, some (qi z)], st, M) x = Rr C mJx4a65c_add_72be8 (17, [l0, l1, l2, some (qi z)], qi z :: st, M) x := g_pl (show decode cJx4a65c_add_72be8 16 = .ok (.iload_n 3, 1) by decide +kernel) rfl
set_option maxRecDepth 20000 in
theorem kJx4a65c_add_72be8_17 {C : QC} {x : QP} {M : QM} {st : List CV} {L : QL} : Rr C mJx4a65c_add_72be8 (17, L, st, M) x = Rr C mJx4a65c_add_72be8 (18, L, qi 1 :: st, M) x := g_pl (show decode cJx4a65c_add_72be8 17 = .ok (.iconst 1, 1) by decide +kernel) rfl
set_option maxRecDepth 20000 in
theorem kJx4a65c_add_72be8_18 {C : QC} {x : QP} {M : QM} {st : List CV} {L : QL} {a b : Int} : Rr C mJx4a65c_add_72be8 (18, L, qi b :: qi a :: st, M) x = Rr C mJx4a65c_add_72be8 (19, L, qi (a + b) :: st, M) x := g_pl (show decode cJx4a65c_add_72be8 18 = .ok (.iadd, 1) by decide +kernel) rfl
set_option maxRecDepth 20000 in
theorem kJx4a65c_add_72be8_19 {C : QC} {x : QP} {M : QM} {st : List CV} {L : QL} {z : Int} {a : Nat} (hk : q_kd M a = (1, 15)) : Rr C mJx4a65c_add_72be8 (19, L, qi z :: qr a :: st, M) x = Rr C mJx4a65c_add_72be8 (22, L, st, q_wr M a 2 (qi z)) x := g_putf (ow := 15) (ini := false) (e := (15, 2, RJx4a65c, 150, 0)) (r := (RJx4a65c, TJx4a65c, 3)) (t := tyJx4a65c) (show decode cJx4a65c_add_72be8 19 = .ok (.putfield 48, 3) by decide +kernel) rfl rfl rfl rfl (by decide +kernel) hk
set_option maxRecDepth 20000 in
theorem kJx4a65c_add_72be8_22 {C : QC} {x : QP} {M : QM} {st : List CV} {L : QL} : Rr C mJx4a65c_add_72be8 (22, L, [], M) x = x none M := g_vret (show decode cJx4a65c_add_72be8 22 = .ok (.return_, 1) by decide +kernel)
set_option maxRecDepth 20000 in
theorem eJx4a65c_add_72be8 {d : Nat} {M : QM} {x : QP} {a : Nat} {v0 : Option Nat} {v1 : Option Nat} {v2 : Int} : q_T (d + 1) iJx4a65c_add_72be8 [qr a, .inr (.inr v0), .inr (.inr v1), qi v2] M x = Rr (q_C d) mJx4a65c_add_72be8 (0, [some (qr a), some (.inr (.inr v0)), some (.inr (.inr v1)), some (qi v2)], [], M) x := g_entryT (e := _) rfl (Nat.le_of_ble_eq_true rfl) rfl rfl
def mJx4a65c_add_9ea2d : QI := (15, cJx4a65c_add_9ea2d, false, some .boolean)
set_option maxRecDepth 20000 in
theorem kJx4a65c_add_9ea2d_0 {C : QC} {x : QP} {M : QM} {st : List CV} {L : QL} {l0 l1 : Option CV} {r : Option Nat} : Rr C mJx4a65c_add_9ea2d (0, [some (.inr (.inr r)), l1], st, M) x = Rr C mJx4a65c_add_9ea2d (1, [some (.inr (.inr r)), l1], .inr (.inr r) :: st, M) x := g_pl (show decode cJx4a65c_add_9ea2d 0 = .ok (.aload_n 0, 1) by decide +kernel) rfl
set_option maxRecDepth 20000 in
theorem kJx4a65c_add_9ea2d_1i {C : QC} {x : QP} {M : QM} {st : List CV} {L : QL} {a : Int} : Rr C mJx4a65c_add_9ea2d (1, L, qi a :: st, M) x = Rr C mJx4a65c_add_9ea2d (2, L, qi a :: qi a :: st, M) x := g_pl (show decode cJx4a65c_add_9ea2d 1 = .ok (.dup, 1) by decide +kernel) rfl
set_option maxRecDepth 20000 in
theorem kJx4a65c_add_9ea2d_1r {C : QC} {x : QP} {M : QM} {st : List CV} {L : QL} {a : Option Nat} : Rr C mJx4a65c_add_9ea2d (1, L, .inr (.inr a) :: st, M) x = Rr C mJx4a65c_add_9ea2d (2, L, .inr (.inr a) :: .inr (.inr a) :: st, M) x := g_pl (show decode cJx4a65c_add_9ea2d 1 = .ok (.dup, 1) by decide +kernel) rfl
set_option maxRecDepth 20000 in
theorem kJx4a65c_add_9ea2d_2 {C : QC} {x : QP} {M : QM} {st : List CV} {L : QL} {a : Nat} (hk : q_kd M a = (1, 15)) : Rr C mJx4a65c_add_9ea2d (2, L, qr a :: st, M) x = Rr C mJx4a65c_add_9ea2d (5, L, q_fv M a 0 :: st, M) x := g_getf (ow := 15) (e := (15, 0, RJx4a65c, 152, 153)) (show decode cJx4a65c_add_9ea2d 2 = .ok (.getfield 63, 3) by decide +kernel) rfl hk
set_option maxRecDepth 20000 in
theorem kJx4a65c_add_9ea2d_5 {C : QC} {x : QP} {M : QM} {st : List CV} {L : QL} : Rr C mJx4a65c_add_9ea2d (5, L, st, M) x = Rr C mJx4a65c_add_9ea2d (6, L, qi 1 :: st, M) x := g_pl (show decode cJx4a65c_add_9ea2d 5 = .ok (.iconst 1, 1) by decide +kernel) rfl
set_option maxRecDepth 20000 in
theorem kJx4a65c_add_9ea2d_6 {C : QC} {x : QP} {M : QM} {st : List CV} {L : QL} {a b : Int} : Rr C mJx4a65c_add_9ea2d (6, L, qi b :: qi a :: st, M) x = Rr C mJx4a65c_add_9ea2d (7, L, qi (a + b) :: st, M) x := g_pl (show decode cJx4a65c_add_9ea2d 6 = .ok (.iadd, 1) by decide +kernel) rfl
set_option maxRecDepth 20000 in
theorem kJx4a65c_add_9ea2d_7 {C : QC} {x : QP} {M : QM} {st : List CV} {L : QL} {z : Int} {a : Nat} (hk : q_kd M a = (1, 15)) : Rr C mJx4a65c_add_9ea2d (7, L, qi z :: qr a :: st, M) x = Rr C mJx4a65c_add_9ea2d (10, L, st, q_wr M a 0 (qi z)) x := g_putf (ow := 15) (ini := false) (e := (15, 0, RJx4a65c, 152, 153)) (r := (RJx4a65c, TJx4a65c, 3)) (t := tyJx4a65c) (show decode cJx4a65c_add_9ea2d 7 = .ok (.putfield 63, 3) by decide +kernel) rfl rfl rfl rfl (by decide +kernel) hk
set_option maxRecDepth 20000 in
theorem kJx4a65c_add_9ea2d_10 {C : QC} {x : QP} {M : QM} {st : List CV} {L : QL} {l0 l1 : Option CV} {r : Option Nat} : Rr C mJx4a65c_add_9ea2d (10, [some (.inr (.inr r)), l1], st, M) x = Rr C mJx4a65c_add_9ea2d (11, [some (.inr (.inr r)), l1], .inr (.inr r) :: st, M) x := g_pl (show decode cJx4a65c_add_9ea2d 10 = .ok (.aload_n 0, 1) by decide +kernel) rfl
set_option maxRecDepth 20000 in
theorem kJx4a65c_add_9ea2d_11 {C : QC} {x : QP} {M : QM} {st : List CV} {L : QL} {l0 l1 : Option CV} {r : Option Nat} : Rr C mJx4a65c_add_9ea2d (11, [l0, some (.inr (.inr r))], st, M) x = Rr C mJx4a65c_add_9ea2d (12, [l0, some (.inr (.inr r))], .inr (.inr r) :: st, M) x := g_pl (show decode cJx4a65c_add_9ea2d 11 = .ok (.aload_n 1, 1) by decide +kernel) rfl
set_option maxRecDepth 20000 in
theorem kJx4a65c_add_9ea2d_12 {C : QC} {x : QP} {M : QM} {st : List CV} {L : QL} {l0 l1 : Option CV} {r : Option Nat} : Rr C mJx4a65c_add_9ea2d (12, [some (.inr (.inr r)), l1], st, M) x = Rr C mJx4a65c_add_9ea2d (13, [some (.inr (.inr r)), l1], .inr (.inr r) :: st, M) x := g_pl (show decode cJx4a65c_add_9ea2d 12 = .ok (.aload_n 0, 1) by decide +kernel) rfl
set_option maxRecDepth 20000 in
theorem kJx4a65c_add_9ea2d_13 {C : QC} {x : QP} {M : QM} {st : List CV} {L : QL} {a : Nat} (hk : q_kd M a = (1, 15)) : Rr C mJx4a65c_add_9ea2d (13, L, qr a :: st, M) x = Rr C mJx4a65c_add_9ea2d (16, L, q_fv M a 1 :: st, M) x := g_getf (ow := 15) (e := (15, 1, RJx4a65c, 149, 0)) (show decode cJx4a65c_add_9ea2d 13 = .ok (.getfield 9, 3) by decide +kernel) rfl hk
set_option maxRecDepth 20000 in
theorem kJx4a65c_add_9ea2d_16 {C : QC} {x : QP} {M : QM} {st : List CV} {L : QL} {l0 l1 : Option CV} {r : Option Nat} : Rr C mJx4a65c_add_9ea2d (16, [some (.inr (.inr r)), l1], st, M) x = Rr C mJx4a65c_add_9ea2d (17, [some (.inr (.inr r)), l1], .inr (.inr r) :: st, M) x := g_pl (show decode cJx4a65c_add_9ea2d 16 = .ok (.aload_n 0, 1) by decide +kernel) rfl
set_option maxRecDepth 20000 in
theorem kJx4a65c_add_9ea2d_17 {C : QC} {x : QP} {M : QM} {st : List CV} {L : QL} {a : Nat} (hk : q_kd M a = (1, 15)) : Rr C mJx4a65c_add_9ea2d (17, L, qr a :: st, M) x = Rr C mJx4a65c_add_9ea2d (20, L, q_fv M a 2 :: st, M) x := g_getf (ow := 15) (e := (15, 2, RJx4a65c, 150, 0)) (show decode cJx4a65c_add_9ea2d 17 = .ok (.getfield 48, 3) by decide +kernel) rfl hk
set_option maxRecDepth 20000 in
theorem kJx4a65c_add_9ea2d_20 {C : QC} {x : QP} {M : QM} {L : QL} {rest : List CV} {a0 a1 a2 : CV} {M1 : QM} {b : Nat} (hb : q_kd M b = (1, 15)) (hC : C iJx4a65c_add_72be8 [qr b, a0, a1, a2] M none M1) (hw : (rest.map q_wd).sum ≤ 8) (k : Rr C mJx4a65c_add_9ea2d (23, L, rest, M1) x) : Rr C mJx4a65c_add_9ea2d (20, L, a2 :: a1 :: a0 :: qr b :: rest, M) x := g_cv (ow := 15) (e := (0, 46, 15, [573, 575, 3, 82])) (as := [a0, a1, a2]) (show decode cJx4a65c_add_9ea2d 20 = .ok (.invokevirtual 131, 3) by decide +kernel) rfl rfl rfl (Or.inl rfl) rfl hb hC hw k
set_option maxRecDepth 20000 in
theorem kJx4a65c_add_9ea2d_23 {C : QC} {x : QP} {M : QM} {st : List CV} {L : QL} : Rr C mJx4a65c_add_9ea2d (23, L, st, M) x = Rr C mJx4a65c_add_9ea2d (24, L, qi 1 :: st, M) x := g_pl (show decode cJx4a65c_add_9ea2d 23 = .ok (.iconst 1, 1) by decide +kernel) rfl
set_option maxRecDepth 20000 in
theorem kJx4a65c_add_9ea2d_24 {C : QC} {x : QP} {M : QM} {st : List CV} {L : QL} {z : Int} (hz : z = 0 ∨ z = 1) : Rr C mJx4a65c_add_9ea2d (24, L, [qi z], M) x = x (some (qi z)) M := g_iret (show decode cJx4a65c_add_9ea2d 24 = .ok (.ireturn, 1) by decide +kernel) (by rcases hz with rfl | rfl <;> rfl)
set_option maxRecDepth 20000 in
theorem eJx4a65c_add_9ea2d {d : Nat} {M : QM} {x : QP} {a : Nat} {v0 : Option Nat} : q_T (d + 1) iJx4a65c_add_9ea2d [qr a, .inr (.inr v0)] M x = Rr (q_C d) mJx4a65c_add_9ea2d (0, [some (qr a), some (.inr (.inr v0))], [], M) x := g_entryT (e := _) rfl (Nat.le_of_ble_eq_true rfl) rfl rfl
def mJx4a65c_remove_915e3 : QI := (15, cJx4a65c_remove_915e3, false, some (.object "java/lang/Object"))
set_option maxRecDepth 20000 in
theorem kJx4a65c_remove_915e3_0 {C : QC} {x : QP} {M : QM} {st : List CV} {L : QL} {l0 l1 l2 l3 : Option CV} {z : Int} : Rr C mJx4a65c_remove_915e3 (0, [l0, some (qi z), l2, l3], st, M) x = Rr C mJx4a65c_remove_915e3 (1, [l0, some (qi z), l2, l3], qi z :: st, M) x := g_pl (show decode cJx4a65c_remove_915e3 0 = .ok (.iload_n 1, 1) by decide +kernel) rfl
set_option maxRecDepth 20000 in
theorem kJx4a65c_remove_915e3_1 {C : QC} {x : QP} {M : QM} {st : List CV} {L : QL} {l0 l1 l2 l3 : Option CV} {r : Option Nat} : Rr C mJx4a65c_remove_915e3 (1, [some (.inr (.inr r)), l1, l2, l3], st, M) x = Rr C mJx4a65c_remove_915e3 (2, [some (.inr (.inr r)), l1, l2, l3], .inr (.inr r) :: st, M) x := g_pl (show decode cJx4a65c_remove_915e3 1 = .ok (.aload_n 0, 1) by decide +kernel) rfl
set_option maxRecDepth 20000 in
theorem kJx4a65c_remove_915e3_2 {C : QC} {x : QP} {M : QM} {st : List CV} {L : QL} {a : Nat} (hk : q_kd M a = (1, 15)) : Rr C mJx4a65c_remove_915e3 (2, L, qr a :: st, M) x = Rr C mJx4a65c_remove_915e3 (5, L, q_fv M a 2 :: st, M) x := g_getf (ow := 15) (e := (15, 2, RJx4a65c, 150, 0)) (show decode cJx4a65c_remove_915e3 2 = .ok (.getfield 48, 3) by decide +kernel) rfl hk
set_option maxRecDepth 20000 in
theorem kJx4a65c_remove_915e3_5 {C : QC} {x : QP} {M : QM} {L : QL} {rest : List CV} {a0 a1 : CV} {v : CV} {M1 : QM} (hC : C iJ15_checkIndex_7cf53 [a0, a1] M (some v) M1) (hw : (rest.map q_wd).sum ≤ 8) (k : Rr C mJx4a65c_remove_915e3 (8, L, v :: rest, M1) x) : Rr C mJx4a65c_remove_915e3 (5, L, a1 :: a0 :: rest, M) x := g_cs (ow := 15) (e := (1, 98, 0, [823, 824, 102])) (as := [a0, a1]) (show decode cJx4a65c_remove_915e3 5 = .ok (.invokestatic 118, 3) by decide +kernel) rfl rfl rfl rfl (Or.inl rfl) rfl hC hw k
set_option maxRecDepth 20000 in
theorem kJx4a65c_remove_915e3_8i {C : QC} {x : QP} {M : QM} {st : List CV} {L : QL} {a : Int} : Rr C mJx4a65c_remove_915e3 (8, L, qi a :: st, M) x = Rr C mJx4a65c_remove_915e3 (9, L, st, M) x := g_pl (show decode cJx4a65c_remove_915e3 8 = .ok (.pop, 1) by decide +kernel) rfl
set_option maxRecDepth 20000 in
theorem kJx4a65c_remove_915e3_8r {C : QC} {x : QP} {M : QM} {st : List CV} {L : QL} {a : Option Nat} : Rr C mJx4a65c_remove_915e3 (8, L, .inr (.inr a) :: st, M) x = Rr C mJx4a65c_remove_915e3 (9, L, st, M) x := g_pl (show decode cJx4a65c_remove_915e3 8 = .ok (.pop, 1) by decide +kernel) rfl
set_option maxRecDepth 20000 in
theorem kJx4a65c_remove_915e3_9 {C : QC} {x : QP} {M : QM} {st : List CV} {L : QL} {l0 l1 l2 l3 : Option CV} {r : Option Nat} : Rr C mJx4a65c_remove_915e3 (9, [some (.inr (.inr r)), l1, l2, l3], st, M) x = Rr C mJx4a65c_remove_915e3 (10, [some (.inr (.inr r)), l1, l2, l3], .inr (.inr r) :: st, M) x := g_pl (show decode cJx4a65c_remove_915e3 9 = .ok (.aload_n 0, 1) by decide +kernel) rfl
set_option maxRecDepth 20000 in
theorem kJx4a65c_remove_915e3_10 {C : QC} {x : QP} {M : QM} {st : List CV} {L : QL} {a : Nat} (hk : q_kd M a = (1, 15)) : Rr C mJx4a65c_remove_915e3 (10, L, qr a :: st, M) x = Rr C mJx4a65c_remove_915e3 (13, L, q_fv M a 1 :: st, M) x := g_getf (ow := 15) (e := (15, 1, RJx4a65c, 149, 0)) (show decode cJx4a65c_remove_915e3 10 = .ok (.getfield 9, 3) by decide +kernel) rfl hk
set_option maxRecDepth 20000 in
theorem kJx4a65c_remove_915e3_13 {C : QC} {x : QP} {M : QM} {st : List CV} {L : QL} {l0 l1 l2 l3 : Option CV} {z : Option Nat} : Rr C mJx4a65c_remove_915e3 (13, [l0, l1, l2, l3], .inr (.inr z) :: st, M) x = Rr C mJx4a65c_remove_915e3 (14, [l0, q_cut l1, some (.inr (.inr z)), l3], st, M) x := g_pl (show decode cJx4a65c_remove_915e3 13 = .ok (.astore_n 2, 1) by decide +kernel) rfl
set_option maxRecDepth 20000 in
theorem kJx4a65c_remove_915e3_14 {C : QC} {x : QP} {M : QM} {st : List CV} {L : QL} {l0 l1 l2 l3 : Option CV} {r : Option Nat} : Rr C mJx4a65c_remove_915e3 (14, [l0, l1, some (.inr (.inr r)), l3], st, M) x = Rr C mJx4a65c_remove_915e3 (15, [l0, l1, some (.inr (.inr r)), l3], .inr (.inr r) :: st, M) x := g_pl (show decode cJx4a65c_remove_915e3 14 = .ok (.aload_n 2, 1) by decide +kernel) rfl
set_option maxRecDepth 20000 in
theorem kJx4a65c_remove_915e3_15 {C : QC} {x : QP} {M : QM} {st : List CV} {L : QL} {l0 l1 l2 l3 : Option CV} {z : Int} : Rr C mJx4a65c_remove_915e3 (15, [l0, some (qi z), l2, l3], st, M) x = Rr C mJx4a65c_remove_915e3 (16, [l0, some (qi z), l2, l3], qi z :: st, M) x := g_pl (show decode cJx4a65c_remove_915e3 15 = .ok (.iload_n 1, 1) by decide +kernel) rfl
set_option maxRecDepth 20000 in
theorem kJx4a65c_remove_915e3_16 {C : QC} {x : QP} {M : QM} {st : List CV} {L : QL} {a : Nat} {j : Int} (hk : (q_kd M a).1 = 5 ∨ (q_kd M a).1 = 6) (h0 : 0 ≤ j) (h1 : j < ((q_kd M a).2 : Int)) : Rr C mJx4a65c_remove_915e3 (16, L, qi j :: qr a :: st, M) x = Rr C mJx4a65c_remove_915e3 (17, L, q_fv M a j.toNat :: st, M) x := g_aald (show decode cJx4a65c_remove_915e3 16 = .ok (.aaload, 1) by decide +kernel) hk h0 h1
set_option maxRecDepth 20000 in
theorem kJx4a65c_remove_915e3_17 {C : QC} {x : QP} {M : QM} {st : List CV} {L : QL} {l0 l1 l2 l3 : Option CV} {z : Option Nat} : Rr C mJx4a65c_remove_915e3 (17, [l0, l1, l2, l3], .inr (.inr z) :: st, M) x = Rr C mJx4a65c_remove_915e3 (18, [l0, l1, q_cut l2, some (.inr (.inr z))], st, M) x := g_pl (show decode cJx4a65c_remove_915e3 17 = .ok (.astore_n 3, 1) by decide +kernel) rfl
set_option maxRecDepth 20000 in
theorem kJx4a65c_remove_915e3_18 {C : QC} {x : QP} {M : QM} {st : List CV} {L : QL} {l0 l1 l2 l3 : Option CV} {r : Option Nat} : Rr C mJx4a65c_remove_915e3 (18, [some (.inr (.inr r)), l1, l2, l3], st, M) x = Rr C mJx4a65c_remove_915e3 (19, [some (.inr (.inr r)), l1, l2, l3], .inr (.inr r) :: st, M) x := g_pl (show decode cJx4a65c_remove_915e3 18 = .ok (.aload_n 0, 1) by decide +kernel) rfl
set_option maxRecDepth 20000 in
theorem kJx4a65c_remove_915e3_19 {C : QC} {x : QP} {M : QM} {st : List CV} {L : QL} {l0 l1 l2 l3 : Option CV} {r : Option Nat} : Rr C mJx4a65c_remove_915e3 (19, [l0, l1, some (.inr (.inr r)), l3], st, M) x = Rr C mJx4a65c_remove_915e3 (20, [l0, l1, some (.inr (.inr r)), l3], .inr (.inr r) :: st, M) x := g_pl (show decode cJx4a65c_remove_915e3 19 = .ok (.aload_n 2, 1) by decide +kernel) rfl
set_option maxRecDepth 20000 in
theorem kJx4a65c_remove_915e3_20 {C : QC} {x : QP} {M : QM} {st : List CV} {L : QL} {l0 l1 l2 l3 : Option CV} {z : Int} : Rr C mJx4a65c_remove_915e3 (20, [l0, some (qi z), l2, l3], st, M) x = Rr C mJx4a65c_remove_915e3 (21, [l0, some (qi z), l2, l3], qi z :: st, M) x := g_pl (show decode cJx4a65c_remove_915e3 20 = .ok (.iload_n 1, 1) by decide +kernel) rfl
set_option maxRecDepth 20000 in
theorem kJx4a65c_remove_915e3_21 {C : QC} {x : QP} {M : QM} {L : QL} {rest : List CV} {a0 a1 : CV} {M1 : QM} {b : Nat} (hb : q_kd M b = (1, 15)) (hC : C iJx4a65c_fastRemove_b59b0 [qr b, a0, a1] M none M1) (hw : (rest.map q_wd).sum ≤ 8) (k : Rr C mJx4a65c_remove_915e3 (24, L, rest, M1) x) : Rr C mJx4a65c_remove_915e3 (21, L, a1 :: a0 :: qr b :: rest, M) x := g_cv (ow := 15) (e := (0, 103, 15, [841, 843, 17, 82])) (as := [a0, a1]) (show decode cJx4a65c_remove_915e3 21 = .ok (.invokevirtual 144, 3) by decide +kernel) rfl rfl rfl (Or.inl rfl) rfl hb hC hw k
set_option maxRecDepth 20000 in
theorem kJx4a65c_remove_915e3_24 {C : QC} {x : QP} {M : QM} {st : List CV} {L : QL} {l0 l1 l2 l3 : Option CV} {r : Option Nat} : Rr C mJx4a65c_remove_915e3 (24, [l0, l1, l2, some (.inr (.inr r))], st, M) x = Rr C mJx4a65c_remove_915e3 (25, [l0, l1, l2, some (.inr (.inr r))], .inr (.inr r) :: st, M) x := g_pl (show decode cJx4a65c_remove_915e3 24 = .ok (.aload_n 3, 1) by decide +kernel) rfl
set_option maxRecDepth 20000 in
theorem kJx4a65c_remove_915e3_25 {C : QC} {x : QP} {M : QM} {st : List CV} {L : QL} {r : Option Nat} : Rr C mJx4a65c_remove_915e3 (25, L, [.inr (.inr r)], M) x = x (some (.inr (.inr r))) M := g_areto (show decode cJx4a65c_remove_915e3 25 = .ok (.areturn, 1) by decide +kernel)
set_option maxRecDepth 20000 in
theorem eJx4a65c_remove_915e3 {d : Nat} {M : QM} {x : QP} {a : Nat} {v0 : Int} : q_T (d + 1) iJx4a65c_remove_915e3 [qr a, qi v0] M x = Rr (q_C d) mJx4a65c_remove_915e3 (0, [some (qr a), some (qi v0), none, none], [], M) x := g_entryT (e := _) rfl (Nat.le_of_ble_eq_true rfl) rfl rfl
def mJx4a65c_fastRemove_b59b0 : QI := (15, cJx4a65c_fastRemove_b59b0, false, none)
set_option maxRecDepth 20000 in
theorem kJx4a65c_fastRemove_b59b0_0 {C : QC} {x : QP} {M : QM} {st : List CV} {L : QL} {l0 l1 l2 l3 : Option CV} {r : Option Nat} : Rr C mJx4a65c_fastRemove_b59b0 (0, [some (.inr (.inr r)), l1, l2, l3], st, M) x = Rr C mJx4a65c_fastRemove_b59b0 (1, [some (.inr (.inr r)), l1, l2, l3], .inr (.inr r) :: st, M) x := g_pl (show decode cJx4a65c_fastRemove_b59b0 0 = .ok (.aload_n 0, 1) by decide +kernel) rfl
set_option maxRecDepth 20000 in
theorem kJx4a65c_fastRemove_b59b0_1i {C : QC} {x : QP} {M : QM} {st : List CV} {L : QL} {a : Int} : Rr C mJx4a65c_fastRemove_b59b0 (1, L, qi a :: st, M) x = Rr C mJx4a65c_fastRemove_b59b0 (2, L, qi a :: qi a :: st, M) x := g_pl (show decode cJx4a65c_fastRemove_b59b0 1 = .ok (.dup, 1) by decide +kernel) rfl
set_option maxRecDepth 20000 in
theorem kJx4a65c_fastRemove_b59b0_1r {C : QC} {x : QP} {M : QM} {st : List CV} {L : QL} {a : Option Nat} : Rr C mJx4a65c_fastRemove_b59b0 (1, L, .inr (.inr a) :: st, M) x = Rr C mJx4a65c_fastRemove_b59b0 (2, L, .inr (.inr a) :: .inr (.inr a) :: st, M) x := g_pl (show decode cJx4a65c_fastRemove_b59b0 1 = .ok (.dup, 1) by decide +kernel) rfl
set_option maxRecDepth 20000 in
theorem kJx4a65c_fastRemove_b59b0_2 {C : QC} {x : QP} {M : QM} {st : List CV} {L : QL} {a : Nat} (hk : q_kd M a = (1, 15)) : Rr C mJx4a65c_fastRemove_b59b0 (2, L, qr a :: st, M) x = Rr C mJx4a65c_fastRemove_b59b0 (5, L, q_fv M a 0 :: st, M) x := g_getf (ow := 15) (e := (15, 0, RJx4a65c, 152, 153)) (show decode cJx4a65c_fastRemove_b59b0 2 = .ok (.getfield 63, 3) by decide +kernel) rfl hk
set_option maxRecDepth 20000 in
theorem kJx4a65c_fastRemove_b59b0_5 {C : QC} {x : QP} {M : QM} {st : List CV} {L : QL} : Rr C mJx4a65c_fastRemove_b59b0 (5, L, st, M) x = Rr C mJx4a65c_fastRemove_b59b0 (6, L, qi 1 :: st, M) x := g_pl (show decode cJx4a65c_fastRemove_b59b0 5 = .ok (.iconst 1, 1) by decide +kernel) rfl
set_option maxRecDepth 20000 in
theorem kJx4a65c_fastRemove_b59b0_6 {C : QC} {x : QP} {M : QM} {st : List CV} {L : QL} {a b : Int} : Rr C mJx4a65c_fastRemove_b59b0 (6, L, qi b :: qi a :: st, M) x = Rr C mJx4a65c_fastRemove_b59b0 (7, L, qi (a + b) :: st, M) x := g_pl (show decode cJx4a65c_fastRemove_b59b0 6 = .ok (.iadd, 1) by decide +kernel) rfl
set_option maxRecDepth 20000 in
theorem kJx4a65c_fastRemove_b59b0_7 {C : QC} {x : QP} {M : QM} {st : List CV} {L : QL} {z : Int} {a : Nat} (hk : q_kd M a = (1, 15)) : Rr C mJx4a65c_fastRemove_b59b0 (7, L, qi z :: qr a :: st, M) x = Rr C mJx4a65c_fastRemove_b59b0 (10, L, st, q_wr M a 0 (qi z)) x := g_putf (ow := 15) (ini := false) (e := (15, 0, RJx4a65c, 152, 153)) (r := (RJx4a65c, TJx4a65c, 3)) (t := tyJx4a65c) (show decode cJx4a65c_fastRemove_b59b0 7 = .ok (.putfield 63, 3) by decide +kernel) rfl rfl rfl rfl (by decide +kernel) hk
set_option maxRecDepth 20000 in
theorem kJx4a65c_fastRemove_b59b0_10 {C : QC} {x : QP} {M : QM} {st : List CV} {L : QL} {l0 l1 l2 l3 : Option CV} {r : Option Nat} : Rr C mJx4a65c_fastRemove_b59b0 (10, [some (.inr (.inr r)), l1, l2, l3], st, M) x = Rr C mJx4a65c_fastRemove_b59b0 (11, [some (.inr (.inr r)), l1, l2, l3], .inr (.inr r) :: st, M) x := g_pl (show decode cJx4a65c_fastRemove_b59b0 10 = .ok (.aload_n 0, 1) by decide +kernel) rfl
set_option maxRecDepth 20000 in
theorem kJx4a65c_fastRemove_b59b0_11 {C : QC} {x : QP} {M : QM} {st : List CV} {L : QL} {a : Nat} (hk : q_kd M a = (1, 15)) : Rr C mJx4a65c_fastRemove_b59b0 (11, L, qr a :: st, M) x = Rr C mJx4a65c_fastRemove_b59b0 (14, L, q_fv M a 2 :: st, M) x := g_getf (ow := 15) (e := (15, 2, RJx4a65c, 150, 0)) (show decode cJx4a65c_fastRemove_b59b0 11 = .ok (.getfield 48, 3) by decide +kernel) rfl hk
set_option maxRecDepth 20000 in
theorem kJx4a65c_fastRemove_b59b0_14 {C : QC} {x : QP} {M : QM} {st : List CV} {L : QL} : Rr C mJx4a65c_fastRemove_b59b0 (14, L, st, M) x = Rr C mJx4a65c_fastRemove_b59b0 (15, L, qi 1 :: st, M) x := g_pl (show decode cJx4a65c_fastRemove_b59b0 14 = .ok (.iconst 1, 1) by decide +kernel) rfl
set_option maxRecDepth 20000 in
theorem kJx4a65c_fastRemove_b59b0_15 {C : QC} {x : QP} {M : QM} {st : List CV} {L : QL} {a b : Int} : Rr C mJx4a65c_fastRemove_b59b0 (15, L, qi b :: qi a :: st, M) x = Rr C mJx4a65c_fastRemove_b59b0 (16, L, qi (a - b) :: st, M) x := g_pl (show decode cJx4a65c_fastRemove_b59b0 15 = .ok (.isub, 1) by decide +kernel) rfl
set_option maxRecDepth 20000 in
theorem kJx4a65c_fastRemove_b59b0_16i {C : QC} {x : QP} {M : QM} {st : List CV} {L : QL} {a : Int} : Rr C mJx4a65c_fastRemove_b59b0 (16, L, qi a :: st, M) x = Rr C mJx4a65c_fastRemove_b59b0 (17, L, qi a :: qi a :: st, M) x := g_pl (show decode cJx4a65c_fastRemove_b59b0 16 = .ok (.dup, 1) by decide +kernel) rfl
set_option maxRecDepth 20000 in
theorem kJx4a65c_fastRemove_b59b0_16r {C : QC} {x : QP} {M : QM} {st : List CV} {L : QL} {a : Option Nat} : Rr C mJx4a65c_fastRemove_b59b0 (16, L, .inr (.inr a) :: st, M) x = Rr C mJx4a65c_fastRemove_b59b0 (17, L, .inr (.inr a) :: .inr (.inr a) :: st, M) x := g_pl (show decode cJx4a65c_fastRemove_b59b0 16 = .ok (.dup, 1) by decide +kernel) rfl
set_option maxRecDepth 20000 in
theorem kJx4a65c_fastRemove_b59b0_17 {C : QC} {x : QP} {M : QM} {st : List CV} {L : QL} {l0 l1 l2 l3 : Option CV} {z : Int} : Rr C mJx4a65c_fastRemove_b59b0 (17, [l0, l1, l2, l3], qi z :: st, M) x = Rr C mJx4a65c_fastRemove_b59b0 (18, [l0, l1, q_cut l2, some (qi z)], st, M) x := g_pl (show decode cJx4a65c_fastRemove_b59b0 17 = .ok (.istore_n 3, 1) by decide +kernel) rfl
set_option maxRecDepth 20000 in
theorem kJx4a65c_fastRemove_b59b0_18 {C : QC} {x : QP} {M : QM} {st : List CV} {L : QL} {l0 l1 l2 l3 : Option CV} {z : Int} : Rr C mJx4a65c_fastRemove_b59b0 (18, [l0, l1, some (qi z), l3], st, M) x = Rr C mJx4a65c_fastRemove_b59b0 (19, [l0, l1, some (qi z), l3], qi z :: st, M) x := g_pl (show decode cJx4a65c_fastRemove_b59b0 18 = .ok (.iload_n 2, 1) by decide +kernel) rfl
set_option maxRecDepth 20000 in
theorem kJx4a65c_fastRemove_b59b0_19 {C : QC} {x : QP} {M : QM} {st : List CV} {L : QL} {a b : Int} (ha1 : -2147483648 ≤ a) (ha2 : a < 2147483648) (hb1 : -2147483648 ≤ b) (hb2 : b < 2147483648) : Rr C mJx4a65c_fastRemove_b59b0 (19, L, qi b :: qi a :: st, M) x = (if b < a then Rr C mJx4a65c_fastRemove_b59b0 (22, L, st, M) x else Rr C mJx4a65c_fastRemove_b59b0 (34, L, st, M) x) := (g_icmp (show decode cJx4a65c_fastRemove_b59b0 19 = .ok (.if_icmp .le 15, 3) by decide +kernel) rfl ha1 ha2 hb1 hb2).trans (g_itn c_le)
set_option maxRecDepth 20000 in
theorem kJx4a65c_fastRemove_b59b0_22 {C : QC} {x : QP} {M : QM} {st : List CV} {L : QL} {l0 l1 l2 l3 : Option CV} {r : Option Nat} : Rr C mJx4a65c_fastRemove_b59b0 (22, [l0, some (.inr (.inr r)), l2, l3], st, M) x = Rr C mJx4a65c_fastRemove_b59b0 (23, [l0, some (.inr (.inr r)), l2, l3], .inr (.inr r) :: st, M) x := g_pl (show decode cJx4a65c_fastRemove_b59b0 22 = .ok (.aload_n 1, 1) by decide +kernel) rfl
set_option maxRecDepth 20000 in
theorem kJx4a65c_fastRemove_b59b0_23 {C : QC} {x : QP} {M : QM} {st : List CV} {L : QL} {l0 l1 l2 l3 : Option CV} {z : Int} : Rr C mJx4a65c_fastRemove_b59b0 (23, [l0, l1, some (qi z), l3], st, M) x = Rr C mJx4a65c_fastRemove_b59b0 (24, [l0, l1, some (qi z), l3], qi z :: st, M) x := g_pl (show decode cJx4a65c_fastRemove_b59b0 23 = .ok (.iload_n 2, 1) by decide +kernel) rfl
set_option maxRecDepth 20000 in
theorem kJx4a65c_fastRemove_b59b0_24 {C : QC} {x : QP} {M : QM} {st : List CV} {L : QL} : Rr C mJx4a65c_fastRemove_b59b0 (24, L, st, M) x = Rr C mJx4a65c_fastRemove_b59b0 (25, L, qi 1 :: st, M) x := g_pl (show decode cJx4a65c_fastRemove_b59b0 24 = .ok (.iconst 1, 1) by decide +kernel) rfl
set_option maxRecDepth 20000 in
theorem kJx4a65c_fastRemove_b59b0_25 {C : QC} {x : QP} {M : QM} {st : List CV} {L : QL} {a b : Int} : Rr C mJx4a65c_fastRemove_b59b0 (25, L, qi b :: qi a :: st, M) x = Rr C mJx4a65c_fastRemove_b59b0 (26, L, qi (a + b) :: st, M) x := g_pl (show decode cJx4a65c_fastRemove_b59b0 25 = .ok (.iadd, 1) by decide +kernel) rfl
set_option maxRecDepth 20000 in
theorem kJx4a65c_fastRemove_b59b0_26 {C : QC} {x : QP} {M : QM} {st : List CV} {L : QL} {l0 l1 l2 l3 : Option CV} {r : Option Nat} : Rr C mJx4a65c_fastRemove_b59b0 (26, [l0, some (.inr (.inr r)), l2, l3], st, M) x = Rr C mJx4a65c_fastRemove_b59b0 (27, [l0, some (.inr (.inr r)), l2, l3], .inr (.inr r) :: st, M) x := g_pl (show decode cJx4a65c_fastRemove_b59b0 26 = .ok (.aload_n 1, 1) by decide +kernel) rfl
set_option maxRecDepth 20000 in
theorem kJx4a65c_fastRemove_b59b0_27 {C : QC} {x : QP} {M : QM} {st : List CV} {L : QL} {l0 l1 l2 l3 : Option CV} {z : Int} : Rr C mJx4a65c_fastRemove_b59b0 (27, [l0, l1, some (qi z), l3], st, M) x = Rr C mJx4a65c_fastRemove_b59b0 (28, [l0, l1, some (qi z), l3], qi z :: st, M) x := g_pl (show decode cJx4a65c_fastRemove_b59b0 27 = .ok (.iload_n 2, 1) by decide +kernel) rfl
set_option maxRecDepth 20000 in
theorem kJx4a65c_fastRemove_b59b0_28 {C : QC} {x : QP} {M : QM} {st : List CV} {L : QL} {l0 l1 l2 l3 : Option CV} {z : Int} : Rr C mJx4a65c_fastRemove_b59b0 (28, [l0, l1, l2, some (qi z)], st, M) x = Rr C mJx4a65c_fastRemove_b59b0 (29, [l0, l1, l2, some (qi z)], qi z :: st, M) x := g_pl (show decode cJx4a65c_fastRemove_b59b0 28 = .ok (.iload_n 3, 1) by decide +kernel) rfl
set_option maxRecDepth 20000 in
theorem kJx4a65c_fastRemove_b59b0_29 {C : QC} {x : QP} {M : QM} {st : List CV} {L : QL} {l0 l1 l2 l3 : Option CV} {z : Int} : Rr C mJx4a65c_fastRemove_b59b0 (29, [l0, l1, some (qi z), l3], st, M) x = Rr C mJx4a65c_fastRemove_b59b0 (30, [l0, l1, some (qi z), l3], qi z :: st, M) x := g_pl (show decode cJx4a65c_fastRemove_b59b0 29 = .ok (.iload_n 2, 1) by decide +kernel) rfl
set_option maxRecDepth 20000 in
theorem kJx4a65c_fastRemove_b59b0_30 {C : QC} {x : QP} {M : QM} {st : List CV} {L : QL} {a b : Int} : Rr C mJx4a65c_fastRemove_b59b0 (30, L, qi b :: qi a :: st, M) x = Rr C mJx4a65c_fastRemove_b59b0 (31, L, qi (a - b) :: st, M) x := g_pl (show decode cJx4a65c_fastRemove_b59b0 30 = .ok (.isub, 1) by decide +kernel) rfl
set_option maxRecDepth 20000 in
theorem kJx4a65c_fastRemove_b59b0_31 {C : QC} {x : QP} {M : QM} {st : List CV} {L : QL} {a0 a : Nat} {sp dp n : Int} (hk : q_acc M a0 a sp dp n = true) (hw : (st.map q_wd).sum ≤ 8) : Rr C mJx4a65c_fastRemove_b59b0 (31, L, qi n :: qi dp :: qr a :: qi sp :: qr a0 :: st, M) x = Rr C mJx4a65c_fastRemove_b59b0 (34, L, st, q_cp M a0 sp.toNat a dp.toNat n.toNat) x := g_copy (ow := 15) (e := 845) (show decode cJx4a65c_fastRemove_b59b0 31 = .ok (.invokestatic 112, 3) by decide +kernel) rfl hk hw
set_option maxRecDepth 20000 in
theorem kJx4a65c_fastRemove_b59b0_34 {C : QC} {x : QP} {M : QM} {st : List CV} {L : QL} {l0 l1 l2 l3 : Option CV} {r : Option Nat} : Rr C mJx4a65c_fastRemove_b59b0 (34, [l0, some (.inr (.inr r)), l2, l3], st, M) x = Rr C mJx4a65c_fastRemove_b59b0 (35, [l0, some (.inr (.inr r)), l2, l3], .inr (.inr r) :: st, M) x := g_pl (show decode cJx4a65c_fastRemove_b59b0 34 = .ok (.aload_n 1, 1) by decide +kernel) rfl
set_option maxRecDepth 20000 in
theorem kJx4a65c_fastRemove_b59b0_35 {C : QC} {x : QP} {M : QM} {st : List CV} {L : QL} {l0 l1 l2 l3 : Option CV} {r : Option Nat} : Rr C mJx4a65c_fastRemove_b59b0 (35, [some (.inr (.inr r)), l1, l2, l3], st, M) x = Rr C mJx4a65c_fastRemove_b59b0 (36, [some (.inr (.inr r)), l1, l2, l3], .inr (.inr r) :: st, M) x := g_pl (show decode cJx4a65c_fastRemove_b59b0 35 = .ok (.aload_n 0, 1) by decide +kernel) rfl
set_option maxRecDepth 20000 in
theorem kJx4a65c_fastRemove_b59b0_36 {C : QC} {x : QP} {M : QM} {st : List CV} {L : QL} {l0 l1 l2 l3 : Option CV} {z : Int} : Rr C mJx4a65c_fastRemove_b59b0 (36, [l0, l1, l2, some (qi z)], st, M) x = Rr C mJx4a65c_fastRemove_b59b0 (37, [l0, l1, l2, some (qi z)], qi z :: st, M) x := g_pl (show decode cJx4a65c_fastRemove_b59b0 36 = .ok (.iload_n 3, 1) by decide +kernel) rfl
set_option maxRecDepth 20000 in
theorem kJx4a65c_fastRemove_b59b0_37ii {C : QC} {x : QP} {M : QM} {st : List CV} {L : QL} {a : Int} {b : Int} : Rr C mJx4a65c_fastRemove_b59b0 (37, L, qi a :: qi b :: st, M) x = Rr C mJx4a65c_fastRemove_b59b0 (38, L, qi a :: qi b :: qi a :: st, M) x := g_pl (show decode cJx4a65c_fastRemove_b59b0 37 = .ok (.dup_x1, 1) by decide +kernel) rfl
set_option maxRecDepth 20000 in
theorem kJx4a65c_fastRemove_b59b0_37ir {C : QC} {x : QP} {M : QM} {st : List CV} {L : QL} {a : Int} {b : Option Nat} : Rr C mJx4a65c_fastRemove_b59b0 (37, L, qi a :: .inr (.inr b) :: st, M) x = Rr C mJx4a65c_fastRemove_b59b0 (38, L, qi a :: .inr (.inr b) :: qi a :: st, M) x := g_pl (show decode cJx4a65c_fastRemove_b59b0 37 = .ok (.dup_x1, 1) by decide +kernel) rfl
set_option maxRecDepth 20000 in
theorem kJx4a65c_fastRemove_b59b0_37ri {C : QC} {x : QP} {M : QM} {st : List CV} {L : QL} {a : Option Nat} {b : Int} : Rr C mJx4a65c_fastRemove_b59b0 (37, L, .inr (.inr a) :: qi b :: st, M) x = Rr C mJx4a65c_fastRemove_b59b0 (38, L, .inr (.inr a) :: qi b :: .inr (.inr a) :: st, M) x := g_pl (show decode cJx4a65c_fastRemove_b59b0 37 = .ok (.dup_x1, 1) by decide +kernel) rfl
set_option maxRecDepth 20000 in
theorem kJx4a65c_fastRemove_b59b0_37rr {C : QC} {x : QP} {M : QM} {st : List CV} {L : QL} {a : Option Nat} {b : Option Nat} : Rr C mJx4a65c_fastRemove_b59b0 (37, L, .inr (.inr a) :: .inr (.inr b) :: st, M) x = Rr C mJx4a65c_fastRemove_b59b0 (38, L, .inr (.inr a) :: .inr (.inr b) :: .inr (.inr a) :: st, M) x := g_pl (show decode cJx4a65c_fastRemove_b59b0 37 = .ok (.dup_x1, 1) by decide +kernel) rfl
set_option maxRecDepth 20000 in
theorem kJx4a65c_fastRemove_b59b0_38 {C : QC} {x : QP} {M : QM} {st : List CV} {L : QL} {z : Int} {a : Nat} (hk : q_kd M a = (1, 15)) : Rr C mJx4a65c_fastRemove_b59b0 (38, L, qi z :: qr a :: st, M) x = Rr C mJx4a65c_fastRemove_b59b0 (41, L, st, q_wr M a 2 (qi z)) x := g_putf (ow := 15) (ini := false) (e := (15, 2, RJx4a65c, 150, 0)) (r := (RJx4a65c, TJx4a65c, 3)) (t := tyJx4a65c) (show decode cJx4a65c_fastRemove_b59b0 38 = .ok (.putfield 48, 3) by decide +kernel) rfl rfl rfl rfl (by decide +kernel) hk
set_option maxRecDepth 20000 in
theorem kJx4a65c_fastRemove_b59b0_41 {C : QC} {x : QP} {M : QM} {st : List CV} {L : QL} : Rr C mJx4a65c_fastRemove_b59b0 (41, L, st, M) x = Rr C mJx4a65c_fastRemove_b59b0 (42, L, qn :: st, M) x := g_pl (show decode cJx4a65c_fastRemove_b59b0 41 = .ok (.aconst_null, 1) by decide +kernel) rfl
set_option maxRecDepth 20000 in
theorem kJx4a65c_fastRemove_b59b0_425 {C : QC} {x : QP} {M : QM} {st : List CV} {L : QL} {a b : Nat} {j : Int} (hb : q_kd M b = (1, 3)) (hk : (q_kd M a).1 = 5) (h0 : 0 ≤ j) (h1 : j < ((q_kd M a).2 : Int)) : Rr C mJx4a65c_fastRemove_b59b0 (42, L, qr b :: qi j :: qr a :: st, M) x = Rr C mJx4a65c_fastRemove_b59b0 (43, L, st, q_wr M a j.toNat (qr b)) x := g_aast5 (show decode cJx4a65c_fastRemove_b59b0 42 = .ok (.aastore, 1) by decide +kernel) hb hk h0 h1
set_option maxRecDepth 20000 in
theorem kJx4a65c_fastRemove_b59b0_426 {C : QC} {x : QP} {M : QM} {st : List CV} {L : QL} {a b : Nat} {j : Int} (hb : q_kd M b = (1, 4)) (hk : (q_kd M a).1 = 6) (h0 : 0 ≤ j) (h1 : j < ((q_kd M a).2 : Int)) : Rr C mJx4a65c_fastRemove_b59b0 (42, L, qr b :: qi j :: qr a :: st, M) x = Rr C mJx4a65c_fastRemove_b59b0 (43, L, st, q_wr M a j.toNat (qr b)) x := g_aast6 (show decode cJx4a65c_fastRemove_b59b0 42 = .ok (.aastore, 1) by decide +kernel) hb hk h0 h1
set_option maxRecDepth 20000 in
theorem kJx4a65c_fastRemove_b59b0_42n {C : QC} {x : QP} {M : QM} {st : List CV} {L : QL} {a : Nat} {j : Int} (hk : (q_kd M a).1 = 5) (h0 : 0 ≤ j) (h1 : j < ((q_kd M a).2 : Int)) : Rr C mJx4a65c_fastRemove_b59b0 (42, L, qn :: qi j :: qr a :: st, M) x = Rr C mJx4a65c_fastRemove_b59b0 (43, L, st, q_wr M a j.toNat qn) x := g_aastN (show decode cJx4a65c_fastRemove_b59b0 42 = .ok (.aastore, 1) by decide +kernel) hk h0 h1
set_option maxRecDepth 20000 in
theorem kJx4a65c_fastRemove_b59b0_43 {C : QC} {x : QP} {M : QM} {st : List CV} {L : QL} : Rr C mJx4a65c_fastRemove_b59b0 (43, L, [], M) x = x none M := g_vret (show decode cJx4a65c_fastRemove_b59b0 43 = .ok (.return_, 1) by decide +kernel)
set_option maxRecDepth 20000 in
theorem eJx4a65c_fastRemove_b59b0 {d : Nat} {M : QM} {x : QP} {a : Nat} {v0 : Option Nat} {v1 : Int} : q_T (d + 1) iJx4a65c_fastRemove_b59b0 [qr a, .inr (.inr v0), qi v1] M x = Rr (q_C d) mJx4a65c_fastRemove_b59b0 (0, [some (qr a), some (.inr (.inr v0)), some (qi v1), none], [], M) x := g_entryT (e := _) rfl (Nat.le_of_ble_eq_true rfl) rfl rfl
def mJx4a65c_clear_da8c8 : QI := (15, cJx4a65c_clear_da8c8, false, none)
set_option maxRecDepth 20000 in
theorem kJx4a65c_clear_da8c8_0 {C : QC} {x : QP} {M : QM} {st : List CV} {L : QL} {l0 l1 l2 l3 : Option CV} {r : Option Nat} : Rr C mJx4a65c_clear_da8c8 (0, [some (.inr (.inr r)), l1, l2, l3], st, M) x = Rr C mJx4a65c_clear_da8c8 (1, [some (.inr (.inr r)), l1, l2, l3], .inr (.inr r) :: st, M) x := g_pl (show decode cJx4a65c_clear_da8c8 0 = .ok (.aload_n 0, 1) by decide +kernel) rfl
set_option maxRecDepth 20000 in
theorem kJx4a65c_clear_da8c8_1i {C : QC} {x : QP} {M : QM} {st : List CV} {L : QL} {a : Int} : Rr C mJx4a65c_clear_da8c8 (1, L, qi a :: st, M) x = Rr C mJx4a65c_clear_da8c8 (2, L, qi a :: qi a :: st, M) x := g_pl (show decode cJx4a65c_clear_da8c8 1 = .ok (.dup, 1) by decide +kernel) rfl
set_option maxRecDepth 20000 in
theorem kJx4a65c_clear_da8c8_1r {C : QC} {x : QP} {M : QM} {st : List CV} {L : QL} {a : Option Nat} : Rr C mJx4a65c_clear_da8c8 (1, L, .inr (.inr a) :: st, M) x = Rr C mJx4a65c_clear_da8c8 (2, L, .inr (.inr a) :: .inr (.inr a) :: st, M) x := g_pl (show decode cJx4a65c_clear_da8c8 1 = .ok (.dup, 1) by decide +kernel) rfl
set_option maxRecDepth 20000 in
theorem kJx4a65c_clear_da8c8_2 {C : QC} {x : QP} {M : QM} {st : List CV} {L : QL} {a : Nat} (hk : q_kd M a = (1, 15)) : Rr C mJx4a65c_clear_da8c8 (2, L, qr a :: st, M) x = Rr C mJx4a65c_clear_da8c8 (5, L, q_fv M a 0 :: st, M) x := g_getf (ow := 15) (e := (15, 0, RJx4a65c, 152, 153)) (show decode cJx4a65c_clear_da8c8 2 = .ok (.getfield 63, 3) by decide +kernel) rfl hk
set_option maxRecDepth 20000 in
theorem kJx4a65c_clear_da8c8_5 {C : QC} {x : QP} {M : QM} {st : List CV} {L : QL} : Rr C mJx4a65c_clear_da8c8 (5, L, st, M) x = Rr C mJx4a65c_clear_da8c8 (6, L, qi 1 :: st, M) x := g_pl (show decode cJx4a65c_clear_da8c8 5 = .ok (.iconst 1, 1) by decide +kernel) rfl
set_option maxRecDepth 20000 in
theorem kJx4a65c_clear_da8c8_6 {C : QC} {x : QP} {M : QM} {st : List CV} {L : QL} {a b : Int} : Rr C mJx4a65c_clear_da8c8 (6, L, qi b :: qi a :: st, M) x = Rr C mJx4a65c_clear_da8c8 (7, L, qi (a + b) :: st, M) x := g_pl (show decode cJx4a65c_clear_da8c8 6 = .ok (.iadd, 1) by decide +kernel) rfl
set_option maxRecDepth 20000 in
theorem kJx4a65c_clear_da8c8_7 {C : QC} {x : QP} {M : QM} {st : List CV} {L : QL} {z : Int} {a : Nat} (hk : q_kd M a = (1, 15)) : Rr C mJx4a65c_clear_da8c8 (7, L, qi z :: qr a :: st, M) x = Rr C mJx4a65c_clear_da8c8 (10, L, st, q_wr M a 0 (qi z)) x := g_putf (ow := 15) (ini := false) (e := (15, 0, RJx4a65c, 152, 153)) (r := (RJx4a65c, TJx4a65c, 3)) (t := tyJx4a65c) (show decode cJx4a65c_clear_da8c8 7 = .ok (.putfield 63, 3) by decide +kernel) rfl rfl rfl rfl (by decide +kernel) hk
set_option maxRecDepth 20000 in
theorem kJx4a65c_clear_da8c8_10 {C : QC} {x : QP} {M : QM} {st : List CV} {L : QL} {l0 l1 l2 l3 : Option CV} {r : Option Nat} : Rr C mJx4a65c_clear_da8c8 (10, [some (.inr (.inr r)), l1, l2, l3], st, M) x = Rr C mJx4a65c_clear_da8c8 (11, [some (.inr (.inr r)), l1, l2, l3], .inr (.inr r) :: st, M) x := g_pl (show decode cJx4a65c_clear_da8c8 10 = .ok (.aload_n 0, 1) by decide +kernel) rfl
set_option maxRecDepth 20000 in
theorem kJx4a65c_clear_da8c8_11 {C : QC} {x : QP} {M : QM} {st : List CV} {L : QL} {a : Nat} (hk : q_kd M a = (1, 15)) : Rr C mJx4a65c_clear_da8c8 (11, L, qr a :: st, M) x = Rr C mJx4a65c_clear_da8c8 (14, L, q_fv M a 1 :: st, M) x := g_getf (ow := 15) (e := (15, 1, RJx4a65c, 149, 0)) (show decode cJx4a65c_clear_da8c8 11 = .ok (.getfield 9, 3) by decide +kernel) rfl hk
set_option maxRecDepth 20000 in
theorem kJx4a65c_clear_da8c8_14 {C : QC} {x : QP} {M : QM} {st : List CV} {L : QL} {l0 l1 l2 l3 : Option CV} {z : Option Nat} : Rr C mJx4a65c_clear_da8c8 (14, [l0, l1, l2, l3], .inr (.inr z) :: st, M) x = Rr C mJx4a65c_clear_da8c8 (15, [q_cut l0, some (.inr (.inr z)), l2, l3], st, M) x := g_pl (show decode cJx4a65c_clear_da8c8 14 = .ok (.astore_n 1, 1) by decide +kernel) rfl
set_option maxRecDepth 20000 in
theorem kJx4a65c_clear_da8c8_15 {C : QC} {x : QP} {M : QM} {st : List CV} {L : QL} {l0 l1 l2 l3 : Option CV} {r : Option Nat} : Rr C mJx4a65c_clear_da8c8 (15, [some (.inr (.inr r)), l1, l2, l3], st, M) x = Rr C mJx4a65c_clear_da8c8 (16, [some (.inr (.inr r)), l1, l2, l3], .inr (.inr r) :: st, M) x := g_pl (show decode cJx4a65c_clear_da8c8 15 = .ok (.aload_n 0, 1) by decide +kernel) rfl
set_option maxRecDepth 20000 in
theorem kJx4a65c_clear_da8c8_16 {C : QC} {x : QP} {M : QM} {st : List CV} {L : QL} {a : Nat} (hk : q_kd M a = (1, 15)) : Rr C mJx4a65c_clear_da8c8 (16, L, qr a :: st, M) x = Rr C mJx4a65c_clear_da8c8 (19, L, q_fv M a 2 :: st, M) x := g_getf (ow := 15) (e := (15, 2, RJx4a65c, 150, 0)) (show decode cJx4a65c_clear_da8c8 16 = .ok (.getfield 48, 3) by decide +kernel) rfl hk
set_option maxRecDepth 20000 in
theorem kJx4a65c_clear_da8c8_19 {C : QC} {x : QP} {M : QM} {st : List CV} {L : QL} {l0 l1 l2 l3 : Option CV} {z : Int} : Rr C mJx4a65c_clear_da8c8 (19, [l0, l1, l2, l3], qi z :: st, M) x = Rr C mJx4a65c_clear_da8c8 (20, [l0, q_cut l1, some (qi z), l3], st, M) x := g_pl (show decode cJx4a65c_clear_da8c8 19 = .ok (.istore_n 2, 1) by decide +kernel) rfl
set_option maxRecDepth 20000 in
theorem kJx4a65c_clear_da8c8_20 {C : QC} {x : QP} {M : QM} {st : List CV} {L : QL} {l0 l1 l2 l3 : Option CV} {r : Option Nat} : Rr C mJx4a65c_clear_da8c8 (20, [some (.inr (.inr r)), l1, l2, l3], st, M) x = Rr C mJx4a65c_clear_da8c8 (21, [some (.inr (.inr r)), l1, l2, l3], .inr (.inr r) :: st, M) x := g_pl (show decode cJx4a65c_clear_da8c8 20 = .ok (.aload_n 0, 1) by decide +kernel) rfl
set_option maxRecDepth 20000 in
theorem kJx4a65c_clear_da8c8_21 {C : QC} {x : QP} {M : QM} {st : List CV} {L : QL} : Rr C mJx4a65c_clear_da8c8 (21, L, st, M) x = Rr C mJx4a65c_clear_da8c8 (22, L, qi 0 :: st, M) x := g_pl (show decode cJx4a65c_clear_da8c8 21 = .ok (.iconst 0, 1) by decide +kernel) rfl
set_option maxRecDepth 20000 in
theorem kJx4a65c_clear_da8c8_22ii {C : QC} {x : QP} {M : QM} {st : List CV} {L : QL} {a : Int} {b : Int} : Rr C mJx4a65c_clear_da8c8 (22, L, qi a :: qi b :: st, M) x = Rr C mJx4a65c_clear_da8c8 (23, L, qi a :: qi b :: qi a :: st, M) x := g_pl (show decode cJx4a65c_clear_da8c8 22 = .ok (.dup_x1, 1) by decide +kernel) rfl
set_option maxRecDepth 20000 in
theorem kJx4a65c_clear_da8c8_22ir {C : QC} {x : QP} {M : QM} {st : List CV} {L : QL} {a : Int} {b : Option Nat} : Rr C mJx4a65c_clear_da8c8 (22, L, qi a :: .inr (.inr b) :: st, M) x = Rr C mJx4a65c_clear_da8c8 (23, L, qi a :: .inr (.inr b) :: qi a :: st, M) x := g_pl (show decode cJx4a65c_clear_da8c8 22 = .ok (.dup_x1, 1) by decide +kernel) rfl
set_option maxRecDepth 20000 in
theorem kJx4a65c_clear_da8c8_22ri {C : QC} {x : QP} {M : QM} {st : List CV} {L : QL} {a : Option Nat} {b : Int} : Rr C mJx4a65c_clear_da8c8 (22, L, .inr (.inr a) :: qi b :: st, M) x = Rr C mJx4a65c_clear_da8c8 (23, L, .inr (.inr a) :: qi b :: .inr (.inr a) :: st, M) x := g_pl (show decode cJx4a65c_clear_da8c8 22 = .ok (.dup_x1, 1) by decide +kernel) rfl
set_option maxRecDepth 20000 in
theorem kJx4a65c_clear_da8c8_22rr {C : QC} {x : QP} {M : QM} {st : List CV} {L : QL} {a : Option Nat} {b : Option Nat} : Rr C mJx4a65c_clear_da8c8 (22, L, .inr (.inr a) :: .inr (.inr b) :: st, M) x = Rr C mJx4a65c_clear_da8c8 (23, L, .inr (.inr a) :: .inr (.inr b) :: .inr (.inr a) :: st, M) x := g_pl (show decode cJx4a65c_clear_da8c8 22 = .ok (.dup_x1, 1) by decide +kernel) rfl
set_option maxRecDepth 20000 in
theorem kJx4a65c_clear_da8c8_23 {C : QC} {x : QP} {M : QM} {st : List CV} {L : QL} {z : Int} {a : Nat} (hk : q_kd M a = (1, 15)) : Rr C mJx4a65c_clear_da8c8 (23, L, qi z :: qr a :: st, M) x = Rr C mJx4a65c_clear_da8c8 (26, L, st, q_wr M a 2 (qi z)) x := g_putf (ow := 15) (ini := false) (e := (15, 2, RJx4a65c, 150, 0)) (r := (RJx4a65c, TJx4a65c, 3)) (t := tyJx4a65c) (show decode cJx4a65c_clear_da8c8 23 = .ok (.putfield 48, 3) by decide +kernel) rfl rfl rfl rfl (by decide +kernel) hk
set_option maxRecDepth 20000 in
theorem kJx4a65c_clear_da8c8_26 {C : QC} {x : QP} {M : QM} {st : List CV} {L : QL} {l0 l1 l2 l3 : Option CV} {z : Int} : Rr C mJx4a65c_clear_da8c8 (26, [l0, l1, l2, l3], qi z :: st, M) x = Rr C mJx4a65c_clear_da8c8 (27, [l0, l1, q_cut l2, some (qi z)], st, M) x := g_pl (show decode cJx4a65c_clear_da8c8 26 = .ok (.istore_n 3, 1) by decide +kernel) rfl
set_option maxRecDepth 20000 in
theorem kJx4a65c_clear_da8c8_27 {C : QC} {x : QP} {M : QM} {st : List CV} {L : QL} {l0 l1 l2 l3 : Option CV} {z : Int} : Rr C mJx4a65c_clear_da8c8 (27, [l0, l1, l2, some (qi z)], st, M) x = Rr C mJx4a65c_clear_da8c8 (28, [l0, l1, l2, some (qi z)], qi z :: st, M) x := g_pl (show decode cJx4a65c_clear_da8c8 27 = .ok (.iload_n 3, 1) by decide +kernel) rfl
set_option maxRecDepth 20000 in
theorem kJx4a65c_clear_da8c8_28 {C : QC} {x : QP} {M : QM} {st : List CV} {L : QL} {l0 l1 l2 l3 : Option CV} {z : Int} : Rr C mJx4a65c_clear_da8c8 (28, [l0, l1, some (qi z), l3], st, M) x = Rr C mJx4a65c_clear_da8c8 (29, [l0, l1, some (qi z), l3], qi z :: st, M) x := g_pl (show decode cJx4a65c_clear_da8c8 28 = .ok (.iload_n 2, 1) by decide +kernel) rfl
set_option maxRecDepth 20000 in
theorem kJx4a65c_clear_da8c8_29 {C : QC} {x : QP} {M : QM} {st : List CV} {L : QL} {a b : Int} (ha1 : -2147483648 ≤ a) (ha2 : a < 2147483648) (hb1 : -2147483648 ≤ b) (hb2 : b < 2147483648) : Rr C mJx4a65c_clear_da8c8 (29, L, qi b :: qi a :: st, M) x = (if a < b then Rr C mJx4a65c_clear_da8c8 (32, L, st, M) x else Rr C mJx4a65c_clear_da8c8 (42, L, st, M) x) := (g_icmp (show decode cJx4a65c_clear_da8c8 29 = .ok (.if_icmp .ge 13, 3) by decide +kernel) rfl ha1 ha2 hb1 hb2).trans (g_itn c_ge)
set_option maxRecDepth 20000 in
theorem kJx4a65c_clear_da8c8_32 {C : QC} {x : QP} {M : QM} {st : List CV} {L : QL} {l0 l1 l2 l3 : Option CV} {r : Option Nat} : Rr C mJx4a65c_clear_da8c8 (32, [l0, some (.inr (.inr r)), l2, l3], st, M) x = Rr C mJx4a65c_clear_da8c8 (33, [l0, some (.inr (.inr r)), l2, l3], .inr (.inr r) :: st, M) x := g_pl (show decode cJx4a65c_clear_da8c8 32 = .ok (.aload_n 1, 1) by decide +kernel) rfl
set_option maxRecDepth 20000 in
theorem kJx4a65c_clear_da8c8_33 {C : QC} {x : QP} {M : QM} {st : List CV} {L : QL} {l0 l1 l2 l3 : Option CV} {z : Int} : Rr C mJx4a65c_clear_da8c8 (33, [l0, l1, l2, some (qi z)], st, M) x = Rr C mJx4a65c_clear_da8c8 (34, [l0, l1, l2, some (qi z)], qi z :: st, M) x := g_pl (show decode cJx4a65c_clear_da8c8 33 = .ok (.iload_n 3, 1) by decide +kernel) rfl
set_option maxRecDepth 20000 in
theorem kJx4a65c_clear_da8c8_34 {C : QC} {x : QP} {M : QM} {st : List CV} {L : QL} : Rr C mJx4a65c_clear_da8c8 (34, L, st, M) x = Rr C mJx4a65c_clear_da8c8 (35, L, qn :: st, M) x := g_pl (show decode cJx4a65c_clear_da8c8 34 = .ok (.aconst_null, 1) by decide +kernel) rfl
set_option maxRecDepth 20000 in
theorem kJx4a65c_clear_da8c8_355 {C : QC} {x : QP} {M : QM} {st : List CV} {L : QL} {a b : Nat} {j : Int} (hb : q_kd M b = (1, 3)) (hk : (q_kd M a).1 = 5) (h0 : 0 ≤ j) (h1 : j < ((q_kd M a).2 : Int)) : Rr C mJx4a65c_clear_da8c8 (35, L, qr b :: qi j :: qr a :: st, M) x = Rr C mJx4a65c_clear_da8c8 (36, L, st, q_wr M a j.toNat (qr b)) x := g_aast5 (show decode cJx4a65c_clear_da8c8 35 = .ok (.aastore, 1) by decide +kernel) hb hk h0 h1
set_option maxRecDepth 20000 in
theorem kJx4a65c_clear_da8c8_356 {C : QC} {x : QP} {M : QM} {st : List CV} {L : QL} {a b : Nat} {j : Int} (hb : q_kd M b = (1, 4)) (hk : (q_kd M a).1 = 6) (h0 : 0 ≤ j) (h1 : j < ((q_kd M a).2 : Int)) : Rr C mJx4a65c_clear_da8c8 (35, L, qr b :: qi j :: qr a :: st, M) x = Rr C mJx4a65c_clear_da8c8 (36, L, st, q_wr M a j.toNat (qr b)) x := g_aast6 (show decode cJx4a65c_clear_da8c8 35 = .ok (.aastore, 1) by decide +kernel) hb hk h0 h1
set_option maxRecDepth 20000 in
theorem kJx4a65c_clear_da8c8_35n {C : QC} {x : QP} {M : QM} {st : List CV} {L : QL} {a : Nat} {j : Int} (hk : (q_kd M a).1 = 5) (h0 : 0 ≤ j) (h1 : j < ((q_kd M a).2 : Int)) : Rr C mJx4a65c_clear_da8c8 (35, L, qn :: qi j :: qr a :: st, M) x = Rr C mJx4a65c_clear_da8c8 (36, L, st, q_wr M a j.toNat qn) x := g_aastN (show decode cJx4a65c_clear_da8c8 35 = .ok (.aastore, 1) by decide +kernel) hk h0 h1
set_option maxRecDepth 20000 in
theorem kJx4a65c_clear_da8c8_36 {C : QC} {x : QP} {M : QM} {st : List CV} {L : QL} {l0 l1 l2 l3 : Option CV} {z : Int} : Rr C mJx4a65c_clear_da8c8 (36, [l0, l1, l2, some (qi z)], st, M) x = Rr C mJx4a65c_clear_da8c8 (39, [l0, l1, q_cut l2, some (qi (z + 1))], st, M) x := g_pl (show decode cJx4a65c_clear_da8c8 36 = .ok (.iinc 3 1, 3) by decide +kernel) rfl
set_option maxRecDepth 20000 in
theorem kJx4a65c_clear_da8c8_39 {C : QC} {x : QP} {M : QM} {st : List CV} {L : QL} : Rr C mJx4a65c_clear_da8c8 (39, L, st, M) x = Rr C mJx4a65c_clear_da8c8 (27, L, st, M) x := g_pl (show decode cJx4a65c_clear_da8c8 39 = .ok (.goto (-12), 3) by decide +kernel) rfl
set_option maxRecDepth 20000 in
theorem kJx4a65c_clear_da8c8_42 {C : QC} {x : QP} {M : QM} {st : List CV} {L : QL} : Rr C mJx4a65c_clear_da8c8 (42, L, [], M) x = x none M := g_vret (show decode cJx4a65c_clear_da8c8 42 = .ok (.return_, 1) by decide +kernel)
set_option maxRecDepth 20000 in
theorem eJx4a65c_clear_da8c8 {d : Nat} {M : QM} {x : QP} {a : Nat} : q_T (d + 1) iJx4a65c_clear_da8c8 [qr a] M x = Rr (q_C d) mJx4a65c_clear_da8c8 (0, [some (qr a), none, none, none], [], M) x := g_entryT (e := _) rfl (Nat.le_of_ble_eq_true rfl) rfl rfl
def mJ7_copyOf_1904c : QI := (18, cJ7_copyOf_1904c, false, some (.array (.object "java/lang/Object")))
set_option maxRecDepth 20000 in
theorem kJ7_copyOf_1904c_0 {C : QC} {x : QP} {M : QM} {st : List CV} {L : QL} {l0 l1 : Option CV} {r : Option Nat} : Rr C mJ7_copyOf_1904c (0, [some (.inr (.inr r)), l1], st, M) x = Rr C mJ7_copyOf_1904c (1, [some (.inr (.inr r)), l1], .inr (.inr r) :: st, M) x := g_pl (show decode cJ7_copyOf_1904c 0 = .ok (.aload_n 0, 1) by decide +kernel) rfl
set_option maxRecDepth 20000 in
theorem kJ7_copyOf_1904c_1 {C : QC} {x : QP} {M : QM} {st : List CV} {L : QL} {l0 l1 : Option CV} {z : Int} : Rr C mJ7_copyOf_1904c (1, [l0, some (qi z)], st, M) x = Rr C mJ7_copyOf_1904c (2, [l0, some (qi z)], qi z :: st, M) x := g_pl (show decode cJ7_copyOf_1904c 1 = .ok (.iload_n 1, 1) by decide +kernel) rfl
set_option maxRecDepth 20000 in
theorem kJ7_copyOf_1904c_2 {C : QC} {x : QP} {M : QM} {st : List CV} {L : QL} {l0 l1 : Option CV} {r : Option Nat} : Rr C mJ7_copyOf_1904c (2, [some (.inr (.inr r)), l1], st, M) x = Rr C mJ7_copyOf_1904c (3, [some (.inr (.inr r)), l1], .inr (.inr r) :: st, M) x := g_pl (show decode cJ7_copyOf_1904c 2 = .ok (.aload_n 0, 1) by decide +kernel) rfl
set_option maxRecDepth 20000 in
theorem kJ7_copyOf_1904c_3 {C : QC} {x : QP} {M : QM} {st : List CV} {L : QL} {a : Nat} (hk : (q_kd M a).1 = 5) (hw : (st.map q_wd).sum ≤ 8) : Rr C mJ7_copyOf_1904c (3, L, qr a :: st, M) x = Rr C mJ7_copyOf_1904c (6, L, qr (q_gs M 6) :: st, M) x := g_gcls (ow := 18) (e := 596) (show decode cJ7_copyOf_1904c 3 = .ok (.invokevirtual 86, 3) by decide +kernel) rfl hk hw
set_option maxRecDepth 20000 in
theorem kJ7_copyOf_1904c_6 {C : QC} {x : QP} {M : QM} {L : QL} {rest : List CV} {a0 a1 a2 : CV} {v : CV} {M1 : QM} (hC : C iJ7_copyOf_6403c [a0, a1, a2] M (some v) M1) (hw : (rest.map q_wd).sum ≤ 8) (k : Rr C mJ7_copyOf_1904c (9, L, v :: rest, M1) x) : Rr C mJ7_copyOf_1904c (6, L, a2 :: a1 :: a0 :: rest, M) x := g_cs (ow := 18) (e := (1, 52, 0, [614, 615, 101])) (as := [a0, a1, a2]) (show decode cJ7_copyOf_1904c 6 = .ok (.invokestatic 300, 3) by decide +kernel) rfl rfl rfl rfl (Or.inl rfl) rfl hC hw k
set_option maxRecDepth 20000 in
theorem kJ7_copyOf_1904c_9 {C : QC} {x : QP} {M : QM} {st : List CV} {L : QL} {r : Option Nat} : Rr C mJ7_copyOf_1904c (9, L, [.inr (.inr r)], M) x = x (some (.inr (.inr r))) M := g_areta (show decode cJ7_copyOf_1904c 9 = .ok (.areturn, 1) by decide +kernel)
set_option maxRecDepth 20000 in
theorem eJ7_copyOf_1904c {d : Nat} {M : QM} {x : QP} {v0 : Option Nat} {v1 : Int} : q_T (d + 1) iJ7_copyOf_1904c [.inr (.inr v0), qi v1] M x = Rr (q_C d) mJ7_copyOf_1904c (0, [some (.inr (.inr v0)), some (qi v1)], [], M) x := g_entryT (e := _) rfl (Nat.le_of_ble_eq_true rfl) rfl rfl
def mJ7_copyOf_6403c : QI := (18, cJ7_copyOf_6403c, false, some (.array (.object "java/lang/Object")))
set_option maxRecDepth 20000 in
theorem kJ7_copyOf_6403c_0 {C : QC} {x : QP} {M : QM} {st : List CV} {L : QL} {l0 l1 l2 l3 : Option CV} {r : Option Nat} : Rr C mJ7_copyOf_6403c (0, [l0, l1, some (.inr (.inr r)), l3], st, M) x = Rr C mJ7_copyOf_6403c (1, [l0, l1, some (.inr (.inr r)), l3], .inr (.inr r) :: st, M) x := g_pl (show decode cJ7_copyOf_6403c 0 = .ok (.aload_n 2, 1) by decide +kernel) rfl
set_option maxRecDepth 20000 in
theorem kJ7_copyOf_6403c_1 {C : QC} {x : QP} {M : QM} {st : List CV} {L : QL} : Rr C mJ7_copyOf_6403c (1, L, st, M) x = Rr C mJ7_copyOf_6403c (3, L, qr (q_gs M 6) :: st, M) x := g_cldc (ow := 18) (e := 617) (show decode cJ7_copyOf_6403c 1 = .ok (.ldc 110, 2) by decide +kernel) rfl rfl rfl
set_option maxRecDepth 20000 in
theorem kJ7_copyOf_6403c_3 {C : QC} {x : QP} {M : QM} {st : List CV} {L : QL} {a b : Option Nat} : Rr C mJ7_copyOf_6403c (3, L, .inr (.inr b) :: .inr (.inr a) :: st, M) x = (if a = b then Rr C mJ7_copyOf_6403c (6, L, st, M) x else Rr C mJ7_copyOf_6403c (13, L, st, M) x) := g_acmpN (show decode cJ7_copyOf_6403c 3 = .ok (.if_acmp .ne 10, 3) by decide +kernel) rfl
set_option maxRecDepth 20000 in
theorem kJ7_copyOf_6403c_6 {C : QC} {x : QP} {M : QM} {st : List CV} {L : QL} {l0 l1 l2 l3 : Option CV} {z : Int} : Rr C mJ7_copyOf_6403c (6, [l0, some (qi z), l2, l3], st, M) x = Rr C mJ7_copyOf_6403c (7, [l0, some (qi z), l2, l3], qi z :: st, M) x := g_pl (show decode cJ7_copyOf_6403c 6 = .ok (.iload_n 1, 1) by decide +kernel) rfl
set_option maxRecDepth 20000 in
theorem kJ7_copyOf_6403c_7 {C : QC} {x : QP} {M : QM} {st : List CV} {L : QL} {n : Int} (h0 : 0 ≤ n) (h1 : n ≤ 60000000) : Rr C mJ7_copyOf_6403c (7, L, qi n :: st, M) x = Rr C mJ7_copyOf_6403c (10, L, qr (q_top M) :: st, q_al M (5, n.toNat) n.toNat (fun _ => qn)) x := g_anew (ow := 18) (e := (5, 619)) (show decode cJ7_copyOf_6403c 7 = .ok (.anewarray 2, 3) by decide +kernel) rfl (Or.inl rfl) h0 h1
set_option maxRecDepth 20000 in
theorem kJ7_copyOf_6403c_10 {C : QC} {x : QP} {M : QM} {st : List CV} {L : QL} : Rr C mJ7_copyOf_6403c (10, L, st, M) x = Rr C mJ7_copyOf_6403c (24, L, st, M) x := g_pl (show decode cJ7_copyOf_6403c 10 = .ok (.goto 14, 3) by decide +kernel) rfl
set_option maxRecDepth 20000 in
theorem kJ7_copyOf_6403c_13 {C : QC} {x : QP} {M : QM} {st : List CV} {L : QL} {l0 l1 l2 l3 : Option CV} {r : Option Nat} : Rr C mJ7_copyOf_6403c (13, [l0, l1, some (.inr (.inr r)), l3], st, M) x = Rr C mJ7_copyOf_6403c (14, [l0, l1, some (.inr (.inr r)), l3], .inr (.inr r) :: st, M) x := g_pl (show decode cJ7_copyOf_6403c 13 = .ok (.aload_n 2, 1) by decide +kernel) rfl
set_option maxRecDepth 20000 in
theorem kJ7_copyOf_6403c_17 {C : QC} {x : QP} {M : QM} {st : List CV} {L : QL} {l0 l1 l2 l3 : Option CV} {z : Int} : Rr C mJ7_copyOf_6403c (17, [l0, some (qi z), l2, l3], st, M) x = Rr C mJ7_copyOf_6403c (18, [l0, some (qi z), l2, l3], qi z :: st, M) x := g_pl (show decode cJ7_copyOf_6403c 17 = .ok (.iload_n 1, 1) by decide +kernel) rfl
set_option maxRecDepth 20000 in
theorem kJ7_copyOf_6403c_21n {C : QC} {x : QP} {M : QM} {st : List CV} {L : QL} : Rr C mJ7_copyOf_6403c (21, L, qn :: st, M) x = Rr C mJ7_copyOf_6403c (24, L, qn :: st, M) x := g_castN (show decode cJ7_copyOf_6403c 21 = .ok (.checkcast 110, 3) by decide +kernel)
set_option maxRecDepth 20000 in
theorem kJ7_copyOf_6403c_24 {C : QC} {x : QP} {M : QM} {st : List CV} {L : QL} {l0 l1 l2 l3 : Option CV} {z : Option Nat} : Rr C mJ7_copyOf_6403c (24, [l0, l1, l2, l3], .inr (.inr z) :: st, M) x = Rr C mJ7_copyOf_6403c (25, [l0, l1, q_cut l2, some (.inr (.inr z))], st, M) x := g_pl (show decode cJ7_copyOf_6403c 24 = .ok (.astore_n 3, 1) by decide +kernel) rfl
set_option maxRecDepth 20000 in
theorem kJ7_copyOf_6403c_25 {C : QC} {x : QP} {M : QM} {st : List CV} {L : QL} {l0 l1 l2 l3 : Option CV} {r : Option Nat} : Rr C mJ7_copyOf_6403c (25, [some (.inr (.inr r)), l1, l2, l3], st, M) x = Rr C mJ7_copyOf_6403c (26, [some (.inr (.inr r)), l1, l2, l3], .inr (.inr r) :: st, M) x := g_pl (show decode cJ7_copyOf_6403c 25 = .ok (.aload_n 0, 1) by decide +kernel) rfl
set_option maxRecDepth 20000 in
theorem kJ7_copyOf_6403c_26 {C : QC} {x : QP} {M : QM} {st : List CV} {L : QL} : Rr C mJ7_copyOf_6403c (26, L, st, M) x = Rr C mJ7_copyOf_6403c (27, L, qi 0 :: st, M) x := g_pl (show decode cJ7_copyOf_6403c 26 = .ok (.iconst 0, 1) by decide +kernel) rfl
set_option maxRecDepth 20000 in
theorem kJ7_copyOf_6403c_27 {C : QC} {x : QP} {M : QM} {st : List CV} {L : QL} {l0 l1 l2 l3 : Option CV} {r : Option Nat} : Rr C mJ7_copyOf_6403c (27, [l0, l1, l2, some (.inr (.inr r))], st, M) x = Rr C mJ7_copyOf_6403c (28, [l0, l1, l2, some (.inr (.inr r))], .inr (.inr r) :: st, M) x := g_pl (show decode cJ7_copyOf_6403c 27 = .ok (.aload_n 3, 1) by decide +kernel) rfl
set_option maxRecDepth 20000 in
theorem kJ7_copyOf_6403c_28 {C : QC} {x : QP} {M : QM} {st : List CV} {L : QL} : Rr C mJ7_copyOf_6403c (28, L, st, M) x = Rr C mJ7_copyOf_6403c (29, L, qi 0 :: st, M) x := g_pl (show decode cJ7_copyOf_6403c 28 = .ok (.iconst 0, 1) by decide +kernel) rfl
set_option maxRecDepth 20000 in
theorem kJ7_copyOf_6403c_29 {C : QC} {x : QP} {M : QM} {st : List CV} {L : QL} {l0 l1 l2 l3 : Option CV} {r : Option Nat} : Rr C mJ7_copyOf_6403c (29, [some (.inr (.inr r)), l1, l2, l3], st, M) x = Rr C mJ7_copyOf_6403c (30, [some (.inr (.inr r)), l1, l2, l3], .inr (.inr r) :: st, M) x := g_pl (show decode cJ7_copyOf_6403c 29 = .ok (.aload_n 0, 1) by decide +kernel) rfl
set_option maxRecDepth 20000 in
theorem kJ7_copyOf_6403c_30 {C : QC} {x : QP} {M : QM} {st : List CV} {L : QL} {a : Nat} (h1 : 2 ≤ (q_kd M a).1) (h2 : (q_kd M a).1 ≤ 9) : Rr C mJ7_copyOf_6403c (30, L, qr a :: st, M) x = Rr C mJ7_copyOf_6403c (31, L, qi (q_kd M a).2 :: st, M) x := g_alen (show decode cJ7_copyOf_6403c 30 = .ok (.arraylength, 1) by decide +kernel) h1 h2
set_option maxRecDepth 20000 in
theorem kJ7_copyOf_6403c_31 {C : QC} {x : QP} {M : QM} {st : List CV} {L : QL} {l0 l1 l2 l3 : Option CV} {z : Int} : Rr C mJ7_copyOf_6403c (31, [l0, some (qi z), l2, l3], st, M) x = Rr C mJ7_copyOf_6403c (32, [l0, some (qi z), l2, l3], qi z :: st, M) x := g_pl (show decode cJ7_copyOf_6403c 31 = .ok (.iload_n 1, 1) by decide +kernel) rfl
set_option maxRecDepth 20000 in
theorem kJ7_copyOf_6403c_32 {C : QC} {x : QP} {M : QM} {st : List CV} {L : QL} {a b : Int} (ha1 : -2147483648 ≤ a) (ha2 : a < 2147483648) (hb1 : -2147483648 ≤ b) (hb2 : b < 2147483648) (hw : (st.map q_wd).sum ≤ 8) : Rr C mJ7_copyOf_6403c (32, L, qi b :: qi a :: st, M) x = Rr C mJ7_copyOf_6403c (35, L, qi (min a b) :: st, M) x := g_mx (ow := 18) (e := (1, 620)) (show decode cJ7_copyOf_6403c 32 = .ok (.invokestatic 304, 3) by decide +kernel) rfl rfl ha1 ha2 hb1 hb2 hw
set_option maxRecDepth 20000 in
theorem kJ7_copyOf_6403c_35 {C : QC} {x : QP} {M : QM} {st : List CV} {L : QL} {a0 a : Nat} {sp dp n : Int} (hk : q_acc M a0 a sp dp n = true) (hw : (st.map q_wd).sum ≤ 8) : Rr C mJ7_copyOf_6403c (35, L, qi n :: qi dp :: qr a :: qi sp :: qr a0 :: st, M) x = Rr C mJ7_copyOf_6403c (38, L, st, q_cp M a0 sp.toNat a dp.toNat n.toNat) x := g_copy (ow := 18) (e := 621) (show decode cJ7_copyOf_6403c 35 = .ok (.invokestatic 150, 3) by decide +kernel) rfl hk hw
set_option maxRecDepth 20000 in
theorem kJ7_copyOf_6403c_38 {C : QC} {x : QP} {M : QM} {st : List CV} {L : QL} {l0 l1 l2 l3 : Option CV} {r : Option Nat} : Rr C mJ7_copyOf_6403c (38, [l0, l1, l2, some (.inr (.inr r))], st, M) x = Rr C mJ7_copyOf_6403c (39, [l0, l1, l2, some (.inr (.inr r))], .inr (.inr r) :: st, M) x := g_pl (show decode cJ7_copyOf_6403c 38 = .ok (.aload_n 3, 1) by decide +kernel) rfl
set_option maxRecDepth 20000 in
theorem kJ7_copyOf_6403c_39 {C : QC} {x : QP} {M : QM} {st : List CV} {L : QL} {r : Option Nat} : Rr C mJ7_copyOf_6403c (39, L, [.inr (.inr r)], M) x = x (some (.inr (.inr r))) M := g_areta (show decode cJ7_copyOf_6403c 39 = .ok (.areturn, 1) by decide +kernel)
set_option maxRecDepth 20000 in
theorem eJ7_copyOf_6403c {d : Nat} {M : QM} {x : QP} {v0 : Option Nat} {v1 : Int} {v2 : Option Nat} : q_T (d + 1) iJ7_copyOf_6403c [.inr (.inr v0), qi v1, .inr (.inr v2)] M x = Rr (q_C d) mJ7_copyOf_6403c (0, [some (.inr (.inr v0)), some (qi v1), some (.inr (.inr v2)), none], [], M) x := g_entryT (e := _) rfl (Nat.le_of_ble_eq_true rfl) rfl rfl
def mJ7_copyOf_9075b : QI := (18, cJ7_copyOf_9075b, false, some (.array (.byte)))
set_option maxRecDepth 20000 in
theorem kJ7_copyOf_9075b_0 {C : QC} {x : QP} {M : QM} {st : List CV} {L : QL} {l0 l1 l2 : Option CV} {z : Int} : Rr C mJ7_copyOf_9075b (0, [l0, some (qi z), l2], st, M) x = Rr C mJ7_copyOf_9075b (1, [l0, some (qi z), l2], qi z :: st, M) x := g_pl (show decode cJ7_copyOf_9075b 0 = .ok (.iload_n 1, 1) by decide +kernel) rfl
set_option maxRecDepth 20000 in
theorem kJ7_copyOf_9075b_1 {C : QC} {x : QP} {M : QM} {st : List CV} {L : QL} {l0 l1 l2 : Option CV} {r : Option Nat} : Rr C mJ7_copyOf_9075b (1, [some (.inr (.inr r)), l1, l2], st, M) x = Rr C mJ7_copyOf_9075b (2, [some (.inr (.inr r)), l1, l2], .inr (.inr r) :: st, M) x := g_pl (show decode cJ7_copyOf_9075b 1 = .ok (.aload_n 0, 1) by decide +kernel) rfl
set_option maxRecDepth 20000 in
theorem kJ7_copyOf_9075b_2 {C : QC} {x : QP} {M : QM} {st : List CV} {L : QL} {a : Nat} (h1 : 2 ≤ (q_kd M a).1) (h2 : (q_kd M a).1 ≤ 9) : Rr C mJ7_copyOf_9075b (2, L, qr a :: st, M) x = Rr C mJ7_copyOf_9075b (3, L, qi (q_kd M a).2 :: st, M) x := g_alen (show decode cJ7_copyOf_9075b 2 = .ok (.arraylength, 1) by decide +kernel) h1 h2
set_option maxRecDepth 20000 in
theorem kJ7_copyOf_9075b_3 {C : QC} {x : QP} {M : QM} {st : List CV} {L : QL} {a b : Int} (ha1 : -2147483648 ≤ a) (ha2 : a < 2147483648) (hb1 : -2147483648 ≤ b) (hb2 : b < 2147483648) : Rr C mJ7_copyOf_9075b (3, L, qi b :: qi a :: st, M) x = (if a = b then Rr C mJ7_copyOf_9075b (6, L, st, M) x else Rr C mJ7_copyOf_9075b (14, L, st, M) x) := (g_icmp (show decode cJ7_copyOf_9075b 3 = .ok (.if_icmp .ne 11, 3) by decide +kernel) rfl ha1 ha2 hb1 hb2).trans (g_itn c_ne)
set_option maxRecDepth 20000 in
theorem kJ7_copyOf_9075b_6 {C : QC} {x : QP} {M : QM} {st : List CV} {L : QL} {l0 l1 l2 : Option CV} {r : Option Nat} : Rr C mJ7_copyOf_9075b (6, [some (.inr (.inr r)), l1, l2], st, M) x = Rr C mJ7_copyOf_9075b (7, [some (.inr (.inr r)), l1, l2], .inr (.inr r) :: st, M) x := g_pl (show decode cJ7_copyOf_9075b 6 = .ok (.aload_n 0, 1) by decide +kernel) rfl
set_option maxRecDepth 20000 in
theorem kJ7_copyOf_9075b_10n {C : QC} {x : QP} {M : QM} {st : List CV} {L : QL} : Rr C mJ7_copyOf_9075b (10, L, qn :: st, M) x = Rr C mJ7_copyOf_9075b (13, L, qn :: st, M) x := g_castN (show decode cJ7_copyOf_9075b 10 = .ok (.checkcast 311, 3) by decide +kernel)
set_option maxRecDepth 20000 in
theorem kJ7_copyOf_9075b_13 {C : QC} {x : QP} {M : QM} {st : List CV} {L : QL} {r : Option Nat} : Rr C mJ7_copyOf_9075b (13, L, [.inr (.inr r)], M) x = x (some (.inr (.inr r))) M := g_areta (show decode cJ7_copyOf_9075b 13 = .ok (.areturn, 1) by decide +kernel)
set_option maxRecDepth 20000 in
theorem kJ7_copyOf_9075b_14 {C : QC} {x : QP} {M : QM} {st : List CV} {L : QL} {l0 l1 l2 : Option CV} {z : Int} : Rr C mJ7_copyOf_9075b (14, [l0, some (qi z), l2], st, M) x = Rr C mJ7_copyOf_9075b (15, [l0, some (qi z), l2], qi z :: st, M) x := g_pl (show decode cJ7_copyOf_9075b 14 = .ok (.iload_n 1, 1) by decide +kernel) rfl
set_option maxRecDepth 20000 in
theorem kJ7_copyOf_9075b_15 {C : QC} {x : QP} {M : QM} {st : List CV} {L : QL} {n : Int} (h0 : 0 ≤ n) (h1 : n ≤ 60000000) : Rr C mJ7_copyOf_9075b (15, L, qi n :: st, M) x = Rr C mJ7_copyOf_9075b (17, L, qr (q_top M) :: st, q_al M (4, n.toNat) n.toNat (fun _ => qi 0)) x := g_newB (show decode cJ7_copyOf_9075b 15 = .ok (.newarray .byte, 2) by decide +kernel) h0 h1
set_option maxRecDepth 20000 in
theorem kJ7_copyOf_9075b_17 {C : QC} {x : QP} {M : QM} {st : List CV} {L : QL} {l0 l1 l2 : Option CV} {z : Option Nat} : Rr C mJ7_copyOf_9075b (17, [l0, l1, l2], .inr (.inr z) :: st, M) x = Rr C mJ7_copyOf_9075b (18, [l0, q_cut l1, some (.inr (.inr z))], st, M) x := g_pl (show decode cJ7_copyOf_9075b 17 = .ok (.astore_n 2, 1) by decide +kernel) rfl
set_option maxRecDepth 20000 in
theorem kJ7_copyOf_9075b_18 {C : QC} {x : QP} {M : QM} {st : List CV} {L : QL} {l0 l1 l2 : Option CV} {r : Option Nat} : Rr C mJ7_copyOf_9075b (18, [some (.inr (.inr r)), l1, l2], st, M) x = Rr C mJ7_copyOf_9075b (19, [some (.inr (.inr r)), l1, l2], .inr (.inr r) :: st, M) x := g_pl (show decode cJ7_copyOf_9075b 18 = .ok (.aload_n 0, 1) by decide +kernel) rfl
set_option maxRecDepth 20000 in
theorem kJ7_copyOf_9075b_19 {C : QC} {x : QP} {M : QM} {st : List CV} {L : QL} : Rr C mJ7_copyOf_9075b (19, L, st, M) x = Rr C mJ7_copyOf_9075b (20, L, qi 0 :: st, M) x := g_pl (show decode cJ7_copyOf_9075b 19 = .ok (.iconst 0, 1) by decide +kernel) rfl
set_option maxRecDepth 20000 in
theorem kJ7_copyOf_9075b_20 {C : QC} {x : QP} {M : QM} {st : List CV} {L : QL} {l0 l1 l2 : Option CV} {r : Option Nat} : Rr C mJ7_copyOf_9075b (20, [l0, l1, some (.inr (.inr r))], st, M) x = Rr C mJ7_copyOf_9075b (21, [l0, l1, some (.inr (.inr r))], .inr (.inr r) :: st, M) x := g_pl (show decode cJ7_copyOf_9075b 20 = .ok (.aload_n 2, 1) by decide +kernel) rfl
set_option maxRecDepth 20000 in
theorem kJ7_copyOf_9075b_21 {C : QC} {x : QP} {M : QM} {st : List CV} {L : QL} : Rr C mJ7_copyOf_9075b (21, L, st, M) x = Rr C mJ7_copyOf_9075b (22, L, qi 0 :: st, M) x := g_pl (show decode cJ7_copyOf_9075b 21 = .ok (.iconst 0, 1) by decide +kernel) rfl
set_option maxRecDepth 20000 in
theorem kJ7_copyOf_9075b_22 {C : QC} {x : QP} {M : QM} {st : List CV} {L : QL} {l0 l1 l2 : Option CV} {r : Option Nat} : Rr C mJ7_copyOf_9075b (22, [some (.inr (.inr r)), l1, l2], st, M) x = Rr C mJ7_copyOf_9075b (23, [some (.inr (.inr r)), l1, l2], .inr (.inr r) :: st, M) x := g_pl (show decode cJ7_copyOf_9075b 22 = .ok (.aload_n 0, 1) by decide +kernel) rfl
set_option maxRecDepth 20000 in
theorem kJ7_copyOf_9075b_23 {C : QC} {x : QP} {M : QM} {st : List CV} {L : QL} {a : Nat} (h1 : 2 ≤ (q_kd M a).1) (h2 : (q_kd M a).1 ≤ 9) : Rr C mJ7_copyOf_9075b (23, L, qr a :: st, M) x = Rr C mJ7_copyOf_9075b (24, L, qi (q_kd M a).2 :: st, M) x := g_alen (show decode cJ7_copyOf_9075b 23 = .ok (.arraylength, 1) by decide +kernel) h1 h2
set_option maxRecDepth 20000 in
theorem kJ7_copyOf_9075b_24 {C : QC} {x : QP} {M : QM} {st : List CV} {L : QL} {l0 l1 l2 : Option CV} {z : Int} : Rr C mJ7_copyOf_9075b (24, [l0, some (qi z), l2], st, M) x = Rr C mJ7_copyOf_9075b (25, [l0, some (qi z), l2], qi z :: st, M) x := g_pl (show decode cJ7_copyOf_9075b 24 = .ok (.iload_n 1, 1) by decide +kernel) rfl
set_option maxRecDepth 20000 in
theorem kJ7_copyOf_9075b_25 {C : QC} {x : QP} {M : QM} {st : List CV} {L : QL} {a b : Int} (ha1 : -2147483648 ≤ a) (ha2 : a < 2147483648) (hb1 : -2147483648 ≤ b) (hb2 : b < 2147483648) (hw : (st.map q_wd).sum ≤ 8) : Rr C mJ7_copyOf_9075b (25, L, qi b :: qi a :: st, M) x = Rr C mJ7_copyOf_9075b (28, L, qi (min a b) :: st, M) x := g_mx (ow := 18) (e := (1, 620)) (show decode cJ7_copyOf_9075b 25 = .ok (.invokestatic 304, 3) by decide +kernel) rfl rfl ha1 ha2 hb1 hb2 hw
set_option maxRecDepth 20000 in
theorem kJ7_copyOf_9075b_28 {C : QC} {x : QP} {M : QM} {st : List CV} {L : QL} {a0 a : Nat} {sp dp n : Int} (hk : q_acc M a0 a sp dp n = true) (hw : (st.map q_wd).sum ≤ 8) : Rr C mJ7_copyOf_9075b (28, L, qi n :: qi dp :: qr a :: qi sp :: qr a0 :: st, M) x = Rr C mJ7_copyOf_9075b (31, L, st, q_cp M a0 sp.toNat a dp.toNat n.toNat) x := g_copy (ow := 18) (e := 621) (show decode cJ7_copyOf_9075b 28 = .ok (.invokestatic 150, 3) by decide +kernel) rfl hk hw
set_option maxRecDepth 20000 in
theorem kJ7_copyOf_9075b_31 {C : QC} {x : QP} {M : QM} {st : List CV} {L : QL} {l0 l1 l2 : Option CV} {r : Option Nat} : Rr C mJ7_copyOf_9075b (31, [l0, l1, some (.inr (.inr r))], st, M) x = Rr C mJ7_copyOf_9075b (32, [l0, l1, some (.inr (.inr r))], .inr (.inr r) :: st, M) x := g_pl (show decode cJ7_copyOf_9075b 31 = .ok (.aload_n 2, 1) by decide +kernel) rfl
set_option maxRecDepth 20000 in
theorem kJ7_copyOf_9075b_32 {C : QC} {x : QP} {M : QM} {st : List CV} {L : QL} {r : Option Nat} : Rr C mJ7_copyOf_9075b (32, L, [.inr (.inr r)], M) x = x (some (.inr (.inr r))) M := g_areta (show decode cJ7_copyOf_9075b 32 = .ok (.areturn, 1) by decide +kernel)
set_option maxRecDepth 20000 in
theorem eJ7_copyOf_9075b {d : Nat} {M : QM} {x : QP} {v0 : Option Nat} {v1 : Int} : q_T (d + 1) iJ7_copyOf_9075b [.inr (.inr v0), qi v1] M x = Rr (q_C d) mJ7_copyOf_9075b (0, [some (.inr (.inr v0)), some (qi v1), none], [], M) x := g_entryT (e := _) rfl (Nat.le_of_ble_eq_true rfl) rfl rfl
def mJ7_copyOf_59c91 : QI := (18, cJ7_copyOf_59c91, false, some (.array (.int)))
set_option maxRecDepth 20000 in
theorem kJ7_copyOf_59c91_0 {C : QC} {x : QP} {M : QM} {st : List CV} {L : QL} {l0 l1 l2 : Option CV} {z : Int} : Rr C mJ7_copyOf_59c91 (0, [l0, some (qi z), l2], st, M) x = Rr C mJ7_copyOf_59c91 (1, [l0, some (qi z), l2], qi z :: st, M) x := g_pl (show decode cJ7_copyOf_59c91 0 = .ok (.iload_n 1, 1) by decide +kernel) rfl
set_option maxRecDepth 20000 in
theorem kJ7_copyOf_59c91_1 {C : QC} {x : QP} {M : QM} {st : List CV} {L : QL} {l0 l1 l2 : Option CV} {r : Option Nat} : Rr C mJ7_copyOf_59c91 (1, [some (.inr (.inr r)), l1, l2], st, M) x = Rr C mJ7_copyOf_59c91 (2, [some (.inr (.inr r)), l1, l2], .inr (.inr r) :: st, M) x := g_pl (show decode cJ7_copyOf_59c91 1 = .ok (.aload_n 0, 1) by decide +kernel) rfl
set_option maxRecDepth 20000 in
theorem kJ7_copyOf_59c91_2 {C : QC} {x : QP} {M : QM} {st : List CV} {L : QL} {a : Nat} (h1 : 2 ≤ (q_kd M a).1) (h2 : (q_kd M a).1 ≤ 9) : Rr C mJ7_copyOf_59c91 (2, L, qr a :: st, M) x = Rr C mJ7_copyOf_59c91 (3, L, qi (q_kd M a).2 :: st, M) x := g_alen (show decode cJ7_copyOf_59c91 2 = .ok (.arraylength, 1) by decide +kernel) h1 h2
set_option maxRecDepth 20000 in
theorem kJ7_copyOf_59c91_3 {C : QC} {x : QP} {M : QM} {st : List CV} {L : QL} {a b : Int} (ha1 : -2147483648 ≤ a) (ha2 : a < 2147483648) (hb1 : -2147483648 ≤ b) (hb2 : b < 2147483648) : Rr C mJ7_copyOf_59c91 (3, L, qi b :: qi a :: st, M) x = (if a = b then Rr C mJ7_copyOf_59c91 (6, L, st, M) x else Rr C mJ7_copyOf_59c91 (14, L, st, M) x) := (g_icmp (show decode cJ7_copyOf_59c91 3 = .ok (.if_icmp .ne 11, 3) by decide +kernel) rfl ha1 ha2 hb1 hb2).trans (g_itn c_ne)
set_option maxRecDepth 20000 in
theorem kJ7_copyOf_59c91_6 {C : QC} {x : QP} {M : QM} {st : List CV} {L : QL} {l0 l1 l2 : Option CV} {r : Option Nat} : Rr C mJ7_copyOf_59c91 (6, [some (.inr (.inr r)), l1, l2], st, M) x = Rr C mJ7_copyOf_59c91 (7, [some (.inr (.inr r)), l1, l2], .inr (.inr r) :: st, M) x := g_pl (show decode cJ7_copyOf_59c91 6 = .ok (.aload_n 0, 1) by decide +kernel) rfl
set_option maxRecDepth 20000 in
theorem kJ7_copyOf_59c91_10n {C : QC} {x : QP} {M : QM} {st : List CV} {L : QL} : Rr C mJ7_copyOf_59c91 (10, L, qn :: st, M) x = Rr C mJ7_copyOf_59c91 (13, L, qn :: st, M) x := g_castN (show decode cJ7_copyOf_59c91 10 = .ok (.checkcast 317, 3) by decide +kernel)
set_option maxRecDepth 20000 in
theorem kJ7_copyOf_59c91_13 {C : QC} {x : QP} {M : QM} {st : List CV} {L : QL} {r : Option Nat} : Rr C mJ7_copyOf_59c91 (13, L, [.inr (.inr r)], M) x = x (some (.inr (.inr r))) M := g_areta (show decode cJ7_copyOf_59c91 13 = .ok (.areturn, 1) by decide +kernel)
set_option maxRecDepth 20000 in
theorem kJ7_copyOf_59c91_14 {C : QC} {x : QP} {M : QM} {st : List CV} {L : QL} {l0 l1 l2 : Option CV} {z : Int} : Rr C mJ7_copyOf_59c91 (14, [l0, some (qi z), l2], st, M) x = Rr C mJ7_copyOf_59c91 (15, [l0, some (qi z), l2], qi z :: st, M) x := g_pl (show decode cJ7_copyOf_59c91 14 = .ok (.iload_n 1, 1) by decide +kernel) rfl
set_option maxRecDepth 20000 in
theorem kJ7_copyOf_59c91_15 {C : QC} {x : QP} {M : QM} {st : List CV} {L : QL} {n : Int} (h0 : 0 ≤ n) (h1 : n ≤ 60000000) : Rr C mJ7_copyOf_59c91 (15, L, qi n :: st, M) x = Rr C mJ7_copyOf_59c91 (17, L, qr (q_top M) :: st, q_al M (2, n.toNat) n.toNat (fun _ => qi 0)) x := g_newI (show decode cJ7_copyOf_59c91 15 = .ok (.newarray .int, 2) by decide +kernel) h0 h1
set_option maxRecDepth 20000 in
theorem kJ7_copyOf_59c91_17 {C : QC} {x : QP} {M : QM} {st : List CV} {L : QL} {l0 l1 l2 : Option CV} {z : Option Nat} : Rr C mJ7_copyOf_59c91 (17, [l0, l1, l2], .inr (.inr z) :: st, M) x = Rr C mJ7_copyOf_59c91 (18, [l0, q_cut l1, some (.inr (.inr z))], st, M) x := g_pl (show decode cJ7_copyOf_59c91 17 = .ok (.astore_n 2, 1) by decide +kernel) rfl
set_option maxRecDepth 20000 in
theorem kJ7_copyOf_59c91_18 {C : QC} {x : QP} {M : QM} {st : List CV} {L : QL} {l0 l1 l2 : Option CV} {r : Option Nat} : Rr C mJ7_copyOf_59c91 (18, [some (.inr (.inr r)), l1, l2], st, M) x = Rr C mJ7_copyOf_59c91 (19, [some (.inr (.inr r)), l1, l2], .inr (.inr r) :: st, M) x := g_pl (show decode cJ7_copyOf_59c91 18 = .ok (.aload_n 0, 1) by decide +kernel) rfl
set_option maxRecDepth 20000 in
theorem kJ7_copyOf_59c91_19 {C : QC} {x : QP} {M : QM} {st : List CV} {L : QL} : Rr C mJ7_copyOf_59c91 (19, L, st, M) x = Rr C mJ7_copyOf_59c91 (20, L, qi 0 :: st, M) x := g_pl (show decode cJ7_copyOf_59c91 19 = .ok (.iconst 0, 1) by decide +kernel) rfl
set_option maxRecDepth 20000 in
theorem kJ7_copyOf_59c91_20 {C : QC} {x : QP} {M : QM} {st : List CV} {L : QL} {l0 l1 l2 : Option CV} {r : Option Nat} : Rr C mJ7_copyOf_59c91 (20, [l0, l1, some (.inr (.inr r))], st, M) x = Rr C mJ7_copyOf_59c91 (21, [l0, l1, some (.inr (.inr r))], .inr (.inr r) :: st, M) x := g_pl (show decode cJ7_copyOf_59c91 20 = .ok (.aload_n 2, 1) by decide +kernel) rfl
set_option maxRecDepth 20000 in
theorem kJ7_copyOf_59c91_21 {C : QC} {x : QP} {M : QM} {st : List CV} {L : QL} : Rr C mJ7_copyOf_59c91 (21, L, st, M) x = Rr C mJ7_copyOf_59c91 (22, L, qi 0 :: st, M) x := g_pl (show decode cJ7_copyOf_59c91 21 = .ok (.iconst 0, 1) by decide +kernel) rfl
set_option maxRecDepth 20000 in
theorem kJ7_copyOf_59c91_22 {C : QC} {x : QP} {M : QM} {st : List CV} {L : QL} {l0 l1 l2 : Option CV} {r : Option Nat} : Rr C mJ7_copyOf_59c91 (22, [some (.inr (.inr r)), l1, l2], st, M) x = Rr C mJ7_copyOf_59c91 (23, [some (.inr (.inr r)), l1, l2], .inr (.inr r) :: st, M) x := g_pl (show decode cJ7_copyOf_59c91 22 = .ok (.aload_n 0, 1) by decide +kernel) rfl
set_option maxRecDepth 20000 in
theorem kJ7_copyOf_59c91_23 {C : QC} {x : QP} {M : QM} {st : List CV} {L : QL} {a : Nat} (h1 : 2 ≤ (q_kd M a).1) (h2 : (q_kd M a).1 ≤ 9) : Rr C mJ7_copyOf_59c91 (23, L, qr a :: st, M) x = Rr C mJ7_copyOf_59c91 (24, L, qi (q_kd M a).2 :: st, M) x := g_alen (show decode cJ7_copyOf_59c91 23 = .ok (.arraylength, 1) by decide +kernel) h1 h2
set_option maxRecDepth 20000 in
theorem kJ7_copyOf_59c91_24 {C : QC} {x : QP} {M : QM} {st : List CV} {L : QL} {l0 l1 l2 : Option CV} {z : Int} : Rr C mJ7_copyOf_59c91 (24, [l0, some (qi z), l2], st, M) x = Rr C mJ7_copyOf_59c91 (25, [l0, some (qi z), l2], qi z :: st, M) x := g_pl (show decode cJ7_copyOf_59c91 24 = .ok (.iload_n 1, 1) by decide +kernel) rfl
set_option maxRecDepth 20000 in
theorem kJ7_copyOf_59c91_25 {C : QC} {x : QP} {M : QM} {st : List CV} {L : QL} {a b : Int} (ha1 : -2147483648 ≤ a) (ha2 : a < 2147483648) (hb1 : -2147483648 ≤ b) (hb2 : b < 2147483648) (hw : (st.map q_wd).sum ≤ 8) : Rr C mJ7_copyOf_59c91 (25, L, qi b :: qi a :: st, M) x = Rr C mJ7_copyOf_59c91 (28, L, qi (min a b) :: st, M) x := g_mx (ow := 18) (e := (1, 620)) (show decode cJ7_copyOf_59c91 25 = .ok (.invokestatic 304, 3) by decide +kernel) rfl rfl ha1 ha2 hb1 hb2 hw
set_option maxRecDepth 20000 in
theorem kJ7_copyOf_59c91_28 {C : QC} {x : QP} {M : QM} {st : List CV} {L : QL} {a0 a : Nat} {sp dp n : Int} (hk : q_acc M a0 a sp dp n = true) (hw : (st.map q_wd).sum ≤ 8) : Rr C mJ7_copyOf_59c91 (28, L, qi n :: qi dp :: qr a :: qi sp :: qr a0 :: st, M) x = Rr C mJ7_copyOf_59c91 (31, L, st, q_cp M a0 sp.toNat a dp.toNat n.toNat) x := g_copy (ow := 18) (e := 621) (show decode cJ7_copyOf_59c91 28 = .ok (.invokestatic 150, 3) by decide +kernel) rfl hk hw
set_option maxRecDepth 20000 in
theorem kJ7_copyOf_59c91_31 {C : QC} {x : QP} {M : QM} {st : List CV} {L : QL} {l0 l1 l2 : Option CV} {r : Option Nat} : Rr C mJ7_copyOf_59c91 (31, [l0, l1, some (.inr (.inr r))], st, M) x = Rr C mJ7_copyOf_59c91 (32, [l0, l1, some (.inr (.inr r))], .inr (.inr r) :: st, M) x := g_pl (show decode cJ7_copyOf_59c91 31 = .ok (.aload_n 2, 1) by decide +kernel) rfl
set_option maxRecDepth 20000 in
theorem kJ7_copyOf_59c91_32 {C : QC} {x : QP} {M : QM} {st : List CV} {L : QL} {r : Option Nat} : Rr C mJ7_copyOf_59c91 (32, L, [.inr (.inr r)], M) x = x (some (.inr (.inr r))) M := g_areta (show decode cJ7_copyOf_59c91 32 = .ok (.areturn, 1) by decide +kernel)
set_option maxRecDepth 20000 in
theorem eJ7_copyOf_59c91 {d : Nat} {M : QM} {x : QP} {v0 : Option Nat} {v1 : Int} : q_T (d + 1) iJ7_copyOf_59c91 [.inr (.inr v0), qi v1] M x = Rr (q_C d) mJ7_copyOf_59c91 (0, [some (.inr (.inr v0)), some (qi v1), none], [], M) x := g_entryT (e := _) rfl (Nat.le_of_ble_eq_true rfl) rfl rfl
def mJ7_copyOf_c38d5 : QI := (18, cJ7_copyOf_c38d5, false, some (.array (.long)))
set_option maxRecDepth 20000 in
theorem kJ7_copyOf_c38d5_0 {C : QC} {x : QP} {M : QM} {st : List CV} {L : QL} {l0 l1 l2 : Option CV} {z : Int} : Rr C mJ7_copyOf_c38d5 (0, [l0, some (qi z), l2], st, M) x = Rr C mJ7_copyOf_c38d5 (1, [l0, some (qi z), l2], qi z :: st, M) x := g_pl (show decode cJ7_copyOf_c38d5 0 = .ok (.iload_n 1, 1) by decide +kernel) rfl
set_option maxRecDepth 20000 in
theorem kJ7_copyOf_c38d5_1 {C : QC} {x : QP} {M : QM} {st : List CV} {L : QL} {l0 l1 l2 : Option CV} {r : Option Nat} : Rr C mJ7_copyOf_c38d5 (1, [some (.inr (.inr r)), l1, l2], st, M) x = Rr C mJ7_copyOf_c38d5 (2, [some (.inr (.inr r)), l1, l2], .inr (.inr r) :: st, M) x := g_pl (show decode cJ7_copyOf_c38d5 1 = .ok (.aload_n 0, 1) by decide +kernel) rfl
set_option maxRecDepth 20000 in
theorem kJ7_copyOf_c38d5_2 {C : QC} {x : QP} {M : QM} {st : List CV} {L : QL} {a : Nat} (h1 : 2 ≤ (q_kd M a).1) (h2 : (q_kd M a).1 ≤ 9) : Rr C mJ7_copyOf_c38d5 (2, L, qr a :: st, M) x = Rr C mJ7_copyOf_c38d5 (3, L, qi (q_kd M a).2 :: st, M) x := g_alen (show decode cJ7_copyOf_c38d5 2 = .ok (.arraylength, 1) by decide +kernel) h1 h2
set_option maxRecDepth 20000 in
theorem kJ7_copyOf_c38d5_3 {C : QC} {x : QP} {M : QM} {st : List CV} {L : QL} {a b : Int} (ha1 : -2147483648 ≤ a) (ha2 : a < 2147483648) (hb1 : -2147483648 ≤ b) (hb2 : b < 2147483648) : Rr C mJ7_copyOf_c38d5 (3, L, qi b :: qi a :: st, M) x = (if a = b then Rr C mJ7_copyOf_c38d5 (6, L, st, M) x else Rr C mJ7_copyOf_c38d5 (14, L, st, M) x) := (g_icmp (show decode cJ7_copyOf_c38d5 3 = .ok (.if_icmp .ne 11, 3) by decide +kernel) rfl ha1 ha2 hb1 hb2).trans (g_itn c_ne)
set_option maxRecDepth 20000 in
theorem kJ7_copyOf_c38d5_6 {C : QC} {x : QP} {M : QM} {st : List CV} {L : QL} {l0 l1 l2 : Option CV} {r : Option Nat} : Rr C mJ7_copyOf_c38d5 (6, [some (.inr (.inr r)), l1, l2], st, M) x = Rr C mJ7_copyOf_c38d5 (7, [some (.inr (.inr r)), l1, l2], .inr (.inr r) :: st, M) x := g_pl (show decode cJ7_copyOf_c38d5 6 = .ok (.aload_n 0, 1) by decide +kernel) rfl
set_option maxRecDepth 20000 in
theorem kJ7_copyOf_c38d5_10n {C : QC} {x : QP} {M : QM} {st : List CV} {L : QL} : Rr C mJ7_copyOf_c38d5 (10, L, qn :: st, M) x = Rr C mJ7_copyOf_c38d5 (13, L, qn :: st, M) x := g_castN (show decode cJ7_copyOf_c38d5 10 = .ok (.checkcast 320, 3) by decide +kernel)
set_option maxRecDepth 20000 in
theorem kJ7_copyOf_c38d5_13 {C : QC} {x : QP} {M : QM} {st : List CV} {L : QL} {r : Option Nat} : Rr C mJ7_copyOf_c38d5 (13, L, [.inr (.inr r)], M) x = x (some (.inr (.inr r))) M := g_areta (show decode cJ7_copyOf_c38d5 13 = .ok (.areturn, 1) by decide +kernel)
set_option maxRecDepth 20000 in
theorem kJ7_copyOf_c38d5_14 {C : QC} {x : QP} {M : QM} {st : List CV} {L : QL} {l0 l1 l2 : Option CV} {z : Int} : Rr C mJ7_copyOf_c38d5 (14, [l0, some (qi z), l2], st, M) x = Rr C mJ7_copyOf_c38d5 (15, [l0, some (qi z), l2], qi z :: st, M) x := g_pl (show decode cJ7_copyOf_c38d5 14 = .ok (.iload_n 1, 1) by decide +kernel) rfl
set_option maxRecDepth 20000 in
theorem kJ7_copyOf_c38d5_15 {C : QC} {x : QP} {M : QM} {st : List CV} {L : QL} {n : Int} (h0 : 0 ≤ n) (h1 : n ≤ 60000000) : Rr C mJ7_copyOf_c38d5 (15, L, qi n :: st, M) x = Rr C mJ7_copyOf_c38d5 (17, L, qr (q_top M) :: st, q_al M (3, n.toNat) n.toNat (fun _ => ql 0)) x := g_newL (show decode cJ7_copyOf_c38d5 15 = .ok (.newarray .long, 2) by decide +kernel) h0 h1
set_option maxRecDepth 20000 in
theorem kJ7_copyOf_c38d5_17 {C : QC} {x : QP} {M : QM} {st : List CV} {L : QL} {l0 l1 l2 : Option CV} {z : Option Nat} : Rr C mJ7_copyOf_c38d5 (17, [l0, l1, l2], .inr (.inr z) :: st, M) x = Rr C mJ7_copyOf_c38d5 (18, [l0, q_cut l1, some (.inr (.inr z))], st, M) x := g_pl (show decode cJ7_copyOf_c38d5 17 = .ok (.astore_n 2, 1) by decide +kernel) rfl
set_option maxRecDepth 20000 in
theorem kJ7_copyOf_c38d5_18 {C : QC} {x : QP} {M : QM} {st : List CV} {L : QL} {l0 l1 l2 : Option CV} {r : Option Nat} : Rr C mJ7_copyOf_c38d5 (18, [some (.inr (.inr r)), l1, l2], st, M) x = Rr C mJ7_copyOf_c38d5 (19, [some (.inr (.inr r)), l1, l2], .inr (.inr r) :: st, M) x := g_pl (show decode cJ7_copyOf_c38d5 18 = .ok (.aload_n 0, 1) by decide +kernel) rfl
set_option maxRecDepth 20000 in
theorem kJ7_copyOf_c38d5_19 {C : QC} {x : QP} {M : QM} {st : List CV} {L : QL} : Rr C mJ7_copyOf_c38d5 (19, L, st, M) x = Rr C mJ7_copyOf_c38d5 (20, L, qi 0 :: st, M) x := g_pl (show decode cJ7_copyOf_c38d5 19 = .ok (.iconst 0, 1) by decide +kernel) rfl
set_option maxRecDepth 20000 in
theorem kJ7_copyOf_c38d5_20 {C : QC} {x : QP} {M : QM} {st : List CV} {L : QL} {l0 l1 l2 : Option CV} {r : Option Nat} : Rr C mJ7_copyOf_c38d5 (20, [l0, l1, some (.inr (.inr r))], st, M) x = Rr C mJ7_copyOf_c38d5 (21, [l0, l1, some (.inr (.inr r))], .inr (.inr r) :: st, M) x := g_pl (show decode cJ7_copyOf_c38d5 20 = .ok (.aload_n 2, 1) by decide +kernel) rfl
set_option maxRecDepth 20000 in
theorem kJ7_copyOf_c38d5_21 {C : QC} {x : QP} {M : QM} {st : List CV} {L : QL} : Rr C mJ7_copyOf_c38d5 (21, L, st, M) x = Rr C mJ7_copyOf_c38d5 (22, L, qi 0 :: st, M) x := g_pl (show decode cJ7_copyOf_c38d5 21 = .ok (.iconst 0, 1) by decide +kernel) rfl
set_option maxRecDepth 20000 in
theorem kJ7_copyOf_c38d5_22 {C : QC} {x : QP} {M : QM} {st : List CV} {L : QL} {l0 l1 l2 : Option CV} {r : Option Nat} : Rr C mJ7_copyOf_c38d5 (22, [some (.inr (.inr r)), l1, l2], st, M) x = Rr C mJ7_copyOf_c38d5 (23, [some (.inr (.inr r)), l1, l2], .inr (.inr r) :: st, M) x := g_pl (show decode cJ7_copyOf_c38d5 22 = .ok (.aload_n 0, 1) by decide +kernel) rfl
set_option maxRecDepth 20000 in
theorem kJ7_copyOf_c38d5_23 {C : QC} {x : QP} {M : QM} {st : List CV} {L : QL} {a : Nat} (h1 : 2 ≤ (q_kd M a).1) (h2 : (q_kd M a).1 ≤ 9) : Rr C mJ7_copyOf_c38d5 (23, L, qr a :: st, M) x = Rr C mJ7_copyOf_c38d5 (24, L, qi (q_kd M a).2 :: st, M) x := g_alen (show decode cJ7_copyOf_c38d5 23 = .ok (.arraylength, 1) by decide +kernel) h1 h2
set_option maxRecDepth 20000 in
theorem kJ7_copyOf_c38d5_24 {C : QC} {x : QP} {M : QM} {st : List CV} {L : QL} {l0 l1 l2 : Option CV} {z : Int} : Rr C mJ7_copyOf_c38d5 (24, [l0, some (qi z), l2], st, M) x = Rr C mJ7_copyOf_c38d5 (25, [l0, some (qi z), l2], qi z :: st, M) x := g_pl (show decode cJ7_copyOf_c38d5 24 = .ok (.iload_n 1, 1) by decide +kernel) rfl
set_option maxRecDepth 20000 in
theorem kJ7_copyOf_c38d5_25 {C : QC} {x : QP} {M : QM} {st : List CV} {L : QL} {a b : Int} (ha1 : -2147483648 ≤ a) (ha2 : a < 2147483648) (hb1 : -2147483648 ≤ b) (hb2 : b < 2147483648) (hw : (st.map q_wd).sum ≤ 8) : Rr C mJ7_copyOf_c38d5 (25, L, qi b :: qi a :: st, M) x = Rr C mJ7_copyOf_c38d5 (28, L, qi (min a b) :: st, M) x := g_mx (ow := 18) (e := (1, 620)) (show decode cJ7_copyOf_c38d5 25 = .ok (.invokestatic 304, 3) by decide +kernel) rfl rfl ha1 ha2 hb1 hb2 hw
set_option maxRecDepth 20000 in
theorem kJ7_copyOf_c38d5_28 {C : QC} {x : QP} {M : QM} {st : List CV} {L : QL} {a0 a : Nat} {sp dp n : Int} (hk : q_acc M a0 a sp dp n = true) (hw : (st.map q_wd).sum ≤ 8) : Rr C mJ7_copyOf_c38d5 (28, L, qi n :: qi dp :: qr a :: qi sp :: qr a0 :: st, M) x = Rr C mJ7_copyOf_c38d5 (31, L, st, q_cp M a0 sp.toNat a dp.toNat n.toNat) x := g_copy (ow := 18) (e := 621) (show decode cJ7_copyOf_c38d5 28 = .ok (.invokestatic 150, 3) by decide +kernel) rfl hk hw
set_option maxRecDepth 20000 in
theorem kJ7_copyOf_c38d5_31 {C : QC} {x : QP} {M : QM} {st : List CV} {L : QL} {l0 l1 l2 : Option CV} {r : Option Nat} : Rr C mJ7_copyOf_c38d5 (31, [l0, l1, some (.inr (.inr r))], st, M) x = Rr C mJ7_copyOf_c38d5 (32, [l0, l1, some (.inr (.inr r))], .inr (.inr r) :: st, M) x := g_pl (show decode cJ7_copyOf_c38d5 31 = .ok (.aload_n 2, 1) by decide +kernel) rfl
set_option maxRecDepth 20000 in
theorem kJ7_copyOf_c38d5_32 {C : QC} {x : QP} {M : QM} {st : List CV} {L : QL} {r : Option Nat} : Rr C mJ7_copyOf_c38d5 (32, L, [.inr (.inr r)], M) x = x (some (.inr (.inr r))) M := g_areta (show decode cJ7_copyOf_c38d5 32 = .ok (.areturn, 1) by decide +kernel)
set_option maxRecDepth 20000 in
theorem eJ7_copyOf_c38d5 {d : Nat} {M : QM} {x : QP} {v0 : Option Nat} {v1 : Int} : q_T (d + 1) iJ7_copyOf_c38d5 [.inr (.inr v0), qi v1] M x = Rr (q_C d) mJ7_copyOf_c38d5 (0, [some (.inr (.inr v0)), some (qi v1), none], [], M) x := g_entryT (e := _) rfl (Nat.le_of_ble_eq_true rfl) rfl rfl
def mJ15_checkIndex_7cf53 : QI := (21, cJ15_checkIndex_7cf53, false, some .int)
set_option maxRecDepth 20000 in
theorem kJ15_checkIndex_7cf53_0 {C : QC} {x : QP} {M : QM} {st : List CV} {L : QL} {l0 l1 : Option CV} {z : Int} : Rr C mJ15_checkIndex_7cf53 (0, [some (qi z), l1], st, M) x = Rr C mJ15_checkIndex_7cf53 (1, [some (qi z), l1], qi z :: st, M) x := g_pl (show decode cJ15_checkIndex_7cf53 0 = .ok (.iload_n 0, 1) by decide +kernel) rfl
set_option maxRecDepth 20000 in
theorem kJ15_checkIndex_7cf53_1 {C : QC} {x : QP} {M : QM} {st : List CV} {L : QL} {l0 l1 : Option CV} {z : Int} : Rr C mJ15_checkIndex_7cf53 (1, [l0, some (qi z)], st, M) x = Rr C mJ15_checkIndex_7cf53 (2, [l0, some (qi z)], qi z :: st, M) x := g_pl (show decode cJ15_checkIndex_7cf53 1 = .ok (.iload_n 1, 1) by decide +kernel) rfl
set_option maxRecDepth 20000 in
theorem kJ15_checkIndex_7cf53_2 {C : QC} {x : QP} {M : QM} {st : List CV} {L : QL} : Rr C mJ15_checkIndex_7cf53 (2, L, st, M) x = Rr C mJ15_checkIndex_7cf53 (3, L, qn :: st, M) x := g_pl (show decode cJ15_checkIndex_7cf53 2 = .ok (.aconst_null, 1) by decide +kernel) rfl
set_option maxRecDepth 20000 in
theorem kJ15_checkIndex_7cf53_3 {C : QC} {x : QP} {M : QM} {L : QL} {rest : List CV} {a0 a1 a2 : CV} {v : CV} {M1 : QM} (hC : C iJ3_checkIndex_8e157 [a0, a1, a2] M (some v) M1) (hw : (rest.map q_wd).sum ≤ 8) (k : Rr C mJ15_checkIndex_7cf53 (6, L, v :: rest, M1) x) : Rr C mJ15_checkIndex_7cf53 (3, L, a2 :: a1 :: a0 :: rest, M) x := g_cs (ow := 21) (e := (1, 99, 0, [826, 827, 103])) (as := [a0, a1, a2]) (show decode cJ15_checkIndex_7cf53 3 = .ok (.invokestatic 105, 3) by decide +kernel) rfl rfl rfl rfl (Or.inl rfl) rfl hC hw k
set_option maxRecDepth 20000 in
theorem kJ15_checkIndex_7cf53_6 {C : QC} {x : QP} {M : QM} {st : List CV} {L : QL} {z : Int} : Rr C mJ15_checkIndex_7cf53 (6, L, [qi z], M) x = x (some (qi z)) M := g_iret (show decode cJ15_checkIndex_7cf53 6 = .ok (.ireturn, 1) by decide +kernel) rfl
set_option maxRecDepth 20000 in
theorem eJ15_checkIndex_7cf53 {d : Nat} {M : QM} {x : QP} {v0 : Int} {v1 : Int} : q_T (d + 1) iJ15_checkIndex_7cf53 [qi v0, qi v1] M x = Rr (q_C d) mJ15_checkIndex_7cf53 (0, [some (qi v0), some (qi v1)], [], M) x := g_entryT (e := _) rfl (Nat.le_of_ble_eq_true rfl) rfl rfl
def mJ8_newLength_cabcc : QI := (22, cJ8_newLength_cabcc, false, some .int)
set_option maxRecDepth 20000 in
theorem kJ8_newLength_cabcc_0 {C : QC} {x : QP} {M : QM} {st : List CV} {L : QL} {l0 l1 l2 l3 : Option CV} {z : Int} : Rr C mJ8_newLength_cabcc (0, [some (qi z), l1, l2, l3], st, M) x = Rr C mJ8_newLength_cabcc (1, [some (qi z), l1, l2, l3], qi z :: st, M) x := g_pl (show decode cJ8_newLength_cabcc 0 = .ok (.iload_n 0, 1) by decide +kernel) rfl
set_option maxRecDepth 20000 in
theorem kJ8_newLength_cabcc_1 {C : QC} {x : QP} {M : QM} {st : List CV} {L : QL} {l0 l1 l2 l3 : Option CV} {z : Int} : Rr C mJ8_newLength_cabcc (1, [l0, some (qi z), l2, l3], st, M) x = Rr C mJ8_newLength_cabcc (2, [l0, some (qi z), l2, l3], qi z :: st, M) x := g_pl (show decode cJ8_newLength_cabcc 1 = .ok (.iload_n 1, 1) by decide +kernel) rfl
set_option maxRecDepth 20000 in
theorem kJ8_newLength_cabcc_2 {C : QC} {x : QP} {M : QM} {st : List CV} {L : QL} {l0 l1 l2 l3 : Option CV} {z : Int} : Rr C mJ8_newLength_cabcc (2, [l0, l1, some (qi z), l3], st, M) x = Rr C mJ8_newLength_cabcc (3, [l0, l1, some (qi z), l3], qi z :: st, M) x := g_pl (show decode cJ8_newLength_cabcc 2 = .ok (.iload_n 2, 1) by decide +kernel) rfl
set_option maxRecDepth 20000 in
theorem kJ8_newLength_cabcc_3 {C : QC} {x : QP} {M : QM} {st : List CV} {L : QL} {a b : Int} (ha1 : -2147483648 ≤ a) (ha2 : a < 2147483648) (hb1 : -2147483648 ≤ b) (hb2 : b < 2147483648) (hw : (st.map q_wd).sum ≤ 8) : Rr C mJ8_newLength_cabcc (3, L, qi b :: qi a :: st, M) x = Rr C mJ8_newLength_cabcc (6, L, qi (max a b) :: st, M) x := g_mx (ow := 22) (e := (0, 588)) (show decode cJ8_newLength_cabcc 3 = .ok (.invokestatic 194, 3) by decide +kernel) rfl rfl ha1 ha2 hb1 hb2 hw
set_option maxRecDepth 20000 in
theorem kJ8_newLength_cabcc_6 {C : QC} {x : QP} {M : QM} {st : List CV} {L : QL} {a b : Int} : Rr C mJ8_newLength_cabcc (6, L, qi b :: qi a :: st, M) x = Rr C mJ8_newLength_cabcc (7, L, qi (a + b) :: st, M) x := g_pl (show decode cJ8_newLength_cabcc 6 = .ok (.iadd, 1) by decide +kernel) rfl
set_option maxRecDepth 20000 in
theorem kJ8_newLength_cabcc_7 {C : QC} {x : QP} {M : QM} {st : List CV} {L : QL} {l0 l1 l2 l3 : Option CV} {z : Int} : Rr C mJ8_newLength_cabcc (7, [l0, l1, l2, l3], qi z :: st, M) x = Rr C mJ8_newLength_cabcc (8, [l0, l1, q_cut l2, some (qi z)], st, M) x := g_pl (show decode cJ8_newLength_cabcc 7 = .ok (.istore_n 3, 1) by decide +kernel) rfl
set_option maxRecDepth 20000 in
theorem kJ8_newLength_cabcc_8 {C : QC} {x : QP} {M : QM} {st : List CV} {L : QL} : Rr C mJ8_newLength_cabcc (8, L, st, M) x = Rr C mJ8_newLength_cabcc (9, L, qi 0 :: st, M) x := g_pl (show decode cJ8_newLength_cabcc 8 = .ok (.iconst 0, 1) by decide +kernel) rfl
set_option maxRecDepth 20000 in
theorem kJ8_newLength_cabcc_9 {C : QC} {x : QP} {M : QM} {st : List CV} {L : QL} {l0 l1 l2 l3 : Option CV} {z : Int} : Rr C mJ8_newLength_cabcc (9, [l0, l1, l2, some (qi z)], st, M) x = Rr C mJ8_newLength_cabcc (10, [l0, l1, l2, some (qi z)], qi z :: st, M) x := g_pl (show decode cJ8_newLength_cabcc 9 = .ok (.iload_n 3, 1) by decide +kernel) rfl
set_option maxRecDepth 20000 in
theorem kJ8_newLength_cabcc_10 {C : QC} {x : QP} {M : QM} {st : List CV} {L : QL} {a b : Int} (ha1 : -2147483648 ≤ a) (ha2 : a < 2147483648) (hb1 : -2147483648 ≤ b) (hb2 : b < 2147483648) : Rr C mJ8_newLength_cabcc (10, L, qi b :: qi a :: st, M) x = (if a < b then Rr C mJ8_newLength_cabcc (13, L, st, M) x else Rr C mJ8_newLength_cabcc (21, L, st, M) x) := (g_icmp (show decode cJ8_newLength_cabcc 10 = .ok (.if_icmp .ge 11, 3) by decide +kernel) rfl ha1 ha2 hb1 hb2).trans (g_itn c_ge)
set_option maxRecDepth 20000 in
theorem kJ8_newLength_cabcc_13 {C : QC} {x : QP} {M : QM} {st : List CV} {L : QL} {l0 l1 l2 l3 : Option CV} {z : Int} : Rr C mJ8_newLength_cabcc (13, [l0, l1, l2, some (qi z)], st, M) x = Rr C mJ8_newLength_cabcc (14, [l0, l1, l2, some (qi z)], qi z :: st, M) x := g_pl (show decode cJ8_newLength_cabcc 13 = .ok (.iload_n 3, 1) by decide +kernel) rfl
set_option maxRecDepth 20000 in
theorem kJ8_newLength_cabcc_14 {C : QC} {x : QP} {M : QM} {st : List CV} {L : QL} : Rr C mJ8_newLength_cabcc (14, L, st, M) x = Rr C mJ8_newLength_cabcc (16, L, qi 2147483639 :: st, M) x := g_ldc (ow := 22) (e := (2147483639, 589)) (show decode cJ8_newLength_cabcc 14 = .ok (.ldc 200, 2) by decide +kernel) rfl
set_option maxRecDepth 20000 in
theorem kJ8_newLength_cabcc_16 {C : QC} {x : QP} {M : QM} {st : List CV} {L : QL} {a b : Int} (ha1 : -2147483648 ≤ a) (ha2 : a < 2147483648) (hb1 : -2147483648 ≤ b) (hb2 : b < 2147483648) : Rr C mJ8_newLength_cabcc (16, L, qi b :: qi a :: st, M) x = (if b < a then Rr C mJ8_newLength_cabcc (21, L, st, M) x else Rr C mJ8_newLength_cabcc (19, L, st, M) x) := (g_icmp (show decode cJ8_newLength_cabcc 16 = .ok (.if_icmp .gt 5, 3) by decide +kernel) rfl ha1 ha2 hb1 hb2).trans (g_ite c_gt)
set_option maxRecDepth 20000 in
theorem kJ8_newLength_cabcc_19 {C : QC} {x : QP} {M : QM} {st : List CV} {L : QL} {l0 l1 l2 l3 : Option CV} {z : Int} : Rr C mJ8_newLength_cabcc (19, [l0, l1, l2, some (qi z)], st, M) x = Rr C mJ8_newLength_cabcc (20, [l0, l1, l2, some (qi z)], qi z :: st, M) x := g_pl (show decode cJ8_newLength_cabcc 19 = .ok (.iload_n 3, 1) by decide +kernel) rfl
set_option maxRecDepth 20000 in
theorem kJ8_newLength_cabcc_20 {C : QC} {x : QP} {M : QM} {st : List CV} {L : QL} {z : Int} : Rr C mJ8_newLength_cabcc (20, L, [qi z], M) x = x (some (qi z)) M := g_iret (show decode cJ8_newLength_cabcc 20 = .ok (.ireturn, 1) by decide +kernel) rfl
set_option maxRecDepth 20000 in
theorem kJ8_newLength_cabcc_21 {C : QC} {x : QP} {M : QM} {st : List CV} {L : QL} {l0 l1 l2 l3 : Option CV} {z : Int} : Rr C mJ8_newLength_cabcc (21, [some (qi z), l1, l2, l3], st, M) x = Rr C mJ8_newLength_cabcc (22, [some (qi z), l1, l2, l3], qi z :: st, M) x := g_pl (show decode cJ8_newLength_cabcc 21 = .ok (.iload_n 0, 1) by decide +kernel) rfl
set_option maxRecDepth 20000 in
theorem kJ8_newLength_cabcc_22 {C : QC} {x : QP} {M : QM} {st : List CV} {L : QL} {l0 l1 l2 l3 : Option CV} {z : Int} : Rr C mJ8_newLength_cabcc (22, [l0, some (qi z), l2, l3], st, M) x = Rr C mJ8_newLength_cabcc (23, [l0, some (qi z), l2, l3], qi z :: st, M) x := g_pl (show decode cJ8_newLength_cabcc 22 = .ok (.iload_n 1, 1) by decide +kernel) rfl
set_option maxRecDepth 20000 in
theorem kJ8_newLength_cabcc_23 {C : QC} {x : QP} {M : QM} {L : QL} {rest : List CV} {a0 a1 : CV} {v : CV} {M1 : QM} (hC : C iJ8_hugeLength_7cf53 [a0, a1] M (some v) M1) (hw : (rest.map q_wd).sum ≤ 8) (k : Rr C mJ8_newLength_cabcc (26, L, v :: rest, M1) x) : Rr C mJ8_newLength_cabcc (23, L, a1 :: a0 :: rest, M) x := g_cs (ow := 22) (e := (1, 50, 0, [590, 591, 100])) (as := [a0, a1]) (show decode cJ8_newLength_cabcc 23 = .ok (.invokestatic 201, 3) by decide +kernel) rfl rfl rfl rfl (Or.inl rfl) rfl hC hw k
set_option maxRecDepth 20000 in
theorem kJ8_newLength_cabcc_26 {C : QC} {x : QP} {M : QM} {st : List CV} {L : QL} {z : Int} : Rr C mJ8_newLength_cabcc (26, L, [qi z], M) x = x (some (qi z)) M := g_iret (show decode cJ8_newLength_cabcc 26 = .ok (.ireturn, 1) by decide +kernel) rfl
set_option maxRecDepth 20000 in
theorem eJ8_newLength_cabcc {d : Nat} {M : QM} {x : QP} {v0 : Int} {v1 : Int} {v2 : Int} : q_T (d + 1) iJ8_newLength_cabcc [qi v0, qi v1, qi v2] M x = Rr (q_C d) mJ8_newLength_cabcc (0, [some (qi v0), some (qi v1), some (qi v2), none], [], M) x := g_entryT (e := _) rfl (Nat.le_of_ble_eq_true rfl) rfl rfl
def mJ3_checkIndex_8e157 : QI := (23, cJ3_checkIndex_8e157, false, some .int)
set_option maxRecDepth 20000 in
theorem kJ3_checkIndex_8e157_0 {C : QC} {x : QP} {M : QM} {st : List CV} {L : QL} {l0 l1 l2 : Option CV} {z : Int} : Rr C mJ3_checkIndex_8e157 (0, [some (qi z), l1, l2], st, M) x = Rr C mJ3_checkIndex_8e157 (1, [some (qi z), l1, l2], qi z :: st, M) x := g_pl (show decode cJ3_checkIndex_8e157 0 = .ok (.iload_n 0, 1) by decide +kernel) rfl
set_option maxRecDepth 20000 in
theorem kJ3_checkIndex_8e157_1 {C : QC} {x : QP} {M : QM} {st : List CV} {L : QL} {a : Int} (ha1 : -2147483648 ≤ a) (ha2 : a < 2147483648) : Rr C mJ3_checkIndex_8e157 (1, L, qi a :: st, M) x = (if a < 0 then Rr C mJ3_checkIndex_8e157 (9, L, st, M) x else Rr C mJ3_checkIndex_8e157 (4, L, st, M) x) := (g_if (show decode cJ3_checkIndex_8e157 1 = .ok (.ifCond .lt 8, 3) by decide +kernel) rfl ha1 ha2).trans (g_ite c_lt)
set_option maxRecDepth 20000 in
theorem kJ3_checkIndex_8e157_4 {C : QC} {x : QP} {M : QM} {st : List CV} {L : QL} {l0 l1 l2 : Option CV} {z : Int} : Rr C mJ3_checkIndex_8e157 (4, [some (qi z), l1, l2], st, M) x = Rr C mJ3_checkIndex_8e157 (5, [some (qi z), l1, l2], qi z :: st, M) x := g_pl (show decode cJ3_checkIndex_8e157 4 = .ok (.iload_n 0, 1) by decide +kernel) rfl
set_option maxRecDepth 20000 in
theorem kJ3_checkIndex_8e157_5 {C : QC} {x : QP} {M : QM} {st : List CV} {L : QL} {l0 l1 l2 : Option CV} {z : Int} : Rr C mJ3_checkIndex_8e157 (5, [l0, some (qi z), l2], st, M) x = Rr C mJ3_checkIndex_8e157 (6, [l0, some (qi z), l2], qi z :: st, M) x := g_pl (show decode cJ3_checkIndex_8e157 5 = .ok (.iload_n 1, 1) by decide +kernel) rfl
set_option maxRecDepth 20000 in
theorem kJ3_checkIndex_8e157_6 {C : QC} {x : QP} {M : QM} {st : List CV} {L : QL} {a b : Int} (ha1 : -2147483648 ≤ a) (ha2 : a < 2147483648) (hb1 : -2147483648 ≤ b) (hb2 : b < 2147483648) : Rr C mJ3_checkIndex_8e157 (6, L, qi b :: qi a :: st, M) x = (if a < b then Rr C mJ3_checkIndex_8e157 (16, L, st, M) x else Rr C mJ3_checkIndex_8e157 (9, L, st, M) x) := (g_icmp (show decode cJ3_checkIndex_8e157 6 = .ok (.if_icmp .lt 10, 3) by decide +kernel) rfl ha1 ha2 hb1 hb2).trans (g_ite c_lt)
set_option maxRecDepth 20000 in
theorem kJ3_checkIndex_8e157_9 {C : QC} {x : QP} {M : QM} {st : List CV} {L : QL} {l0 l1 l2 : Option CV} {r : Option Nat} : Rr C mJ3_checkIndex_8e157 (9, [l0, l1, some (.inr (.inr r))], st, M) x = Rr C mJ3_checkIndex_8e157 (10, [l0, l1, some (.inr (.inr r))], .inr (.inr r) :: st, M) x := g_pl (show decode cJ3_checkIndex_8e157 9 = .ok (.aload_n 2, 1) by decide +kernel) rfl
set_option maxRecDepth 20000 in
theorem kJ3_checkIndex_8e157_10 {C : QC} {x : QP} {M : QM} {st : List CV} {L : QL} {l0 l1 l2 : Option CV} {z : Int} : Rr C mJ3_checkIndex_8e157 (10, [some (qi z), l1, l2], st, M) x = Rr C mJ3_checkIndex_8e157 (11, [some (qi z), l1, l2], qi z :: st, M) x := g_pl (show decode cJ3_checkIndex_8e157 10 = .ok (.iload_n 0, 1) by decide +kernel) rfl
set_option maxRecDepth 20000 in
theorem kJ3_checkIndex_8e157_11 {C : QC} {x : QP} {M : QM} {st : List CV} {L : QL} {l0 l1 l2 : Option CV} {z : Int} : Rr C mJ3_checkIndex_8e157 (11, [l0, some (qi z), l2], st, M) x = Rr C mJ3_checkIndex_8e157 (12, [l0, some (qi z), l2], qi z :: st, M) x := g_pl (show decode cJ3_checkIndex_8e157 11 = .ok (.iload_n 1, 1) by decide +kernel) rfl
set_option maxRecDepth 20000 in
theorem kJ3_checkIndex_8e157_16 {C : QC} {x : QP} {M : QM} {st : List CV} {L : QL} {l0 l1 l2 : Option CV} {z : Int} : Rr C mJ3_checkIndex_8e157 (16, [some (qi z), l1, l2], st, M) x = Rr C mJ3_checkIndex_8e157 (17, [some (qi z), l1, l2], qi z :: st, M) x := g_pl (show decode cJ3_checkIndex_8e157 16 = .ok (.iload_n 0, 1) by decide +kernel) rfl
set_option maxRecDepth 20000 in
theorem kJ3_checkIndex_8e157_17 {C : QC} {x : QP} {M : QM} {st : List CV} {L : QL} {z : Int} : Rr C mJ3_checkIndex_8e157 (17, L, [qi z], M) x = x (some (qi z)) M := g_iret (show decode cJ3_checkIndex_8e157 17 = .ok (.ireturn, 1) by decide +kernel) rfl
set_option maxRecDepth 20000 in
theorem eJ3_checkIndex_8e157 {d : Nat} {M : QM} {x : QP} {v0 : Int} {v1 : Int} {v2 : Option Nat} : q_T (d + 1) iJ3_checkIndex_8e157 [qi v0, qi v1, .inr (.inr v2)] M x = Rr (q_C d) mJ3_checkIndex_8e157 (0, [some (qi v0), some (qi v1), some (.inr (.inr v2))], [], M) x := g_entryT (e := _) rfl (Nat.le_of_ble_eq_true rfl) rfl rfl
