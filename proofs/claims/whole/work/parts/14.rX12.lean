/-! rules, one for each instruction: written by a program out of the code -/
def mX12_init : QI := (12, cX12_init, true, none)
set_option maxRecDepth 20000 in
theorem kX12_init_0 {C : QC} {x : QP} {M : QM} {st : List CV} {L : QL} {r : Option Nat} : Rr C mX12_init (0, [some (.inr (.inr r))], st, M) x = Rr C mX12_init (1, [some (.inr (.inr r))], .inr (.inr r) :: st, M) x := g_pl (show decode cX12_init 0 = .ok (.aload_n 0, 1) by decide +kernel) rfl
set_option maxRecDepth 20000 in
theorem kX12_init_1 {C : QC} {x : QP} {M : QM} {st : List CV} {L : QL} {a : Nat} (hw : (st.map q_wd).sum ≤ 8) : Rr C mX12_init (1, L, qr a :: st, M) x = Rr C mX12_init (4, L, st, M) x := g_obj (ow := 12) (e := 112) (show decode cX12_init 1 = .ok (.invokespecial 1, 3) by decide +kernel) rfl hw
set_option maxRecDepth 20000 in
theorem kX12_init_4 {C : QC} {x : QP} {M : QM} {st : List CV} {L : QL} {r : Option Nat} : Rr C mX12_init (4, [some (.inr (.inr r))], st, M) x = Rr C mX12_init (5, [some (.inr (.inr r))], .inr (.inr r) :: st, M) x := g_pl (show decode cX12_init 4 = .ok (.aload_n 0, 1) by decide +kernel) rfl
set_option maxRecDepth 20000 in
theorem kX12_init_5 {C : QC} {x : QP} {M : QM} {st : List CV} {L : QL} : Rr C mX12_init (5, L, st, M) x = Rr C mX12_init (8, L, qr (q_top M) :: st, q_al M (1, 8) 2 (fun k => q_dv (tyX8 k))) x := g_new (ow := 12) (e := (8, 115, 116, 78)) (r := (RX8, TX8, 2)) (t := tyX8) (show decode cX12_init 5 = .ok (.new 7, 3) by decide +kernel) rfl rfl rfl
set_option maxRecDepth 20000 in
theorem kX12_init_8i {C : QC} {x : QP} {M : QM} {st : List CV} {L : QL} {a : Int} : Rr C mX12_init (8, L, qi a :: st, M) x = Rr C mX12_init (9, L, qi a :: qi a :: st, M) x := g_pl (show decode cX12_init 8 = .ok (.dup, 1) by decide +kernel) rfl
set_option maxRecDepth 20000 in
theorem kX12_init_8r {C : QC} {x : QP} {M : QM} {st : List CV} {L : QL} {a : Option Nat} : Rr C mX12_init (8, L, .inr (.inr a) :: st, M) x = Rr C mX12_init (9, L, .inr (.inr a) :: .inr (.inr a) :: st, M) x := g_pl (show decode cX12_init 8 = .ok (.dup, 1) by decide +kernel) rfl
set_option maxRecDepth 20000 in
theorem kX12_init_9 {C : QC} {x : QP} {M : QM} {L : QL} {rest : List CV} {M1 : QM} {b : Nat} (hC : C iX8_init [qr b] M none M1) (hw : (rest.map q_wd).sum ≤ 8) (k : Rr C mX12_init (12, L, rest, M1) x) : Rr C mX12_init (9, L, qr b :: rest, M) x := g_ci (ow := 12) (e := (4, 1, 0, [0, 118, 78])) (as := []) (show decode cX12_init 9 = .ok (.invokespecial 9, 3) by decide +kernel) rfl rfl rfl (Or.inl (Or.inr rfl)) rfl hC hw k
set_option maxRecDepth 20000 in
theorem kX12_init_12 {C : QC} {x : QP} {M : QM} {st : List CV} {L : QL} {z : Option Nat} {a : Nat} (hk : q_kd M a = (1, 12)) : Rr C mX12_init (12, L, .inr (.inr z) :: qr a :: st, M) x = Rr C mX12_init (15, L, st, q_wr M a 0 (.inr (.inr z))) x := g_putf (ow := 12) (ini := true) (e := (12, 0, RX12, 379, 0)) (r := (RX12, TX12, 14)) (t := tyX12) (show decode cX12_init 12 = .ok (.putfield 10, 3) by decide +kernel) rfl rfl rfl rfl (by decide +kernel) hk
set_option maxRecDepth 20000 in
theorem kX12_init_15 {C : QC} {x : QP} {M : QM} {st : List CV} {L : QL} {r : Option Nat} : Rr C mX12_init (15, [some (.inr (.inr r))], st, M) x = Rr C mX12_init (16, [some (.inr (.inr r))], .inr (.inr r) :: st, M) x := g_pl (show decode cX12_init 15 = .ok (.aload_n 0, 1) by decide +kernel) rfl
set_option maxRecDepth 20000 in
theorem kX12_init_16 {C : QC} {x : QP} {M : QM} {st : List CV} {L : QL} : Rr C mX12_init (16, L, st, M) x = Rr C mX12_init (19, L, qr (q_top M) :: st, q_al M (1, 5) 4 (fun k => q_dv (tyX5 k))) x := g_new (ow := 12) (e := (5, 129, 130, 79)) (r := (RX5, TX5, 4)) (t := tyX5) (show decode cX12_init 16 = .ok (.new 16, 3) by decide +kernel) rfl rfl rfl
set_option maxRecDepth 20000 in
theorem kX12_init_19i {C : QC} {x : QP} {M : QM} {st : List CV} {L : QL} {a : Int} : Rr C mX12_init (19, L, qi a :: st, M) x = Rr C mX12_init (20, L, qi a :: qi a :: st, M) x := g_pl (show decode cX12_init 19 = .ok (.dup, 1) by decide +kernel) rfl
set_option maxRecDepth 20000 in
theorem kX12_init_19r {C : QC} {x : QP} {M : QM} {st : List CV} {L : QL} {a : Option Nat} : Rr C mX12_init (19, L, .inr (.inr a) :: st, M) x = Rr C mX12_init (20, L, .inr (.inr a) :: .inr (.inr a) :: st, M) x := g_pl (show decode cX12_init 19 = .ok (.dup, 1) by decide +kernel) rfl
set_option maxRecDepth 20000 in
theorem kX12_init_20 {C : QC} {x : QP} {M : QM} {L : QL} {rest : List CV} {M1 : QM} {b : Nat} (hC : C iX5_init [qr b] M none M1) (hw : (rest.map q_wd).sum ≤ 8) (k : Rr C mX12_init (23, L, rest, M1) x) : Rr C mX12_init (20, L, qr b :: rest, M) x := g_ci (ow := 12) (e := (4, 2, 0, [1, 132, 79])) (as := []) (show decode cX12_init 20 = .ok (.invokespecial 18, 3) by decide +kernel) rfl rfl rfl (Or.inl (Or.inr rfl)) rfl hC hw k
set_option maxRecDepth 20000 in
theorem kX12_init_23 {C : QC} {x : QP} {M : QM} {st : List CV} {L : QL} {z : Option Nat} {a : Nat} (hk : q_kd M a = (1, 12)) : Rr C mX12_init (23, L, .inr (.inr z) :: qr a :: st, M) x = Rr C mX12_init (26, L, st, q_wr M a 1 (.inr (.inr z))) x := g_putf (ow := 12) (ini := true) (e := (12, 1, RX12, 380, 0)) (r := (RX12, TX12, 14)) (t := tyX12) (show decode cX12_init 23 = .ok (.putfield 19, 3) by decide +kernel) rfl rfl rfl rfl (by decide +kernel) hk
set_option maxRecDepth 20000 in
theorem kX12_init_26 {C : QC} {x : QP} {M : QM} {st : List CV} {L : QL} {r : Option Nat} : Rr C mX12_init (26, [some (.inr (.inr r))], st, M) x = Rr C mX12_init (27, [some (.inr (.inr r))], .inr (.inr r) :: st, M) x := g_pl (show decode cX12_init 26 = .ok (.aload_n 0, 1) by decide +kernel) rfl
set_option maxRecDepth 20000 in
theorem kX12_init_27 {C : QC} {x : QP} {M : QM} {st : List CV} {L : QL} : Rr C mX12_init (27, L, st, M) x = Rr C mX12_init (30, L, qr (q_top M) :: st, q_al M (1, 11) 5 (fun k => q_dv (tyX11 k))) x := g_new (ow := 12) (e := (11, 174, 175, 83)) (r := (RX11, TX11, 5)) (t := tyX11) (show decode cX12_init 27 = .ok (.new 23, 3) by decide +kernel) rfl rfl rfl
set_option maxRecDepth 20000 in
theorem kX12_init_30i {C : QC} {x : QP} {M : QM} {st : List CV} {L : QL} {a : Int} : Rr C mX12_init (30, L, qi a :: st, M) x = Rr C mX12_init (31, L, qi a :: qi a :: st, M) x := g_pl (show decode cX12_init 30 = .ok (.dup, 1) by decide +kernel) rfl
set_option maxRecDepth 20000 in
theorem kX12_init_30r {C : QC} {x : QP} {M : QM} {st : List CV} {L : QL} {a : Option Nat} : Rr C mX12_init (30, L, .inr (.inr a) :: st, M) x = Rr C mX12_init (31, L, .inr (.inr a) :: .inr (.inr a) :: st, M) x := g_pl (show decode cX12_init 30 = .ok (.dup, 1) by decide +kernel) rfl
set_option maxRecDepth 20000 in
theorem kX12_init_31 {C : QC} {x : QP} {M : QM} {L : QL} {rest : List CV} {M1 : QM} {b : Nat} (hC : C iX11_init [qr b] M none M1) (hw : (rest.map q_wd).sum ≤ 8) (k : Rr C mX12_init (34, L, rest, M1) x) : Rr C mX12_init (31, L, qr b :: rest, M) x := g_ci (ow := 12) (e := (3, 6, 0, [176, 177, 83])) (as := []) (show decode cX12_init 31 = .ok (.invokespecial 25, 3) by decide +kernel) rfl rfl rfl (Or.inl (Or.inl rfl)) rfl hC hw k
set_option maxRecDepth 20000 in
theorem kX12_init_34 {C : QC} {x : QP} {M : QM} {st : List CV} {L : QL} {z : Option Nat} {a : Nat} (hk : q_kd M a = (1, 12)) : Rr C mX12_init (34, L, .inr (.inr z) :: qr a :: st, M) x = Rr C mX12_init (37, L, st, q_wr M a 2 (.inr (.inr z))) x := g_putf (ow := 12) (ini := true) (e := (12, 2, RX12, 381, 0)) (r := (RX12, TX12, 14)) (t := tyX12) (show decode cX12_init 34 = .ok (.putfield 26, 3) by decide +kernel) rfl rfl rfl rfl (by decide +kernel) hk
set_option maxRecDepth 20000 in
theorem kX12_init_37 {C : QC} {x : QP} {M : QM} {st : List CV} {L : QL} {r : Option Nat} : Rr C mX12_init (37, [some (.inr (.inr r))], st, M) x = Rr C mX12_init (38, [some (.inr (.inr r))], .inr (.inr r) :: st, M) x := g_pl (show decode cX12_init 37 = .ok (.aload_n 0, 1) by decide +kernel) rfl
set_option maxRecDepth 20000 in
theorem kX12_init_38 {C : QC} {x : QP} {M : QM} {st : List CV} {L : QL} : Rr C mX12_init (38, L, st, M) x = Rr C mX12_init (41, L, qr (q_top M) :: st, q_al M (1, 7) 1 (fun k => q_dv (tyX7 k))) x := g_new (ow := 12) (e := (7, 333, 334, 89)) (r := (RX7, TX7, 1)) (t := tyX7) (show decode cX12_init 38 = .ok (.new 30, 3) by decide +kernel) rfl rfl rfl
set_option maxRecDepth 20000 in
theorem kX12_init_41i {C : QC} {x : QP} {M : QM} {st : List CV} {L : QL} {a : Int} : Rr C mX12_init (41, L, qi a :: st, M) x = Rr C mX12_init (42, L, qi a :: qi a :: st, M) x := g_pl (show decode cX12_init 41 = .ok (.dup, 1) by decide +kernel) rfl
set_option maxRecDepth 20000 in
theorem kX12_init_41r {C : QC} {x : QP} {M : QM} {st : List CV} {L : QL} {a : Option Nat} : Rr C mX12_init (41, L, .inr (.inr a) :: st, M) x = Rr C mX12_init (42, L, .inr (.inr a) :: .inr (.inr a) :: st, M) x := g_pl (show decode cX12_init 41 = .ok (.dup, 1) by decide +kernel) rfl
set_option maxRecDepth 20000 in
theorem kX12_init_42 {C : QC} {x : QP} {M : QM} {L : QL} {rest : List CV} {M1 : QM} {b : Nat} (hC : C iX7_init [qr b] M none M1) (hw : (rest.map q_wd).sum ≤ 8) (k : Rr C mX12_init (45, L, rest, M1) x) : Rr C mX12_init (42, L, qr b :: rest, M) x := g_ci (ow := 12) (e := (4, 12, 0, [7, 336, 89])) (as := []) (show decode cX12_init 42 = .ok (.invokespecial 32, 3) by decide +kernel) rfl rfl rfl (Or.inl (Or.inr rfl)) rfl hC hw k
set_option maxRecDepth 20000 in
theorem kX12_init_45 {C : QC} {x : QP} {M : QM} {st : List CV} {L : QL} {z : Option Nat} {a : Nat} (hk : q_kd M a = (1, 12)) : Rr C mX12_init (45, L, .inr (.inr z) :: qr a :: st, M) x = Rr C mX12_init (48, L, st, q_wr M a 3 (.inr (.inr z))) x := g_putf (ow := 12) (ini := true) (e := (12, 3, RX12, 382, 0)) (r := (RX12, TX12, 14)) (t := tyX12) (show decode cX12_init 45 = .ok (.putfield 33, 3) by decide +kernel) rfl rfl rfl rfl (by decide +kernel) hk
set_option maxRecDepth 20000 in
theorem kX12_init_48 {C : QC} {x : QP} {M : QM} {st : List CV} {L : QL} {r : Option Nat} : Rr C mX12_init (48, [some (.inr (.inr r))], st, M) x = Rr C mX12_init (49, [some (.inr (.inr r))], .inr (.inr r) :: st, M) x := g_pl (show decode cX12_init 48 = .ok (.aload_n 0, 1) by decide +kernel) rfl
set_option maxRecDepth 20000 in
theorem kX12_init_49 {C : QC} {x : QP} {M : QM} {st : List CV} {L : QL} : Rr C mX12_init (49, L, st, M) x = Rr C mX12_init (52, L, qr (q_top M) :: st, q_al M (1, 9) 3 (fun k => q_dv (tyX9 k))) x := g_new (ow := 12) (e := (9, 343, 233, 87)) (r := (RX9, TX9, 3)) (t := tyX9) (show decode cX12_init 49 = .ok (.new 37, 3) by decide +kernel) rfl rfl rfl
set_option maxRecDepth 20000 in
theorem kX12_init_52i {C : QC} {x : QP} {M : QM} {st : List CV} {L : QL} {a : Int} : Rr C mX12_init (52, L, qi a :: st, M) x = Rr C mX12_init (53, L, qi a :: qi a :: st, M) x := g_pl (show decode cX12_init 52 = .ok (.dup, 1) by decide +kernel) rfl
set_option maxRecDepth 20000 in
theorem kX12_init_52r {C : QC} {x : QP} {M : QM} {st : List CV} {L : QL} {a : Option Nat} : Rr C mX12_init (52, L, .inr (.inr a) :: st, M) x = Rr C mX12_init (53, L, .inr (.inr a) :: .inr (.inr a) :: st, M) x := g_pl (show decode cX12_init 52 = .ok (.dup, 1) by decide +kernel) rfl
set_option maxRecDepth 20000 in
theorem kX12_init_53 {C : QC} {x : QP} {M : QM} {L : QL} {rest : List CV} {M1 : QM} {b : Nat} (hC : C iX9_init [qr b] M none M1) (hw : (rest.map q_wd).sum ≤ 8) (k : Rr C mX12_init (56, L, rest, M1) x) : Rr C mX12_init (53, L, qr b :: rest, M) x := g_ci (ow := 12) (e := (4, 10, 0, [8, 235, 87])) (as := []) (show decode cX12_init 53 = .ok (.invokespecial 39, 3) by decide +kernel) rfl rfl rfl (Or.inl (Or.inr rfl)) rfl hC hw k
set_option maxRecDepth 20000 in
theorem kX12_init_56 {C : QC} {x : QP} {M : QM} {st : List CV} {L : QL} {z : Option Nat} {a : Nat} (hk : q_kd M a = (1, 12)) : Rr C mX12_init (56, L, .inr (.inr z) :: qr a :: st, M) x = Rr C mX12_init (59, L, st, q_wr M a 4 (.inr (.inr z))) x := g_putf (ow := 12) (ini := true) (e := (12, 4, RX12, 383, 0)) (r := (RX12, TX12, 14)) (t := tyX12) (show decode cX12_init 56 = .ok (.putfield 40, 3) by decide +kernel) rfl rfl rfl rfl (by decide +kernel) hk
set_option maxRecDepth 20000 in
theorem kX12_init_59 {C : QC} {x : QP} {M : QM} {st : List CV} {L : QL} {r : Option Nat} : Rr C mX12_init (59, [some (.inr (.inr r))], st, M) x = Rr C mX12_init (60, [some (.inr (.inr r))], .inr (.inr r) :: st, M) x := g_pl (show decode cX12_init 59 = .ok (.aload_n 0, 1) by decide +kernel) rfl
set_option maxRecDepth 20000 in
theorem kX12_init_60 {C : QC} {x : QP} {M : QM} {st : List CV} {L : QL} : Rr C mX12_init (60, L, st, M) x = Rr C mX12_init (63, L, qr (q_top M) :: st, q_al M (1, 14) 4 (fun k => q_dv (tyJ4 k))) x := g_new (ow := 12) (e := (14, 345, 346, 91)) (r := (RJ4, TJ4, 4)) (t := tyJ4) (show decode cX12_init 60 = .ok (.new 44, 3) by decide +kernel) rfl rfl rfl
set_option maxRecDepth 20000 in
theorem kX12_init_63i {C : QC} {x : QP} {M : QM} {st : List CV} {L : QL} {a : Int} : Rr C mX12_init (63, L, qi a :: st, M) x = Rr C mX12_init (64, L, qi a :: qi a :: st, M) x := g_pl (show decode cX12_init 63 = .ok (.dup, 1) by decide +kernel) rfl
set_option maxRecDepth 20000 in
theorem kX12_init_63r {C : QC} {x : QP} {M : QM} {st : List CV} {L : QL} {a : Option Nat} : Rr C mX12_init (63, L, .inr (.inr a) :: st, M) x = Rr C mX12_init (64, L, .inr (.inr a) :: .inr (.inr a) :: st, M) x := g_pl (show decode cX12_init 63 = .ok (.dup, 1) by decide +kernel) rfl
set_option maxRecDepth 20000 in
theorem kX12_init_64 {C : QC} {x : QP} {M : QM} {L : QL} {rest : List CV} {M1 : QM} {b : Nat} (hC : C iJ4_init_da8c8 [qr b] M none M1) (hw : (rest.map q_wd).sum ≤ 8) (k : Rr C mX12_init (67, L, rest, M1) x) : Rr C mX12_init (64, L, qr b :: rest, M) x := g_ci (ow := 12) (e := (3, 13, 0, [347, 348, 91])) (as := []) (show decode cX12_init 64 = .ok (.invokespecial 46, 3) by decide +kernel) rfl rfl rfl (Or.inl (Or.inl rfl)) rfl hC hw k
set_option maxRecDepth 20000 in
theorem kX12_init_67 {C : QC} {x : QP} {M : QM} {st : List CV} {L : QL} {z : Option Nat} {a : Nat} (hk : q_kd M a = (1, 12)) : Rr C mX12_init (67, L, .inr (.inr z) :: qr a :: st, M) x = Rr C mX12_init (70, L, st, q_wr M a 5 (.inr (.inr z))) x := g_putf (ow := 12) (ini := true) (e := (12, 5, RX12, 384, 0)) (r := (RX12, TX12, 14)) (t := tyX12) (show decode cX12_init 67 = .ok (.putfield 47, 3) by decide +kernel) rfl rfl rfl rfl (by decide +kernel) hk
set_option maxRecDepth 20000 in
theorem kX12_init_70 {C : QC} {x : QP} {M : QM} {st : List CV} {L : QL} {r : Option Nat} : Rr C mX12_init (70, [some (.inr (.inr r))], st, M) x = Rr C mX12_init (71, [some (.inr (.inr r))], .inr (.inr r) :: st, M) x := g_pl (show decode cX12_init 70 = .ok (.aload_n 0, 1) by decide +kernel) rfl
set_option maxRecDepth 20000 in
theorem kX12_init_71 {C : QC} {x : QP} {M : QM} {st : List CV} {L : QL} : Rr C mX12_init (71, L, st, M) x = Rr C mX12_init (74, L, qr (q_top M) :: st, q_al M (1, 15) 3 (fun k => q_dv (tyJx4a65c k))) x := g_new (ow := 12) (e := (15, 377, 136, 82)) (r := (RJx4a65c, TJx4a65c, 3)) (t := tyJx4a65c) (show decode cX12_init 71 = .ok (.new 51, 3) by decide +kernel) rfl rfl rfl
set_option maxRecDepth 20000 in
theorem kX12_init_74i {C : QC} {x : QP} {M : QM} {st : List CV} {L : QL} {a : Int} : Rr C mX12_init (74, L, qi a :: st, M) x = Rr C mX12_init (75, L, qi a :: qi a :: st, M) x := g_pl (show decode cX12_init 74 = .ok (.dup, 1) by decide +kernel) rfl
set_option maxRecDepth 20000 in
theorem kX12_init_74r {C : QC} {x : QP} {M : QM} {st : List CV} {L : QL} {a : Option Nat} : Rr C mX12_init (74, L, .inr (.inr a) :: st, M) x = Rr C mX12_init (75, L, .inr (.inr a) :: .inr (.inr a) :: st, M) x := g_pl (show decode cX12_init 74 = .ok (.dup, 1) by decide +kernel) rfl
set_option maxRecDepth 20000 in
theorem kX12_init_75 {C : QC} {x : QP} {M : QM} {L : QL} {rest : List CV} {M1 : QM} {b : Nat} (hC : C iJx4a65c_init_da8c8 [qr b] M none M1) (hw : (rest.map q_wd).sum ≤ 8) (k : Rr C mX12_init (78, L, rest, M1) x) : Rr C mX12_init (75, L, qr b :: rest, M) x := g_ci (ow := 12) (e := (3, 3, 0, [378, 138, 82])) (as := []) (show decode cX12_init 75 = .ok (.invokespecial 53, 3) by decide +kernel) rfl rfl rfl (Or.inl (Or.inl rfl)) rfl hC hw k
set_option maxRecDepth 20000 in
theorem kX12_init_78 {C : QC} {x : QP} {M : QM} {st : List CV} {L : QL} {z : Option Nat} {a : Nat} (hk : q_kd M a = (1, 12)) : Rr C mX12_init (78, L, .inr (.inr z) :: qr a :: st, M) x = Rr C mX12_init (81, L, st, q_wr M a 6 (.inr (.inr z))) x := g_putf (ow := 12) (ini := true) (e := (12, 6, RX12, 385, 0)) (r := (RX12, TX12, 14)) (t := tyX12) (show decode cX12_init 78 = .ok (.putfield 54, 3) by decide +kernel) rfl rfl rfl rfl (by decide +kernel) hk
set_option maxRecDepth 20000 in
theorem kX12_init_81 {C : QC} {x : QP} {M : QM} {st : List CV} {L : QL} {r : Option Nat} : Rr C mX12_init (81, [some (.inr (.inr r))], st, M) x = Rr C mX12_init (82, [some (.inr (.inr r))], .inr (.inr r) :: st, M) x := g_pl (show decode cX12_init 81 = .ok (.aload_n 0, 1) by decide +kernel) rfl
set_option maxRecDepth 20000 in
theorem kX12_init_82 {C : QC} {x : QP} {M : QM} {st : List CV} {L : QL} : Rr C mX12_init (82, L, st, M) x = Rr C mX12_init (85, L, qr (q_top M) :: st, q_al M (1, 15) 3 (fun k => q_dv (tyJx4a65c k))) x := g_new (ow := 12) (e := (15, 377, 136, 82)) (r := (RJx4a65c, TJx4a65c, 3)) (t := tyJx4a65c) (show decode cX12_init 82 = .ok (.new 51, 3) by decide +kernel) rfl rfl rfl
set_option maxRecDepth 20000 in
theorem kX12_init_85i {C : QC} {x : QP} {M : QM} {st : List CV} {L : QL} {a : Int} : Rr C mX12_init (85, L, qi a :: st, M) x = Rr C mX12_init (86, L, qi a :: qi a :: st, M) x := g_pl (show decode cX12_init 85 = .ok (.dup, 1) by decide +kernel) rfl
set_option maxRecDepth 20000 in
theorem kX12_init_85r {C : QC} {x : QP} {M : QM} {st : List CV} {L : QL} {a : Option Nat} : Rr C mX12_init (85, L, .inr (.inr a) :: st, M) x = Rr C mX12_init (86, L, .inr (.inr a) :: .inr (.inr a) :: st, M) x := g_pl (show decode cX12_init 85 = .ok (.dup, 1) by decide +kernel) rfl
set_option maxRecDepth 20000 in
theorem kX12_init_86 {C : QC} {x : QP} {M : QM} {L : QL} {rest : List CV} {M1 : QM} {b : Nat} (hC : C iJx4a65c_init_da8c8 [qr b] M none M1) (hw : (rest.map q_wd).sum ≤ 8) (k : Rr C mX12_init (89, L, rest, M1) x) : Rr C mX12_init (86, L, qr b :: rest, M) x := g_ci (ow := 12) (e := (3, 3, 0, [378, 138, 82])) (as := []) (show decode cX12_init 86 = .ok (.invokespecial 53, 3) by decide +kernel) rfl rfl rfl (Or.inl (Or.inl rfl)) rfl hC hw k
set_option maxRecDepth 20000 in
theorem kX12_init_89 {C : QC} {x : QP} {M : QM} {st : List CV} {L : QL} {z : Option Nat} {a : Nat} (hk : q_kd M a = (1, 12)) : Rr C mX12_init (89, L, .inr (.inr z) :: qr a :: st, M) x = Rr C mX12_init (92, L, st, q_wr M a 7 (.inr (.inr z))) x := g_putf (ow := 12) (ini := true) (e := (12, 7, RX12, 386, 0)) (r := (RX12, TX12, 14)) (t := tyX12) (show decode cX12_init 89 = .ok (.putfield 58, 3) by decide +kernel) rfl rfl rfl rfl (by decide +kernel) hk
set_option maxRecDepth 20000 in
theorem kX12_init_92 {C : QC} {x : QP} {M : QM} {st : List CV} {L : QL} {r : Option Nat} : Rr C mX12_init (92, [some (.inr (.inr r))], st, M) x = Rr C mX12_init (93, [some (.inr (.inr r))], .inr (.inr r) :: st, M) x := g_pl (show decode cX12_init 92 = .ok (.aload_n 0, 1) by decide +kernel) rfl
set_option maxRecDepth 20000 in
theorem kX12_init_93 {C : QC} {x : QP} {M : QM} {st : List CV} {L : QL} : Rr C mX12_init (93, L, st, M) x = Rr C mX12_init (94, L, qi 0 :: st, M) x := g_pl (show decode cX12_init 93 = .ok (.iconst 0, 1) by decide +kernel) rfl
set_option maxRecDepth 20000 in
theorem kX12_init_94 {C : QC} {x : QP} {M : QM} {st : List CV} {L : QL} {z : Int} (hz : z = 0 ∨ z = 1) {a : Nat} (hk : q_kd M a = (1, 12)) : Rr C mX12_init (94, L, qi z :: qr a :: st, M) x = Rr C mX12_init (97, L, st, q_wr M a 8 (qi z)) x := g_putf (ow := 12) (ini := true) (e := (12, 8, RX12, 387, 0)) (r := (RX12, TX12, 14)) (t := tyX12) (show decode cX12_init 94 = .ok (.putfield 61, 3) by decide +kernel) rfl rfl rfl (by rcases hz with rfl | rfl <;> rfl) (by decide +kernel) hk
set_option maxRecDepth 20000 in
theorem kX12_init_97 {C : QC} {x : QP} {M : QM} {st : List CV} {L : QL} {r : Option Nat} : Rr C mX12_init (97, [some (.inr (.inr r))], st, M) x = Rr C mX12_init (98, [some (.inr (.inr r))], .inr (.inr r) :: st, M) x := g_pl (show decode cX12_init 97 = .ok (.aload_n 0, 1) by decide +kernel) rfl
set_option maxRecDepth 20000 in
theorem kX12_init_98 {C : QC} {x : QP} {M : QM} {st : List CV} {L : QL} : Rr C mX12_init (98, L, st, M) x = Rr C mX12_init (100, L, qi 6 :: st, M) x := g_pl (show decode cX12_init 98 = .ok (.bipush 6, 2) by decide +kernel) rfl
set_option maxRecDepth 20000 in
theorem kX12_init_100 {C : QC} {x : QP} {M : QM} {st : List CV} {L : QL} {n : Int} (h0 : 0 ≤ n) (h1 : n ≤ 60000000) : Rr C mX12_init (100, L, qi n :: st, M) x = Rr C mX12_init (102, L, qr (q_top M) :: st, q_al M (2, n.toNat) n.toNat (fun _ => qi 0)) x := g_newI (show decode cX12_init 100 = .ok (.newarray .int, 2) by decide +kernel) h0 h1
set_option maxRecDepth 20000 in
theorem kX12_init_102 {C : QC} {x : QP} {M : QM} {st : List CV} {L : QL} {z : Option Nat} {a : Nat} (hk : q_kd M a = (1, 12)) : Rr C mX12_init (102, L, .inr (.inr z) :: qr a :: st, M) x = Rr C mX12_init (105, L, st, q_wr M a 9 (.inr (.inr z))) x := g_putf (ow := 12) (ini := true) (e := (12, 9, RX12, 388, 0)) (r := (RX12, TX12, 14)) (t := tyX12) (show decode cX12_init 102 = .ok (.putfield 65, 3) by decide +kernel) rfl rfl rfl rfl (by decide +kernel) hk
set_option maxRecDepth 20000 in
theorem kX12_init_105 {C : QC} {x : QP} {M : QM} {st : List CV} {L : QL} {r : Option Nat} : Rr C mX12_init (105, [some (.inr (.inr r))], st, M) x = Rr C mX12_init (106, [some (.inr (.inr r))], .inr (.inr r) :: st, M) x := g_pl (show decode cX12_init 105 = .ok (.aload_n 0, 1) by decide +kernel) rfl
set_option maxRecDepth 20000 in
theorem kX12_init_106 {C : QC} {x : QP} {M : QM} {st : List CV} {L : QL} : Rr C mX12_init (106, L, st, M) x = Rr C mX12_init (107, L, qi 0 :: st, M) x := g_pl (show decode cX12_init 106 = .ok (.iconst 0, 1) by decide +kernel) rfl
set_option maxRecDepth 20000 in
theorem kX12_init_107 {C : QC} {x : QP} {M : QM} {st : List CV} {L : QL} {z : Int} {a : Nat} (hk : q_kd M a = (1, 12)) : Rr C mX12_init (107, L, qi z :: qr a :: st, M) x = Rr C mX12_init (110, L, st, q_wr M a 10 (qi z)) x := g_putf (ow := 12) (ini := true) (e := (12, 10, RX12, 389, 0)) (r := (RX12, TX12, 14)) (t := tyX12) (show decode cX12_init 107 = .ok (.putfield 69, 3) by decide +kernel) rfl rfl rfl rfl (by decide +kernel) hk
set_option maxRecDepth 20000 in
theorem kX12_init_110 {C : QC} {x : QP} {M : QM} {st : List CV} {L : QL} {r : Option Nat} : Rr C mX12_init (110, [some (.inr (.inr r))], st, M) x = Rr C mX12_init (111, [some (.inr (.inr r))], .inr (.inr r) :: st, M) x := g_pl (show decode cX12_init 110 = .ok (.aload_n 0, 1) by decide +kernel) rfl
set_option maxRecDepth 20000 in
theorem kX12_init_111 {C : QC} {x : QP} {M : QM} {st : List CV} {L : QL} : Rr C mX12_init (111, L, st, M) x = Rr C mX12_init (113, L, qi (-5) :: st, M) x := g_pl (show decode cX12_init 111 = .ok (.bipush (-5), 2) by decide +kernel) rfl
set_option maxRecDepth 20000 in
theorem kX12_init_113 {C : QC} {x : QP} {M : QM} {st : List CV} {L : QL} {z : Int} {a : Nat} (hk : q_kd M a = (1, 12)) : Rr C mX12_init (113, L, qi z :: qr a :: st, M) x = Rr C mX12_init (116, L, st, q_wr M a 11 (qi z)) x := g_putf (ow := 12) (ini := true) (e := (12, 11, RX12, 390, 0)) (r := (RX12, TX12, 14)) (t := tyX12) (show decode cX12_init 113 = .ok (.putfield 73, 3) by decide +kernel) rfl rfl rfl rfl (by decide +kernel) hk
set_option maxRecDepth 20000 in
theorem kX12_init_116 {C : QC} {x : QP} {M : QM} {st : List CV} {L : QL} {r : Option Nat} : Rr C mX12_init (116, [some (.inr (.inr r))], st, M) x = Rr C mX12_init (117, [some (.inr (.inr r))], .inr (.inr r) :: st, M) x := g_pl (show decode cX12_init 116 = .ok (.aload_n 0, 1) by decide +kernel) rfl
set_option maxRecDepth 20000 in
theorem kX12_init_117 {C : QC} {x : QP} {M : QM} {st : List CV} {L : QL} : Rr C mX12_init (117, L, st, M) x = Rr C mX12_init (119, L, qi 20 :: st, M) x := g_pl (show decode cX12_init 117 = .ok (.bipush 20, 2) by decide +kernel) rfl
set_option maxRecDepth 20000 in
theorem kX12_init_119 {C : QC} {x : QP} {M : QM} {st : List CV} {L : QL} {n : Int} (h0 : 0 ≤ n) (h1 : n ≤ 60000000) : Rr C mX12_init (119, L, qi n :: st, M) x = Rr C mX12_init (121, L, qr (q_top M) :: st, q_al M (2, n.toNat) n.toNat (fun _ => qi 0)) x := g_newI (show decode cX12_init 119 = .ok (.newarray .int, 2) by decide +kernel) h0 h1
set_option maxRecDepth 20000 in
theorem kX12_init_121 {C : QC} {x : QP} {M : QM} {st : List CV} {L : QL} {z : Option Nat} {a : Nat} (hk : q_kd M a = (1, 12)) : Rr C mX12_init (121, L, .inr (.inr z) :: qr a :: st, M) x = Rr C mX12_init (124, L, st, q_wr M a 12 (.inr (.inr z))) x := g_putf (ow := 12) (ini := true) (e := (12, 12, RX12, 391, 0)) (r := (RX12, TX12, 14)) (t := tyX12) (show decode cX12_init 121 = .ok (.putfield 76, 3) by decide +kernel) rfl rfl rfl rfl (by decide +kernel) hk
set_option maxRecDepth 20000 in
theorem kX12_init_124 {C : QC} {x : QP} {M : QM} {st : List CV} {L : QL} {r : Option Nat} : Rr C mX12_init (124, [some (.inr (.inr r))], st, M) x = Rr C mX12_init (125, [some (.inr (.inr r))], .inr (.inr r) :: st, M) x := g_pl (show decode cX12_init 124 = .ok (.aload_n 0, 1) by decide +kernel) rfl
set_option maxRecDepth 20000 in
theorem kX12_init_125 {C : QC} {x : QP} {M : QM} {st : List CV} {L : QL} : Rr C mX12_init (125, L, st, M) x = Rr C mX12_init (126, L, qi 0 :: st, M) x := g_pl (show decode cX12_init 125 = .ok (.iconst 0, 1) by decide +kernel) rfl
set_option maxRecDepth 20000 in
theorem kX12_init_126 {C : QC} {x : QP} {M : QM} {st : List CV} {L : QL} {z : Int} {a : Nat} (hk : q_kd M a = (1, 12)) : Rr C mX12_init (126, L, qi z :: qr a :: st, M) x = Rr C mX12_init (129, L, st, q_wr M a 13 (qi z)) x := g_putf (ow := 12) (ini := true) (e := (12, 13, RX12, 392, 0)) (r := (RX12, TX12, 14)) (t := tyX12) (show decode cX12_init 126 = .ok (.putfield 79, 3) by decide +kernel) rfl rfl rfl rfl (by decide +kernel) hk
set_option maxRecDepth 20000 in
theorem kX12_init_129 {C : QC} {x : QP} {M : QM} {st : List CV} {L : QL} : Rr C mX12_init (129, L, [], M) x = x none M := g_vret (show decode cX12_init 129 = .ok (.return_, 1) by decide +kernel)
set_option maxRecDepth 20000 in
theorem eX12_init {d : Nat} {M : QM} {x : QP} {a : Nat} : q_T (d + 1) iX12_init [qr a] M x = Rr (q_C d) mX12_init (0, [some (qr a)], [], M) x := g_entryT (e := _) rfl (Nat.le_of_ble_eq_true rfl) rfl rfl
def mX12_feed : QI := (12, cX12_feed, false, some .int)
set_option maxRecDepth 20000 in
theorem kX12_feed_0 {C : QC} {x : QP} {M : QM} {st : List CV} {L : QL} {l0 l1 l2 l3 l4 l5 l6 : Option CV} {z : Int} : Rr C mX12_feed (0, [l0, some (qi z), l2, l3, l4, l5, l6], st, M) x = Rr C mX12_feed (1, [l0, some (qi z), l2, l3, l4, l5, l6], qi z :: st, M) x := g_pl (show decode cX12_feed 0 = .ok (.iload_n 1, 1) by decide +kernel) rfl
set_option maxRecDepth 20000 in
theorem kX12_feed_1 {C : QC} {x : QP} {M : QM} {st : List CV} {L : QL} : Rr C mX12_feed (1, L, st, M) x = Rr C mX12_feed (2, L, qi 1 :: st, M) x := g_pl (show decode cX12_feed 1 = .ok (.iconst 1, 1) by decide +kernel) rfl
set_option maxRecDepth 20000 in
theorem kX12_feed_2 {C : QC} {x : QP} {M : QM} {st : List CV} {L : QL} {a b : Int} (ha1 : -2147483648 ≤ a) (ha2 : a < 2147483648) (hb1 : -2147483648 ≤ b) (hb2 : b < 2147483648) : Rr C mX12_feed (2, L, qi b :: qi a :: st, M) x = (if a < b then Rr C mX12_feed (10, L, st, M) x else Rr C mX12_feed (5, L, st, M) x) := (g_icmp (show decode cX12_feed 2 = .ok (.if_icmp .lt 8, 3) by decide +kernel) rfl ha1 ha2 hb1 hb2).trans (g_ite c_lt)
set_option maxRecDepth 20000 in
theorem kX12_feed_5 {C : QC} {x : QP} {M : QM} {st : List CV} {L : QL} {l0 l1 l2 l3 l4 l5 l6 : Option CV} {z : Int} : Rr C mX12_feed (5, [l0, some (qi z), l2, l3, l4, l5, l6], st, M) x = Rr C mX12_feed (6, [l0, some (qi z), l2, l3, l4, l5, l6], qi z :: st, M) x := g_pl (show decode cX12_feed 5 = .ok (.iload_n 1, 1) by decide +kernel) rfl
set_option maxRecDepth 20000 in
theorem kX12_feed_6 {C : QC} {x : QP} {M : QM} {st : List CV} {L : QL} : Rr C mX12_feed (6, L, st, M) x = Rr C mX12_feed (7, L, qi 5 :: st, M) x := g_pl (show decode cX12_feed 6 = .ok (.iconst 5, 1) by decide +kernel) rfl
set_option maxRecDepth 20000 in
theorem kX12_feed_7 {C : QC} {x : QP} {M : QM} {st : List CV} {L : QL} {a b : Int} (ha1 : -2147483648 ≤ a) (ha2 : a < 2147483648) (hb1 : -2147483648 ≤ b) (hb2 : b < 2147483648) : Rr C mX12_feed (7, L, qi b :: qi a :: st, M) x = (if b < a then Rr C mX12_feed (10, L, st, M) x else Rr C mX12_feed (13, L, st, M) x) := (g_icmp (show decode cX12_feed 7 = .ok (.if_icmp .le 6, 3) by decide +kernel) rfl ha1 ha2 hb1 hb2).trans (g_itn c_le)
set_option maxRecDepth 20000 in
theorem kX12_feed_10 {C : QC} {x : QP} {M : QM} {st : List CV} {L : QL} : Rr C mX12_feed (10, L, st, M) x = Rr C mX12_feed (12, L, qi (-2) :: st, M) x := g_pl (show decode cX12_feed 10 = .ok (.bipush (-2), 2) by decide +kernel) rfl
set_option maxRecDepth 20000 in
theorem kX12_feed_12 {C : QC} {x : QP} {M : QM} {st : List CV} {L : QL} {z : Int} : Rr C mX12_feed (12, L, [qi z], M) x = x (some (qi z)) M := g_iret (show decode cX12_feed 12 = .ok (.ireturn, 1) by decide +kernel) rfl
set_option maxRecDepth 20000 in
theorem kX12_feed_13 {C : QC} {x : QP} {M : QM} {st : List CV} {L : QL} {l0 l1 l2 l3 l4 l5 l6 : Option CV} {z : Int} : Rr C mX12_feed (13, [l0, l1, some (qi z), l3, l4, l5, l6], st, M) x = Rr C mX12_feed (14, [l0, l1, some (qi z), l3, l4, l5, l6], qi z :: st, M) x := g_pl (show decode cX12_feed 13 = .ok (.iload_n 2, 1) by decide +kernel) rfl
set_option maxRecDepth 20000 in
theorem kX12_feed_14 {C : QC} {x : QP} {M : QM} {L : QL} {rest : List CV} {a0 : CV} {v : CV} {M1 : QM} (hC : C iX12_isByte [a0] M (some v) M1) (hw : (rest.map q_wd).sum ≤ 8) (k : Rr C mX12_feed (17, L, v :: rest, M1) x) : Rr C mX12_feed (14, L, a0 :: rest, M) x := g_cs (ow := 12) (e := (1, 16, 0, [426, 427, 77])) (as := [a0]) (show decode cX12_feed 14 = .ok (.invokestatic 82, 3) by decide +kernel) rfl rfl rfl rfl (Or.inl rfl) rfl hC hw k
set_option maxRecDepth 20000 in
theorem kX12_feed_17 {C : QC} {x : QP} {M : QM} {st : List CV} {L : QL} {a : Int} (ha1 : -2147483648 ≤ a) (ha2 : a < 2147483648) : Rr C mX12_feed (17, L, qi a :: st, M) x = (if a = 0 then Rr C mX12_feed (51, L, st, M) x else Rr C mX12_feed (20, L, st, M) x) := (g_if (show decode cX12_feed 17 = .ok (.ifCond .eq 34, 3) by decide +kernel) rfl ha1 ha2).trans (g_ite c_eq)
set_option maxRecDepth 20000 in
theorem kX12_feed_20 {C : QC} {x : QP} {M : QM} {st : List CV} {L : QL} {l0 l1 l2 l3 l4 l5 l6 : Option CV} {z : Int} : Rr C mX12_feed (20, [l0, l1, l2, some (qi z), l4, l5, l6], st, M) x = Rr C mX12_feed (21, [l0, l1, l2, some (qi z), l4, l5, l6], qi z :: st, M) x := g_pl (show decode cX12_feed 20 = .ok (.iload_n 3, 1) by decide +kernel) rfl
set_option maxRecDepth 20000 in
theorem kX12_feed_21 {C : QC} {x : QP} {M : QM} {L : QL} {rest : List CV} {a0 : CV} {v : CV} {M1 : QM} (hC : C iX12_isByte [a0] M (some v) M1) (hw : (rest.map q_wd).sum ≤ 8) (k : Rr C mX12_feed (24, L, v :: rest, M1) x) : Rr C mX12_feed (21, L, a0 :: rest, M) x := g_cs (ow := 12) (e := (1, 16, 0, [426, 427, 77])) (as := [a0]) (show decode cX12_feed 21 = .ok (.invokestatic 82, 3) by decide +kernel) rfl rfl rfl rfl (Or.inl rfl) rfl hC hw k
set_option maxRecDepth 20000 in
theorem kX12_feed_24 {C : QC} {x : QP} {M : QM} {st : List CV} {L : QL} {a : Int} (ha1 : -2147483648 ≤ a) (ha2 : a < 2147483648) : Rr C mX12_feed (24, L, qi a :: st, M) x = (if a = 0 then Rr C mX12_feed (51, L, st, M) x else Rr C mX12_feed (27, L, st, M) x) := (g_if (show decode cX12_feed 24 = .ok (.ifCond .eq 27, 3) by decide +kernel) rfl ha1 ha2).trans (g_ite c_eq)
set_option maxRecDepth 20000 in
theorem kX12_feed_27 {C : QC} {x : QP} {M : QM} {st : List CV} {L : QL} {l0 l1 l2 l3 l4 l5 l6 : Option CV} {z : Int} : Rr C mX12_feed (27, [l0, l1, l2, l3, some (qi z), l5, l6], st, M) x = Rr C mX12_feed (29, [l0, l1, l2, l3, some (qi z), l5, l6], qi z :: st, M) x := g_pl (show decode cX12_feed 27 = .ok (.iload 4, 2) by decide +kernel) rfl
set_option maxRecDepth 20000 in
theorem kX12_feed_29 {C : QC} {x : QP} {M : QM} {L : QL} {rest : List CV} {a0 : CV} {v : CV} {M1 : QM} (hC : C iX12_isByte [a0] M (some v) M1) (hw : (rest.map q_wd).sum ≤ 8) (k : Rr C mX12_feed (32, L, v :: rest, M1) x) : Rr C mX12_feed (29, L, a0 :: rest, M) x := g_cs (ow := 12) (e := (1, 16, 0, [426, 427, 77])) (as := [a0]) (show decode cX12_feed 29 = .ok (.invokestatic 82, 3) by decide +kernel) rfl rfl rfl rfl (Or.inl rfl) rfl hC hw k
set_option maxRecDepth 20000 in
theorem kX12_feed_32 {C : QC} {x : QP} {M : QM} {st : List CV} {L : QL} {a : Int} (ha1 : -2147483648 ≤ a) (ha2 : a < 2147483648) : Rr C mX12_feed (32, L, qi a :: st, M) x = (if a = 0 then Rr C mX12_feed (51, L, st, M) x else Rr C mX12_feed (35, L, st, M) x) := (g_if (show decode cX12_feed 32 = .ok (.ifCond .eq 19, 3) by decide +kernel) rfl ha1 ha2).trans (g_ite c_eq)
set_option maxRecDepth 20000 in
theorem kX12_feed_35 {C : QC} {x : QP} {M : QM} {st : List CV} {L : QL} {l0 l1 l2 l3 l4 l5 l6 : Option CV} {z : Int} : Rr C mX12_feed (35, [l0, l1, l2, l3, l4, some (qi z), l6], st, M) x = Rr C mX12_feed (37, [l0, l1, l2, l3, l4, some (qi z), l6], qi z :: st, M) x := g_pl (show decode cX12_feed 35 = .ok (.iload 5, 2) by decide +kernel) rfl
set_option maxRecDepth 20000 in
theorem kX12_feed_37 {C : QC} {x : QP} {M : QM} {L : QL} {rest : List CV} {a0 : CV} {v : CV} {M1 : QM} (hC : C iX12_isByte [a0] M (some v) M1) (hw : (rest.map q_wd).sum ≤ 8) (k : Rr C mX12_feed (40, L, v :: rest, M1) x) : Rr C mX12_feed (37, L, a0 :: rest, M) x := g_cs (ow := 12) (e := (1, 16, 0, [426, 427, 77])) (as := [a0]) (show decode cX12_feed 37 = .ok (.invokestatic 82, 3) by decide +kernel) rfl rfl rfl rfl (Or.inl rfl) rfl hC hw k
set_option maxRecDepth 20000 in
theorem kX12_feed_40 {C : QC} {x : QP} {M : QM} {st : List CV} {L : QL} {a : Int} (ha1 : -2147483648 ≤ a) (ha2 : a < 2147483648) : Rr C mX12_feed (40, L, qi a :: st, M) x = (if a = 0 then Rr C mX12_feed (51, L, st, M) x else Rr C mX12_feed (43, L, st, M) x) := (g_if (show decode cX12_feed 40 = .ok (.ifCond .eq 11, 3) by decide +kernel) rfl ha1 ha2).trans (g_ite c_eq)
set_option maxRecDepth 20000 in
theorem kX12_feed_43 {C : QC} {x : QP} {M : QM} {st : List CV} {L : QL} {l0 l1 l2 l3 l4 l5 l6 : Option CV} {z : Int} : Rr C mX12_feed (43, [l0, l1, l2, l3, l4, l5, some (qi z)], st, M) x = Rr C mX12_feed (45, [l0, l1, l2, l3, l4, l5, some (qi z)], qi z :: st, M) x := g_pl (show decode cX12_feed 43 = .ok (.iload 6, 2) by decide +kernel) rfl
set_option maxRecDepth 20000 in
theorem kX12_feed_45 {C : QC} {x : QP} {M : QM} {L : QL} {rest : List CV} {a0 : CV} {v : CV} {M1 : QM} (hC : C iX12_isByte [a0] M (some v) M1) (hw : (rest.map q_wd).sum ≤ 8) (k : Rr C mX12_feed (48, L, v :: rest, M1) x) : Rr C mX12_feed (45, L, a0 :: rest, M) x := g_cs (ow := 12) (e := (1, 16, 0, [426, 427, 77])) (as := [a0]) (show decode cX12_feed 45 = .ok (.invokestatic 82, 3) by decide +kernel) rfl rfl rfl rfl (Or.inl rfl) rfl hC hw k
set_option maxRecDepth 20000 in
theorem kX12_feed_48 {C : QC} {x : QP} {M : QM} {st : List CV} {L : QL} {a : Int} (ha1 : -2147483648 ≤ a) (ha2 : a < 2147483648) : Rr C mX12_feed (48, L, qi a :: st, M) x = (if a = 0 then Rr C mX12_feed (51, L, st, M) x else Rr C mX12_feed (54, L, st, M) x) := (g_if (show decode cX12_feed 48 = .ok (.ifCond .ne 6, 3) by decide +kernel) rfl ha1 ha2).trans (g_itn c_ne)
set_option maxRecDepth 20000 in
theorem kX12_feed_51 {C : QC} {x : QP} {M : QM} {st : List CV} {L : QL} : Rr C mX12_feed (51, L, st, M) x = Rr C mX12_feed (53, L, qi (-2) :: st, M) x := g_pl (show decode cX12_feed 51 = .ok (.bipush (-2), 2) by decide +kernel) rfl
set_option maxRecDepth 20000 in
theorem kX12_feed_53 {C : QC} {x : QP} {M : QM} {st : List CV} {L : QL} {z : Int} : Rr C mX12_feed (53, L, [qi z], M) x = x (some (qi z)) M := g_iret (show decode cX12_feed 53 = .ok (.ireturn, 1) by decide +kernel) rfl
set_option maxRecDepth 20000 in
theorem kX12_feed_54 {C : QC} {x : QP} {M : QM} {st : List CV} {L : QL} {l0 l1 l2 l3 l4 l5 l6 : Option CV} {r : Option Nat} : Rr C mX12_feed (54, [some (.inr (.inr r)), l1, l2, l3, l4, l5, l6], st, M) x = Rr C mX12_feed (55, [some (.inr (.inr r)), l1, l2, l3, l4, l5, l6], .inr (.inr r) :: st, M) x := g_pl (show decode cX12_feed 54 = .ok (.aload_n 0, 1) by decide +kernel) rfl
set_option maxRecDepth 20000 in
theorem kX12_feed_55 {C : QC} {x : QP} {M : QM} {st : List CV} {L : QL} {a : Nat} (hk : q_kd M a = (1, 12)) : Rr C mX12_feed (55, L, qr a :: st, M) x = Rr C mX12_feed (58, L, q_fv M a 0 :: st, M) x := g_getf (ow := 12) (e := (12, 0, RX12, 379, 0)) (show decode cX12_feed 55 = .ok (.getfield 10, 3) by decide +kernel) rfl hk
set_option maxRecDepth 20000 in
theorem kX12_feed_58 {C : QC} {x : QP} {M : QM} {L : QL} {rest : List CV} {v : CV} {M1 : QM} {b : Nat} (hb : q_kd M b = (1, 8)) (hC : C iX8_length [qr b] M (some v) M1) (hw : (rest.map q_wd).sum ≤ 8) (k : Rr C mX12_feed (61, L, v :: rest, M1) x) : Rr C mX12_feed (58, L, qr b :: rest, M) x := g_cv (ow := 12) (e := (0, 17, 8, [429, 430, 431, 78])) (as := []) (show decode cX12_feed 58 = .ok (.invokevirtual 86, 3) by decide +kernel) rfl rfl rfl (Or.inl rfl) rfl hb hC hw k
set_option maxRecDepth 20000 in
theorem kX12_feed_61 {C : QC} {x : QP} {M : QM} {st : List CV} {L : QL} {l0 l1 l2 l3 l4 l5 l6 : Option CV} {z : Int} : Rr C mX12_feed (61, [l0, some (qi z), l2, l3, l4, l5, l6], st, M) x = Rr C mX12_feed (62, [l0, some (qi z), l2, l3, l4, l5, l6], qi z :: st, M) x := g_pl (show decode cX12_feed 61 = .ok (.iload_n 1, 1) by decide +kernel) rfl
set_option maxRecDepth 20000 in
theorem kX12_feed_62 {C : QC} {x : QP} {M : QM} {st : List CV} {L : QL} {a b : Int} : Rr C mX12_feed (62, L, qi b :: qi a :: st, M) x = Rr C mX12_feed (63, L, qi (a + b) :: st, M) x := g_pl (show decode cX12_feed 62 = .ok (.iadd, 1) by decide +kernel) rfl
set_option maxRecDepth 20000 in
theorem kX12_feed_63 {C : QC} {x : QP} {M : QM} {st : List CV} {L : QL} : Rr C mX12_feed (63, L, st, M) x = Rr C mX12_feed (65, L, qi 80 :: st, M) x := g_pl (show decode cX12_feed 63 = .ok (.bipush 80, 2) by decide +kernel) rfl
set_option maxRecDepth 20000 in
theorem kX12_feed_65 {C : QC} {x : QP} {M : QM} {st : List CV} {L : QL} {a b : Int} (ha1 : -2147483648 ≤ a) (ha2 : a < 2147483648) (hb1 : -2147483648 ≤ b) (hb2 : b < 2147483648) : Rr C mX12_feed (65, L, qi b :: qi a :: st, M) x = (if b < a then Rr C mX12_feed (68, L, st, M) x else Rr C mX12_feed (71, L, st, M) x) := (g_icmp (show decode cX12_feed 65 = .ok (.if_icmp .le 6, 3) by decide +kernel) rfl ha1 ha2 hb1 hb2).trans (g_itn c_le)
set_option maxRecDepth 20000 in
theorem kX12_feed_68 {C : QC} {x : QP} {M : QM} {st : List CV} {L : QL} : Rr C mX12_feed (68, L, st, M) x = Rr C mX12_feed (70, L, qi (-4) :: st, M) x := g_pl (show decode cX12_feed 68 = .ok (.bipush (-4), 2) by decide +kernel) rfl
set_option maxRecDepth 20000 in
theorem kX12_feed_70 {C : QC} {x : QP} {M : QM} {st : List CV} {L : QL} {z : Int} : Rr C mX12_feed (70, L, [qi z], M) x = x (some (qi z)) M := g_iret (show decode cX12_feed 70 = .ok (.ireturn, 1) by decide +kernel) rfl
set_option maxRecDepth 20000 in
theorem kX12_feed_71 {C : QC} {x : QP} {M : QM} {st : List CV} {L : QL} {l0 l1 l2 l3 l4 l5 l6 : Option CV} {r : Option Nat} : Rr C mX12_feed (71, [some (.inr (.inr r)), l1, l2, l3, l4, l5, l6], st, M) x = Rr C mX12_feed (72, [some (.inr (.inr r)), l1, l2, l3, l4, l5, l6], .inr (.inr r) :: st, M) x := g_pl (show decode cX12_feed 71 = .ok (.aload_n 0, 1) by decide +kernel) rfl
set_option maxRecDepth 20000 in
theorem kX12_feed_72 {C : QC} {x : QP} {M : QM} {st : List CV} {L : QL} {a : Nat} (hk : q_kd M a = (1, 12)) : Rr C mX12_feed (72, L, qr a :: st, M) x = Rr C mX12_feed (75, L, q_fv M a 0 :: st, M) x := g_getf (ow := 12) (e := (12, 0, RX12, 379, 0)) (show decode cX12_feed 72 = .ok (.getfield 10, 3) by decide +kernel) rfl hk
set_option maxRecDepth 20000 in
theorem kX12_feed_75 {C : QC} {x : QP} {M : QM} {st : List CV} {L : QL} {l0 l1 l2 l3 l4 l5 l6 : Option CV} {z : Int} : Rr C mX12_feed (75, [l0, l1, some (qi z), l3, l4, l5, l6], st, M) x = Rr C mX12_feed (76, [l0, l1, some (qi z), l3, l4, l5, l6], qi z :: st, M) x := g_pl (show decode cX12_feed 75 = .ok (.iload_n 2, 1) by decide +kernel) rfl
set_option maxRecDepth 20000 in
theorem kX12_feed_76 {C : QC} {x : QP} {M : QM} {L : QL} {rest : List CV} {a0 : CV} {M1 : QM} {b : Nat} (hb : q_kd M b = (1, 8)) (hC : C iX8_append [qr b, a0] M none M1) (hw : (rest.map q_wd).sum ≤ 8) (k : Rr C mX12_feed (79, L, rest, M1) x) : Rr C mX12_feed (76, L, a0 :: qr b :: rest, M) x := g_cv (ow := 12) (e := (0, 18, 8, [433, 434, 435, 78])) (as := [a0]) (show decode cX12_feed 76 = .ok (.invokevirtual 90, 3) by decide +kernel) rfl rfl rfl (Or.inl rfl) rfl hb hC hw k
set_option maxRecDepth 20000 in
theorem kX12_feed_79 {C : QC} {x : QP} {M : QM} {st : List CV} {L : QL} {l0 l1 l2 l3 l4 l5 l6 : Option CV} {z : Int} : Rr C mX12_feed (79, [l0, some (qi z), l2, l3, l4, l5, l6], st, M) x = Rr C mX12_feed (80, [l0, some (qi z), l2, l3, l4, l5, l6], qi z :: st, M) x := g_pl (show decode cX12_feed 79 = .ok (.iload_n 1, 1) by decide +kernel) rfl
set_option maxRecDepth 20000 in
theorem kX12_feed_80 {C : QC} {x : QP} {M : QM} {st : List CV} {L : QL} : Rr C mX12_feed (80, L, st, M) x = Rr C mX12_feed (81, L, qi 1 :: st, M) x := g_pl (show decode cX12_feed 80 = .ok (.iconst 1, 1) by decide +kernel) rfl
set_option maxRecDepth 20000 in
theorem kX12_feed_81 {C : QC} {x : QP} {M : QM} {st : List CV} {L : QL} {a b : Int} (ha1 : -2147483648 ≤ a) (ha2 : a < 2147483648) (hb1 : -2147483648 ≤ b) (hb2 : b < 2147483648) : Rr C mX12_feed (81, L, qi b :: qi a :: st, M) x = (if b < a then Rr C mX12_feed (84, L, st, M) x else Rr C mX12_feed (92, L, st, M) x) := (g_icmp (show decode cX12_feed 81 = .ok (.if_icmp .le 11, 3) by decide +kernel) rfl ha1 ha2 hb1 hb2).trans (g_itn c_le)
set_option maxRecDepth 20000 in
theorem kX12_feed_84 {C : QC} {x : QP} {M : QM} {st : List CV} {L : QL} {l0 l1 l2 l3 l4 l5 l6 : Option CV} {r : Option Nat} : Rr C mX12_feed (84, [some (.inr (.inr r)), l1, l2, l3, l4, l5, l6], st, M) x = Rr C mX12_feed (85, [some (.inr (.inr r)), l1, l2, l3, l4, l5, l6], .inr (.inr r) :: st, M) x := g_pl (show decode cX12_feed 84 = .ok (.aload_n 0, 1) by decide +kernel) rfl
set_option maxRecDepth 20000 in
theorem kX12_feed_85 {C : QC} {x : QP} {M : QM} {st : List CV} {L : QL} {a : Nat} (hk : q_kd M a = (1, 12)) : Rr C mX12_feed (85, L, qr a :: st, M) x = Rr C mX12_feed (88, L, q_fv M a 0 :: st, M) x := g_getf (ow := 12) (e := (12, 0, RX12, 379, 0)) (show decode cX12_feed 85 = .ok (.getfield 10, 3) by decide +kernel) rfl hk
set_option maxRecDepth 20000 in
theorem kX12_feed_88 {C : QC} {x : QP} {M : QM} {st : List CV} {L : QL} {l0 l1 l2 l3 l4 l5 l6 : Option CV} {z : Int} : Rr C mX12_feed (88, [l0, l1, l2, some (qi z), l4, l5, l6], st, M) x = Rr C mX12_feed (89, [l0, l1, l2, some (qi z), l4, l5, l6], qi z :: st, M) x := g_pl (show decode cX12_feed 88 = .ok (.iload_n 3, 1) by decide +kernel) rfl
set_option maxRecDepth 20000 in
theorem kX12_feed_89 {C : QC} {x : QP} {M : QM} {L : QL} {rest : List CV} {a0 : CV} {M1 : QM} {b : Nat} (hb : q_kd M b = (1, 8)) (hC : C iX8_append [qr b, a0] M none M1) (hw : (rest.map q_wd).sum ≤ 8) (k : Rr C mX12_feed (92, L, rest, M1) x) : Rr C mX12_feed (89, L, a0 :: qr b :: rest, M) x := g_cv (ow := 12) (e := (0, 18, 8, [433, 434, 435, 78])) (as := [a0]) (show decode cX12_feed 89 = .ok (.invokevirtual 90, 3) by decide +kernel) rfl rfl rfl (Or.inl rfl) rfl hb hC hw k
set_option maxRecDepth 20000 in
theorem kX12_feed_92 {C : QC} {x : QP} {M : QM} {st : List CV} {L : QL} {l0 l1 l2 l3 l4 l5 l6 : Option CV} {z : Int} : Rr C mX12_feed (92, [l0, some (qi z), l2, l3, l4, l5, l6], st, M) x = Rr C mX12_feed (93, [l0, some (qi z), l2, l3, l4, l5, l6], qi z :: st, M) x := g_pl (show decode cX12_feed 92 = .ok (.iload_n 1, 1) by decide +kernel) rfl
set_option maxRecDepth 20000 in
theorem kX12_feed_93 {C : QC} {x : QP} {M : QM} {st : List CV} {L : QL} : Rr C mX12_feed (93, L, st, M) x = Rr C mX12_feed (94, L, qi 2 :: st, M) x := g_pl (show decode cX12_feed 93 = .ok (.iconst 2, 1) by decide +kernel) rfl
set_option maxRecDepth 20000 in
theorem kX12_feed_94 {C : QC} {x : QP} {M : QM} {st : List CV} {L : QL} {a b : Int} (ha1 : -2147483648 ≤ a) (ha2 : a < 2147483648) (hb1 : -2147483648 ≤ b) (hb2 : b < 2147483648) : Rr C mX12_feed (94, L, qi b :: qi a :: st, M) x = (if b < a then Rr C mX12_feed (97, L, st, M) x else Rr C mX12_feed (106, L, st, M) x) := (g_icmp (show decode cX12_feed 94 = .ok (.if_icmp .le 12, 3) by decide +kernel) rfl ha1 ha2 hb1 hb2).trans (g_itn c_le)
set_option maxRecDepth 20000 in
theorem kX12_feed_97 {C : QC} {x : QP} {M : QM} {st : List CV} {L : QL} {l0 l1 l2 l3 l4 l5 l6 : Option CV} {r : Option Nat} : Rr C mX12_feed (97, [some (.inr (.inr r)), l1, l2, l3, l4, l5, l6], st, M) x = Rr C mX12_feed (98, [some (.inr (.inr r)), l1, l2, l3, l4, l5, l6], .inr (.inr r) :: st, M) x := g_pl (show decode cX12_feed 97 = .ok (.aload_n 0, 1) by decide +kernel) rfl
set_option maxRecDepth 20000 in
theorem kX12_feed_98 {C : QC} {x : QP} {M : QM} {st : List CV} {L : QL} {a : Nat} (hk : q_kd M a = (1, 12)) : Rr C mX12_feed (98, L, qr a :: st, M) x = Rr C mX12_feed (101, L, q_fv M a 0 :: st, M) x := g_getf (ow := 12) (e := (12, 0, RX12, 379, 0)) (show decode cX12_feed 98 = .ok (.getfield 10, 3) by decide +kernel) rfl hk
set_option maxRecDepth 20000 in
theorem kX12_feed_101 {C : QC} {x : QP} {M : QM} {st : List CV} {L : QL} {l0 l1 l2 l3 l4 l5 l6 : Option CV} {z : Int} : Rr C mX12_feed (101, [l0, l1, l2, l3, some (qi z), l5, l6], st, M) x = Rr C mX12_feed (103, [l0, l1, l2, l3, some (qi z), l5, l6], qi z :: st, M) x := g_pl (show decode cX12_feed 101 = .ok (.iload 4, 2) by decide +kernel) rfl
set_option maxRecDepth 20000 in
theorem kX12_feed_103 {C : QC} {x : QP} {M : QM} {L : QL} {rest : List CV} {a0 : CV} {M1 : QM} {b : Nat} (hb : q_kd M b = (1, 8)) (hC : C iX8_append [qr b, a0] M none M1) (hw : (rest.map q_wd).sum ≤ 8) (k : Rr C mX12_feed (106, L, rest, M1) x) : Rr C mX12_feed (103, L, a0 :: qr b :: rest, M) x := g_cv (ow := 12) (e := (0, 18, 8, [433, 434, 435, 78])) (as := [a0]) (show decode cX12_feed 103 = .ok (.invokevirtual 90, 3) by decide +kernel) rfl rfl rfl (Or.inl rfl) rfl hb hC hw k
set_option maxRecDepth 20000 in
theorem kX12_feed_106 {C : QC} {x : QP} {M : QM} {st : List CV} {L : QL} {l0 l1 l2 l3 l4 l5 l6 : Option CV} {z : Int} : Rr C mX12_feed (106, [l0, some (qi z), l2, l3, l4, l5, l6], st, M) x = Rr C mX12_feed (107, [l0, some (qi z), l2, l3, l4, l5, l6], qi z :: st, M) x := g_pl (show decode cX12_feed 106 = .ok (.iload_n 1, 1) by decide +kernel) rfl
set_option maxRecDepth 20000 in
theorem kX12_feed_107 {C : QC} {x : QP} {M : QM} {st : List CV} {L : QL} : Rr C mX12_feed (107, L, st, M) x = Rr C mX12_feed (108, L, qi 3 :: st, M) x := g_pl (show decode cX12_feed 107 = .ok (.iconst 3, 1) by decide +kernel) rfl
set_option maxRecDepth 20000 in
theorem kX12_feed_108 {C : QC} {x : QP} {M : QM} {st : List CV} {L : QL} {a b : Int} (ha1 : -2147483648 ≤ a) (ha2 : a < 2147483648) (hb1 : -2147483648 ≤ b) (hb2 : b < 2147483648) : Rr C mX12_feed (108, L, qi b :: qi a :: st, M) x = (if b < a then Rr C mX12_feed (111, L, st, M) x else Rr C mX12_feed (120, L, st, M) x) := (g_icmp (show decode cX12_feed 108 = .ok (.if_icmp .le 12, 3) by decide +kernel) rfl ha1 ha2 hb1 hb2).trans (g_itn c_le)
set_option maxRecDepth 20000 in
theorem kX12_feed_111 {C : QC} {x : QP} {M : QM} {st : List CV} {L : QL} {l0 l1 l2 l3 l4 l5 l6 : Option CV} {r : Option Nat} : Rr C mX12_feed (111, [some (.inr (.inr r)), l1, l2, l3, l4, l5, l6], st, M) x = Rr C mX12_feed (112, [some (.inr (.inr r)), l1, l2, l3, l4, l5, l6], .inr (.inr r) :: st, M) x := g_pl (show decode cX12_feed 111 = .ok (.aload_n 0, 1) by decide +kernel) rfl
set_option maxRecDepth 20000 in
theorem kX12_feed_112 {C : QC} {x : QP} {M : QM} {st : List CV} {L : QL} {a : Nat} (hk : q_kd M a = (1, 12)) : Rr C mX12_feed (112, L, qr a :: st, M) x = Rr C mX12_feed (115, L, q_fv M a 0 :: st, M) x := g_getf (ow := 12) (e := (12, 0, RX12, 379, 0)) (show decode cX12_feed 112 = .ok (.getfield 10, 3) by decide +kernel) rfl hk
set_option maxRecDepth 20000 in
theorem kX12_feed_115 {C : QC} {x : QP} {M : QM} {st : List CV} {L : QL} {l0 l1 l2 l3 l4 l5 l6 : Option CV} {z : Int} : Rr C mX12_feed (115, [l0, l1, l2, l3, l4, some (qi z), l6], st, M) x = Rr C mX12_feed (117, [l0, l1, l2, l3, l4, some (qi z), l6], qi z :: st, M) x := g_pl (show decode cX12_feed 115 = .ok (.iload 5, 2) by decide +kernel) rfl
set_option maxRecDepth 20000 in
theorem kX12_feed_117 {C : QC} {x : QP} {M : QM} {L : QL} {rest : List CV} {a0 : CV} {M1 : QM} {b : Nat} (hb : q_kd M b = (1, 8)) (hC : C iX8_append [qr b, a0] M none M1) (hw : (rest.map q_wd).sum ≤ 8) (k : Rr C mX12_feed (120, L, rest, M1) x) : Rr C mX12_feed (117, L, a0 :: qr b :: rest, M) x := g_cv (ow := 12) (e := (0, 18, 8, [433, 434, 435, 78])) (as := [a0]) (show decode cX12_feed 117 = .ok (.invokevirtual 90, 3) by decide +kernel) rfl rfl rfl (Or.inl rfl) rfl hb hC hw k
set_option maxRecDepth 20000 in
theorem kX12_feed_120 {C : QC} {x : QP} {M : QM} {st : List CV} {L : QL} {l0 l1 l2 l3 l4 l5 l6 : Option CV} {z : Int} : Rr C mX12_feed (120, [l0, some (qi z), l2, l3, l4, l5, l6], st, M) x = Rr C mX12_feed (121, [l0, some (qi z), l2, l3, l4, l5, l6], qi z :: st, M) x := g_pl (show decode cX12_feed 120 = .ok (.iload_n 1, 1) by decide +kernel) rfl
set_option maxRecDepth 20000 in
theorem kX12_feed_121 {C : QC} {x : QP} {M : QM} {st : List CV} {L : QL} : Rr C mX12_feed (121, L, st, M) x = Rr C mX12_feed (122, L, qi 4 :: st, M) x := g_pl (show decode cX12_feed 121 = .ok (.iconst 4, 1) by decide +kernel) rfl
set_option maxRecDepth 20000 in
theorem kX12_feed_122 {C : QC} {x : QP} {M : QM} {st : List CV} {L : QL} {a b : Int} (ha1 : -2147483648 ≤ a) (ha2 : a < 2147483648) (hb1 : -2147483648 ≤ b) (hb2 : b < 2147483648) : Rr C mX12_feed (122, L, qi b :: qi a :: st, M) x = (if b < a then Rr C mX12_feed (125, L, st, M) x else Rr C mX12_feed (134, L, st, M) x) := (g_icmp (show decode cX12_feed 122 = .ok (.if_icmp .le 12, 3) by decide +kernel) rfl ha1 ha2 hb1 hb2).trans (g_itn c_le)
set_option maxRecDepth 20000 in
theorem kX12_feed_125 {C : QC} {x : QP} {M : QM} {st : List CV} {L : QL} {l0 l1 l2 l3 l4 l5 l6 : Option CV} {r : Option Nat} : Rr C mX12_feed (125, [some (.inr (.inr r)), l1, l2, l3, l4, l5, l6], st, M) x = Rr C mX12_feed (126, [some (.inr (.inr r)), l1, l2, l3, l4, l5, l6], .inr (.inr r) :: st, M) x := g_pl (show decode cX12_feed 125 = .ok (.aload_n 0, 1) by decide +kernel) rfl
set_option maxRecDepth 20000 in
theorem kX12_feed_126 {C : QC} {x : QP} {M : QM} {st : List CV} {L : QL} {a : Nat} (hk : q_kd M a = (1, 12)) : Rr C mX12_feed (126, L, qr a :: st, M) x = Rr C mX12_feed (129, L, q_fv M a 0 :: st, M) x := g_getf (ow := 12) (e := (12, 0, RX12, 379, 0)) (show decode cX12_feed 126 = .ok (.getfield 10, 3) by decide +kernel) rfl hk
set_option maxRecDepth 20000 in
theorem kX12_feed_129 {C : QC} {x : QP} {M : QM} {st : List CV} {L : QL} {l0 l1 l2 l3 l4 l5 l6 : Option CV} {z : Int} : Rr C mX12_feed (129, [l0, l1, l2, l3, l4, l5, some (qi z)], st, M) x = Rr C mX12_feed (131, [l0, l1, l2, l3, l4, l5, some (qi z)], qi z :: st, M) x := g_pl (show decode cX12_feed 129 = .ok (.iload 6, 2) by decide +kernel) rfl
set_option maxRecDepth 20000 in
theorem kX12_feed_131 {C : QC} {x : QP} {M : QM} {L : QL} {rest : List CV} {a0 : CV} {M1 : QM} {b : Nat} (hb : q_kd M b = (1, 8)) (hC : C iX8_append [qr b, a0] M none M1) (hw : (rest.map q_wd).sum ≤ 8) (k : Rr C mX12_feed (134, L, rest, M1) x) : Rr C mX12_feed (131, L, a0 :: qr b :: rest, M) x := g_cv (ow := 12) (e := (0, 18, 8, [433, 434, 435, 78])) (as := [a0]) (show decode cX12_feed 131 = .ok (.invokevirtual 90, 3) by decide +kernel) rfl rfl rfl (Or.inl rfl) rfl hb hC hw k
set_option maxRecDepth 20000 in
theorem kX12_feed_134 {C : QC} {x : QP} {M : QM} {st : List CV} {L : QL} {l0 l1 l2 l3 l4 l5 l6 : Option CV} {r : Option Nat} : Rr C mX12_feed (134, [some (.inr (.inr r)), l1, l2, l3, l4, l5, l6], st, M) x = Rr C mX12_feed (135, [some (.inr (.inr r)), l1, l2, l3, l4, l5, l6], .inr (.inr r) :: st, M) x := g_pl (show decode cX12_feed 134 = .ok (.aload_n 0, 1) by decide +kernel) rfl
set_option maxRecDepth 20000 in
theorem kX12_feed_135 {C : QC} {x : QP} {M : QM} {st : List CV} {L : QL} {a : Nat} (hk : q_kd M a = (1, 12)) : Rr C mX12_feed (135, L, qr a :: st, M) x = Rr C mX12_feed (138, L, q_fv M a 0 :: st, M) x := g_getf (ow := 12) (e := (12, 0, RX12, 379, 0)) (show decode cX12_feed 135 = .ok (.getfield 10, 3) by decide +kernel) rfl hk
set_option maxRecDepth 20000 in
theorem kX12_feed_138 {C : QC} {x : QP} {M : QM} {L : QL} {rest : List CV} {v : CV} {M1 : QM} {b : Nat} (hb : q_kd M b = (1, 8)) (hC : C iX8_length [qr b] M (some v) M1) (hw : (rest.map q_wd).sum ≤ 8) (k : Rr C mX12_feed (141, L, v :: rest, M1) x) : Rr C mX12_feed (138, L, qr b :: rest, M) x := g_cv (ow := 12) (e := (0, 17, 8, [429, 430, 431, 78])) (as := []) (show decode cX12_feed 138 = .ok (.invokevirtual 86, 3) by decide +kernel) rfl rfl rfl (Or.inl rfl) rfl hb hC hw k
set_option maxRecDepth 20000 in
theorem kX12_feed_141 {C : QC} {x : QP} {M : QM} {st : List CV} {L : QL} {z : Int} : Rr C mX12_feed (141, L, [qi z], M) x = x (some (qi z)) M := g_iret (show decode cX12_feed 141 = .ok (.ireturn, 1) by decide +kernel) rfl
set_option maxRecDepth 20000 in
theorem eX12_feed {d : Nat} {M : QM} {x : QP} {a : Nat} {v0 : Int} {v1 : Int} {v2 : Int} {v3 : Int} {v4 : Int} {v5 : Int} : q_T (d + 1) iX12_feed [qr a, qi v0, qi v1, qi v2, qi v3, qi v4, qi v5] M x = Rr (q_C d) mX12_feed (0, [some (qr a), some (qi v0), some (qi v1), some (qi v2), some (qi v3), some (qi v4), some (qi v5)], [], M) x := g_entryT (e := _) rfl (Nat.le_of_ble_eq_true rfl) rfl rfl
def mX12_found : QI := (12, cX12_found, false, some .int)
set_option maxRecDepth 20000 in
theorem kX12_found_0 {C : QC} {x : QP} {M : QM} {st : List CV} {L : QL} {l0 l1 l2 l3 l4 l5 : Option CV} {r : Option Nat} : Rr C mX12_found (0, [some (.inr (.inr r)), l1, l2, l3, l4, l5], st, M) x = Rr C mX12_found (1, [some (.inr (.inr r)), l1, l2, l3, l4, l5], .inr (.inr r) :: st, M) x := g_pl (show decode cX12_found 0 = .ok (.aload_n 0, 1) by decide +kernel) rfl
set_option maxRecDepth 20000 in
theorem kX12_found_1 {C : QC} {x : QP} {M : QM} {st : List CV} {L : QL} {a : Nat} (hk : q_kd M a = (1, 12)) : Rr C mX12_found (1, L, qr a :: st, M) x = Rr C mX12_found (4, L, q_fv M a 0 :: st, M) x := g_getf (ow := 12) (e := (12, 0, RX12, 379, 0)) (show decode cX12_found 1 = .ok (.getfield 10, 3) by decide +kernel) rfl hk
set_option maxRecDepth 20000 in
theorem kX12_found_4 {C : QC} {x : QP} {M : QM} {L : QL} {rest : List CV} {v : CV} {M1 : QM} {b : Nat} (hb : q_kd M b = (1, 8)) (hC : C iX8_takeWord [qr b] M (some v) M1) (hw : (rest.map q_wd).sum ≤ 8) (k : Rr C mX12_found (7, L, v :: rest, M1) x) : Rr C mX12_found (4, L, qr b :: rest, M) x := g_cv (ow := 12) (e := (0, 20, 8, [441, 442, 443, 78])) (as := []) (show decode cX12_found 4 = .ok (.invokevirtual 94, 3) by decide +kernel) rfl rfl rfl (Or.inl rfl) rfl hb hC hw k
set_option maxRecDepth 20000 in
theorem kX12_found_7 {C : QC} {x : QP} {M : QM} {st : List CV} {L : QL} {l0 l1 l2 l3 l4 l5 : Option CV} {z : Int} : Rr C mX12_found (7, [l0, l1, l2, l3, l4, l5], ql z :: st, M) x = Rr C mX12_found (9, [l0, l1, l2, q_cut l3, some (ql z), none], st, M) x := g_pl (show decode cX12_found 7 = .ok (.lstore 4, 2) by decide +kernel) rfl
set_option maxRecDepth 20000 in
theorem kX12_found_9 {C : QC} {x : QP} {M : QM} {st : List CV} {L : QL} {l0 l1 l2 l3 l4 l5 : Option CV} {z : Int} : Rr C mX12_found (9, [l0, some (qi z), l2, l3, l4, l5], st, M) x = Rr C mX12_found (10, [l0, some (qi z), l2, l3, l4, l5], qi z :: st, M) x := g_pl (show decode cX12_found 9 = .ok (.iload_n 1, 1) by decide +kernel) rfl
set_option maxRecDepth 20000 in
theorem kX12_found_10 {C : QC} {x : QP} {M : QM} {st : List CV} {L : QL} {a : Int} (ha1 : -2147483648 ≤ a) (ha2 : a < 2147483648) : Rr C mX12_found (10, L, qi a :: st, M) x = (if a < 0 then Rr C mX12_found (18, L, st, M) x else Rr C mX12_found (13, L, st, M) x) := (g_if (show decode cX12_found 10 = .ok (.ifCond .lt 8, 3) by decide +kernel) rfl ha1 ha2).trans (g_ite c_lt)
set_option maxRecDepth 20000 in
theorem kX12_found_13 {C : QC} {x : QP} {M : QM} {st : List CV} {L : QL} {l0 l1 l2 l3 l4 l5 : Option CV} {z : Int} : Rr C mX12_found (13, [l0, some (qi z), l2, l3, l4, l5], st, M) x = Rr C mX12_found (14, [l0, some (qi z), l2, l3, l4, l5], qi z :: st, M) x := g_pl (show decode cX12_found 13 = .ok (.iload_n 1, 1) by decide +kernel) rfl
set_option maxRecDepth 20000 in
theorem kX12_found_14 {C : QC} {x : QP} {M : QM} {st : List CV} {L : QL} : Rr C mX12_found (14, L, st, M) x = Rr C mX12_found (15, L, qi 4 :: st, M) x := g_pl (show decode cX12_found 14 = .ok (.iconst 4, 1) by decide +kernel) rfl
set_option maxRecDepth 20000 in
theorem kX12_found_15 {C : QC} {x : QP} {M : QM} {st : List CV} {L : QL} {a b : Int} (ha1 : -2147483648 ≤ a) (ha2 : a < 2147483648) (hb1 : -2147483648 ≤ b) (hb2 : b < 2147483648) : Rr C mX12_found (15, L, qi b :: qi a :: st, M) x = (if a < b then Rr C mX12_found (20, L, st, M) x else Rr C mX12_found (18, L, st, M) x) := (g_icmp (show decode cX12_found 15 = .ok (.if_icmp .lt 5, 3) by decide +kernel) rfl ha1 ha2 hb1 hb2).trans (g_ite c_lt)
set_option maxRecDepth 20000 in
theorem kX12_found_18 {C : QC} {x : QP} {M : QM} {st : List CV} {L : QL} : Rr C mX12_found (18, L, st, M) x = Rr C mX12_found (19, L, qi (-1) :: st, M) x := g_pl (show decode cX12_found 18 = .ok (.iconst (-1), 1) by decide +kernel) rfl
set_option maxRecDepth 20000 in
theorem kX12_found_19 {C : QC} {x : QP} {M : QM} {st : List CV} {L : QL} {z : Int} : Rr C mX12_found (19, L, [qi z], M) x = x (some (qi z)) M := g_iret (show decode cX12_found 19 = .ok (.ireturn, 1) by decide +kernel) rfl
set_option maxRecDepth 20000 in
theorem kX12_found_20 {C : QC} {x : QP} {M : QM} {st : List CV} {L : QL} {l0 l1 l2 l3 l4 l5 : Option CV} {r : Option Nat} : Rr C mX12_found (20, [some (.inr (.inr r)), l1, l2, l3, l4, l5], st, M) x = Rr C mX12_found (21, [some (.inr (.inr r)), l1, l2, l3, l4, l5], .inr (.inr r) :: st, M) x := g_pl (show decode cX12_found 20 = .ok (.aload_n 0, 1) by decide +kernel) rfl
set_option maxRecDepth 20000 in
theorem kX12_found_21 {C : QC} {x : QP} {M : QM} {st : List CV} {L : QL} : Rr C mX12_found (21, L, st, M) x = Rr C mX12_found (24, L, qr (q_top M) :: st, q_al M (1, 3) 5 (fun k => q_dv (tyX3 k))) x := g_new (ow := 12) (e := (3, 451, 452, 96)) (r := (RX3, TX3, 5)) (t := tyX3) (show decode cX12_found 21 = .ok (.new 98, 3) by decide +kernel) rfl rfl rfl
set_option maxRecDepth 20000 in
theorem kX12_found_24i {C : QC} {x : QP} {M : QM} {st : List CV} {L : QL} {a : Int} : Rr C mX12_found (24, L, qi a :: st, M) x = Rr C mX12_found (25, L, qi a :: qi a :: st, M) x := g_pl (show decode cX12_found 24 = .ok (.dup, 1) by decide +kernel) rfl
set_option maxRecDepth 20000 in
theorem kX12_found_24r {C : QC} {x : QP} {M : QM} {st : List CV} {L : QL} {a : Option Nat} : Rr C mX12_found (24, L, .inr (.inr a) :: st, M) x = Rr C mX12_found (25, L, .inr (.inr a) :: .inr (.inr a) :: st, M) x := g_pl (show decode cX12_found 24 = .ok (.dup, 1) by decide +kernel) rfl
set_option maxRecDepth 20000 in
theorem kX12_found_25 {C : QC} {x : QP} {M : QM} {st : List CV} {L : QL} : Rr C mX12_found (25, L, st, M) x = Rr C mX12_found (26, L, qi 0 :: st, M) x := g_pl (show decode cX12_found 25 = .ok (.iconst 0, 1) by decide +kernel) rfl
set_option maxRecDepth 20000 in
theorem kX12_found_26 {C : QC} {x : QP} {M : QM} {st : List CV} {L : QL} {l0 l1 l2 l3 l4 l5 : Option CV} {z : Int} : Rr C mX12_found (26, [l0, some (qi z), l2, l3, l4, l5], st, M) x = Rr C mX12_found (27, [l0, some (qi z), l2, l3, l4, l5], qi z :: st, M) x := g_pl (show decode cX12_found 26 = .ok (.iload_n 1, 1) by decide +kernel) rfl
set_option maxRecDepth 20000 in
theorem kX12_found_27 {C : QC} {x : QP} {M : QM} {st : List CV} {L : QL} {l0 l1 l2 l3 l4 l5 : Option CV} {z : Int} : Rr C mX12_found (27, [l0, l1, some (qi z), l3, l4, l5], st, M) x = Rr C mX12_found (28, [l0, l1, some (qi z), l3, l4, l5], qi z :: st, M) x := g_pl (show decode cX12_found 27 = .ok (.iload_n 2, 1) by decide +kernel) rfl
set_option maxRecDepth 20000 in
theorem kX12_found_28 {C : QC} {x : QP} {M : QM} {st : List CV} {L : QL} {l0 l1 l2 l3 l4 l5 : Option CV} {z : Int} : Rr C mX12_found (28, [l0, l1, l2, some (qi z), l4, l5], st, M) x = Rr C mX12_found (29, [l0, l1, l2, some (qi z), l4, l5], qi z :: st, M) x := g_pl (show decode cX12_found 28 = .ok (.iload_n 3, 1) by decide +kernel) rfl
set_option maxRecDepth 20000 in
theorem kX12_found_29 {C : QC} {x : QP} {M : QM} {st : List CV} {L : QL} {l0 l1 l2 l3 l4 l5 : Option CV} {z : Int} : Rr C mX12_found (29, [l0, l1, l2, l3, some (ql z), l5], st, M) x = Rr C mX12_found (31, [l0, l1, l2, l3, some (ql z), l5], ql z :: st, M) x := g_pl (show decode cX12_found 29 = .ok (.lload 4, 2) by decide +kernel) rfl
set_option maxRecDepth 20000 in
theorem kX12_found_31 {C : QC} {x : QP} {M : QM} {L : QL} {rest : List CV} {a0 a1 a2 a3 a4 : CV} {M1 : QM} {b : Nat} (hC : C iX3_init [qr b, a0, a1, a2, a3, a4] M none M1) (hw : (rest.map q_wd).sum ≤ 8) (k : Rr C mX12_found (34, L, rest, M1) x) : Rr C mX12_found (31, L, a4 :: a3 :: a2 :: a1 :: a0 :: qr b :: rest, M) x := g_ci (ow := 12) (e := (3, 23, 0, [453, 454, 96])) (as := [a0, a1, a2, a3, a4]) (show decode cX12_found 31 = .ok (.invokespecial 100, 3) by decide +kernel) rfl rfl rfl (Or.inl (Or.inl rfl)) rfl hC hw k
set_option maxRecDepth 20000 in
theorem kX12_found_34 {C : QC} {x : QP} {M : QM} {L : QL} {rest : List CV} {a0 : CV} {v : CV} {M1 : QM} {b : Nat} (hb : q_kd M b = (1, 12)) (hC : C iX12_tell [qr b, a0] M (some v) M1) (hw : (rest.map q_wd).sum ≤ 8) (k : Rr C mX12_found (37, L, v :: rest, M1) x) : Rr C mX12_found (34, L, a0 :: qr b :: rest, M) x := g_cv (ow := 12) (e := (0, 24, 12, [483, 485, 0, 77])) (as := [a0]) (show decode cX12_found 34 = .ok (.invokevirtual 103, 3) by decide +kernel) rfl rfl rfl (Or.inl rfl) rfl hb hC hw k
set_option maxRecDepth 20000 in
theorem kX12_found_37 {C : QC} {x : QP} {M : QM} {st : List CV} {L : QL} {z : Int} : Rr C mX12_found (37, L, [qi z], M) x = x (some (qi z)) M := g_iret (show decode cX12_found 37 = .ok (.ireturn, 1) by decide +kernel) rfl
set_option maxRecDepth 20000 in
theorem eX12_found {d : Nat} {M : QM} {x : QP} {a : Nat} {v0 : Int} {v1 : Int} {v2 : Int} : q_T (d + 1) iX12_found [qr a, qi v0, qi v1, qi v2] M x = Rr (q_C d) mX12_found (0, [some (qr a), some (qi v0), some (qi v1), some (qi v2), none, none], [], M) x := g_entryT (e := _) rfl (Nat.le_of_ble_eq_true rfl) rfl rfl
def mX12_rename : QI := (12, cX12_rename, false, some .int)
set_option maxRecDepth 20000 in
theorem kX12_rename_0 {C : QC} {x : QP} {M : QM} {st : List CV} {L : QL} {l0 l1 l2 : Option CV} {r : Option Nat} : Rr C mX12_rename (0, [some (.inr (.inr r)), l1, l2], st, M) x = Rr C mX12_rename (1, [some (.inr (.inr r)), l1, l2], .inr (.inr r) :: st, M) x := g_pl (show decode cX12_rename 0 = .ok (.aload_n 0, 1) by decide +kernel) rfl
set_option maxRecDepth 20000 in
theorem kX12_rename_1 {C : QC} {x : QP} {M : QM} {st : List CV} {L : QL} : Rr C mX12_rename (1, L, st, M) x = Rr C mX12_rename (4, L, qr (q_top M) :: st, q_al M (1, 3) 5 (fun k => q_dv (tyX3 k))) x := g_new (ow := 12) (e := (3, 451, 452, 96)) (r := (RX3, TX3, 5)) (t := tyX3) (show decode cX12_rename 1 = .ok (.new 98, 3) by decide +kernel) rfl rfl rfl
set_option maxRecDepth 20000 in
theorem kX12_rename_4i {C : QC} {x : QP} {M : QM} {st : List CV} {L : QL} {a : Int} : Rr C mX12_rename (4, L, qi a :: st, M) x = Rr C mX12_rename (5, L, qi a :: qi a :: st, M) x := g_pl (show decode cX12_rename 4 = .ok (.dup, 1) by decide +kernel) rfl
set_option maxRecDepth 20000 in
theorem kX12_rename_4r {C : QC} {x : QP} {M : QM} {st : List CV} {L : QL} {a : Option Nat} : Rr C mX12_rename (4, L, .inr (.inr a) :: st, M) x = Rr C mX12_rename (5, L, .inr (.inr a) :: .inr (.inr a) :: st, M) x := g_pl (show decode cX12_rename 4 = .ok (.dup, 1) by decide +kernel) rfl
set_option maxRecDepth 20000 in
theorem kX12_rename_5 {C : QC} {x : QP} {M : QM} {st : List CV} {L : QL} : Rr C mX12_rename (5, L, st, M) x = Rr C mX12_rename (6, L, qi 1 :: st, M) x := g_pl (show decode cX12_rename 5 = .ok (.iconst 1, 1) by decide +kernel) rfl
set_option maxRecDepth 20000 in
theorem kX12_rename_6 {C : QC} {x : QP} {M : QM} {st : List CV} {L : QL} {l0 l1 l2 : Option CV} {z : Int} : Rr C mX12_rename (6, [l0, some (qi z), l2], st, M) x = Rr C mX12_rename (7, [l0, some (qi z), l2], qi z :: st, M) x := g_pl (show decode cX12_rename 6 = .ok (.iload_n 1, 1) by decide +kernel) rfl
set_option maxRecDepth 20000 in
theorem kX12_rename_7 {C : QC} {x : QP} {M : QM} {st : List CV} {L : QL} : Rr C mX12_rename (7, L, st, M) x = Rr C mX12_rename (8, L, qi 0 :: st, M) x := g_pl (show decode cX12_rename 7 = .ok (.iconst 0, 1) by decide +kernel) rfl
set_option maxRecDepth 20000 in
theorem kX12_rename_8 {C : QC} {x : QP} {M : QM} {st : List CV} {L : QL} {l0 l1 l2 : Option CV} {z : Int} : Rr C mX12_rename (8, [l0, l1, some (qi z)], st, M) x = Rr C mX12_rename (9, [l0, l1, some (qi z)], qi z :: st, M) x := g_pl (show decode cX12_rename 8 = .ok (.iload_n 2, 1) by decide +kernel) rfl
set_option maxRecDepth 20000 in
theorem kX12_rename_9 {C : QC} {x : QP} {M : QM} {st : List CV} {L : QL} {l0 l1 l2 : Option CV} {r : Option Nat} : Rr C mX12_rename (9, [some (.inr (.inr r)), l1, l2], st, M) x = Rr C mX12_rename (10, [some (.inr (.inr r)), l1, l2], .inr (.inr r) :: st, M) x := g_pl (show decode cX12_rename 9 = .ok (.aload_n 0, 1) by decide +kernel) rfl
set_option maxRecDepth 20000 in
theorem kX12_rename_10 {C : QC} {x : QP} {M : QM} {st : List CV} {L : QL} {a : Nat} (hk : q_kd M a = (1, 12)) : Rr C mX12_rename (10, L, qr a :: st, M) x = Rr C mX12_rename (13, L, q_fv M a 0 :: st, M) x := g_getf (ow := 12) (e := (12, 0, RX12, 379, 0)) (show decode cX12_rename 10 = .ok (.getfield 10, 3) by decide +kernel) rfl hk
set_option maxRecDepth 20000 in
theorem kX12_rename_13 {C : QC} {x : QP} {M : QM} {L : QL} {rest : List CV} {v : CV} {M1 : QM} {b : Nat} (hb : q_kd M b = (1, 8)) (hC : C iX8_takeWord [qr b] M (some v) M1) (hw : (rest.map q_wd).sum ≤ 8) (k : Rr C mX12_rename (16, L, v :: rest, M1) x) : Rr C mX12_rename (13, L, qr b :: rest, M) x := g_cv (ow := 12) (e := (0, 20, 8, [441, 442, 443, 78])) (as := []) (show decode cX12_rename 13 = .ok (.invokevirtual 94, 3) by decide +kernel) rfl rfl rfl (Or.inl rfl) rfl hb hC hw k
set_option maxRecDepth 20000 in
theorem kX12_rename_16 {C : QC} {x : QP} {M : QM} {L : QL} {rest : List CV} {a0 a1 a2 a3 a4 : CV} {M1 : QM} {b : Nat} (hC : C iX3_init [qr b, a0, a1, a2, a3, a4] M none M1) (hw : (rest.map q_wd).sum ≤ 8) (k : Rr C mX12_rename (19, L, rest, M1) x) : Rr C mX12_rename (16, L, a4 :: a3 :: a2 :: a1 :: a0 :: qr b :: rest, M) x := g_ci (ow := 12) (e := (3, 23, 0, [453, 454, 96])) (as := [a0, a1, a2, a3, a4]) (show decode cX12_rename 16 = .ok (.invokespecial 100, 3) by decide +kernel) rfl rfl rfl (Or.inl (Or.inl rfl)) rfl hC hw k
set_option maxRecDepth 20000 in
theorem kX12_rename_19 {C : QC} {x : QP} {M : QM} {L : QL} {rest : List CV} {a0 : CV} {v : CV} {M1 : QM} {b : Nat} (hb : q_kd M b = (1, 12)) (hC : C iX12_tell [qr b, a0] M (some v) M1) (hw : (rest.map q_wd).sum ≤ 8) (k : Rr C mX12_rename (22, L, v :: rest, M1) x) : Rr C mX12_rename (19, L, a0 :: qr b :: rest, M) x := g_cv (ow := 12) (e := (0, 24, 12, [483, 485, 0, 77])) (as := [a0]) (show decode cX12_rename 19 = .ok (.invokevirtual 103, 3) by decide +kernel) rfl rfl rfl (Or.inl rfl) rfl hb hC hw k
set_option maxRecDepth 20000 in
theorem kX12_rename_22 {C : QC} {x : QP} {M : QM} {st : List CV} {L : QL} {z : Int} : Rr C mX12_rename (22, L, [qi z], M) x = x (some (qi z)) M := g_iret (show decode cX12_rename 22 = .ok (.ireturn, 1) by decide +kernel) rfl
set_option maxRecDepth 20000 in
theorem eX12_rename {d : Nat} {M : QM} {x : QP} {a : Nat} {v0 : Int} {v1 : Int} : q_T (d + 1) iX12_rename [qr a, qi v0, qi v1] M x = Rr (q_C d) mX12_rename (0, [some (qr a), some (qi v0), some (qi v1)], [], M) x := g_entryT (e := _) rfl (Nat.le_of_ble_eq_true rfl) rfl rfl
def mX12_move : QI := (12, cX12_move, false, some .int)
set_option maxRecDepth 20000 in
theorem kX12_move_0 {C : QC} {x : QP} {M : QM} {st : List CV} {L : QL} {l0 l1 l2 l3 : Option CV} {r : Option Nat} : Rr C mX12_move (0, [some (.inr (.inr r)), l1, l2, l3], st, M) x = Rr C mX12_move (1, [some (.inr (.inr r)), l1, l2, l3], .inr (.inr r) :: st, M) x := g_pl (show decode cX12_move 0 = .ok (.aload_n 0, 1) by decide +kernel) rfl
set_option maxRecDepth 20000 in
theorem kX12_move_1 {C : QC} {x : QP} {M : QM} {st : List CV} {L : QL} : Rr C mX12_move (1, L, st, M) x = Rr C mX12_move (4, L, qr (q_top M) :: st, q_al M (1, 3) 5 (fun k => q_dv (tyX3 k))) x := g_new (ow := 12) (e := (3, 451, 452, 96)) (r := (RX3, TX3, 5)) (t := tyX3) (show decode cX12_move 1 = .ok (.new 98, 3) by decide +kernel) rfl rfl rfl
set_option maxRecDepth 20000 in
theorem kX12_move_4i {C : QC} {x : QP} {M : QM} {st : List CV} {L : QL} {a : Int} : Rr C mX12_move (4, L, qi a :: st, M) x = Rr C mX12_move (5, L, qi a :: qi a :: st, M) x := g_pl (show decode cX12_move 4 = .ok (.dup, 1) by decide +kernel) rfl
set_option maxRecDepth 20000 in
theorem kX12_move_4r {C : QC} {x : QP} {M : QM} {st : List CV} {L : QL} {a : Option Nat} : Rr C mX12_move (4, L, .inr (.inr a) :: st, M) x = Rr C mX12_move (5, L, .inr (.inr a) :: .inr (.inr a) :: st, M) x := g_pl (show decode cX12_move 4 = .ok (.dup, 1) by decide +kernel) rfl
set_option maxRecDepth 20000 in
theorem kX12_move_5 {C : QC} {x : QP} {M : QM} {st : List CV} {L : QL} : Rr C mX12_move (5, L, st, M) x = Rr C mX12_move (6, L, qi 2 :: st, M) x := g_pl (show decode cX12_move 5 = .ok (.iconst 2, 1) by decide +kernel) rfl
set_option maxRecDepth 20000 in
theorem kX12_move_6 {C : QC} {x : QP} {M : QM} {st : List CV} {L : QL} {l0 l1 l2 l3 : Option CV} {z : Int} : Rr C mX12_move (6, [l0, some (qi z), l2, l3], st, M) x = Rr C mX12_move (7, [l0, some (qi z), l2, l3], qi z :: st, M) x := g_pl (show decode cX12_move 6 = .ok (.iload_n 1, 1) by decide +kernel) rfl
set_option maxRecDepth 20000 in
theorem kX12_move_7 {C : QC} {x : QP} {M : QM} {st : List CV} {L : QL} {l0 l1 l2 l3 : Option CV} {z : Int} : Rr C mX12_move (7, [l0, l1, some (qi z), l3], st, M) x = Rr C mX12_move (8, [l0, l1, some (qi z), l3], qi z :: st, M) x := g_pl (show decode cX12_move 7 = .ok (.iload_n 2, 1) by decide +kernel) rfl
set_option maxRecDepth 20000 in
theorem kX12_move_8 {C : QC} {x : QP} {M : QM} {st : List CV} {L : QL} {l0 l1 l2 l3 : Option CV} {z : Int} : Rr C mX12_move (8, [l0, l1, l2, some (qi z)], st, M) x = Rr C mX12_move (9, [l0, l1, l2, some (qi z)], qi z :: st, M) x := g_pl (show decode cX12_move 8 = .ok (.iload_n 3, 1) by decide +kernel) rfl
set_option maxRecDepth 20000 in
theorem kX12_move_9 {C : QC} {x : QP} {M : QM} {st : List CV} {L : QL} : Rr C mX12_move (9, L, st, M) x = Rr C mX12_move (10, L, ql 0 :: st, M) x := g_pl (show decode cX12_move 9 = .ok (.lconst 0, 1) by decide +kernel) rfl
set_option maxRecDepth 20000 in
theorem kX12_move_10 {C : QC} {x : QP} {M : QM} {L : QL} {rest : List CV} {a0 a1 a2 a3 a4 : CV} {M1 : QM} {b : Nat} (hC : C iX3_init [qr b, a0, a1, a2, a3, a4] M none M1) (hw : (rest.map q_wd).sum ≤ 8) (k : Rr C mX12_move (13, L, rest, M1) x) : Rr C mX12_move (10, L, a4 :: a3 :: a2 :: a1 :: a0 :: qr b :: rest, M) x := g_ci (ow := 12) (e := (3, 23, 0, [453, 454, 96])) (as := [a0, a1, a2, a3, a4]) (show decode cX12_move 10 = .ok (.invokespecial 100, 3) by decide +kernel) rfl rfl rfl (Or.inl (Or.inl rfl)) rfl hC hw k
set_option maxRecDepth 20000 in
theorem kX12_move_13 {C : QC} {x : QP} {M : QM} {L : QL} {rest : List CV} {a0 : CV} {v : CV} {M1 : QM} {b : Nat} (hb : q_kd M b = (1, 12)) (hC : C iX12_tell [qr b, a0] M (some v) M1) (hw : (rest.map q_wd).sum ≤ 8) (k : Rr C mX12_move (16, L, v :: rest, M1) x) : Rr C mX12_move (13, L, a0 :: qr b :: rest, M) x := g_cv (ow := 12) (e := (0, 24, 12, [483, 485, 0, 77])) (as := [a0]) (show decode cX12_move 13 = .ok (.invokevirtual 103, 3) by decide +kernel) rfl rfl rfl (Or.inl rfl) rfl hb hC hw k
set_option maxRecDepth 20000 in
theorem kX12_move_16 {C : QC} {x : QP} {M : QM} {st : List CV} {L : QL} {z : Int} : Rr C mX12_move (16, L, [qi z], M) x = x (some (qi z)) M := g_iret (show decode cX12_move 16 = .ok (.ireturn, 1) by decide +kernel) rfl
set_option maxRecDepth 20000 in
theorem eX12_move {d : Nat} {M : QM} {x : QP} {a : Nat} {v0 : Int} {v1 : Int} {v2 : Int} : q_T (d + 1) iX12_move [qr a, qi v0, qi v1, qi v2] M x = Rr (q_C d) mX12_move (0, [some (qr a), some (qi v0), some (qi v1), some (qi v2)], [], M) x := g_entryT (e := _) rfl (Nat.le_of_ble_eq_true rfl) rfl rfl
def mX12_split : QI := (12, cX12_split, false, some .int)
set_option maxRecDepth 20000 in
theorem kX12_split_0 {C : QC} {x : QP} {M : QM} {st : List CV} {L : QL} {l0 l1 l2 : Option CV} {r : Option Nat} : Rr C mX12_split (0, [some (.inr (.inr r)), l1, l2], st, M) x = Rr C mX12_split (1, [some (.inr (.inr r)), l1, l2], .inr (.inr r) :: st, M) x := g_pl (show decode cX12_split 0 = .ok (.aload_n 0, 1) by decide +kernel) rfl
set_option maxRecDepth 20000 in
theorem kX12_split_1 {C : QC} {x : QP} {M : QM} {st : List CV} {L : QL} : Rr C mX12_split (1, L, st, M) x = Rr C mX12_split (4, L, qr (q_top M) :: st, q_al M (1, 3) 5 (fun k => q_dv (tyX3 k))) x := g_new (ow := 12) (e := (3, 451, 452, 96)) (r := (RX3, TX3, 5)) (t := tyX3) (show decode cX12_split 1 = .ok (.new 98, 3) by decide +kernel) rfl rfl rfl
set_option maxRecDepth 20000 in
theorem kX12_split_4i {C : QC} {x : QP} {M : QM} {st : List CV} {L : QL} {a : Int} : Rr C mX12_split (4, L, qi a :: st, M) x = Rr C mX12_split (5, L, qi a :: qi a :: st, M) x := g_pl (show decode cX12_split 4 = .ok (.dup, 1) by decide +kernel) rfl
set_option maxRecDepth 20000 in
theorem kX12_split_4r {C : QC} {x : QP} {M : QM} {st : List CV} {L : QL} {a : Option Nat} : Rr C mX12_split (4, L, .inr (.inr a) :: st, M) x = Rr C mX12_split (5, L, .inr (.inr a) :: .inr (.inr a) :: st, M) x := g_pl (show decode cX12_split 4 = .ok (.dup, 1) by decide +kernel) rfl
set_option maxRecDepth 20000 in
theorem kX12_split_5 {C : QC} {x : QP} {M : QM} {st : List CV} {L : QL} : Rr C mX12_split (5, L, st, M) x = Rr C mX12_split (6, L, qi 3 :: st, M) x := g_pl (show decode cX12_split 5 = .ok (.iconst 3, 1) by decide +kernel) rfl
set_option maxRecDepth 20000 in
theorem kX12_split_6 {C : QC} {x : QP} {M : QM} {st : List CV} {L : QL} {l0 l1 l2 : Option CV} {z : Int} : Rr C mX12_split (6, [l0, some (qi z), l2], st, M) x = Rr C mX12_split (7, [l0, some (qi z), l2], qi z :: st, M) x := g_pl (show decode cX12_split 6 = .ok (.iload_n 1, 1) by decide +kernel) rfl
set_option maxRecDepth 20000 in
theorem kX12_split_7 {C : QC} {x : QP} {M : QM} {st : List CV} {L : QL} : Rr C mX12_split (7, L, st, M) x = Rr C mX12_split (8, L, qi 0 :: st, M) x := g_pl (show decode cX12_split 7 = .ok (.iconst 0, 1) by decide +kernel) rfl
set_option maxRecDepth 20000 in
theorem kX12_split_8 {C : QC} {x : QP} {M : QM} {st : List CV} {L : QL} {l0 l1 l2 : Option CV} {z : Int} : Rr C mX12_split (8, [l0, l1, some (qi z)], st, M) x = Rr C mX12_split (9, [l0, l1, some (qi z)], qi z :: st, M) x := g_pl (show decode cX12_split 8 = .ok (.iload_n 2, 1) by decide +kernel) rfl
set_option maxRecDepth 20000 in
theorem kX12_split_9 {C : QC} {x : QP} {M : QM} {st : List CV} {L : QL} {l0 l1 l2 : Option CV} {r : Option Nat} : Rr C mX12_split (9, [some (.inr (.inr r)), l1, l2], st, M) x = Rr C mX12_split (10, [some (.inr (.inr r)), l1, l2], .inr (.inr r) :: st, M) x := g_pl (show decode cX12_split 9 = .ok (.aload_n 0, 1) by decide +kernel) rfl
set_option maxRecDepth 20000 in
theorem kX12_split_10 {C : QC} {x : QP} {M : QM} {st : List CV} {L : QL} {a : Nat} (hk : q_kd M a = (1, 12)) : Rr C mX12_split (10, L, qr a :: st, M) x = Rr C mX12_split (13, L, q_fv M a 0 :: st, M) x := g_getf (ow := 12) (e := (12, 0, RX12, 379, 0)) (show decode cX12_split 10 = .ok (.getfield 10, 3) by decide +kernel) rfl hk
set_option maxRecDepth 20000 in
theorem kX12_split_13 {C : QC} {x : QP} {M : QM} {L : QL} {rest : List CV} {v : CV} {M1 : QM} {b : Nat} (hb : q_kd M b = (1, 8)) (hC : C iX8_takeWord [qr b] M (some v) M1) (hw : (rest.map q_wd).sum ≤ 8) (k : Rr C mX12_split (16, L, v :: rest, M1) x) : Rr C mX12_split (13, L, qr b :: rest, M) x := g_cv (ow := 12) (e := (0, 20, 8, [441, 442, 443, 78])) (as := []) (show decode cX12_split 13 = .ok (.invokevirtual 94, 3) by decide +kernel) rfl rfl rfl (Or.inl rfl) rfl hb hC hw k
set_option maxRecDepth 20000 in
theorem kX12_split_16 {C : QC} {x : QP} {M : QM} {L : QL} {rest : List CV} {a0 a1 a2 a3 a4 : CV} {M1 : QM} {b : Nat} (hC : C iX3_init [qr b, a0, a1, a2, a3, a4] M none M1) (hw : (rest.map q_wd).sum ≤ 8) (k : Rr C mX12_split (19, L, rest, M1) x) : Rr C mX12_split (16, L, a4 :: a3 :: a2 :: a1 :: a0 :: qr b :: rest, M) x := g_ci (ow := 12) (e := (3, 23, 0, [453, 454, 96])) (as := [a0, a1, a2, a3, a4]) (show decode cX12_split 16 = .ok (.invokespecial 100, 3) by decide +kernel) rfl rfl rfl (Or.inl (Or.inl rfl)) rfl hC hw k
set_option maxRecDepth 20000 in
theorem kX12_split_19 {C : QC} {x : QP} {M : QM} {L : QL} {rest : List CV} {a0 : CV} {v : CV} {M1 : QM} {b : Nat} (hb : q_kd M b = (1, 12)) (hC : C iX12_tell [qr b, a0] M (some v) M1) (hw : (rest.map q_wd).sum ≤ 8) (k : Rr C mX12_split (22, L, v :: rest, M1) x) : Rr C mX12_split (19, L, a0 :: qr b :: rest, M) x := g_cv (ow := 12) (e := (0, 24, 12, [483, 485, 0, 77])) (as := [a0]) (show decode cX12_split 19 = .ok (.invokevirtual 103, 3) by decide +kernel) rfl rfl rfl (Or.inl rfl) rfl hb hC hw k
set_option maxRecDepth 20000 in
theorem kX12_split_22 {C : QC} {x : QP} {M : QM} {st : List CV} {L : QL} {z : Int} : Rr C mX12_split (22, L, [qi z], M) x = x (some (qi z)) M := g_iret (show decode cX12_split 22 = .ok (.ireturn, 1) by decide +kernel) rfl
set_option maxRecDepth 20000 in
theorem eX12_split {d : Nat} {M : QM} {x : QP} {a : Nat} {v0 : Int} {v1 : Int} : q_T (d + 1) iX12_split [qr a, qi v0, qi v1] M x = Rr (q_C d) mX12_split (0, [some (qr a), some (qi v0), some (qi v1)], [], M) x := g_entryT (e := _) rfl (Nat.le_of_ble_eq_true rfl) rfl rfl
def mX12_merge : QI := (12, cX12_merge, false, some .int)
set_option maxRecDepth 20000 in
theorem kX12_merge_0 {C : QC} {x : QP} {M : QM} {st : List CV} {L : QL} {l0 l1 l2 l3 : Option CV} {r : Option Nat} : Rr C mX12_merge (0, [some (.inr (.inr r)), l1, l2, l3], st, M) x = Rr C mX12_merge (1, [some (.inr (.inr r)), l1, l2, l3], .inr (.inr r) :: st, M) x := g_pl (show decode cX12_merge 0 = .ok (.aload_n 0, 1) by decide +kernel) rfl
set_option maxRecDepth 20000 in
theorem kX12_merge_1 {C : QC} {x : QP} {M : QM} {st : List CV} {L : QL} : Rr C mX12_merge (1, L, st, M) x = Rr C mX12_merge (4, L, qr (q_top M) :: st, q_al M (1, 3) 5 (fun k => q_dv (tyX3 k))) x := g_new (ow := 12) (e := (3, 451, 452, 96)) (r := (RX3, TX3, 5)) (t := tyX3) (show decode cX12_merge 1 = .ok (.new 98, 3) by decide +kernel) rfl rfl rfl
set_option maxRecDepth 20000 in
theorem kX12_merge_4i {C : QC} {x : QP} {M : QM} {st : List CV} {L : QL} {a : Int} : Rr C mX12_merge (4, L, qi a :: st, M) x = Rr C mX12_merge (5, L, qi a :: qi a :: st, M) x := g_pl (show decode cX12_merge 4 = .ok (.dup, 1) by decide +kernel) rfl
set_option maxRecDepth 20000 in
theorem kX12_merge_4r {C : QC} {x : QP} {M : QM} {st : List CV} {L : QL} {a : Option Nat} : Rr C mX12_merge (4, L, .inr (.inr a) :: st, M) x = Rr C mX12_merge (5, L, .inr (.inr a) :: .inr (.inr a) :: st, M) x := g_pl (show decode cX12_merge 4 = .ok (.dup, 1) by decide +kernel) rfl
set_option maxRecDepth 20000 in
theorem kX12_merge_5 {C : QC} {x : QP} {M : QM} {st : List CV} {L : QL} : Rr C mX12_merge (5, L, st, M) x = Rr C mX12_merge (6, L, qi 4 :: st, M) x := g_pl (show decode cX12_merge 5 = .ok (.iconst 4, 1) by decide +kernel) rfl
set_option maxRecDepth 20000 in
theorem kX12_merge_6 {C : QC} {x : QP} {M : QM} {st : List CV} {L : QL} {l0 l1 l2 l3 : Option CV} {z : Int} : Rr C mX12_merge (6, [l0, some (qi z), l2, l3], st, M) x = Rr C mX12_merge (7, [l0, some (qi z), l2, l3], qi z :: st, M) x := g_pl (show decode cX12_merge 6 = .ok (.iload_n 1, 1) by decide +kernel) rfl
set_option maxRecDepth 20000 in
theorem kX12_merge_7 {C : QC} {x : QP} {M : QM} {st : List CV} {L : QL} {l0 l1 l2 l3 : Option CV} {z : Int} : Rr C mX12_merge (7, [l0, l1, some (qi z), l3], st, M) x = Rr C mX12_merge (8, [l0, l1, some (qi z), l3], qi z :: st, M) x := g_pl (show decode cX12_merge 7 = .ok (.iload_n 2, 1) by decide +kernel) rfl
set_option maxRecDepth 20000 in
theorem kX12_merge_8 {C : QC} {x : QP} {M : QM} {st : List CV} {L : QL} {l0 l1 l2 l3 : Option CV} {z : Int} : Rr C mX12_merge (8, [l0, l1, l2, some (qi z)], st, M) x = Rr C mX12_merge (9, [l0, l1, l2, some (qi z)], qi z :: st, M) x := g_pl (show decode cX12_merge 8 = .ok (.iload_n 3, 1) by decide +kernel) rfl
set_option maxRecDepth 20000 in
theorem kX12_merge_9 {C : QC} {x : QP} {M : QM} {st : List CV} {L : QL} : Rr C mX12_merge (9, L, st, M) x = Rr C mX12_merge (10, L, ql 0 :: st, M) x := g_pl (show decode cX12_merge 9 = .ok (.lconst 0, 1) by decide +kernel) rfl
set_option maxRecDepth 20000 in
theorem kX12_merge_10 {C : QC} {x : QP} {M : QM} {L : QL} {rest : List CV} {a0 a1 a2 a3 a4 : CV} {M1 : QM} {b : Nat} (hC : C iX3_init [qr b, a0, a1, a2, a3, a4] M none M1) (hw : (rest.map q_wd).sum ≤ 8) (k : Rr C mX12_merge (13, L, rest, M1) x) : Rr C mX12_merge (10, L, a4 :: a3 :: a2 :: a1 :: a0 :: qr b :: rest, M) x := g_ci (ow := 12) (e := (3, 23, 0, [453, 454, 96])) (as := [a0, a1, a2, a3, a4]) (show decode cX12_merge 10 = .ok (.invokespecial 100, 3) by decide +kernel) rfl rfl rfl (Or.inl (Or.inl rfl)) rfl hC hw k
set_option maxRecDepth 20000 in
theorem kX12_merge_13 {C : QC} {x : QP} {M : QM} {L : QL} {rest : List CV} {a0 : CV} {v : CV} {M1 : QM} {b : Nat} (hb : q_kd M b = (1, 12)) (hC : C iX12_tell [qr b, a0] M (some v) M1) (hw : (rest.map q_wd).sum ≤ 8) (k : Rr C mX12_merge (16, L, v :: rest, M1) x) : Rr C mX12_merge (13, L, a0 :: qr b :: rest, M) x := g_cv (ow := 12) (e := (0, 24, 12, [483, 485, 0, 77])) (as := [a0]) (show decode cX12_merge 13 = .ok (.invokevirtual 103, 3) by decide +kernel) rfl rfl rfl (Or.inl rfl) rfl hb hC hw k
set_option maxRecDepth 20000 in
theorem kX12_merge_16 {C : QC} {x : QP} {M : QM} {st : List CV} {L : QL} {z : Int} : Rr C mX12_merge (16, L, [qi z], M) x = x (some (qi z)) M := g_iret (show decode cX12_merge 16 = .ok (.ireturn, 1) by decide +kernel) rfl
set_option maxRecDepth 20000 in
theorem eX12_merge {d : Nat} {M : QM} {x : QP} {a : Nat} {v0 : Int} {v1 : Int} {v2 : Int} : q_T (d + 1) iX12_merge [qr a, qi v0, qi v1, qi v2] M x = Rr (q_C d) mX12_merge (0, [some (qr a), some (qi v0), some (qi v1), some (qi v2)], [], M) x := g_entryT (e := _) rfl (Nat.le_of_ble_eq_true rfl) rfl rfl
def mX12_close : QI := (12, cX12_close, false, some .int)
set_option maxRecDepth 20000 in
theorem kX12_close_0 {C : QC} {x : QP} {M : QM} {st : List CV} {L : QL} {l0 l1 l2 : Option CV} {r : Option Nat} : Rr C mX12_close (0, [some (.inr (.inr r)), l1, l2], st, M) x = Rr C mX12_close (1, [some (.inr (.inr r)), l1, l2], .inr (.inr r) :: st, M) x := g_pl (show decode cX12_close 0 = .ok (.aload_n 0, 1) by decide +kernel) rfl
set_option maxRecDepth 20000 in
theorem kX12_close_1 {C : QC} {x : QP} {M : QM} {st : List CV} {L : QL} : Rr C mX12_close (1, L, st, M) x = Rr C mX12_close (4, L, qr (q_top M) :: st, q_al M (1, 3) 5 (fun k => q_dv (tyX3 k))) x := g_new (ow := 12) (e := (3, 451, 452, 96)) (r := (RX3, TX3, 5)) (t := tyX3) (show decode cX12_close 1 = .ok (.new 98, 3) by decide +kernel) rfl rfl rfl
set_option maxRecDepth 20000 in
theorem kX12_close_4i {C : QC} {x : QP} {M : QM} {st : List CV} {L : QL} {a : Int} : Rr C mX12_close (4, L, qi a :: st, M) x = Rr C mX12_close (5, L, qi a :: qi a :: st, M) x := g_pl (show decode cX12_close 4 = .ok (.dup, 1) by decide +kernel) rfl
set_option maxRecDepth 20000 in
theorem kX12_close_4r {C : QC} {x : QP} {M : QM} {st : List CV} {L : QL} {a : Option Nat} : Rr C mX12_close (4, L, .inr (.inr a) :: st, M) x = Rr C mX12_close (5, L, .inr (.inr a) :: .inr (.inr a) :: st, M) x := g_pl (show decode cX12_close 4 = .ok (.dup, 1) by decide +kernel) rfl
set_option maxRecDepth 20000 in
theorem kX12_close_5 {C : QC} {x : QP} {M : QM} {st : List CV} {L : QL} : Rr C mX12_close (5, L, st, M) x = Rr C mX12_close (6, L, qi 5 :: st, M) x := g_pl (show decode cX12_close 5 = .ok (.iconst 5, 1) by decide +kernel) rfl
set_option maxRecDepth 20000 in
theorem kX12_close_6 {C : QC} {x : QP} {M : QM} {st : List CV} {L : QL} {l0 l1 l2 : Option CV} {z : Int} : Rr C mX12_close (6, [l0, some (qi z), l2], st, M) x = Rr C mX12_close (7, [l0, some (qi z), l2], qi z :: st, M) x := g_pl (show decode cX12_close 6 = .ok (.iload_n 1, 1) by decide +kernel) rfl
set_option maxRecDepth 20000 in
theorem kX12_close_7 {C : QC} {x : QP} {M : QM} {st : List CV} {L : QL} : Rr C mX12_close (7, L, st, M) x = Rr C mX12_close (8, L, qi 0 :: st, M) x := g_pl (show decode cX12_close 7 = .ok (.iconst 0, 1) by decide +kernel) rfl
set_option maxRecDepth 20000 in
theorem kX12_close_8 {C : QC} {x : QP} {M : QM} {st : List CV} {L : QL} {l0 l1 l2 : Option CV} {z : Int} : Rr C mX12_close (8, [l0, l1, some (qi z)], st, M) x = Rr C mX12_close (9, [l0, l1, some (qi z)], qi z :: st, M) x := g_pl (show decode cX12_close 8 = .ok (.iload_n 2, 1) by decide +kernel) rfl
set_option maxRecDepth 20000 in
theorem kX12_close_9 {C : QC} {x : QP} {M : QM} {st : List CV} {L : QL} : Rr C mX12_close (9, L, st, M) x = Rr C mX12_close (10, L, ql 0 :: st, M) x := g_pl (show decode cX12_close 9 = .ok (.lconst 0, 1) by decide +kernel) rfl
set_option maxRecDepth 20000 in
theorem kX12_close_10 {C : QC} {x : QP} {M : QM} {L : QL} {rest : List CV} {a0 a1 a2 a3 a4 : CV} {M1 : QM} {b : Nat} (hC : C iX3_init [qr b, a0, a1, a2, a3, a4] M none M1) (hw : (rest.map q_wd).sum ≤ 8) (k : Rr C mX12_close (13, L, rest, M1) x) : Rr C mX12_close (10, L, a4 :: a3 :: a2 :: a1 :: a0 :: qr b :: rest, M) x := g_ci (ow := 12) (e := (3, 23, 0, [453, 454, 96])) (as := [a0, a1, a2, a3, a4]) (show decode cX12_close 10 = .ok (.invokespecial 100, 3) by decide +kernel) rfl rfl rfl (Or.inl (Or.inl rfl)) rfl hC hw k
set_option maxRecDepth 20000 in
theorem kX12_close_13 {C : QC} {x : QP} {M : QM} {L : QL} {rest : List CV} {a0 : CV} {v : CV} {M1 : QM} {b : Nat} (hb : q_kd M b = (1, 12)) (hC : C iX12_tell [qr b, a0] M (some v) M1) (hw : (rest.map q_wd).sum ≤ 8) (k : Rr C mX12_close (16, L, v :: rest, M1) x) : Rr C mX12_close (13, L, a0 :: qr b :: rest, M) x := g_cv (ow := 12) (e := (0, 24, 12, [483, 485, 0, 77])) (as := [a0]) (show decode cX12_close 13 = .ok (.invokevirtual 103, 3) by decide +kernel) rfl rfl rfl (Or.inl rfl) rfl hb hC hw k
set_option maxRecDepth 20000 in
theorem kX12_close_16 {C : QC} {x : QP} {M : QM} {st : List CV} {L : QL} {z : Int} : Rr C mX12_close (16, L, [qi z], M) x = x (some (qi z)) M := g_iret (show decode cX12_close 16 = .ok (.ireturn, 1) by decide +kernel) rfl
set_option maxRecDepth 20000 in
theorem eX12_close {d : Nat} {M : QM} {x : QP} {a : Nat} {v0 : Int} {v1 : Int} : q_T (d + 1) iX12_close [qr a, qi v0, qi v1] M x = Rr (q_C d) mX12_close (0, [some (qr a), some (qi v0), some (qi v1)], [], M) x := g_entryT (e := _) rfl (Nat.le_of_ble_eq_true rfl) rfl rfl
def mX12_run : QI := (12, cX12_run, false, some .int)
set_option maxRecDepth 20000 in
theorem kX12_run_0 {C : QC} {x : QP} {M : QM} {st : List CV} {L : QL} {l0 l1 l2 l3 l4 l5 l6 : Option CV} {r : Option Nat} : Rr C mX12_run (0, [some (.inr (.inr r)), l1, l2, l3, l4, l5, l6], st, M) x = Rr C mX12_run (1, [some (.inr (.inr r)), l1, l2, l3, l4, l5, l6], .inr (.inr r) :: st, M) x := g_pl (show decode cX12_run 0 = .ok (.aload_n 0, 1) by decide +kernel) rfl
set_option maxRecDepth 20000 in
theorem kX12_run_1 {C : QC} {x : QP} {M : QM} {st : List CV} {L : QL} {a : Nat} (hk : q_kd M a = (1, 12)) : Rr C mX12_run (1, L, qr a :: st, M) x = Rr C mX12_run (4, L, q_fv M a 1 :: st, M) x := g_getf (ow := 12) (e := (12, 1, RX12, 380, 0)) (show decode cX12_run 1 = .ok (.getfield 19, 3) by decide +kernel) rfl hk
set_option maxRecDepth 20000 in
theorem kX12_run_4 {C : QC} {x : QP} {M : QM} {st : List CV} {L : QL} {l0 l1 l2 l3 l4 l5 l6 : Option CV} {r : Option Nat} : Rr C mX12_run (4, [some (.inr (.inr r)), l1, l2, l3, l4, l5, l6], st, M) x = Rr C mX12_run (5, [some (.inr (.inr r)), l1, l2, l3, l4, l5, l6], .inr (.inr r) :: st, M) x := g_pl (show decode cX12_run 4 = .ok (.aload_n 0, 1) by decide +kernel) rfl
set_option maxRecDepth 20000 in
theorem kX12_run_5 {C : QC} {x : QP} {M : QM} {st : List CV} {L : QL} {a : Nat} (hk : q_kd M a = (1, 12)) : Rr C mX12_run (5, L, qr a :: st, M) x = Rr C mX12_run (8, L, q_fv M a 0 :: st, M) x := g_getf (ow := 12) (e := (12, 0, RX12, 379, 0)) (show decode cX12_run 5 = .ok (.getfield 10, 3) by decide +kernel) rfl hk
set_option maxRecDepth 20000 in
theorem kX12_run_8 {C : QC} {x : QP} {M : QM} {L : QL} {rest : List CV} {a0 : CV} {v : CV} {M1 : QM} {b : Nat} (hb : q_kd M b = (1, 5)) (hC : C iX5_read [qr b, a0] M (some v) M1) (hw : (rest.map q_wd).sum ≤ 8) (k : Rr C mX12_run (11, L, v :: rest, M1) x) : Rr C mX12_run (8, L, a0 :: qr b :: rest, M) x := g_cv (ow := 12) (e := (0, 85, 5, [765, 766, 767, 79])) (as := [a0]) (show decode cX12_run 8 = .ok (.invokevirtual 107, 3) by decide +kernel) rfl rfl rfl (Or.inl rfl) rfl hb hC hw k
set_option maxRecDepth 20000 in
theorem kX12_run_11 {C : QC} {x : QP} {M : QM} {st : List CV} {L : QL} {l0 l1 l2 l3 l4 l5 l6 : Option CV} {z : Int} : Rr C mX12_run (11, [l0, l1, l2, l3, l4, l5, l6], qi z :: st, M) x = Rr C mX12_run (12, [q_cut l0, some (qi z), l2, l3, l4, l5, l6], st, M) x := g_pl (show decode cX12_run 11 = .ok (.istore_n 1, 1) by decide +kernel) rfl
set_option maxRecDepth 20000 in
theorem kX12_run_12 {C : QC} {x : QP} {M : QM} {st : List CV} {L : QL} {l0 l1 l2 l3 l4 l5 l6 : Option CV} {r : Option Nat} : Rr C mX12_run (12, [some (.inr (.inr r)), l1, l2, l3, l4, l5, l6], st, M) x = Rr C mX12_run (13, [some (.inr (.inr r)), l1, l2, l3, l4, l5, l6], .inr (.inr r) :: st, M) x := g_pl (show decode cX12_run 12 = .ok (.aload_n 0, 1) by decide +kernel) rfl
set_option maxRecDepth 20000 in
theorem kX12_run_13 {C : QC} {x : QP} {M : QM} {st : List CV} {L : QL} {a : Nat} (hk : q_kd M a = (1, 12)) : Rr C mX12_run (13, L, qr a :: st, M) x = Rr C mX12_run (16, L, q_fv M a 0 :: st, M) x := g_getf (ow := 12) (e := (12, 0, RX12, 379, 0)) (show decode cX12_run 13 = .ok (.getfield 10, 3) by decide +kernel) rfl hk
set_option maxRecDepth 20000 in
theorem kX12_run_16 {C : QC} {x : QP} {M : QM} {L : QL} {rest : List CV} {M1 : QM} {b : Nat} (hb : q_kd M b = (1, 8)) (hC : C iX8_clear [qr b] M none M1) (hw : (rest.map q_wd).sum ≤ 8) (k : Rr C mX12_run (19, L, rest, M1) x) : Rr C mX12_run (16, L, qr b :: rest, M) x := g_cv (ow := 12) (e := (0, 94, 8, [806, 807, 808, 78])) (as := []) (show decode cX12_run 16 = .ok (.invokevirtual 111, 3) by decide +kernel) rfl rfl rfl (Or.inl rfl) rfl hb hC hw k
set_option maxRecDepth 20000 in
theorem kX12_run_19 {C : QC} {x : QP} {M : QM} {st : List CV} {L : QL} {l0 l1 l2 l3 l4 l5 l6 : Option CV} {z : Int} : Rr C mX12_run (19, [l0, some (qi z), l2, l3, l4, l5, l6], st, M) x = Rr C mX12_run (20, [l0, some (qi z), l2, l3, l4, l5, l6], qi z :: st, M) x := g_pl (show decode cX12_run 19 = .ok (.iload_n 1, 1) by decide +kernel) rfl
set_option maxRecDepth 20000 in
theorem kX12_run_20 {C : QC} {x : QP} {M : QM} {st : List CV} {L : QL} {a : Int} (ha1 : -2147483648 ≤ a) (ha2 : a < 2147483648) : Rr C mX12_run (20, L, qi a :: st, M) x = (if a < 0 then Rr C mX12_run (28, L, st, M) x else Rr C mX12_run (23, L, st, M) x) := (g_if (show decode cX12_run 20 = .ok (.ifCond .lt 8, 3) by decide +kernel) rfl ha1 ha2).trans (g_ite c_lt)
set_option maxRecDepth 20000 in
theorem kX12_run_23 {C : QC} {x : QP} {M : QM} {st : List CV} {L : QL} : Rr C mX12_run (23, L, st, M) x = Rr C mX12_run (25, L, qi (-100) :: st, M) x := g_pl (show decode cX12_run 23 = .ok (.bipush (-100), 2) by decide +kernel) rfl
set_option maxRecDepth 20000 in
theorem kX12_run_25 {C : QC} {x : QP} {M : QM} {st : List CV} {L : QL} {l0 l1 l2 l3 l4 l5 l6 : Option CV} {z : Int} : Rr C mX12_run (25, [l0, some (qi z), l2, l3, l4, l5, l6], st, M) x = Rr C mX12_run (26, [l0, some (qi z), l2, l3, l4, l5, l6], qi z :: st, M) x := g_pl (show decode cX12_run 25 = .ok (.iload_n 1, 1) by decide +kernel) rfl
set_option maxRecDepth 20000 in
theorem kX12_run_26 {C : QC} {x : QP} {M : QM} {st : List CV} {L : QL} {a b : Int} : Rr C mX12_run (26, L, qi b :: qi a :: st, M) x = Rr C mX12_run (27, L, qi (a - b) :: st, M) x := g_pl (show decode cX12_run 26 = .ok (.isub, 1) by decide +kernel) rfl
set_option maxRecDepth 20000 in
theorem kX12_run_27 {C : QC} {x : QP} {M : QM} {st : List CV} {L : QL} {z : Int} : Rr C mX12_run (27, L, [qi z], M) x = x (some (qi z)) M := g_iret (show decode cX12_run 27 = .ok (.ireturn, 1) by decide +kernel) rfl
set_option maxRecDepth 20000 in
theorem kX12_run_28 {C : QC} {x : QP} {M : QM} {st : List CV} {L : QL} {l0 l1 l2 l3 l4 l5 l6 : Option CV} {r : Option Nat} : Rr C mX12_run (28, [some (.inr (.inr r)), l1, l2, l3, l4, l5, l6], st, M) x = Rr C mX12_run (29, [some (.inr (.inr r)), l1, l2, l3, l4, l5, l6], .inr (.inr r) :: st, M) x := g_pl (show decode cX12_run 28 = .ok (.aload_n 0, 1) by decide +kernel) rfl
set_option maxRecDepth 20000 in
theorem kX12_run_29 {C : QC} {x : QP} {M : QM} {st : List CV} {L : QL} {a : Nat} (hk : q_kd M a = (1, 12)) : Rr C mX12_run (29, L, qr a :: st, M) x = Rr C mX12_run (32, L, q_fv M a 1 :: st, M) x := g_getf (ow := 12) (e := (12, 1, RX12, 380, 0)) (show decode cX12_run 29 = .ok (.getfield 19, 3) by decide +kernel) rfl hk
set_option maxRecDepth 20000 in
theorem kX12_run_32 {C : QC} {x : QP} {M : QM} {L : QL} {rest : List CV} {v : CV} {M1 : QM} {b : Nat} (hb : q_kd M b = (1, 5)) (hC : C iX5_size [qr b] M (some v) M1) (hw : (rest.map q_wd).sum ≤ 8) (k : Rr C mX12_run (35, L, v :: rest, M1) x) : Rr C mX12_run (32, L, qr b :: rest, M) x := g_cv (ow := 12) (e := (0, 95, 5, [810, 811, 812, 79])) (as := []) (show decode cX12_run 32 = .ok (.invokevirtual 114, 3) by decide +kernel) rfl rfl rfl (Or.inl rfl) rfl hb hC hw k
set_option maxRecDepth 20000 in
theorem kX12_run_35 {C : QC} {x : QP} {M : QM} {st : List CV} {L : QL} {l0 l1 l2 l3 l4 l5 l6 : Option CV} {z : Int} : Rr C mX12_run (35, [l0, l1, l2, l3, l4, l5, l6], qi z :: st, M) x = Rr C mX12_run (36, [l0, q_cut l1, some (qi z), l3, l4, l5, l6], st, M) x := g_pl (show decode cX12_run 35 = .ok (.istore_n 2, 1) by decide +kernel) rfl
set_option maxRecDepth 20000 in
theorem kX12_run_36 {C : QC} {x : QP} {M : QM} {st : List CV} {L : QL} {l0 l1 l2 l3 l4 l5 l6 : Option CV} {r : Option Nat} : Rr C mX12_run (36, [some (.inr (.inr r)), l1, l2, l3, l4, l5, l6], st, M) x = Rr C mX12_run (37, [some (.inr (.inr r)), l1, l2, l3, l4, l5, l6], .inr (.inr r) :: st, M) x := g_pl (show decode cX12_run 36 = .ok (.aload_n 0, 1) by decide +kernel) rfl
set_option maxRecDepth 20000 in
theorem kX12_run_37 {C : QC} {x : QP} {M : QM} {st : List CV} {L : QL} {a : Nat} (hk : q_kd M a = (1, 12)) : Rr C mX12_run (37, L, qr a :: st, M) x = Rr C mX12_run (40, L, q_fv M a 6 :: st, M) x := g_getf (ow := 12) (e := (12, 6, RX12, 385, 0)) (show decode cX12_run 37 = .ok (.getfield 54, 3) by decide +kernel) rfl hk
set_option maxRecDepth 20000 in
theorem kX12_run_40 {C : QC} {x : QP} {M : QM} {L : QL} {rest : List CV} {v : CV} {M1 : QM} {b : Nat} (hb : q_kd M b = (1, 15)) (hC : C iJx4a65c_size_8abf5 [qr b] M (some v) M1) (hw : (rest.map q_wd).sum ≤ 8) (k : Rr C mX12_run (43, L, v :: rest, M1) x) : Rr C mX12_run (40, L, qr b :: rest, M) x := g_cv (ow := 12) (e := (0, 43, 15, [558, 559, 560, 82])) (as := []) (show decode cX12_run 40 = .ok (.invokevirtual 117, 3) by decide +kernel) rfl rfl rfl (Or.inl rfl) rfl hb hC hw k
set_option maxRecDepth 20000 in
theorem kX12_run_43 {C : QC} {x : QP} {M : QM} {st : List CV} {L : QL} {l0 l1 l2 l3 l4 l5 l6 : Option CV} {z : Int} : Rr C mX12_run (43, [l0, l1, l2, l3, l4, l5, l6], qi z :: st, M) x = Rr C mX12_run (44, [l0, l1, q_cut l2, some (qi z), l4, l5, l6], st, M) x := g_pl (show decode cX12_run 43 = .ok (.istore_n 3, 1) by decide +kernel) rfl
set_option maxRecDepth 20000 in
theorem kX12_run_44 {C : QC} {x : QP} {M : QM} {st : List CV} {L : QL} {l0 l1 l2 l3 l4 l5 l6 : Option CV} {z : Int} : Rr C mX12_run (44, [l0, l1, l2, some (qi z), l4, l5, l6], st, M) x = Rr C mX12_run (45, [l0, l1, l2, some (qi z), l4, l5, l6], qi z :: st, M) x := g_pl (show decode cX12_run 44 = .ok (.iload_n 3, 1) by decide +kernel) rfl
set_option maxRecDepth 20000 in
theorem kX12_run_45 {C : QC} {x : QP} {M : QM} {st : List CV} {L : QL} {l0 l1 l2 l3 l4 l5 l6 : Option CV} {z : Int} : Rr C mX12_run (45, [l0, l1, some (qi z), l3, l4, l5, l6], st, M) x = Rr C mX12_run (46, [l0, l1, some (qi z), l3, l4, l5, l6], qi z :: st, M) x := g_pl (show decode cX12_run 45 = .ok (.iload_n 2, 1) by decide +kernel) rfl
set_option maxRecDepth 20000 in
theorem kX12_run_46 {C : QC} {x : QP} {M : QM} {st : List CV} {L : QL} {a b : Int} : Rr C mX12_run (46, L, qi b :: qi a :: st, M) x = Rr C mX12_run (47, L, qi (a + b) :: st, M) x := g_pl (show decode cX12_run 46 = .ok (.iadd, 1) by decide +kernel) rfl
set_option maxRecDepth 20000 in
theorem kX12_run_47 {C : QC} {x : QP} {M : QM} {st : List CV} {L : QL} : Rr C mX12_run (47, L, st, M) x = Rr C mX12_run (50, L, qi 512 :: st, M) x := g_pl (show decode cX12_run 47 = .ok (.sipush 512, 3) by decide +kernel) rfl
set_option maxRecDepth 20000 in
theorem kX12_run_50 {C : QC} {x : QP} {M : QM} {st : List CV} {L : QL} {a b : Int} (ha1 : -2147483648 ≤ a) (ha2 : a < 2147483648) (hb1 : -2147483648 ≤ b) (hb2 : b < 2147483648) : Rr C mX12_run (50, L, qi b :: qi a :: st, M) x = (if b < a then Rr C mX12_run (53, L, st, M) x else Rr C mX12_run (56, L, st, M) x) := (g_icmp (show decode cX12_run 50 = .ok (.if_icmp .le 6, 3) by decide +kernel) rfl ha1 ha2 hb1 hb2).trans (g_itn c_le)
set_option maxRecDepth 20000 in
theorem kX12_run_53 {C : QC} {x : QP} {M : QM} {st : List CV} {L : QL} : Rr C mX12_run (53, L, st, M) x = Rr C mX12_run (55, L, qi (-4) :: st, M) x := g_pl (show decode cX12_run 53 = .ok (.bipush (-4), 2) by decide +kernel) rfl
set_option maxRecDepth 20000 in
theorem kX12_run_55 {C : QC} {x : QP} {M : QM} {st : List CV} {L : QL} {z : Int} : Rr C mX12_run (55, L, [qi z], M) x = x (some (qi z)) M := g_iret (show decode cX12_run 55 = .ok (.ireturn, 1) by decide +kernel) rfl
set_option maxRecDepth 20000 in
theorem kX12_run_56 {C : QC} {x : QP} {M : QM} {st : List CV} {L : QL} : Rr C mX12_run (56, L, st, M) x = Rr C mX12_run (57, L, qi 0 :: st, M) x := g_pl (show decode cX12_run 56 = .ok (.iconst 0, 1) by decide +kernel) rfl
set_option maxRecDepth 20000 in
theorem kX12_run_57 {C : QC} {x : QP} {M : QM} {st : List CV} {L : QL} {l0 l1 l2 l3 l4 l5 l6 : Option CV} {z : Int} : Rr C mX12_run (57, [l0, l1, l2, l3, l4, l5, l6], qi z :: st, M) x = Rr C mX12_run (59, [l0, l1, l2, q_cut l3, some (qi z), l5, l6], st, M) x := g_pl (show decode cX12_run 57 = .ok (.istore 4, 2) by decide +kernel) rfl
set_option maxRecDepth 20000 in
theorem kX12_run_59 {C : QC} {x : QP} {M : QM} {st : List CV} {L : QL} {l0 l1 l2 l3 l4 l5 l6 : Option CV} {z : Int} : Rr C mX12_run (59, [l0, l1, l2, l3, some (qi z), l5, l6], st, M) x = Rr C mX12_run (61, [l0, l1, l2, l3, some (qi z), l5, l6], qi z :: st, M) x := g_pl (show decode cX12_run 59 = .ok (.iload 4, 2) by decide +kernel) rfl
set_option maxRecDepth 20000 in
theorem kX12_run_61 {C : QC} {x : QP} {M : QM} {st : List CV} {L : QL} {l0 l1 l2 l3 l4 l5 l6 : Option CV} {z : Int} : Rr C mX12_run (61, [l0, l1, some (qi z), l3, l4, l5, l6], st, M) x = Rr C mX12_run (62, [l0, l1, some (qi z), l3, l4, l5, l6], qi z :: st, M) x := g_pl (show decode cX12_run 61 = .ok (.iload_n 2, 1) by decide +kernel) rfl
set_option maxRecDepth 20000 in
theorem kX12_run_62 {C : QC} {x : QP} {M : QM} {st : List CV} {L : QL} {a b : Int} (ha1 : -2147483648 ≤ a) (ha2 : a < 2147483648) (hb1 : -2147483648 ≤ b) (hb2 : b < 2147483648) : Rr C mX12_run (62, L, qi b :: qi a :: st, M) x = (if a < b then Rr C mX12_run (65, L, st, M) x else Rr C mX12_run (140, L, st, M) x) := (g_icmp (show decode cX12_run 62 = .ok (.if_icmp .ge 78, 3) by decide +kernel) rfl ha1 ha2 hb1 hb2).trans (g_itn c_ge)
set_option maxRecDepth 20000 in
theorem kX12_run_65 {C : QC} {x : QP} {M : QM} {st : List CV} {L : QL} {l0 l1 l2 l3 l4 l5 l6 : Option CV} {r : Option Nat} : Rr C mX12_run (65, [some (.inr (.inr r)), l1, l2, l3, l4, l5, l6], st, M) x = Rr C mX12_run (66, [some (.inr (.inr r)), l1, l2, l3, l4, l5, l6], .inr (.inr r) :: st, M) x := g_pl (show decode cX12_run 65 = .ok (.aload_n 0, 1) by decide +kernel) rfl
set_option maxRecDepth 20000 in
theorem kX12_run_66 {C : QC} {x : QP} {M : QM} {st : List CV} {L : QL} {a : Nat} (hk : q_kd M a = (1, 12)) : Rr C mX12_run (66, L, qr a :: st, M) x = Rr C mX12_run (69, L, q_fv M a 1 :: st, M) x := g_getf (ow := 12) (e := (12, 1, RX12, 380, 0)) (show decode cX12_run 66 = .ok (.getfield 19, 3) by decide +kernel) rfl hk
set_option maxRecDepth 20000 in
theorem kX12_run_69 {C : QC} {x : QP} {M : QM} {st : List CV} {L : QL} {l0 l1 l2 l3 l4 l5 l6 : Option CV} {z : Int} : Rr C mX12_run (69, [l0, l1, l2, l3, some (qi z), l5, l6], st, M) x = Rr C mX12_run (71, [l0, l1, l2, l3, some (qi z), l5, l6], qi z :: st, M) x := g_pl (show decode cX12_run 69 = .ok (.iload 4, 2) by decide +kernel) rfl
set_option maxRecDepth 20000 in
theorem kX12_run_71 {C : QC} {x : QP} {M : QM} {L : QL} {rest : List CV} {a0 : CV} {v : CV} {M1 : QM} {b : Nat} (hb : q_kd M b = (1, 5)) (hC : C iX5_order [qr b, a0] M (some v) M1) (hw : (rest.map q_wd).sum ≤ 8) (k : Rr C mX12_run (74, L, v :: rest, M1) x) : Rr C mX12_run (71, L, a0 :: qr b :: rest, M) x := g_cv (ow := 12) (e := (0, 96, 5, [815, 816, 817, 79])) (as := [a0]) (show decode cX12_run 71 = .ok (.invokevirtual 118, 3) by decide +kernel) rfl rfl rfl (Or.inl rfl) rfl hb hC hw k
set_option maxRecDepth 20000 in
theorem kX12_run_74 {C : QC} {x : QP} {M : QM} {st : List CV} {L : QL} {l0 l1 l2 l3 l4 l5 l6 : Option CV} {z : Option Nat} : Rr C mX12_run (74, [l0, l1, l2, l3, l4, l5, l6], .inr (.inr z) :: st, M) x = Rr C mX12_run (76, [l0, l1, l2, l3, q_cut l4, some (.inr (.inr z)), l6], st, M) x := g_pl (show decode cX12_run 74 = .ok (.astore 5, 2) by decide +kernel) rfl
set_option maxRecDepth 20000 in
theorem kX12_run_76 {C : QC} {x : QP} {M : QM} {st : List CV} {L : QL} {l0 l1 l2 l3 l4 l5 l6 : Option CV} {r : Option Nat} : Rr C mX12_run (76, [some (.inr (.inr r)), l1, l2, l3, l4, l5, l6], st, M) x = Rr C mX12_run (77, [some (.inr (.inr r)), l1, l2, l3, l4, l5, l6], .inr (.inr r) :: st, M) x := g_pl (show decode cX12_run 76 = .ok (.aload_n 0, 1) by decide +kernel) rfl
set_option maxRecDepth 20000 in
theorem kX12_run_77 {C : QC} {x : QP} {M : QM} {st : List CV} {L : QL} {a : Nat} (hk : q_kd M a = (1, 12)) : Rr C mX12_run (77, L, qr a :: st, M) x = Rr C mX12_run (80, L, q_fv M a 2 :: st, M) x := g_getf (ow := 12) (e := (12, 2, RX12, 381, 0)) (show decode cX12_run 77 = .ok (.getfield 26, 3) by decide +kernel) rfl hk
set_option maxRecDepth 20000 in
theorem kX12_run_80 {C : QC} {x : QP} {M : QM} {st : List CV} {L : QL} {l0 l1 l2 l3 l4 l5 l6 : Option CV} {r : Option Nat} : Rr C mX12_run (80, [l0, l1, l2, l3, l4, some (.inr (.inr r)), l6], st, M) x = Rr C mX12_run (82, [l0, l1, l2, l3, l4, some (.inr (.inr r)), l6], .inr (.inr r) :: st, M) x := g_pl (show decode cX12_run 80 = .ok (.aload 5, 2) by decide +kernel) rfl
set_option maxRecDepth 20000 in
theorem kX12_run_82 {C : QC} {x : QP} {M : QM} {L : QL} {rest : List CV} {a0 a1 : CV} {v : CV} {M1 : QM} (hC : C iX6_refusal [a0, a1] M (some v) M1) (hw : (rest.map q_wd).sum ≤ 8) (k : Rr C mX12_run (85, L, v :: rest, M1) x) : Rr C mX12_run (82, L, a1 :: a0 :: rest, M) x := g_cs (ow := 12) (e := (1, 25, 0, [487, 488, 97])) (as := [a0, a1]) (show decode cX12_run 82 = .ok (.invokestatic 122, 3) by decide +kernel) rfl rfl rfl rfl (Or.inl rfl) rfl hC hw k
set_option maxRecDepth 20000 in
theorem kX12_run_85 {C : QC} {x : QP} {M : QM} {st : List CV} {L : QL} {l0 l1 l2 l3 l4 l5 l6 : Option CV} {z : Int} : Rr C mX12_run (85, [l0, l1, l2, l3, l4, l5, l6], qi z :: st, M) x = Rr C mX12_run (87, [l0, l1, l2, l3, l4, q_cut l5, some (qi z)], st, M) x := g_pl (show decode cX12_run 85 = .ok (.istore 6, 2) by decide +kernel) rfl
set_option maxRecDepth 20000 in
theorem kX12_run_87 {C : QC} {x : QP} {M : QM} {st : List CV} {L : QL} {l0 l1 l2 l3 l4 l5 l6 : Option CV} {z : Int} : Rr C mX12_run (87, [l0, l1, l2, l3, l4, l5, some (qi z)], st, M) x = Rr C mX12_run (89, [l0, l1, l2, l3, l4, l5, some (qi z)], qi z :: st, M) x := g_pl (show decode cX12_run 87 = .ok (.iload 6, 2) by decide +kernel) rfl
set_option maxRecDepth 20000 in
theorem kX12_run_89 {C : QC} {x : QP} {M : QM} {st : List CV} {L : QL} {a : Int} (ha1 : -2147483648 ≤ a) (ha2 : a < 2147483648) : Rr C mX12_run (89, L, qi a :: st, M) x = (if a = 0 then Rr C mX12_run (114, L, st, M) x else Rr C mX12_run (92, L, st, M) x) := (g_if (show decode cX12_run 89 = .ok (.ifCond .eq 25, 3) by decide +kernel) rfl ha1 ha2).trans (g_ite c_eq)
set_option maxRecDepth 20000 in
theorem kX12_run_92 {C : QC} {x : QP} {M : QM} {st : List CV} {L : QL} {l0 l1 l2 l3 l4 l5 l6 : Option CV} {r : Option Nat} : Rr C mX12_run (92, [some (.inr (.inr r)), l1, l2, l3, l4, l5, l6], st, M) x = Rr C mX12_run (93, [some (.inr (.inr r)), l1, l2, l3, l4, l5, l6], .inr (.inr r) :: st, M) x := g_pl (show decode cX12_run 92 = .ok (.aload_n 0, 1) by decide +kernel) rfl
set_option maxRecDepth 20000 in
theorem kX12_run_93 {C : QC} {x : QP} {M : QM} {st : List CV} {L : QL} {l0 l1 l2 l3 l4 l5 l6 : Option CV} {z : Int} : Rr C mX12_run (93, [l0, l1, l2, l3, l4, l5, some (qi z)], st, M) x = Rr C mX12_run (95, [l0, l1, l2, l3, l4, l5, some (qi z)], qi z :: st, M) x := g_pl (show decode cX12_run 93 = .ok (.iload 6, 2) by decide +kernel) rfl
set_option maxRecDepth 20000 in
theorem kX12_run_95 {C : QC} {x : QP} {M : QM} {st : List CV} {L : QL} {z : Int} {a : Nat} (hk : q_kd M a = (1, 12)) : Rr C mX12_run (95, L, qi z :: qr a :: st, M) x = Rr C mX12_run (98, L, st, q_wr M a 11 (qi z)) x := g_putf (ow := 12) (ini := false) (e := (12, 11, RX12, 390, 0)) (r := (RX12, TX12, 14)) (t := tyX12) (show decode cX12_run 95 = .ok (.putfield 73, 3) by decide +kernel) rfl rfl rfl rfl (by decide +kernel) hk
set_option maxRecDepth 20000 in
theorem kX12_run_98 {C : QC} {x : QP} {M : QM} {st : List CV} {L : QL} {l0 l1 l2 l3 l4 l5 l6 : Option CV} {r : Option Nat} : Rr C mX12_run (98, [some (.inr (.inr r)), l1, l2, l3, l4, l5, l6], st, M) x = Rr C mX12_run (99, [some (.inr (.inr r)), l1, l2, l3, l4, l5, l6], .inr (.inr r) :: st, M) x := g_pl (show decode cX12_run 98 = .ok (.aload_n 0, 1) by decide +kernel) rfl
set_option maxRecDepth 20000 in
theorem kX12_run_99 {C : QC} {x : QP} {M : QM} {st : List CV} {L : QL} {l0 l1 l2 l3 l4 l5 l6 : Option CV} {z : Int} : Rr C mX12_run (99, [l0, l1, l2, some (qi z), l4, l5, l6], st, M) x = Rr C mX12_run (100, [l0, l1, l2, some (qi z), l4, l5, l6], qi z :: st, M) x := g_pl (show decode cX12_run 99 = .ok (.iload_n 3, 1) by decide +kernel) rfl
set_option maxRecDepth 20000 in
theorem kX12_run_100 {C : QC} {x : QP} {M : QM} {L : QL} {rest : List CV} {a0 : CV} {M1 : QM} {b : Nat} (hb : q_kd M b = (1, 12)) (hC : C iX12_cutJournal [qr b, a0] M none M1) (hw : (rest.map q_wd).sum ≤ 8) (k : Rr C mX12_run (103, L, rest, M1) x) : Rr C mX12_run (100, L, a0 :: qr b :: rest, M) x := g_cv (ow := 12) (e := (0, 101, 12, [833, 835, 16, 77])) (as := [a0]) (show decode cX12_run 100 = .ok (.invokevirtual 128, 3) by decide +kernel) rfl rfl rfl (Or.inl rfl) rfl hb hC hw k
set_option maxRecDepth 20000 in
theorem kX12_run_103 {C : QC} {x : QP} {M : QM} {st : List CV} {L : QL} {l0 l1 l2 l3 l4 l5 l6 : Option CV} {r : Option Nat} : Rr C mX12_run (103, [some (.inr (.inr r)), l1, l2, l3, l4, l5, l6], st, M) x = Rr C mX12_run (104, [some (.inr (.inr r)), l1, l2, l3, l4, l5, l6], .inr (.inr r) :: st, M) x := g_pl (show decode cX12_run 103 = .ok (.aload_n 0, 1) by decide +kernel) rfl
set_option maxRecDepth 20000 in
theorem kX12_run_104 {C : QC} {x : QP} {M : QM} {L : QL} {rest : List CV} {M1 : QM} {b : Nat} (hb : q_kd M b = (1, 12)) (hC : C iX12_tellAgain [qr b] M none M1) (hw : (rest.map q_wd).sum ≤ 8) (k : Rr C mX12_run (107, L, rest, M1) x) : Rr C mX12_run (104, L, qr b :: rest, M) x := g_cv (ow := 12) (e := (0, 104, 12, [846, 848, 18, 77])) (as := []) (show decode cX12_run 104 = .ok (.invokevirtual 131, 3) by decide +kernel) rfl rfl rfl (Or.inl rfl) rfl hb hC hw k
set_option maxRecDepth 20000 in
theorem kX12_run_107 {C : QC} {x : QP} {M : QM} {st : List CV} {L : QL} : Rr C mX12_run (107, L, st, M) x = Rr C mX12_run (110, L, qi (-200) :: st, M) x := g_pl (show decode cX12_run 107 = .ok (.sipush (-200), 3) by decide +kernel) rfl
set_option maxRecDepth 20000 in
theorem kX12_run_110 {C : QC} {x : QP} {M : QM} {st : List CV} {L : QL} {l0 l1 l2 l3 l4 l5 l6 : Option CV} {z : Int} : Rr C mX12_run (110, [l0, l1, l2, l3, some (qi z), l5, l6], st, M) x = Rr C mX12_run (112, [l0, l1, l2, l3, some (qi z), l5, l6], qi z :: st, M) x := g_pl (show decode cX12_run 110 = .ok (.iload 4, 2) by decide +kernel) rfl
set_option maxRecDepth 20000 in
theorem kX12_run_112 {C : QC} {x : QP} {M : QM} {st : List CV} {L : QL} {a b : Int} : Rr C mX12_run (112, L, qi b :: qi a :: st, M) x = Rr C mX12_run (113, L, qi (a - b) :: st, M) x := g_pl (show decode cX12_run 112 = .ok (.isub, 1) by decide +kernel) rfl
set_option maxRecDepth 20000 in
theorem kX12_run_113 {C : QC} {x : QP} {M : QM} {st : List CV} {L : QL} {z : Int} : Rr C mX12_run (113, L, [qi z], M) x = x (some (qi z)) M := g_iret (show decode cX12_run 113 = .ok (.ireturn, 1) by decide +kernel) rfl
set_option maxRecDepth 20000 in
theorem kX12_run_114 {C : QC} {x : QP} {M : QM} {st : List CV} {L : QL} {l0 l1 l2 l3 l4 l5 l6 : Option CV} {r : Option Nat} : Rr C mX12_run (114, [some (.inr (.inr r)), l1, l2, l3, l4, l5, l6], st, M) x = Rr C mX12_run (115, [some (.inr (.inr r)), l1, l2, l3, l4, l5, l6], .inr (.inr r) :: st, M) x := g_pl (show decode cX12_run 114 = .ok (.aload_n 0, 1) by decide +kernel) rfl
set_option maxRecDepth 20000 in
theorem kX12_run_115 {C : QC} {x : QP} {M : QM} {st : List CV} {L : QL} {a : Nat} (hk : q_kd M a = (1, 12)) : Rr C mX12_run (115, L, qr a :: st, M) x = Rr C mX12_run (118, L, q_fv M a 6 :: st, M) x := g_getf (ow := 12) (e := (12, 6, RX12, 385, 0)) (show decode cX12_run 115 = .ok (.getfield 54, 3) by decide +kernel) rfl hk
set_option maxRecDepth 20000 in
theorem kX12_run_118 {C : QC} {x : QP} {M : QM} {st : List CV} {L : QL} {l0 l1 l2 l3 l4 l5 l6 : Option CV} {r : Option Nat} : Rr C mX12_run (118, [l0, l1, l2, l3, l4, some (.inr (.inr r)), l6], st, M) x = Rr C mX12_run (120, [l0, l1, l2, l3, l4, some (.inr (.inr r)), l6], .inr (.inr r) :: st, M) x := g_pl (show decode cX12_run 118 = .ok (.aload 5, 2) by decide +kernel) rfl
set_option maxRecDepth 20000 in
theorem kX12_run_120 {C : QC} {x : QP} {M : QM} {L : QL} {rest : List CV} {a0 : CV} {v : CV} {M1 : QM} {b : Nat} (hb : q_kd M b = (1, 15)) (hC : C iJx4a65c_add_9ea2d [qr b, a0] M (some v) M1) (hw : (rest.map q_wd).sum ≤ 8) (k : Rr C mX12_run (123, L, v :: rest, M1) x) : Rr C mX12_run (120, L, a0 :: qr b :: rest, M) x := g_cv (ow := 12) (e := (0, 45, 15, [569, 570, 571, 82])) (as := [a0]) (show decode cX12_run 120 = .ok (.invokevirtual 134, 3) by decide +kernel) rfl rfl rfl (Or.inl rfl) rfl hb hC hw k
set_option maxRecDepth 20000 in
theorem kX12_run_123i {C : QC} {x : QP} {M : QM} {st : List CV} {L : QL} {a : Int} : Rr C mX12_run (123, L, qi a :: st, M) x = Rr C mX12_run (124, L, st, M) x := g_pl (show decode cX12_run 123 = .ok (.pop, 1) by decide +kernel) rfl
set_option maxRecDepth 20000 in
theorem kX12_run_123r {C : QC} {x : QP} {M : QM} {st : List CV} {L : QL} {a : Option Nat} : Rr C mX12_run (123, L, .inr (.inr a) :: st, M) x = Rr C mX12_run (124, L, st, M) x := g_pl (show decode cX12_run 123 = .ok (.pop, 1) by decide +kernel) rfl
set_option maxRecDepth 20000 in
theorem kX12_run_124 {C : QC} {x : QP} {M : QM} {st : List CV} {L : QL} {l0 l1 l2 l3 l4 l5 l6 : Option CV} {r : Option Nat} : Rr C mX12_run (124, [some (.inr (.inr r)), l1, l2, l3, l4, l5, l6], st, M) x = Rr C mX12_run (125, [some (.inr (.inr r)), l1, l2, l3, l4, l5, l6], .inr (.inr r) :: st, M) x := g_pl (show decode cX12_run 124 = .ok (.aload_n 0, 1) by decide +kernel) rfl
set_option maxRecDepth 20000 in
theorem kX12_run_125 {C : QC} {x : QP} {M : QM} {st : List CV} {L : QL} {a : Nat} (hk : q_kd M a = (1, 12)) : Rr C mX12_run (125, L, qr a :: st, M) x = Rr C mX12_run (128, L, q_fv M a 2 :: st, M) x := g_getf (ow := 12) (e := (12, 2, RX12, 381, 0)) (show decode cX12_run 125 = .ok (.getfield 26, 3) by decide +kernel) rfl hk
set_option maxRecDepth 20000 in
theorem kX12_run_128 {C : QC} {x : QP} {M : QM} {st : List CV} {L : QL} {l0 l1 l2 l3 l4 l5 l6 : Option CV} {r : Option Nat} : Rr C mX12_run (128, [l0, l1, l2, l3, l4, some (.inr (.inr r)), l6], st, M) x = Rr C mX12_run (130, [l0, l1, l2, l3, l4, some (.inr (.inr r)), l6], .inr (.inr r) :: st, M) x := g_pl (show decode cX12_run 128 = .ok (.aload 5, 2) by decide +kernel) rfl
set_option maxRecDepth 20000 in
theorem kX12_run_130 {C : QC} {x : QP} {M : QM} {L : QL} {rest : List CV} {a0 : CV} {v : CV} {M1 : QM} {b : Nat} (hb : q_kd M b = (1, 11)) (hC : C iX11_carryOut [qr b, a0] M (some v) M1) (hw : (rest.map q_wd).sum ≤ 8) (k : Rr C mX12_run (133, L, v :: rest, M1) x) : Rr C mX12_run (130, L, a0 :: qr b :: rest, M) x := g_cv (ow := 12) (e := (0, 53, 11, [624, 625, 626, 83])) (as := [a0]) (show decode cX12_run 130 = .ok (.invokevirtual 138, 3) by decide +kernel) rfl rfl rfl (Or.inl rfl) rfl hb hC hw k
set_option maxRecDepth 20000 in
theorem kX12_run_133i {C : QC} {x : QP} {M : QM} {st : List CV} {L : QL} {a : Int} : Rr C mX12_run (133, L, qi a :: st, M) x = Rr C mX12_run (134, L, st, M) x := g_pl (show decode cX12_run 133 = .ok (.pop, 1) by decide +kernel) rfl
set_option maxRecDepth 20000 in
theorem kX12_run_133r {C : QC} {x : QP} {M : QM} {st : List CV} {L : QL} {a : Option Nat} : Rr C mX12_run (133, L, .inr (.inr a) :: st, M) x = Rr C mX12_run (134, L, st, M) x := g_pl (show decode cX12_run 133 = .ok (.pop, 1) by decide +kernel) rfl
set_option maxRecDepth 20000 in
theorem kX12_run_134 {C : QC} {x : QP} {M : QM} {st : List CV} {L : QL} {l0 l1 l2 l3 l4 l5 l6 : Option CV} {z : Int} : Rr C mX12_run (134, [l0, l1, l2, l3, some (qi z), l5, l6], st, M) x = Rr C mX12_run (137, [l0, l1, l2, q_cut l3, some (qi (z + 1)), l5, l6], st, M) x := g_pl (show decode cX12_run 134 = .ok (.iinc 4 1, 3) by decide +kernel) rfl
set_option maxRecDepth 20000 in
theorem kX12_run_137 {C : QC} {x : QP} {M : QM} {st : List CV} {L : QL} : Rr C mX12_run (137, L, st, M) x = Rr C mX12_run (59, L, st, M) x := g_pl (show decode cX12_run 137 = .ok (.goto (-78), 3) by decide +kernel) rfl
set_option maxRecDepth 20000 in
theorem kX12_run_140 {C : QC} {x : QP} {M : QM} {st : List CV} {L : QL} {l0 l1 l2 l3 l4 l5 l6 : Option CV} {r : Option Nat} : Rr C mX12_run (140, [some (.inr (.inr r)), l1, l2, l3, l4, l5, l6], st, M) x = Rr C mX12_run (141, [some (.inr (.inr r)), l1, l2, l3, l4, l5, l6], .inr (.inr r) :: st, M) x := g_pl (show decode cX12_run 140 = .ok (.aload_n 0, 1) by decide +kernel) rfl
set_option maxRecDepth 20000 in
theorem kX12_run_141 {C : QC} {x : QP} {M : QM} {st : List CV} {L : QL} {l0 l1 l2 l3 l4 l5 l6 : Option CV} {z : Int} : Rr C mX12_run (141, [l0, l1, l2, some (qi z), l4, l5, l6], st, M) x = Rr C mX12_run (142, [l0, l1, l2, some (qi z), l4, l5, l6], qi z :: st, M) x := g_pl (show decode cX12_run 141 = .ok (.iload_n 3, 1) by decide +kernel) rfl
set_option maxRecDepth 20000 in
theorem kX12_run_142 {C : QC} {x : QP} {M : QM} {L : QL} {rest : List CV} {a0 : CV} {M1 : QM} {b : Nat} (hb : q_kd M b = (1, 12)) (hC : C iX12_keepMark [qr b, a0] M none M1) (hw : (rest.map q_wd).sum ≤ 8) (k : Rr C mX12_run (145, L, rest, M1) x) : Rr C mX12_run (142, L, a0 :: qr b :: rest, M) x := g_cv (ow := 12) (e := (0, 44, 12, [562, 564, 2, 77])) (as := [a0]) (show decode cX12_run 142 = .ok (.invokevirtual 141, 3) by decide +kernel) rfl rfl rfl (Or.inl rfl) rfl hb hC hw k
set_option maxRecDepth 20000 in
theorem kX12_run_145 {C : QC} {x : QP} {M : QM} {st : List CV} {L : QL} {l0 l1 l2 l3 l4 l5 l6 : Option CV} {z : Int} : Rr C mX12_run (145, [l0, l1, some (qi z), l3, l4, l5, l6], st, M) x = Rr C mX12_run (146, [l0, l1, some (qi z), l3, l4, l5, l6], qi z :: st, M) x := g_pl (show decode cX12_run 145 = .ok (.iload_n 2, 1) by decide +kernel) rfl
set_option maxRecDepth 20000 in
theorem kX12_run_146 {C : QC} {x : QP} {M : QM} {st : List CV} {L : QL} {z : Int} : Rr C mX12_run (146, L, [qi z], M) x = x (some (qi z)) M := g_iret (show decode cX12_run 146 = .ok (.ireturn, 1) by decide +kernel) rfl
set_option maxRecDepth 20000 in
theorem eX12_run {d : Nat} {M : QM} {x : QP} {a : Nat} : q_T (d + 1) iX12_run [qr a] M x = Rr (q_C d) mX12_run (0, [some (qr a), none, none, none, none, none, none], [], M) x := g_entryT (e := _) rfl (Nat.le_of_ble_eq_true rfl) rfl rfl
def mX12_reason : QI := (12, cX12_reason, false, some .int)
set_option maxRecDepth 20000 in
theorem kX12_reason_0 {C : QC} {x : QP} {M : QM} {st : List CV} {L : QL} {r : Option Nat} : Rr C mX12_reason (0, [some (.inr (.inr r))], st, M) x = Rr C mX12_reason (1, [some (.inr (.inr r))], .inr (.inr r) :: st, M) x := g_pl (show decode cX12_reason 0 = .ok (.aload_n 0, 1) by decide +kernel) rfl
set_option maxRecDepth 20000 in
theorem kX12_reason_1 {C : QC} {x : QP} {M : QM} {st : List CV} {L : QL} {a : Nat} (hk : q_kd M a = (1, 12)) : Rr C mX12_reason (1, L, qr a :: st, M) x = Rr C mX12_reason (4, L, q_fv M a 11 :: st, M) x := g_getf (ow := 12) (e := (12, 11, RX12, 390, 0)) (show decode cX12_reason 1 = .ok (.getfield 73, 3) by decide +kernel) rfl hk
set_option maxRecDepth 20000 in
theorem kX12_reason_4 {C : QC} {x : QP} {M : QM} {st : List CV} {L : QL} {z : Int} : Rr C mX12_reason (4, L, [qi z], M) x = x (some (qi z)) M := g_iret (show decode cX12_reason 4 = .ok (.ireturn, 1) by decide +kernel) rfl
set_option maxRecDepth 20000 in
theorem eX12_reason {d : Nat} {M : QM} {x : QP} {a : Nat} : q_T (d + 1) iX12_reason [qr a] M x = Rr (q_C d) mX12_reason (0, [some (qr a)], [], M) x := g_entryT (e := _) rfl (Nat.le_of_ble_eq_true rfl) rfl rfl
def mX12_on : QI := (12, cX12_on, false, some .int)
set_option maxRecDepth 20000 in
theorem kX12_on_0 {C : QC} {x : QP} {M : QM} {st : List CV} {L : QL} {l0 l1 l2 l3 l4 : Option CV} {r : Option Nat} : Rr C mX12_on (0, [some (.inr (.inr r)), l1, l2, l3, l4], st, M) x = Rr C mX12_on (1, [some (.inr (.inr r)), l1, l2, l3, l4], .inr (.inr r) :: st, M) x := g_pl (show decode cX12_on 0 = .ok (.aload_n 0, 1) by decide +kernel) rfl
set_option maxRecDepth 20000 in
theorem kX12_on_1 {C : QC} {x : QP} {M : QM} {st : List CV} {L : QL} {a : Nat} (hk : q_kd M a = (1, 12)) : Rr C mX12_on (1, L, qr a :: st, M) x = Rr C mX12_on (4, L, q_fv M a 2 :: st, M) x := g_getf (ow := 12) (e := (12, 2, RX12, 381, 0)) (show decode cX12_on 1 = .ok (.getfield 26, 3) by decide +kernel) rfl hk
set_option maxRecDepth 20000 in
theorem kX12_on_4 {C : QC} {x : QP} {M : QM} {st : List CV} {L : QL} {l0 l1 l2 l3 l4 : Option CV} {z : Int} : Rr C mX12_on (4, [l0, some (qi z), l2, l3, l4], st, M) x = Rr C mX12_on (5, [l0, some (qi z), l2, l3, l4], qi z :: st, M) x := g_pl (show decode cX12_on 4 = .ok (.iload_n 1, 1) by decide +kernel) rfl
set_option maxRecDepth 20000 in
theorem kX12_on_5 {C : QC} {x : QP} {M : QM} {L : QL} {rest : List CV} {a0 : CV} {v : CV} {M1 : QM} {b : Nat} (hb : q_kd M b = (1, 11)) (hC : C iX11_place [qr b, a0] M (some v) M1) (hw : (rest.map q_wd).sum ≤ 8) (k : Rr C mX12_on (8, L, v :: rest, M1) x) : Rr C mX12_on (5, L, a0 :: qr b :: rest, M) x := g_cv (ow := 12) (e := (0, 30, 11, [867, 504, 505, 83])) (as := [a0]) (show decode cX12_on 5 = .ok (.invokevirtual 144, 3) by decide +kernel) rfl rfl rfl (Or.inl rfl) rfl hb hC hw k
set_option maxRecDepth 20000 in
theorem kX12_on_8 {C : QC} {x : QP} {M : QM} {st : List CV} {L : QL} {l0 l1 l2 l3 l4 : Option CV} {z : Option Nat} : Rr C mX12_on (8, [l0, l1, l2, l3, l4], .inr (.inr z) :: st, M) x = Rr C mX12_on (10, [l0, l1, l2, q_cut l3, some (.inr (.inr z))], st, M) x := g_pl (show decode cX12_on 8 = .ok (.astore 4, 2) by decide +kernel) rfl
set_option maxRecDepth 20000 in
theorem kX12_on_10 {C : QC} {x : QP} {M : QM} {st : List CV} {L : QL} {l0 l1 l2 l3 l4 : Option CV} {r : Option Nat} : Rr C mX12_on (10, [l0, l1, l2, l3, some (.inr (.inr r))], st, M) x = Rr C mX12_on (12, [l0, l1, l2, l3, some (.inr (.inr r))], .inr (.inr r) :: st, M) x := g_pl (show decode cX12_on 10 = .ok (.aload 4, 2) by decide +kernel) rfl
set_option maxRecDepth 20000 in
theorem kX12_on_12r {C : QC} {x : QP} {M : QM} {st : List CV} {L : QL} {a : Nat} : Rr C mX12_on (12, L, qr a :: st, M) x = Rr C mX12_on (15, L, st, M) x := g_pl (show decode cX12_on 12 = .ok (.ifnull 19, 3) by decide +kernel) rfl
set_option maxRecDepth 20000 in
theorem kX12_on_12n {C : QC} {x : QP} {M : QM} {st : List CV} {L : QL} : Rr C mX12_on (12, L, qn :: st, M) x = Rr C mX12_on (31, L, st, M) x := g_pl (show decode cX12_on 12 = .ok (.ifnull 19, 3) by decide +kernel) rfl
set_option maxRecDepth 20000 in
theorem kX12_on_15 {C : QC} {x : QP} {M : QM} {st : List CV} {L : QL} {l0 l1 l2 l3 l4 : Option CV} {z : Int} : Rr C mX12_on (15, [l0, l1, l2, some (qi z), l4], st, M) x = Rr C mX12_on (16, [l0, l1, l2, some (qi z), l4], qi z :: st, M) x := g_pl (show decode cX12_on 15 = .ok (.iload_n 3, 1) by decide +kernel) rfl
set_option maxRecDepth 20000 in
theorem kX12_on_16 {C : QC} {x : QP} {M : QM} {st : List CV} {L : QL} {a : Int} (ha1 : -2147483648 ≤ a) (ha2 : a < 2147483648) : Rr C mX12_on (16, L, qi a :: st, M) x = (if a < 0 then Rr C mX12_on (31, L, st, M) x else Rr C mX12_on (19, L, st, M) x) := (g_if (show decode cX12_on 16 = .ok (.ifCond .lt 15, 3) by decide +kernel) rfl ha1 ha2).trans (g_ite c_lt)
set_option maxRecDepth 20000 in
theorem kX12_on_19 {C : QC} {x : QP} {M : QM} {st : List CV} {L : QL} {l0 l1 l2 l3 l4 : Option CV} {z : Int} : Rr C mX12_on (19, [l0, l1, l2, some (qi z), l4], st, M) x = Rr C mX12_on (20, [l0, l1, l2, some (qi z), l4], qi z :: st, M) x := g_pl (show decode cX12_on 19 = .ok (.iload_n 3, 1) by decide +kernel) rfl
set_option maxRecDepth 20000 in
theorem kX12_on_20 {C : QC} {x : QP} {M : QM} {st : List CV} {L : QL} : Rr C mX12_on (20, L, st, M) x = Rr C mX12_on (22, L, qi 6 :: st, M) x := g_pl (show decode cX12_on 20 = .ok (.bipush 6, 2) by decide +kernel) rfl
set_option maxRecDepth 20000 in
theorem kX12_on_22 {C : QC} {x : QP} {M : QM} {st : List CV} {L : QL} {a b : Int} (ha1 : -2147483648 ≤ a) (ha2 : a < 2147483648) (hb1 : -2147483648 ≤ b) (hb2 : b < 2147483648) : Rr C mX12_on (22, L, qi b :: qi a :: st, M) x = (if b < a then Rr C mX12_on (25, L, st, M) x else Rr C mX12_on (33, L, st, M) x) := (g_icmp (show decode cX12_on 22 = .ok (.if_icmp .le 11, 3) by decide +kernel) rfl ha1 ha2 hb1 hb2).trans (g_itn c_le)
set_option maxRecDepth 20000 in
theorem kX12_on_25 {C : QC} {x : QP} {M : QM} {st : List CV} {L : QL} {l0 l1 l2 l3 l4 : Option CV} {z : Int} : Rr C mX12_on (25, [l0, l1, l2, some (qi z), l4], st, M) x = Rr C mX12_on (26, [l0, l1, l2, some (qi z), l4], qi z :: st, M) x := g_pl (show decode cX12_on 25 = .ok (.iload_n 3, 1) by decide +kernel) rfl
set_option maxRecDepth 20000 in
theorem kX12_on_26 {C : QC} {x : QP} {M : QM} {st : List CV} {L : QL} : Rr C mX12_on (26, L, st, M) x = Rr C mX12_on (28, L, qi 10 :: st, M) x := g_pl (show decode cX12_on 26 = .ok (.bipush 10, 2) by decide +kernel) rfl
set_option maxRecDepth 20000 in
theorem kX12_on_28 {C : QC} {x : QP} {M : QM} {st : List CV} {L : QL} {a b : Int} (ha1 : -2147483648 ≤ a) (ha2 : a < 2147483648) (hb1 : -2147483648 ≤ b) (hb2 : b < 2147483648) : Rr C mX12_on (28, L, qi b :: qi a :: st, M) x = (if a < b then Rr C mX12_on (31, L, st, M) x else Rr C mX12_on (33, L, st, M) x) := (g_icmp (show decode cX12_on 28 = .ok (.if_icmp .ge 5, 3) by decide +kernel) rfl ha1 ha2 hb1 hb2).trans (g_itn c_ge)
set_option maxRecDepth 20000 in
theorem kX12_on_31 {C : QC} {x : QP} {M : QM} {st : List CV} {L : QL} : Rr C mX12_on (31, L, st, M) x = Rr C mX12_on (32, L, qi (-1) :: st, M) x := g_pl (show decode cX12_on 31 = .ok (.iconst (-1), 1) by decide +kernel) rfl
set_option maxRecDepth 20000 in
theorem kX12_on_32 {C : QC} {x : QP} {M : QM} {st : List CV} {L : QL} {z : Int} : Rr C mX12_on (32, L, [qi z], M) x = x (some (qi z)) M := g_iret (show decode cX12_on 32 = .ok (.ireturn, 1) by decide +kernel) rfl
set_option maxRecDepth 20000 in
theorem kX12_on_33 {C : QC} {x : QP} {M : QM} {st : List CV} {L : QL} {l0 l1 l2 l3 l4 : Option CV} {z : Int} : Rr C mX12_on (33, [l0, l1, some (qi z), l3, l4], st, M) x = Rr C mX12_on (34, [l0, l1, some (qi z), l3, l4], qi z :: st, M) x := g_pl (show decode cX12_on 33 = .ok (.iload_n 2, 1) by decide +kernel) rfl
set_option maxRecDepth 20000 in
theorem kX12_on_34 {C : QC} {x : QP} {M : QM} {L : QL} {rest : List CV} {a0 : CV} {v : CV} {M1 : QM} (hC : C iX12_isDay [a0] M (some v) M1) (hw : (rest.map q_wd).sum ≤ 8) (k : Rr C mX12_on (37, L, v :: rest, M1) x) : Rr C mX12_on (34, L, a0 :: rest, M) x := g_cs (ow := 12) (e := (1, 27, 0, [868, 494, 77])) (as := [a0]) (show decode cX12_on 34 = .ok (.invokestatic 148, 3) by decide +kernel) rfl rfl rfl rfl (Or.inl rfl) rfl hC hw k
set_option maxRecDepth 20000 in
theorem kX12_on_37 {C : QC} {x : QP} {M : QM} {st : List CV} {L : QL} {a : Int} (ha1 : -2147483648 ≤ a) (ha2 : a < 2147483648) : Rr C mX12_on (37, L, qi a :: st, M) x = (if a = 0 then Rr C mX12_on (40, L, st, M) x else Rr C mX12_on (43, L, st, M) x) := (g_if (show decode cX12_on 37 = .ok (.ifCond .ne 6, 3) by decide +kernel) rfl ha1 ha2).trans (g_itn c_ne)
set_option maxRecDepth 20000 in
theorem kX12_on_40 {C : QC} {x : QP} {M : QM} {st : List CV} {L : QL} : Rr C mX12_on (40, L, st, M) x = Rr C mX12_on (42, L, qi (-2) :: st, M) x := g_pl (show decode cX12_on 40 = .ok (.bipush (-2), 2) by decide +kernel) rfl
set_option maxRecDepth 20000 in
theorem kX12_on_42 {C : QC} {x : QP} {M : QM} {st : List CV} {L : QL} {z : Int} : Rr C mX12_on (42, L, [qi z], M) x = x (some (qi z)) M := g_iret (show decode cX12_on 42 = .ok (.ireturn, 1) by decide +kernel) rfl
set_option maxRecDepth 20000 in
theorem kX12_on_43 {C : QC} {x : QP} {M : QM} {st : List CV} {L : QL} {l0 l1 l2 l3 l4 : Option CV} {z : Int} : Rr C mX12_on (43, [l0, l1, l2, some (qi z), l4], st, M) x = Rr C mX12_on (44, [l0, l1, l2, some (qi z), l4], qi z :: st, M) x := g_pl (show decode cX12_on 43 = .ok (.iload_n 3, 1) by decide +kernel) rfl
set_option maxRecDepth 20000 in
theorem kX12_on_44 {C : QC} {x : QP} {M : QM} {st : List CV} {L : QL} {a : Int} (ha1 : -2147483648 ≤ a) (ha2 : a < 2147483648) : Rr C mX12_on (44, L, qi a :: st, M) x = (if a = 0 then Rr C mX12_on (80, L, st, M) x else if a = 1 then Rr C mX12_on (95, L, st, M) x else if a = 6 then Rr C mX12_on (101, L, st, M) x else Rr C mX12_on (111, L, st, M) x) := by
  by_cases h0 : a = 0
  · subst h0; rw [if_pos rfl]; exact g_lsw (off := 36) (show decode cX12_on 44 = .ok (.lookupswitch 67 #[(0, 36), (1, 51), (6, 57)], 36) by decide +kernel) (by decide) (by decide) (by decide) rfl
  rw [if_neg h0]
  by_cases h1 : a = 1
  · subst h1; rw [if_pos rfl]; exact g_lsw (off := 51) (show decode cX12_on 44 = .ok (.lookupswitch 67 #[(0, 36), (1, 51), (6, 57)], 36) by decide +kernel) (by decide) (by decide) (by decide) rfl
  rw [if_neg h1]
  by_cases h2 : a = 6
  · subst h2; rw [if_pos rfl]; exact g_lsw (off := 57) (show decode cX12_on 44 = .ok (.lookupswitch 67 #[(0, 36), (1, 51), (6, 57)], 36) by decide +kernel) (by decide) (by decide) (by decide) rfl
  rw [if_neg h2]
  exact g_lsw (off := 67) (show decode cX12_on 44 = .ok (.lookupswitch 67 #[(0, 36), (1, 51), (6, 57)], 36) by decide +kernel) ⟨ha1, ha2⟩ (by decide) (by simp only [Op.lookupswitch.offset_cons, Op.lookupswitch.offset]; simp [Ne.symm, *]) rfl
set_option maxRecDepth 20000 in
theorem kX12_on_80 {C : QC} {x : QP} {M : QM} {st : List CV} {L : QL} {l0 l1 l2 l3 l4 : Option CV} {r : Option Nat} : Rr C mX12_on (80, [l0, l1, l2, l3, some (.inr (.inr r))], st, M) x = Rr C mX12_on (82, [l0, l1, l2, l3, some (.inr (.inr r))], .inr (.inr r) :: st, M) x := g_pl (show decode cX12_on 80 = .ok (.aload 4, 2) by decide +kernel) rfl
set_option maxRecDepth 20000 in
theorem kX12_on_82 {C : QC} {x : QP} {M : QM} {st : List CV} {L : QL} {l0 l1 l2 l3 l4 : Option CV} {z : Int} : Rr C mX12_on (82, [l0, l1, some (qi z), l3, l4], st, M) x = Rr C mX12_on (83, [l0, l1, some (qi z), l3, l4], qi z :: st, M) x := g_pl (show decode cX12_on 82 = .ok (.iload_n 2, 1) by decide +kernel) rfl
set_option maxRecDepth 20000 in
theorem kX12_on_83 {C : QC} {x : QP} {M : QM} {L : QL} {rest : List CV} {a0 : CV} {v : CV} {M1 : QM} {b : Nat} (hb : q_kd M b = (1, 4)) (hC : C iX4_existsOn [qr b, a0] M (some v) M1) (hw : (rest.map q_wd).sum ≤ 8) (k : Rr C mX12_on (86, L, v :: rest, M1) x) : Rr C mX12_on (83, L, a0 :: qr b :: rest, M) x := g_cv (ow := 12) (e := (0, 109, 4, [869, 870, 871, 85])) (as := [a0]) (show decode cX12_on 83 = .ok (.invokevirtual 151, 3) by decide +kernel) rfl rfl rfl (Or.inl rfl) rfl hb hC hw k
set_option maxRecDepth 20000 in
theorem kX12_on_86 {C : QC} {x : QP} {M : QM} {st : List CV} {L : QL} {a : Int} (ha1 : -2147483648 ≤ a) (ha2 : a < 2147483648) : Rr C mX12_on (86, L, qi a :: st, M) x = (if a = 0 then Rr C mX12_on (93, L, st, M) x else Rr C mX12_on (89, L, st, M) x) := (g_if (show decode cX12_on 86 = .ok (.ifCond .eq 7, 3) by decide +kernel) rfl ha1 ha2).trans (g_ite c_eq)
set_option maxRecDepth 20000 in
theorem kX12_on_89 {C : QC} {x : QP} {M : QM} {st : List CV} {L : QL} : Rr C mX12_on (89, L, st, M) x = Rr C mX12_on (90, L, qi 1 :: st, M) x := g_pl (show decode cX12_on 89 = .ok (.iconst 1, 1) by decide +kernel) rfl
set_option maxRecDepth 20000 in
theorem kX12_on_90 {C : QC} {x : QP} {M : QM} {st : List CV} {L : QL} : Rr C mX12_on (90, L, st, M) x = Rr C mX12_on (94, L, st, M) x := g_pl (show decode cX12_on 90 = .ok (.goto 4, 3) by decide +kernel) rfl
set_option maxRecDepth 20000 in
theorem kX12_on_93 {C : QC} {x : QP} {M : QM} {st : List CV} {L : QL} : Rr C mX12_on (93, L, st, M) x = Rr C mX12_on (94, L, qi 0 :: st, M) x := g_pl (show decode cX12_on 93 = .ok (.iconst 0, 1) by decide +kernel) rfl
set_option maxRecDepth 20000 in
theorem kX12_on_94 {C : QC} {x : QP} {M : QM} {st : List CV} {L : QL} {z : Int} : Rr C mX12_on (94, L, [qi z], M) x = x (some (qi z)) M := g_iret (show decode cX12_on 94 = .ok (.ireturn, 1) by decide +kernel) rfl
set_option maxRecDepth 20000 in
theorem kX12_on_95 {C : QC} {x : QP} {M : QM} {st : List CV} {L : QL} {l0 l1 l2 l3 l4 : Option CV} {r : Option Nat} : Rr C mX12_on (95, [l0, l1, l2, l3, some (.inr (.inr r))], st, M) x = Rr C mX12_on (97, [l0, l1, l2, l3, some (.inr (.inr r))], .inr (.inr r) :: st, M) x := g_pl (show decode cX12_on 95 = .ok (.aload 4, 2) by decide +kernel) rfl
set_option maxRecDepth 20000 in
theorem kX12_on_97 {C : QC} {x : QP} {M : QM} {st : List CV} {L : QL} {a : Nat} (hk : q_kd M a = (1, 4)) : Rr C mX12_on (97, L, qr a :: st, M) x = Rr C mX12_on (100, L, q_fv M a 0 :: st, M) x := g_getf (ow := 12) (e := (4, 0, RX4, 270, 0)) (show decode cX12_on 97 = .ok (.getfield 156, 3) by decide +kernel) rfl hk
set_option maxRecDepth 20000 in
theorem kX12_on_100 {C : QC} {x : QP} {M : QM} {st : List CV} {L : QL} {z : Int} : Rr C mX12_on (100, L, [qi z], M) x = x (some (qi z)) M := g_iret (show decode cX12_on 100 = .ok (.ireturn, 1) by decide +kernel) rfl
set_option maxRecDepth 20000 in
theorem kX12_on_101 {C : QC} {x : QP} {M : QM} {st : List CV} {L : QL} {l0 l1 l2 l3 l4 : Option CV} {r : Option Nat} : Rr C mX12_on (101, [some (.inr (.inr r)), l1, l2, l3, l4], st, M) x = Rr C mX12_on (102, [some (.inr (.inr r)), l1, l2, l3, l4], .inr (.inr r) :: st, M) x := g_pl (show decode cX12_on 101 = .ok (.aload_n 0, 1) by decide +kernel) rfl
set_option maxRecDepth 20000 in
theorem kX12_on_102 {C : QC} {x : QP} {M : QM} {st : List CV} {L : QL} {a : Nat} (hk : q_kd M a = (1, 12)) : Rr C mX12_on (102, L, qr a :: st, M) x = Rr C mX12_on (105, L, q_fv M a 2 :: st, M) x := g_getf (ow := 12) (e := (12, 2, RX12, 381, 0)) (show decode cX12_on 102 = .ok (.getfield 26, 3) by decide +kernel) rfl hk
set_option maxRecDepth 20000 in
theorem kX12_on_105 {C : QC} {x : QP} {M : QM} {st : List CV} {L : QL} {l0 l1 l2 l3 l4 : Option CV} {z : Int} : Rr C mX12_on (105, [l0, some (qi z), l2, l3, l4], st, M) x = Rr C mX12_on (106, [l0, some (qi z), l2, l3, l4], qi z :: st, M) x := g_pl (show decode cX12_on 105 = .ok (.iload_n 1, 1) by decide +kernel) rfl
set_option maxRecDepth 20000 in
theorem kX12_on_106 {C : QC} {x : QP} {M : QM} {st : List CV} {L : QL} {l0 l1 l2 l3 l4 : Option CV} {z : Int} : Rr C mX12_on (106, [l0, l1, some (qi z), l3, l4], st, M) x = Rr C mX12_on (107, [l0, l1, some (qi z), l3, l4], qi z :: st, M) x := g_pl (show decode cX12_on 106 = .ok (.iload_n 2, 1) by decide +kernel) rfl
set_option maxRecDepth 20000 in
theorem kX12_on_107 {C : QC} {x : QP} {M : QM} {L : QL} {rest : List CV} {a0 a1 : CV} {v : CV} {M1 : QM} {b : Nat} (hb : q_kd M b = (1, 11)) (hC : C iX11_heirOf [qr b, a0, a1] M (some v) M1) (hw : (rest.map q_wd).sum ≤ 8) (k : Rr C mX12_on (110, L, v :: rest, M1) x) : Rr C mX12_on (107, L, a1 :: a0 :: qr b :: rest, M) x := g_cv (ow := 12) (e := (0, 110, 11, [873, 874, 875, 83])) (as := [a0, a1]) (show decode cX12_on 107 = .ok (.invokevirtual 159, 3) by decide +kernel) rfl rfl rfl (Or.inl rfl) rfl hb hC hw k
set_option maxRecDepth 20000 in
theorem kX12_on_110 {C : QC} {x : QP} {M : QM} {st : List CV} {L : QL} {z : Int} : Rr C mX12_on (110, L, [qi z], M) x = x (some (qi z)) M := g_iret (show decode cX12_on 110 = .ok (.ireturn, 1) by decide +kernel) rfl
set_option maxRecDepth 20000 in
theorem kX12_on_111 {C : QC} {x : QP} {M : QM} {st : List CV} {L : QL} {l0 l1 l2 l3 l4 : Option CV} {r : Option Nat} : Rr C mX12_on (111, [l0, l1, l2, l3, some (.inr (.inr r))], st, M) x = Rr C mX12_on (113, [l0, l1, l2, l3, some (.inr (.inr r))], .inr (.inr r) :: st, M) x := g_pl (show decode cX12_on 111 = .ok (.aload 4, 2) by decide +kernel) rfl
set_option maxRecDepth 20000 in
theorem kX12_on_113 {C : QC} {x : QP} {M : QM} {st : List CV} {L : QL} {l0 l1 l2 l3 l4 : Option CV} {z : Int} : Rr C mX12_on (113, [l0, l1, some (qi z), l3, l4], st, M) x = Rr C mX12_on (114, [l0, l1, some (qi z), l3, l4], qi z :: st, M) x := g_pl (show decode cX12_on 113 = .ok (.iload_n 2, 1) by decide +kernel) rfl
set_option maxRecDepth 20000 in
theorem kX12_on_114 {C : QC} {x : QP} {M : QM} {L : QL} {rest : List CV} {a0 : CV} {v : CV} {M1 : QM} {b : Nat} (hb : q_kd M b = (1, 4)) (hC : C iX4_existsOn [qr b, a0] M (some v) M1) (hw : (rest.map q_wd).sum ≤ 8) (k : Rr C mX12_on (117, L, v :: rest, M1) x) : Rr C mX12_on (114, L, a0 :: qr b :: rest, M) x := g_cv (ow := 12) (e := (0, 109, 4, [869, 870, 871, 85])) (as := [a0]) (show decode cX12_on 114 = .ok (.invokevirtual 151, 3) by decide +kernel) rfl rfl rfl (Or.inl rfl) rfl hb hC hw k
set_option maxRecDepth 20000 in
theorem kX12_on_117 {C : QC} {x : QP} {M : QM} {st : List CV} {L : QL} {a : Int} (ha1 : -2147483648 ≤ a) (ha2 : a < 2147483648) : Rr C mX12_on (117, L, qi a :: st, M) x = (if a = 0 then Rr C mX12_on (132, L, st, M) x else Rr C mX12_on (120, L, st, M) x) := (g_if (show decode cX12_on 117 = .ok (.ifCond .eq 15, 3) by decide +kernel) rfl ha1 ha2).trans (g_ite c_eq)
set_option maxRecDepth 20000 in
theorem kX12_on_120 {C : QC} {x : QP} {M : QM} {st : List CV} {L : QL} {l0 l1 l2 l3 l4 : Option CV} {r : Option Nat} : Rr C mX12_on (120, [some (.inr (.inr r)), l1, l2, l3, l4], st, M) x = Rr C mX12_on (121, [some (.inr (.inr r)), l1, l2, l3, l4], .inr (.inr r) :: st, M) x := g_pl (show decode cX12_on 120 = .ok (.aload_n 0, 1) by decide +kernel) rfl
set_option maxRecDepth 20000 in
theorem kX12_on_121 {C : QC} {x : QP} {M : QM} {st : List CV} {L : QL} {l0 l1 l2 l3 l4 : Option CV} {z : Int} : Rr C mX12_on (121, [l0, some (qi z), l2, l3, l4], st, M) x = Rr C mX12_on (122, [l0, some (qi z), l2, l3, l4], qi z :: st, M) x := g_pl (show decode cX12_on 121 = .ok (.iload_n 1, 1) by decide +kernel) rfl
set_option maxRecDepth 20000 in
theorem kX12_on_122 {C : QC} {x : QP} {M : QM} {st : List CV} {L : QL} {l0 l1 l2 l3 l4 : Option CV} {r : Option Nat} : Rr C mX12_on (122, [l0, l1, l2, l3, some (.inr (.inr r))], st, M) x = Rr C mX12_on (124, [l0, l1, l2, l3, some (.inr (.inr r))], .inr (.inr r) :: st, M) x := g_pl (show decode cX12_on 122 = .ok (.aload 4, 2) by decide +kernel) rfl
set_option maxRecDepth 20000 in
theorem kX12_on_124 {C : QC} {x : QP} {M : QM} {st : List CV} {L : QL} {l0 l1 l2 l3 l4 : Option CV} {z : Int} : Rr C mX12_on (124, [l0, l1, some (qi z), l3, l4], st, M) x = Rr C mX12_on (125, [l0, l1, some (qi z), l3, l4], qi z :: st, M) x := g_pl (show decode cX12_on 124 = .ok (.iload_n 2, 1) by decide +kernel) rfl
set_option maxRecDepth 20000 in
theorem kX12_on_125 {C : QC} {x : QP} {M : QM} {st : List CV} {L : QL} {l0 l1 l2 l3 l4 : Option CV} {z : Int} : Rr C mX12_on (125, [l0, l1, l2, some (qi z), l4], st, M) x = Rr C mX12_on (126, [l0, l1, l2, some (qi z), l4], qi z :: st, M) x := g_pl (show decode cX12_on 125 = .ok (.iload_n 3, 1) by decide +kernel) rfl
set_option maxRecDepth 20000 in
theorem kX12_on_126 {C : QC} {x : QP} {M : QM} {L : QL} {rest : List CV} {a0 a1 a2 a3 : CV} {v : CV} {M1 : QM} {b : Nat} (hb : q_kd M b = (1, 12)) (hC : C iX12_partOn [qr b, a0, a1, a2, a3] M (some v) M1) (hw : (rest.map q_wd).sum ≤ 8) (k : Rr C mX12_on (129, L, v :: rest, M1) x) : Rr C mX12_on (126, L, a3 :: a2 :: a1 :: a0 :: qr b :: rest, M) x := g_cv (ow := 12) (e := (0, 111, 12, [878, 880, 19, 77])) (as := [a0, a1, a2, a3]) (show decode cX12_on 126 = .ok (.invokevirtual 163, 3) by decide +kernel) rfl rfl rfl (Or.inl rfl) rfl hb hC hw k
set_option maxRecDepth 20000 in
theorem kX12_on_129 {C : QC} {x : QP} {M : QM} {st : List CV} {L : QL} : Rr C mX12_on (129, L, st, M) x = Rr C mX12_on (134, L, st, M) x := g_pl (show decode cX12_on 129 = .ok (.goto 5, 3) by decide +kernel) rfl
set_option maxRecDepth 20000 in
theorem kX12_on_132 {C : QC} {x : QP} {M : QM} {st : List CV} {L : QL} : Rr C mX12_on (132, L, st, M) x = Rr C mX12_on (134, L, qi (-5) :: st, M) x := g_pl (show decode cX12_on 132 = .ok (.bipush (-5), 2) by decide +kernel) rfl
set_option maxRecDepth 20000 in
theorem kX12_on_134 {C : QC} {x : QP} {M : QM} {st : List CV} {L : QL} {z : Int} : Rr C mX12_on (134, L, [qi z], M) x = x (some (qi z)) M := g_iret (show decode cX12_on 134 = .ok (.ireturn, 1) by decide +kernel) rfl
set_option maxRecDepth 20000 in
theorem eX12_on {d : Nat} {M : QM} {x : QP} {a : Nat} {v0 : Int} {v1 : Int} {v2 : Int} : q_T (d + 1) iX12_on [qr a, qi v0, qi v1, qi v2] M x = Rr (q_C d) mX12_on (0, [some (qr a), some (qi v0), some (qi v1), some (qi v2), none], [], M) x := g_entryT (e := _) rfl (Nat.le_of_ble_eq_true rfl) rfl rfl
def mX12_partOn : QI := (12, cX12_partOn, false, some .int)
set_option maxRecDepth 20000 in
theorem kX12_partOn_0 {C : QC} {x : QP} {M : QM} {st : List CV} {L : QL} {l0 l1 l2 l3 l4 l5 : Option CV} {z : Int} : Rr C mX12_partOn (0, [l0, l1, l2, l3, some (qi z), l5], st, M) x = Rr C mX12_partOn (2, [l0, l1, l2, l3, some (qi z), l5], qi z :: st, M) x := g_pl (show decode cX12_partOn 0 = .ok (.iload 4, 2) by decide +kernel) rfl
set_option maxRecDepth 20000 in
theorem kX12_partOn_2 {C : QC} {x : QP} {M : QM} {st : List CV} {L : QL} {a : Int} (ha1 : -2147483648 ≤ a) (ha2 : a < 2147483648) : Rr C mX12_partOn (2, L, qi a :: st, M) x = (if a = 2 then Rr C mX12_partOn (32, L, st, M) x else if a = 3 then Rr C mX12_partOn (41, L, st, M) x else if a = 4 then Rr C mX12_partOn (53, L, st, M) x else if a = 5 then Rr C mX12_partOn (63, L, st, M) x else Rr C mX12_partOn (73, L, st, M) x) := by
  by_cases h0 : a = 2
  · subst h0; rw [if_pos rfl]; exact g_tsI (show decode cX12_partOn 2 = .ok (.tableswitch 71 2 5 #[30, 39, 51, 61], 30) by decide +kernel) (by decide) (by decide) rfl rfl
  rw [if_neg h0]
  by_cases h1 : a = 3
  · subst h1; rw [if_pos rfl]; exact g_tsI (show decode cX12_partOn 2 = .ok (.tableswitch 71 2 5 #[30, 39, 51, 61], 30) by decide +kernel) (by decide) (by decide) rfl rfl
  rw [if_neg h1]
  by_cases h2 : a = 4
  · subst h2; rw [if_pos rfl]; exact g_tsI (show decode cX12_partOn 2 = .ok (.tableswitch 71 2 5 #[30, 39, 51, 61], 30) by decide +kernel) (by decide) (by decide) rfl rfl
  rw [if_neg h2]
  by_cases h3 : a = 5
  · subst h3; rw [if_pos rfl]; exact g_tsI (show decode cX12_partOn 2 = .ok (.tableswitch 71 2 5 #[30, 39, 51, 61], 30) by decide +kernel) (by decide) (by decide) rfl rfl
  rw [if_neg h3]
  exact g_tsO (show decode cX12_partOn 2 = .ok (.tableswitch 71 2 5 #[30, 39, 51, 61], 30) by decide +kernel) ⟨ha1, ha2⟩ (by omega) rfl
set_option maxRecDepth 20000 in
theorem kX12_partOn_32 {C : QC} {x : QP} {M : QM} {st : List CV} {L : QL} {l0 l1 l2 l3 l4 l5 : Option CV} {r : Option Nat} : Rr C mX12_partOn (32, [l0, l1, some (.inr (.inr r)), l3, l4, l5], st, M) x = Rr C mX12_partOn (33, [l0, l1, some (.inr (.inr r)), l3, l4, l5], .inr (.inr r) :: st, M) x := g_pl (show decode cX12_partOn 32 = .ok (.aload_n 2, 1) by decide +kernel) rfl
set_option maxRecDepth 20000 in
theorem kX12_partOn_33 {C : QC} {x : QP} {M : QM} {st : List CV} {L : QL} {a : Nat} (hk : q_kd M a = (1, 4)) : Rr C mX12_partOn (33, L, qr a :: st, M) x = Rr C mX12_partOn (36, L, q_fv M a 7 :: st, M) x := g_getf (ow := 12) (e := (4, 7, RX4, 291, 0)) (show decode cX12_partOn 33 = .ok (.getfield 167, 3) by decide +kernel) rfl hk
set_option maxRecDepth 20000 in
theorem kX12_partOn_36 {C : QC} {x : QP} {M : QM} {st : List CV} {L : QL} {l0 l1 l2 l3 l4 l5 : Option CV} {z : Int} : Rr C mX12_partOn (36, [l0, l1, l2, some (qi z), l4, l5], st, M) x = Rr C mX12_partOn (37, [l0, l1, l2, some (qi z), l4, l5], qi z :: st, M) x := g_pl (show decode cX12_partOn 36 = .ok (.iload_n 3, 1) by decide +kernel) rfl
set_option maxRecDepth 20000 in
theorem kX12_partOn_37 {C : QC} {x : QP} {M : QM} {L : QL} {rest : List CV} {a0 : CV} {v : CV} {M1 : QM} {b : Nat} (hb : q_kd M b = (1, 9)) (hC : C iX9_at [qr b, a0] M (some v) M1) (hw : (rest.map q_wd).sum ≤ 8) (k : Rr C mX12_partOn (40, L, v :: rest, M1) x) : Rr C mX12_partOn (37, L, a0 :: qr b :: rest, M) x := g_cv (ow := 12) (e := (0, 36, 9, [882, 526, 527, 87])) (as := [a0]) (show decode cX12_partOn 37 = .ok (.invokevirtual 170, 3) by decide +kernel) rfl rfl rfl (Or.inl rfl) rfl hb hC hw k
set_option maxRecDepth 20000 in
theorem kX12_partOn_40 {C : QC} {x : QP} {M : QM} {st : List CV} {L : QL} {z : Int} : Rr C mX12_partOn (40, L, [qi z], M) x = x (some (qi z)) M := g_iret (show decode cX12_partOn 40 = .ok (.ireturn, 1) by decide +kernel) rfl
set_option maxRecDepth 20000 in
theorem kX12_partOn_41 {C : QC} {x : QP} {M : QM} {st : List CV} {L : QL} {l0 l1 l2 l3 l4 l5 : Option CV} {r : Option Nat} : Rr C mX12_partOn (41, [l0, l1, some (.inr (.inr r)), l3, l4, l5], st, M) x = Rr C mX12_partOn (42, [l0, l1, some (.inr (.inr r)), l3, l4, l5], .inr (.inr r) :: st, M) x := g_pl (show decode cX12_partOn 41 = .ok (.aload_n 2, 1) by decide +kernel) rfl
set_option maxRecDepth 20000 in
theorem kX12_partOn_42 {C : QC} {x : QP} {M : QM} {st : List CV} {L : QL} {a : Nat} (hk : q_kd M a = (1, 4)) : Rr C mX12_partOn (42, L, qr a :: st, M) x = Rr C mX12_partOn (45, L, q_fv M a 6 :: st, M) x := g_getf (ow := 12) (e := (4, 6, RX4, 287, 0)) (show decode cX12_partOn 42 = .ok (.getfield 174, 3) by decide +kernel) rfl hk
set_option maxRecDepth 20000 in
theorem kX12_partOn_45 {C : QC} {x : QP} {M : QM} {st : List CV} {L : QL} {l0 l1 l2 l3 l4 l5 : Option CV} {z : Int} : Rr C mX12_partOn (45, [l0, l1, l2, some (qi z), l4, l5], st, M) x = Rr C mX12_partOn (46, [l0, l1, l2, some (qi z), l4, l5], qi z :: st, M) x := g_pl (show decode cX12_partOn 45 = .ok (.iload_n 3, 1) by decide +kernel) rfl
set_option maxRecDepth 20000 in
theorem kX12_partOn_46 {C : QC} {x : QP} {M : QM} {L : QL} {rest : List CV} {a0 : CV} {v : CV} {M1 : QM} {b : Nat} (hb : q_kd M b = (1, 2)) (hC : C iX2_at [qr b, a0] M (some v) M1) (hw : (rest.map q_wd).sum ≤ 8) (k : Rr C mX12_partOn (49, L, v :: rest, M1) x) : Rr C mX12_partOn (46, L, a0 :: qr b :: rest, M) x := g_cv (ow := 12) (e := (0, 66, 2, [883, 684, 685, 86])) (as := [a0]) (show decode cX12_partOn 46 = .ok (.invokevirtual 178, 3) by decide +kernel) rfl rfl rfl (Or.inl rfl) rfl hb hC hw k
set_option maxRecDepth 20000 in
theorem kX12_partOn_49 {C : QC} {x : QP} {M : QM} {L : QL} {rest : List CV} {a0 : CV} {v : CV} {M1 : QM} (hC : C iX10_lengthOf [a0] M (some v) M1) (hw : (rest.map q_wd).sum ≤ 8) (k : Rr C mX12_partOn (52, L, v :: rest, M1) x) : Rr C mX12_partOn (49, L, a0 :: rest, M) x := g_cs (ow := 12) (e := (1, 67, 0, [884, 688, 95])) (as := [a0]) (show decode cX12_partOn 49 = .ok (.invokestatic 183, 3) by decide +kernel) rfl rfl rfl rfl (Or.inl rfl) rfl hC hw k
set_option maxRecDepth 20000 in
theorem kX12_partOn_52 {C : QC} {x : QP} {M : QM} {st : List CV} {L : QL} {z : Int} : Rr C mX12_partOn (52, L, [qi z], M) x = x (some (qi z)) M := g_iret (show decode cX12_partOn 52 = .ok (.ireturn, 1) by decide +kernel) rfl
set_option maxRecDepth 20000 in
theorem kX12_partOn_53 {C : QC} {x : QP} {M : QM} {st : List CV} {L : QL} {l0 l1 l2 l3 l4 l5 : Option CV} {r : Option Nat} : Rr C mX12_partOn (53, [some (.inr (.inr r)), l1, l2, l3, l4, l5], st, M) x = Rr C mX12_partOn (54, [some (.inr (.inr r)), l1, l2, l3, l4, l5], .inr (.inr r) :: st, M) x := g_pl (show decode cX12_partOn 53 = .ok (.aload_n 0, 1) by decide +kernel) rfl
set_option maxRecDepth 20000 in
theorem kX12_partOn_54 {C : QC} {x : QP} {M : QM} {st : List CV} {L : QL} {a : Nat} (hk : q_kd M a = (1, 12)) : Rr C mX12_partOn (54, L, qr a :: st, M) x = Rr C mX12_partOn (57, L, q_fv M a 2 :: st, M) x := g_getf (ow := 12) (e := (12, 2, RX12, 381, 0)) (show decode cX12_partOn 54 = .ok (.getfield 26, 3) by decide +kernel) rfl hk
set_option maxRecDepth 20000 in
theorem kX12_partOn_57 {C : QC} {x : QP} {M : QM} {st : List CV} {L : QL} {l0 l1 l2 l3 l4 l5 : Option CV} {r : Option Nat} : Rr C mX12_partOn (57, [l0, l1, some (.inr (.inr r)), l3, l4, l5], st, M) x = Rr C mX12_partOn (58, [l0, l1, some (.inr (.inr r)), l3, l4, l5], .inr (.inr r) :: st, M) x := g_pl (show decode cX12_partOn 57 = .ok (.aload_n 2, 1) by decide +kernel) rfl
set_option maxRecDepth 20000 in
theorem kX12_partOn_58 {C : QC} {x : QP} {M : QM} {st : List CV} {L : QL} {l0 l1 l2 l3 l4 l5 : Option CV} {z : Int} : Rr C mX12_partOn (58, [l0, l1, l2, some (qi z), l4, l5], st, M) x = Rr C mX12_partOn (59, [l0, l1, l2, some (qi z), l4, l5], qi z :: st, M) x := g_pl (show decode cX12_partOn 58 = .ok (.iload_n 3, 1) by decide +kernel) rfl
set_option maxRecDepth 20000 in
theorem kX12_partOn_59 {C : QC} {x : QP} {M : QM} {L : QL} {rest : List CV} {a0 a1 : CV} {v : CV} {M1 : QM} {b : Nat} (hb : q_kd M b = (1, 11)) (hC : C iX11_parentsAbove [qr b, a0, a1] M (some v) M1) (hw : (rest.map q_wd).sum ≤ 8) (k : Rr C mX12_partOn (62, L, v :: rest, M1) x) : Rr C mX12_partOn (59, L, a1 :: a0 :: qr b :: rest, M) x := g_cv (ow := 12) (e := (0, 112, 11, [885, 886, 887, 83])) (as := [a0, a1]) (show decode cX12_partOn 59 = .ok (.invokevirtual 189, 3) by decide +kernel) rfl rfl rfl (Or.inl rfl) rfl hb hC hw k
set_option maxRecDepth 20000 in
theorem kX12_partOn_62 {C : QC} {x : QP} {M : QM} {st : List CV} {L : QL} {z : Int} : Rr C mX12_partOn (62, L, [qi z], M) x = x (some (qi z)) M := g_iret (show decode cX12_partOn 62 = .ok (.ireturn, 1) by decide +kernel) rfl
set_option maxRecDepth 20000 in
theorem kX12_partOn_63 {C : QC} {x : QP} {M : QM} {st : List CV} {L : QL} {l0 l1 l2 l3 l4 l5 : Option CV} {r : Option Nat} : Rr C mX12_partOn (63, [some (.inr (.inr r)), l1, l2, l3, l4, l5], st, M) x = Rr C mX12_partOn (64, [some (.inr (.inr r)), l1, l2, l3, l4, l5], .inr (.inr r) :: st, M) x := g_pl (show decode cX12_partOn 63 = .ok (.aload_n 0, 1) by decide +kernel) rfl
set_option maxRecDepth 20000 in
theorem kX12_partOn_64 {C : QC} {x : QP} {M : QM} {st : List CV} {L : QL} {a : Nat} (hk : q_kd M a = (1, 12)) : Rr C mX12_partOn (64, L, qr a :: st, M) x = Rr C mX12_partOn (67, L, q_fv M a 2 :: st, M) x := g_getf (ow := 12) (e := (12, 2, RX12, 381, 0)) (show decode cX12_partOn 64 = .ok (.getfield 26, 3) by decide +kernel) rfl hk
set_option maxRecDepth 20000 in
theorem kX12_partOn_67 {C : QC} {x : QP} {M : QM} {st : List CV} {L : QL} {l0 l1 l2 l3 l4 l5 : Option CV} {z : Int} : Rr C mX12_partOn (67, [l0, some (qi z), l2, l3, l4, l5], st, M) x = Rr C mX12_partOn (68, [l0, some (qi z), l2, l3, l4, l5], qi z :: st, M) x := g_pl (show decode cX12_partOn 67 = .ok (.iload_n 1, 1) by decide +kernel) rfl
set_option maxRecDepth 20000 in
theorem kX12_partOn_68 {C : QC} {x : QP} {M : QM} {st : List CV} {L : QL} {l0 l1 l2 l3 l4 l5 : Option CV} {z : Int} : Rr C mX12_partOn (68, [l0, l1, l2, some (qi z), l4, l5], st, M) x = Rr C mX12_partOn (69, [l0, l1, l2, some (qi z), l4, l5], qi z :: st, M) x := g_pl (show decode cX12_partOn 68 = .ok (.iload_n 3, 1) by decide +kernel) rfl
set_option maxRecDepth 20000 in
theorem kX12_partOn_69 {C : QC} {x : QP} {M : QM} {L : QL} {rest : List CV} {a0 a1 : CV} {v : CV} {M1 : QM} {b : Nat} (hb : q_kd M b = (1, 11)) (hC : C iX11_childrenOf [qr b, a0, a1] M (some v) M1) (hw : (rest.map q_wd).sum ≤ 8) (k : Rr C mX12_partOn (72, L, v :: rest, M1) x) : Rr C mX12_partOn (69, L, a1 :: a0 :: qr b :: rest, M) x := g_cv (ow := 12) (e := (0, 113, 11, [889, 890, 891, 83])) (as := [a0, a1]) (show decode cX12_partOn 69 = .ok (.invokevirtual 193, 3) by decide +kernel) rfl rfl rfl (Or.inl rfl) rfl hb hC hw k
set_option maxRecDepth 20000 in
theorem kX12_partOn_72 {C : QC} {x : QP} {M : QM} {st : List CV} {L : QL} {z : Int} : Rr C mX12_partOn (72, L, [qi z], M) x = x (some (qi z)) M := g_iret (show decode cX12_partOn 72 = .ok (.ireturn, 1) by decide +kernel) rfl
set_option maxRecDepth 20000 in
theorem kX12_partOn_73 {C : QC} {x : QP} {M : QM} {st : List CV} {L : QL} {l0 l1 l2 l3 l4 l5 : Option CV} {r : Option Nat} : Rr C mX12_partOn (73, [l0, l1, some (.inr (.inr r)), l3, l4, l5], st, M) x = Rr C mX12_partOn (74, [l0, l1, some (.inr (.inr r)), l3, l4, l5], .inr (.inr r) :: st, M) x := g_pl (show decode cX12_partOn 73 = .ok (.aload_n 2, 1) by decide +kernel) rfl
set_option maxRecDepth 20000 in
theorem kX12_partOn_74 {C : QC} {x : QP} {M : QM} {st : List CV} {L : QL} {a : Nat} (hk : q_kd M a = (1, 4)) : Rr C mX12_partOn (74, L, qr a :: st, M) x = Rr C mX12_partOn (77, L, q_fv M a 6 :: st, M) x := g_getf (ow := 12) (e := (4, 6, RX4, 287, 0)) (show decode cX12_partOn 74 = .ok (.getfield 174, 3) by decide +kernel) rfl hk
set_option maxRecDepth 20000 in
theorem kX12_partOn_77 {C : QC} {x : QP} {M : QM} {st : List CV} {L : QL} {l0 l1 l2 l3 l4 l5 : Option CV} {z : Int} : Rr C mX12_partOn (77, [l0, l1, l2, some (qi z), l4, l5], st, M) x = Rr C mX12_partOn (78, [l0, l1, l2, some (qi z), l4, l5], qi z :: st, M) x := g_pl (show decode cX12_partOn 77 = .ok (.iload_n 3, 1) by decide +kernel) rfl
set_option maxRecDepth 20000 in
theorem kX12_partOn_78 {C : QC} {x : QP} {M : QM} {L : QL} {rest : List CV} {a0 : CV} {v : CV} {M1 : QM} {b : Nat} (hb : q_kd M b = (1, 2)) (hC : C iX2_at [qr b, a0] M (some v) M1) (hw : (rest.map q_wd).sum ≤ 8) (k : Rr C mX12_partOn (81, L, v :: rest, M1) x) : Rr C mX12_partOn (78, L, a0 :: qr b :: rest, M) x := g_cv (ow := 12) (e := (0, 66, 2, [883, 684, 685, 86])) (as := [a0]) (show decode cX12_partOn 78 = .ok (.invokevirtual 178, 3) by decide +kernel) rfl rfl rfl (Or.inl rfl) rfl hb hC hw k
set_option maxRecDepth 20000 in
theorem kX12_partOn_81 {C : QC} {x : QP} {M : QM} {st : List CV} {L : QL} {l0 l1 l2 l3 l4 l5 : Option CV} {z : Int} : Rr C mX12_partOn (81, [l0, l1, l2, l3, some (qi z), l5], st, M) x = Rr C mX12_partOn (83, [l0, l1, l2, l3, some (qi z), l5], qi z :: st, M) x := g_pl (show decode cX12_partOn 81 = .ok (.iload 4, 2) by decide +kernel) rfl
set_option maxRecDepth 20000 in
theorem kX12_partOn_83 {C : QC} {x : QP} {M : QM} {st : List CV} {L : QL} : Rr C mX12_partOn (83, L, st, M) x = Rr C mX12_partOn (85, L, qi 10 :: st, M) x := g_pl (show decode cX12_partOn 83 = .ok (.bipush 10, 2) by decide +kernel) rfl
set_option maxRecDepth 20000 in
theorem kX12_partOn_85 {C : QC} {x : QP} {M : QM} {st : List CV} {L : QL} {a b : Int} : Rr C mX12_partOn (85, L, qi b :: qi a :: st, M) x = Rr C mX12_partOn (86, L, qi (a - b) :: st, M) x := g_pl (show decode cX12_partOn 85 = .ok (.isub, 1) by decide +kernel) rfl
set_option maxRecDepth 20000 in
theorem kX12_partOn_86 {C : QC} {x : QP} {M : QM} {L : QL} {rest : List CV} {a0 a1 : CV} {v : CV} {M1 : QM} (hC : C iX10_letterOf [a0, a1] M (some v) M1) (hw : (rest.map q_wd).sum ≤ 8) (k : Rr C mX12_partOn (89, L, v :: rest, M1) x) : Rr C mX12_partOn (86, L, a1 :: a0 :: rest, M) x := g_cs (ow := 12) (e := (1, 68, 0, [912, 691, 95])) (as := [a0, a1]) (show decode cX12_partOn 86 = .ok (.invokestatic 196, 3) by decide +kernel) rfl rfl rfl rfl (Or.inl rfl) rfl hC hw k
set_option maxRecDepth 20000 in
theorem kX12_partOn_89 {C : QC} {x : QP} {M : QM} {st : List CV} {L : QL} {l0 l1 l2 l3 l4 l5 : Option CV} {z : Int} : Rr C mX12_partOn (89, [l0, l1, l2, l3, l4, l5], qi z :: st, M) x = Rr C mX12_partOn (91, [l0, l1, l2, l3, q_cut l4, some (qi z)], st, M) x := g_pl (show decode cX12_partOn 89 = .ok (.istore 5, 2) by decide +kernel) rfl
set_option maxRecDepth 20000 in
theorem kX12_partOn_91 {C : QC} {x : QP} {M : QM} {st : List CV} {L : QL} {l0 l1 l2 l3 l4 l5 : Option CV} {z : Int} : Rr C mX12_partOn (91, [l0, l1, l2, l3, l4, some (qi z)], st, M) x = Rr C mX12_partOn (93, [l0, l1, l2, l3, l4, some (qi z)], qi z :: st, M) x := g_pl (show decode cX12_partOn 91 = .ok (.iload 5, 2) by decide +kernel) rfl
set_option maxRecDepth 20000 in
theorem kX12_partOn_93 {C : QC} {x : QP} {M : QM} {st : List CV} {L : QL} {a : Int} (ha1 : -2147483648 ≤ a) (ha2 : a < 2147483648) : Rr C mX12_partOn (93, L, qi a :: st, M) x = (if a = 0 then Rr C mX12_partOn (96, L, st, M) x else Rr C mX12_partOn (101, L, st, M) x) := (g_if (show decode cX12_partOn 93 = .ok (.ifCond .ne 8, 3) by decide +kernel) rfl ha1 ha2).trans (g_itn c_ne)
set_option maxRecDepth 20000 in
theorem kX12_partOn_96 {C : QC} {x : QP} {M : QM} {st : List CV} {L : QL} : Rr C mX12_partOn (96, L, st, M) x = Rr C mX12_partOn (98, L, qi (-5) :: st, M) x := g_pl (show decode cX12_partOn 96 = .ok (.bipush (-5), 2) by decide +kernel) rfl
set_option maxRecDepth 20000 in
theorem kX12_partOn_98 {C : QC} {x : QP} {M : QM} {st : List CV} {L : QL} : Rr C mX12_partOn (98, L, st, M) x = Rr C mX12_partOn (106, L, st, M) x := g_pl (show decode cX12_partOn 98 = .ok (.goto 8, 3) by decide +kernel) rfl
set_option maxRecDepth 20000 in
theorem kX12_partOn_101 {C : QC} {x : QP} {M : QM} {st : List CV} {L : QL} : Rr C mX12_partOn (101, L, st, M) x = Rr C mX12_partOn (103, L, qi 96 :: st, M) x := g_pl (show decode cX12_partOn 101 = .ok (.bipush 96, 2) by decide +kernel) rfl
set_option maxRecDepth 20000 in
theorem kX12_partOn_103 {C : QC} {x : QP} {M : QM} {st : List CV} {L : QL} {l0 l1 l2 l3 l4 l5 : Option CV} {z : Int} : Rr C mX12_partOn (103, [l0, l1, l2, l3, l4, some (qi z)], st, M) x = Rr C mX12_partOn (105, [l0, l1, l2, l3, l4, some (qi z)], qi z :: st, M) x := g_pl (show decode cX12_partOn 103 = .ok (.iload 5, 2) by decide +kernel) rfl
set_option maxRecDepth 20000 in
theorem kX12_partOn_105 {C : QC} {x : QP} {M : QM} {st : List CV} {L : QL} {a b : Int} : Rr C mX12_partOn (105, L, qi b :: qi a :: st, M) x = Rr C mX12_partOn (106, L, qi (a + b) :: st, M) x := g_pl (show decode cX12_partOn 105 = .ok (.iadd, 1) by decide +kernel) rfl
set_option maxRecDepth 20000 in
theorem kX12_partOn_106 {C : QC} {x : QP} {M : QM} {st : List CV} {L : QL} {z : Int} : Rr C mX12_partOn (106, L, [qi z], M) x = x (some (qi z)) M := g_iret (show decode cX12_partOn 106 = .ok (.ireturn, 1) by decide +kernel) rfl
set_option maxRecDepth 20000 in
theorem eX12_partOn {d : Nat} {M : QM} {x : QP} {a : Nat} {v0 : Int} {v1 : Option Nat} {v2 : Int} {v3 : Int} : q_T (d + 1) iX12_partOn [qr a, qi v0, .inr (.inr v1), qi v2, qi v3] M x = Rr (q_C d) mX12_partOn (0, [some (qr a), some (qi v0), some (.inr (.inr v1)), some (qi v2), some (qi v3), none], [], M) x := g_entryT (e := _) rfl (Nat.le_of_ble_eq_true rfl) rfl rfl
def mX12_of : QI := (12, cX12_of, false, some .int)
set_option maxRecDepth 20000 in
theorem kX12_of_0 {C : QC} {x : QP} {M : QM} {st : List CV} {L : QL} {l0 l1 l2 l3 : Option CV} {r : Option Nat} : Rr C mX12_of (0, [some (.inr (.inr r)), l1, l2, l3], st, M) x = Rr C mX12_of (1, [some (.inr (.inr r)), l1, l2, l3], .inr (.inr r) :: st, M) x := g_pl (show decode cX12_of 0 = .ok (.aload_n 0, 1) by decide +kernel) rfl
set_option maxRecDepth 20000 in
theorem kX12_of_1 {C : QC} {x : QP} {M : QM} {st : List CV} {L : QL} {a : Nat} (hk : q_kd M a = (1, 12)) : Rr C mX12_of (1, L, qr a :: st, M) x = Rr C mX12_of (4, L, q_fv M a 2 :: st, M) x := g_getf (ow := 12) (e := (12, 2, RX12, 381, 0)) (show decode cX12_of 1 = .ok (.getfield 26, 3) by decide +kernel) rfl hk
set_option maxRecDepth 20000 in
theorem kX12_of_4 {C : QC} {x : QP} {M : QM} {st : List CV} {L : QL} {l0 l1 l2 l3 : Option CV} {z : Int} : Rr C mX12_of (4, [l0, some (qi z), l2, l3], st, M) x = Rr C mX12_of (5, [l0, some (qi z), l2, l3], qi z :: st, M) x := g_pl (show decode cX12_of 4 = .ok (.iload_n 1, 1) by decide +kernel) rfl
set_option maxRecDepth 20000 in
theorem kX12_of_5 {C : QC} {x : QP} {M : QM} {L : QL} {rest : List CV} {a0 : CV} {v : CV} {M1 : QM} {b : Nat} (hb : q_kd M b = (1, 11)) (hC : C iX11_place [qr b, a0] M (some v) M1) (hw : (rest.map q_wd).sum ≤ 8) (k : Rr C mX12_of (8, L, v :: rest, M1) x) : Rr C mX12_of (5, L, a0 :: qr b :: rest, M) x := g_cv (ow := 12) (e := (0, 30, 11, [867, 504, 505, 83])) (as := [a0]) (show decode cX12_of 5 = .ok (.invokevirtual 144, 3) by decide +kernel) rfl rfl rfl (Or.inl rfl) rfl hb hC hw k
set_option maxRecDepth 20000 in
theorem kX12_of_8 {C : QC} {x : QP} {M : QM} {st : List CV} {L : QL} {l0 l1 l2 l3 : Option CV} {z : Option Nat} : Rr C mX12_of (8, [l0, l1, l2, l3], .inr (.inr z) :: st, M) x = Rr C mX12_of (9, [l0, l1, q_cut l2, some (.inr (.inr z))], st, M) x := g_pl (show decode cX12_of 8 = .ok (.astore_n 3, 1) by decide +kernel) rfl
set_option maxRecDepth 20000 in
theorem kX12_of_9 {C : QC} {x : QP} {M : QM} {st : List CV} {L : QL} {l0 l1 l2 l3 : Option CV} {r : Option Nat} : Rr C mX12_of (9, [l0, l1, l2, some (.inr (.inr r))], st, M) x = Rr C mX12_of (10, [l0, l1, l2, some (.inr (.inr r))], .inr (.inr r) :: st, M) x := g_pl (show decode cX12_of 9 = .ok (.aload_n 3, 1) by decide +kernel) rfl
set_option maxRecDepth 20000 in
theorem kX12_of_10r {C : QC} {x : QP} {M : QM} {st : List CV} {L : QL} {a : Nat} : Rr C mX12_of (10, L, qr a :: st, M) x = Rr C mX12_of (15, L, st, M) x := g_pl (show decode cX12_of 10 = .ok (.ifnonnull 5, 3) by decide +kernel) rfl
set_option maxRecDepth 20000 in
theorem kX12_of_10n {C : QC} {x : QP} {M : QM} {st : List CV} {L : QL} : Rr C mX12_of (10, L, qn :: st, M) x = Rr C mX12_of (13, L, st, M) x := g_pl (show decode cX12_of 10 = .ok (.ifnonnull 5, 3) by decide +kernel) rfl
set_option maxRecDepth 20000 in
theorem kX12_of_13 {C : QC} {x : QP} {M : QM} {st : List CV} {L : QL} : Rr C mX12_of (13, L, st, M) x = Rr C mX12_of (14, L, qi (-1) :: st, M) x := g_pl (show decode cX12_of 13 = .ok (.iconst (-1), 1) by decide +kernel) rfl
set_option maxRecDepth 20000 in
theorem kX12_of_14 {C : QC} {x : QP} {M : QM} {st : List CV} {L : QL} {z : Int} : Rr C mX12_of (14, L, [qi z], M) x = x (some (qi z)) M := g_iret (show decode cX12_of 14 = .ok (.ireturn, 1) by decide +kernel) rfl
set_option maxRecDepth 20000 in
theorem kX12_of_15 {C : QC} {x : QP} {M : QM} {st : List CV} {L : QL} {l0 l1 l2 l3 : Option CV} {z : Int} : Rr C mX12_of (15, [l0, l1, some (qi z), l3], st, M) x = Rr C mX12_of (16, [l0, l1, some (qi z), l3], qi z :: st, M) x := g_pl (show decode cX12_of 15 = .ok (.iload_n 2, 1) by decide +kernel) rfl
set_option maxRecDepth 20000 in
theorem kX12_of_16 {C : QC} {x : QP} {M : QM} {st : List CV} {L : QL} {a : Int} (ha1 : -2147483648 ≤ a) (ha2 : a < 2147483648) : Rr C mX12_of (16, L, qi a :: st, M) x = (if a = 0 then Rr C mX12_of (56, L, st, M) x else if a = 1 then Rr C mX12_of (61, L, st, M) x else if a = 2 then Rr C mX12_of (66, L, st, M) x else if a = 3 then Rr C mX12_of (74, L, st, M) x else if a = 4 then Rr C mX12_of (79, L, st, M) x else if a = 5 then Rr C mX12_of (84, L, st, M) x else Rr C mX12_of (92, L, st, M) x) := by
  by_cases h0 : a = 0
  · subst h0; rw [if_pos rfl]; exact g_tsI (show decode cX12_of 16 = .ok (.tableswitch 76 0 5 #[40, 45, 50, 58, 63, 68], 40) by decide +kernel) (by decide) (by decide) rfl rfl
  rw [if_neg h0]
  by_cases h1 : a = 1
  · subst h1; rw [if_pos rfl]; exact g_tsI (show decode cX12_of 16 = .ok (.tableswitch 76 0 5 #[40, 45, 50, 58, 63, 68], 40) by decide +kernel) (by decide) (by decide) rfl rfl
  rw [if_neg h1]
  by_cases h2 : a = 2
  · subst h2; rw [if_pos rfl]; exact g_tsI (show decode cX12_of 16 = .ok (.tableswitch 76 0 5 #[40, 45, 50, 58, 63, 68], 40) by decide +kernel) (by decide) (by decide) rfl rfl
  rw [if_neg h2]
  by_cases h3 : a = 3
  · subst h3; rw [if_pos rfl]; exact g_tsI (show decode cX12_of 16 = .ok (.tableswitch 76 0 5 #[40, 45, 50, 58, 63, 68], 40) by decide +kernel) (by decide) (by decide) rfl rfl
  rw [if_neg h3]
  by_cases h4 : a = 4
  · subst h4; rw [if_pos rfl]; exact g_tsI (show decode cX12_of 16 = .ok (.tableswitch 76 0 5 #[40, 45, 50, 58, 63, 68], 40) by decide +kernel) (by decide) (by decide) rfl rfl
  rw [if_neg h4]
  by_cases h5 : a = 5
  · subst h5; rw [if_pos rfl]; exact g_tsI (show decode cX12_of 16 = .ok (.tableswitch 76 0 5 #[40, 45, 50, 58, 63, 68], 40) by decide +kernel) (by decide) (by decide) rfl rfl
  rw [if_neg h5]
  exact g_tsO (show decode cX12_of 16 = .ok (.tableswitch 76 0 5 #[40, 45, 50, 58, 63, 68], 40) by decide +kernel) ⟨ha1, ha2⟩ (by omega) rfl
set_option maxRecDepth 20000 in
theorem kX12_of_56 {C : QC} {x : QP} {M : QM} {st : List CV} {L : QL} {l0 l1 l2 l3 : Option CV} {r : Option Nat} : Rr C mX12_of (56, [l0, l1, l2, some (.inr (.inr r))], st, M) x = Rr C mX12_of (57, [l0, l1, l2, some (.inr (.inr r))], .inr (.inr r) :: st, M) x := g_pl (show decode cX12_of 56 = .ok (.aload_n 3, 1) by decide +kernel) rfl
set_option maxRecDepth 20000 in
theorem kX12_of_57 {C : QC} {x : QP} {M : QM} {st : List CV} {L : QL} {a : Nat} (hk : q_kd M a = (1, 4)) : Rr C mX12_of (57, L, qr a :: st, M) x = Rr C mX12_of (60, L, q_fv M a 1 :: st, M) x := g_getf (ow := 12) (e := (4, 1, RX4, 273, 0)) (show decode cX12_of 57 = .ok (.getfield 200, 3) by decide +kernel) rfl hk
set_option maxRecDepth 20000 in
theorem kX12_of_60 {C : QC} {x : QP} {M : QM} {st : List CV} {L : QL} {z : Int} : Rr C mX12_of (60, L, [qi z], M) x = x (some (qi z)) M := g_iret (show decode cX12_of 60 = .ok (.ireturn, 1) by decide +kernel) rfl
set_option maxRecDepth 20000 in
theorem kX12_of_61 {C : QC} {x : QP} {M : QM} {st : List CV} {L : QL} {l0 l1 l2 l3 : Option CV} {r : Option Nat} : Rr C mX12_of (61, [l0, l1, l2, some (.inr (.inr r))], st, M) x = Rr C mX12_of (62, [l0, l1, l2, some (.inr (.inr r))], .inr (.inr r) :: st, M) x := g_pl (show decode cX12_of 61 = .ok (.aload_n 3, 1) by decide +kernel) rfl
set_option maxRecDepth 20000 in
theorem kX12_of_62 {C : QC} {x : QP} {M : QM} {st : List CV} {L : QL} {a : Nat} (hk : q_kd M a = (1, 4)) : Rr C mX12_of (62, L, qr a :: st, M) x = Rr C mX12_of (65, L, q_fv M a 2 :: st, M) x := g_getf (ow := 12) (e := (4, 2, RX4, 276, 0)) (show decode cX12_of 62 = .ok (.getfield 203, 3) by decide +kernel) rfl hk
set_option maxRecDepth 20000 in
theorem kX12_of_65 {C : QC} {x : QP} {M : QM} {st : List CV} {L : QL} {z : Int} : Rr C mX12_of (65, L, [qi z], M) x = x (some (qi z)) M := g_iret (show decode cX12_of 65 = .ok (.ireturn, 1) by decide +kernel) rfl
set_option maxRecDepth 20000 in
theorem kX12_of_66 {C : QC} {x : QP} {M : QM} {st : List CV} {L : QL} {l0 l1 l2 l3 : Option CV} {r : Option Nat} : Rr C mX12_of (66, [l0, l1, l2, some (.inr (.inr r))], st, M) x = Rr C mX12_of (67, [l0, l1, l2, some (.inr (.inr r))], .inr (.inr r) :: st, M) x := g_pl (show decode cX12_of 66 = .ok (.aload_n 3, 1) by decide +kernel) rfl
set_option maxRecDepth 20000 in
theorem kX12_of_67 {C : QC} {x : QP} {M : QM} {st : List CV} {L : QL} {a : Nat} (hk : q_kd M a = (1, 4)) : Rr C mX12_of (67, L, qr a :: st, M) x = Rr C mX12_of (70, L, q_fv M a 6 :: st, M) x := g_getf (ow := 12) (e := (4, 6, RX4, 287, 0)) (show decode cX12_of 67 = .ok (.getfield 174, 3) by decide +kernel) rfl hk
set_option maxRecDepth 20000 in
theorem kX12_of_70 {C : QC} {x : QP} {M : QM} {L : QL} {rest : List CV} {v : CV} {M1 : QM} {b : Nat} (hb : q_kd M b = (1, 2)) (hC : C iX2_size [qr b] M (some v) M1) (hw : (rest.map q_wd).sum ≤ 8) (k : Rr C mX12_of (73, L, v :: rest, M1) x) : Rr C mX12_of (70, L, qr b :: rest, M) x := g_cv (ow := 12) (e := (0, 119, 2, [917, 918, 919, 86])) (as := []) (show decode cX12_of 70 = .ok (.invokevirtual 206, 3) by decide +kernel) rfl rfl rfl (Or.inl rfl) rfl hb hC hw k
set_option maxRecDepth 20000 in
theorem kX12_of_73 {C : QC} {x : QP} {M : QM} {st : List CV} {L : QL} {z : Int} : Rr C mX12_of (73, L, [qi z], M) x = x (some (qi z)) M := g_iret (show decode cX12_of 73 = .ok (.ireturn, 1) by decide +kernel) rfl
set_option maxRecDepth 20000 in
theorem kX12_of_74 {C : QC} {x : QP} {M : QM} {st : List CV} {L : QL} {l0 l1 l2 l3 : Option CV} {r : Option Nat} : Rr C mX12_of (74, [l0, l1, l2, some (.inr (.inr r))], st, M) x = Rr C mX12_of (75, [l0, l1, l2, some (.inr (.inr r))], .inr (.inr r) :: st, M) x := g_pl (show decode cX12_of 74 = .ok (.aload_n 3, 1) by decide +kernel) rfl
set_option maxRecDepth 20000 in
theorem kX12_of_75 {C : QC} {x : QP} {M : QM} {st : List CV} {L : QL} {a : Nat} (hk : q_kd M a = (1, 4)) : Rr C mX12_of (75, L, qr a :: st, M) x = Rr C mX12_of (78, L, q_fv M a 5 :: st, M) x := g_getf (ow := 12) (e := (4, 5, RX4, 284, 0)) (show decode cX12_of 75 = .ok (.getfield 207, 3) by decide +kernel) rfl hk
set_option maxRecDepth 20000 in
theorem kX12_of_78 {C : QC} {x : QP} {M : QM} {st : List CV} {L : QL} {z : Int} : Rr C mX12_of (78, L, [qi z], M) x = x (some (qi z)) M := g_iret (show decode cX12_of 78 = .ok (.ireturn, 1) by decide +kernel) rfl
set_option maxRecDepth 20000 in
theorem kX12_of_79 {C : QC} {x : QP} {M : QM} {st : List CV} {L : QL} {l0 l1 l2 l3 : Option CV} {r : Option Nat} : Rr C mX12_of (79, [l0, l1, l2, some (.inr (.inr r))], st, M) x = Rr C mX12_of (80, [l0, l1, l2, some (.inr (.inr r))], .inr (.inr r) :: st, M) x := g_pl (show decode cX12_of 79 = .ok (.aload_n 3, 1) by decide +kernel) rfl
set_option maxRecDepth 20000 in
theorem kX12_of_80 {C : QC} {x : QP} {M : QM} {st : List CV} {L : QL} {a : Nat} (hk : q_kd M a = (1, 4)) : Rr C mX12_of (80, L, qr a :: st, M) x = Rr C mX12_of (83, L, q_fv M a 4 :: st, M) x := g_getf (ow := 12) (e := (4, 4, RX4, 281, 0)) (show decode cX12_of 80 = .ok (.getfield 210, 3) by decide +kernel) rfl hk
set_option maxRecDepth 20000 in
theorem kX12_of_83 {C : QC} {x : QP} {M : QM} {st : List CV} {L : QL} {z : Int} : Rr C mX12_of (83, L, [qi z], M) x = x (some (qi z)) M := g_iret (show decode cX12_of 83 = .ok (.ireturn, 1) by decide +kernel) rfl
set_option maxRecDepth 20000 in
theorem kX12_of_84 {C : QC} {x : QP} {M : QM} {st : List CV} {L : QL} {l0 l1 l2 l3 : Option CV} {r : Option Nat} : Rr C mX12_of (84, [l0, l1, l2, some (.inr (.inr r))], st, M) x = Rr C mX12_of (85, [l0, l1, l2, some (.inr (.inr r))], .inr (.inr r) :: st, M) x := g_pl (show decode cX12_of 84 = .ok (.aload_n 3, 1) by decide +kernel) rfl
set_option maxRecDepth 20000 in
theorem kX12_of_85 {C : QC} {x : QP} {M : QM} {st : List CV} {L : QL} {a : Nat} (hk : q_kd M a = (1, 4)) : Rr C mX12_of (85, L, qr a :: st, M) x = Rr C mX12_of (88, L, q_fv M a 8 :: st, M) x := g_getf (ow := 12) (e := (4, 8, RX4, 294, 0)) (show decode cX12_of 85 = .ok (.getfield 213, 3) by decide +kernel) rfl hk
set_option maxRecDepth 20000 in
theorem kX12_of_88 {C : QC} {x : QP} {M : QM} {L : QL} {rest : List CV} {v : CV} {M1 : QM} {b : Nat} (hb : q_kd M b = (1, 1)) (hC : C iX1_told [qr b] M (some v) M1) (hw : (rest.map q_wd).sum ≤ 8) (k : Rr C mX12_of (91, L, v :: rest, M1) x) : Rr C mX12_of (88, L, qr b :: rest, M) x := g_cv (ow := 12) (e := (0, 120, 1, [921, 922, 923, 88])) (as := []) (show decode cX12_of 88 = .ok (.invokevirtual 217, 3) by decide +kernel) rfl rfl rfl (Or.inl rfl) rfl hb hC hw k
set_option maxRecDepth 20000 in
theorem kX12_of_91 {C : QC} {x : QP} {M : QM} {st : List CV} {L : QL} {z : Int} : Rr C mX12_of (91, L, [qi z], M) x = x (some (qi z)) M := g_iret (show decode cX12_of 91 = .ok (.ireturn, 1) by decide +kernel) rfl
set_option maxRecDepth 20000 in
theorem kX12_of_92 {C : QC} {x : QP} {M : QM} {st : List CV} {L : QL} : Rr C mX12_of (92, L, st, M) x = Rr C mX12_of (93, L, qi (-1) :: st, M) x := g_pl (show decode cX12_of 92 = .ok (.iconst (-1), 1) by decide +kernel) rfl
set_option maxRecDepth 20000 in
theorem kX12_of_93 {C : QC} {x : QP} {M : QM} {st : List CV} {L : QL} {z : Int} : Rr C mX12_of (93, L, [qi z], M) x = x (some (qi z)) M := g_iret (show decode cX12_of 93 = .ok (.ireturn, 1) by decide +kernel) rfl
set_option maxRecDepth 20000 in
theorem eX12_of {d : Nat} {M : QM} {x : QP} {a : Nat} {v0 : Int} {v1 : Int} : q_T (d + 1) iX12_of [qr a, qi v0, qi v1] M x = Rr (q_C d) mX12_of (0, [some (qr a), some (qi v0), some (qi v1), none], [], M) x := g_entryT (e := _) rfl (Nat.le_of_ble_eq_true rfl) rfl rfl
def mX12_event : QI := (12, cX12_event, false, some .int)
set_option maxRecDepth 20000 in
theorem kX12_event_0 {C : QC} {x : QP} {M : QM} {st : List CV} {L : QL} {l0 l1 l2 l3 l4 : Option CV} {r : Option Nat} : Rr C mX12_event (0, [some (.inr (.inr r)), l1, l2, l3, l4], st, M) x = Rr C mX12_event (1, [some (.inr (.inr r)), l1, l2, l3, l4], .inr (.inr r) :: st, M) x := g_pl (show decode cX12_event 0 = .ok (.aload_n 0, 1) by decide +kernel) rfl
set_option maxRecDepth 20000 in
theorem kX12_event_1 {C : QC} {x : QP} {M : QM} {st : List CV} {L : QL} {a : Nat} (hk : q_kd M a = (1, 12)) : Rr C mX12_event (1, L, qr a :: st, M) x = Rr C mX12_event (4, L, q_fv M a 2 :: st, M) x := g_getf (ow := 12) (e := (12, 2, RX12, 381, 0)) (show decode cX12_event 1 = .ok (.getfield 26, 3) by decide +kernel) rfl hk
set_option maxRecDepth 20000 in
theorem kX12_event_4 {C : QC} {x : QP} {M : QM} {st : List CV} {L : QL} {l0 l1 l2 l3 l4 : Option CV} {z : Int} : Rr C mX12_event (4, [l0, some (qi z), l2, l3, l4], st, M) x = Rr C mX12_event (5, [l0, some (qi z), l2, l3, l4], qi z :: st, M) x := g_pl (show decode cX12_event 4 = .ok (.iload_n 1, 1) by decide +kernel) rfl
set_option maxRecDepth 20000 in
theorem kX12_event_5 {C : QC} {x : QP} {M : QM} {L : QL} {rest : List CV} {a0 : CV} {v : CV} {M1 : QM} {b : Nat} (hb : q_kd M b = (1, 11)) (hC : C iX11_place [qr b, a0] M (some v) M1) (hw : (rest.map q_wd).sum ≤ 8) (k : Rr C mX12_event (8, L, v :: rest, M1) x) : Rr C mX12_event (5, L, a0 :: qr b :: rest, M) x := g_cv (ow := 12) (e := (0, 30, 11, [867, 504, 505, 83])) (as := [a0]) (show decode cX12_event 5 = .ok (.invokevirtual 144, 3) by decide +kernel) rfl rfl rfl (Or.inl rfl) rfl hb hC hw k
set_option maxRecDepth 20000 in
theorem kX12_event_8 {C : QC} {x : QP} {M : QM} {st : List CV} {L : QL} {l0 l1 l2 l3 l4 : Option CV} {z : Option Nat} : Rr C mX12_event (8, [l0, l1, l2, l3, l4], .inr (.inr z) :: st, M) x = Rr C mX12_event (10, [l0, l1, l2, q_cut l3, some (.inr (.inr z))], st, M) x := g_pl (show decode cX12_event 8 = .ok (.astore 4, 2) by decide +kernel) rfl
set_option maxRecDepth 20000 in
theorem kX12_event_10 {C : QC} {x : QP} {M : QM} {st : List CV} {L : QL} {l0 l1 l2 l3 l4 : Option CV} {r : Option Nat} : Rr C mX12_event (10, [l0, l1, l2, l3, some (.inr (.inr r))], st, M) x = Rr C mX12_event (12, [l0, l1, l2, l3, some (.inr (.inr r))], .inr (.inr r) :: st, M) x := g_pl (show decode cX12_event 10 = .ok (.aload 4, 2) by decide +kernel) rfl
set_option maxRecDepth 20000 in
theorem kX12_event_12r {C : QC} {x : QP} {M : QM} {st : List CV} {L : QL} {a : Nat} : Rr C mX12_event (12, L, qr a :: st, M) x = Rr C mX12_event (15, L, st, M) x := g_pl (show decode cX12_event 12 = .ok (.ifnull 19, 3) by decide +kernel) rfl
set_option maxRecDepth 20000 in
theorem kX12_event_12n {C : QC} {x : QP} {M : QM} {st : List CV} {L : QL} : Rr C mX12_event (12, L, qn :: st, M) x = Rr C mX12_event (31, L, st, M) x := g_pl (show decode cX12_event 12 = .ok (.ifnull 19, 3) by decide +kernel) rfl
set_option maxRecDepth 20000 in
theorem kX12_event_15 {C : QC} {x : QP} {M : QM} {st : List CV} {L : QL} {l0 l1 l2 l3 l4 : Option CV} {z : Int} : Rr C mX12_event (15, [l0, l1, some (qi z), l3, l4], st, M) x = Rr C mX12_event (16, [l0, l1, some (qi z), l3, l4], qi z :: st, M) x := g_pl (show decode cX12_event 15 = .ok (.iload_n 2, 1) by decide +kernel) rfl
set_option maxRecDepth 20000 in
theorem kX12_event_16 {C : QC} {x : QP} {M : QM} {st : List CV} {L : QL} {a : Int} (ha1 : -2147483648 ≤ a) (ha2 : a < 2147483648) : Rr C mX12_event (16, L, qi a :: st, M) x = (if a < 0 then Rr C mX12_event (31, L, st, M) x else Rr C mX12_event (19, L, st, M) x) := (g_if (show decode cX12_event 16 = .ok (.ifCond .lt 15, 3) by decide +kernel) rfl ha1 ha2).trans (g_ite c_lt)
set_option maxRecDepth 20000 in
theorem kX12_event_19 {C : QC} {x : QP} {M : QM} {st : List CV} {L : QL} {l0 l1 l2 l3 l4 : Option CV} {z : Int} : Rr C mX12_event (19, [l0, l1, some (qi z), l3, l4], st, M) x = Rr C mX12_event (20, [l0, l1, some (qi z), l3, l4], qi z :: st, M) x := g_pl (show decode cX12_event 19 = .ok (.iload_n 2, 1) by decide +kernel) rfl
set_option maxRecDepth 20000 in
theorem kX12_event_20 {C : QC} {x : QP} {M : QM} {st : List CV} {L : QL} {l0 l1 l2 l3 l4 : Option CV} {r : Option Nat} : Rr C mX12_event (20, [l0, l1, l2, l3, some (.inr (.inr r))], st, M) x = Rr C mX12_event (22, [l0, l1, l2, l3, some (.inr (.inr r))], .inr (.inr r) :: st, M) x := g_pl (show decode cX12_event 20 = .ok (.aload 4, 2) by decide +kernel) rfl
set_option maxRecDepth 20000 in
theorem kX12_event_22 {C : QC} {x : QP} {M : QM} {st : List CV} {L : QL} {a : Nat} (hk : q_kd M a = (1, 4)) : Rr C mX12_event (22, L, qr a :: st, M) x = Rr C mX12_event (25, L, q_fv M a 8 :: st, M) x := g_getf (ow := 12) (e := (4, 8, RX4, 294, 0)) (show decode cX12_event 22 = .ok (.getfield 213, 3) by decide +kernel) rfl hk
set_option maxRecDepth 20000 in
theorem kX12_event_25 {C : QC} {x : QP} {M : QM} {L : QL} {rest : List CV} {v : CV} {M1 : QM} {b : Nat} (hb : q_kd M b = (1, 1)) (hC : C iX1_kept [qr b] M (some v) M1) (hw : (rest.map q_wd).sum ≤ 8) (k : Rr C mX12_event (28, L, v :: rest, M1) x) : Rr C mX12_event (25, L, qr b :: rest, M) x := g_cv (ow := 12) (e := (0, 122, 1, [929, 930, 931, 88])) (as := []) (show decode cX12_event 25 = .ok (.invokevirtual 222, 3) by decide +kernel) rfl rfl rfl (Or.inl rfl) rfl hb hC hw k
set_option maxRecDepth 20000 in
theorem kX12_event_28 {C : QC} {x : QP} {M : QM} {st : List CV} {L : QL} {a b : Int} (ha1 : -2147483648 ≤ a) (ha2 : a < 2147483648) (hb1 : -2147483648 ≤ b) (hb2 : b < 2147483648) : Rr C mX12_event (28, L, qi b :: qi a :: st, M) x = (if a < b then Rr C mX12_event (33, L, st, M) x else Rr C mX12_event (31, L, st, M) x) := (g_icmp (show decode cX12_event 28 = .ok (.if_icmp .lt 5, 3) by decide +kernel) rfl ha1 ha2 hb1 hb2).trans (g_ite c_lt)
set_option maxRecDepth 20000 in
theorem kX12_event_31 {C : QC} {x : QP} {M : QM} {st : List CV} {L : QL} : Rr C mX12_event (31, L, st, M) x = Rr C mX12_event (32, L, qi (-1) :: st, M) x := g_pl (show decode cX12_event 31 = .ok (.iconst (-1), 1) by decide +kernel) rfl
set_option maxRecDepth 20000 in
theorem kX12_event_32 {C : QC} {x : QP} {M : QM} {st : List CV} {L : QL} {z : Int} : Rr C mX12_event (32, L, [qi z], M) x = x (some (qi z)) M := g_iret (show decode cX12_event 32 = .ok (.ireturn, 1) by decide +kernel) rfl
set_option maxRecDepth 20000 in
theorem kX12_event_33 {C : QC} {x : QP} {M : QM} {st : List CV} {L : QL} {l0 l1 l2 l3 l4 : Option CV} {z : Int} : Rr C mX12_event (33, [l0, l1, l2, some (qi z), l4], st, M) x = Rr C mX12_event (34, [l0, l1, l2, some (qi z), l4], qi z :: st, M) x := g_pl (show decode cX12_event 33 = .ok (.iload_n 3, 1) by decide +kernel) rfl
set_option maxRecDepth 20000 in
theorem kX12_event_34 {C : QC} {x : QP} {M : QM} {st : List CV} {L : QL} {a : Int} (ha1 : -2147483648 ≤ a) (ha2 : a < 2147483648) : Rr C mX12_event (34, L, qi a :: st, M) x = (if a = 0 then Rr C mX12_event (60, L, st, M) x else if a = 1 then Rr C mX12_event (70, L, st, M) x else if a = 2 then Rr C mX12_event (80, L, st, M) x else Rr C mX12_event (90, L, st, M) x) := by
  by_cases h0 : a = 0
  · subst h0; rw [if_pos rfl]; exact g_tsI (show decode cX12_event 34 = .ok (.tableswitch 56 0 2 #[26, 36, 46], 26) by decide +kernel) (by decide) (by decide) rfl rfl
  rw [if_neg h0]
  by_cases h1 : a = 1
  · subst h1; rw [if_pos rfl]; exact g_tsI (show decode cX12_event 34 = .ok (.tableswitch 56 0 2 #[26, 36, 46], 26) by decide +kernel) (by decide) (by decide) rfl rfl
  rw [if_neg h1]
  by_cases h2 : a = 2
  · subst h2; rw [if_pos rfl]; exact g_tsI (show decode cX12_event 34 = .ok (.tableswitch 56 0 2 #[26, 36, 46], 26) by decide +kernel) (by decide) (by decide) rfl rfl
  rw [if_neg h2]
  exact g_tsO (show decode cX12_event 34 = .ok (.tableswitch 56 0 2 #[26, 36, 46], 26) by decide +kernel) ⟨ha1, ha2⟩ (by omega) rfl
set_option maxRecDepth 20000 in
theorem kX12_event_60 {C : QC} {x : QP} {M : QM} {st : List CV} {L : QL} {l0 l1 l2 l3 l4 : Option CV} {r : Option Nat} : Rr C mX12_event (60, [l0, l1, l2, l3, some (.inr (.inr r))], st, M) x = Rr C mX12_event (62, [l0, l1, l2, l3, some (.inr (.inr r))], .inr (.inr r) :: st, M) x := g_pl (show decode cX12_event 60 = .ok (.aload 4, 2) by decide +kernel) rfl
set_option maxRecDepth 20000 in
theorem kX12_event_62 {C : QC} {x : QP} {M : QM} {st : List CV} {L : QL} {a : Nat} (hk : q_kd M a = (1, 4)) : Rr C mX12_event (62, L, qr a :: st, M) x = Rr C mX12_event (65, L, q_fv M a 8 :: st, M) x := g_getf (ow := 12) (e := (4, 8, RX4, 294, 0)) (show decode cX12_event 62 = .ok (.getfield 213, 3) by decide +kernel) rfl hk
set_option maxRecDepth 20000 in
theorem kX12_event_65 {C : QC} {x : QP} {M : QM} {st : List CV} {L : QL} {l0 l1 l2 l3 l4 : Option CV} {z : Int} : Rr C mX12_event (65, [l0, l1, some (qi z), l3, l4], st, M) x = Rr C mX12_event (66, [l0, l1, some (qi z), l3, l4], qi z :: st, M) x := g_pl (show decode cX12_event 65 = .ok (.iload_n 2, 1) by decide +kernel) rfl
set_option maxRecDepth 20000 in
theorem kX12_event_66 {C : QC} {x : QP} {M : QM} {L : QL} {rest : List CV} {a0 : CV} {v : CV} {M1 : QM} {b : Nat} (hb : q_kd M b = (1, 1)) (hC : C iX1_dayOf [qr b, a0] M (some v) M1) (hw : (rest.map q_wd).sum ≤ 8) (k : Rr C mX12_event (69, L, v :: rest, M1) x) : Rr C mX12_event (66, L, a0 :: qr b :: rest, M) x := g_cv (ow := 12) (e := (0, 123, 1, [934, 935, 936, 88])) (as := [a0]) (show decode cX12_event 66 = .ok (.invokevirtual 225, 3) by decide +kernel) rfl rfl rfl (Or.inl rfl) rfl hb hC hw k
set_option maxRecDepth 20000 in
theorem kX12_event_69 {C : QC} {x : QP} {M : QM} {st : List CV} {L : QL} {z : Int} : Rr C mX12_event (69, L, [qi z], M) x = x (some (qi z)) M := g_iret (show decode cX12_event 69 = .ok (.ireturn, 1) by decide +kernel) rfl
set_option maxRecDepth 20000 in
theorem kX12_event_70 {C : QC} {x : QP} {M : QM} {st : List CV} {L : QL} {l0 l1 l2 l3 l4 : Option CV} {r : Option Nat} : Rr C mX12_event (70, [l0, l1, l2, l3, some (.inr (.inr r))], st, M) x = Rr C mX12_event (72, [l0, l1, l2, l3, some (.inr (.inr r))], .inr (.inr r) :: st, M) x := g_pl (show decode cX12_event 70 = .ok (.aload 4, 2) by decide +kernel) rfl
set_option maxRecDepth 20000 in
theorem kX12_event_72 {C : QC} {x : QP} {M : QM} {st : List CV} {L : QL} {a : Nat} (hk : q_kd M a = (1, 4)) : Rr C mX12_event (72, L, qr a :: st, M) x = Rr C mX12_event (75, L, q_fv M a 8 :: st, M) x := g_getf (ow := 12) (e := (4, 8, RX4, 294, 0)) (show decode cX12_event 72 = .ok (.getfield 213, 3) by decide +kernel) rfl hk
set_option maxRecDepth 20000 in
theorem kX12_event_75 {C : QC} {x : QP} {M : QM} {st : List CV} {L : QL} {l0 l1 l2 l3 l4 : Option CV} {z : Int} : Rr C mX12_event (75, [l0, l1, some (qi z), l3, l4], st, M) x = Rr C mX12_event (76, [l0, l1, some (qi z), l3, l4], qi z :: st, M) x := g_pl (show decode cX12_event 75 = .ok (.iload_n 2, 1) by decide +kernel) rfl
set_option maxRecDepth 20000 in
theorem kX12_event_76 {C : QC} {x : QP} {M : QM} {L : QL} {rest : List CV} {a0 : CV} {v : CV} {M1 : QM} {b : Nat} (hb : q_kd M b = (1, 1)) (hC : C iX1_sortOf [qr b, a0] M (some v) M1) (hw : (rest.map q_wd).sum ≤ 8) (k : Rr C mX12_event (79, L, v :: rest, M1) x) : Rr C mX12_event (76, L, a0 :: qr b :: rest, M) x := g_cv (ow := 12) (e := (0, 124, 1, [939, 940, 941, 88])) (as := [a0]) (show decode cX12_event 76 = .ok (.invokevirtual 228, 3) by decide +kernel) rfl rfl rfl (Or.inl rfl) rfl hb hC hw k
set_option maxRecDepth 20000 in
theorem kX12_event_79 {C : QC} {x : QP} {M : QM} {st : List CV} {L : QL} {z : Int} : Rr C mX12_event (79, L, [qi z], M) x = x (some (qi z)) M := g_iret (show decode cX12_event 79 = .ok (.ireturn, 1) by decide +kernel) rfl
set_option maxRecDepth 20000 in
theorem kX12_event_80 {C : QC} {x : QP} {M : QM} {st : List CV} {L : QL} {l0 l1 l2 l3 l4 : Option CV} {r : Option Nat} : Rr C mX12_event (80, [l0, l1, l2, l3, some (.inr (.inr r))], st, M) x = Rr C mX12_event (82, [l0, l1, l2, l3, some (.inr (.inr r))], .inr (.inr r) :: st, M) x := g_pl (show decode cX12_event 80 = .ok (.aload 4, 2) by decide +kernel) rfl
set_option maxRecDepth 20000 in
theorem kX12_event_82 {C : QC} {x : QP} {M : QM} {st : List CV} {L : QL} {a : Nat} (hk : q_kd M a = (1, 4)) : Rr C mX12_event (82, L, qr a :: st, M) x = Rr C mX12_event (85, L, q_fv M a 8 :: st, M) x := g_getf (ow := 12) (e := (4, 8, RX4, 294, 0)) (show decode cX12_event 82 = .ok (.getfield 213, 3) by decide +kernel) rfl hk
set_option maxRecDepth 20000 in
theorem kX12_event_85 {C : QC} {x : QP} {M : QM} {st : List CV} {L : QL} {l0 l1 l2 l3 l4 : Option CV} {z : Int} : Rr C mX12_event (85, [l0, l1, some (qi z), l3, l4], st, M) x = Rr C mX12_event (86, [l0, l1, some (qi z), l3, l4], qi z :: st, M) x := g_pl (show decode cX12_event 85 = .ok (.iload_n 2, 1) by decide +kernel) rfl
set_option maxRecDepth 20000 in
theorem kX12_event_86 {C : QC} {x : QP} {M : QM} {L : QL} {rest : List CV} {a0 : CV} {v : CV} {M1 : QM} {b : Nat} (hb : q_kd M b = (1, 1)) (hC : C iX1_numberOf [qr b, a0] M (some v) M1) (hw : (rest.map q_wd).sum ≤ 8) (k : Rr C mX12_event (89, L, v :: rest, M1) x) : Rr C mX12_event (86, L, a0 :: qr b :: rest, M) x := g_cv (ow := 12) (e := (0, 125, 1, [943, 944, 945, 88])) (as := [a0]) (show decode cX12_event 86 = .ok (.invokevirtual 231, 3) by decide +kernel) rfl rfl rfl (Or.inl rfl) rfl hb hC hw k
set_option maxRecDepth 20000 in
theorem kX12_event_89 {C : QC} {x : QP} {M : QM} {st : List CV} {L : QL} {z : Int} : Rr C mX12_event (89, L, [qi z], M) x = x (some (qi z)) M := g_iret (show decode cX12_event 89 = .ok (.ireturn, 1) by decide +kernel) rfl
set_option maxRecDepth 20000 in
theorem kX12_event_90 {C : QC} {x : QP} {M : QM} {st : List CV} {L : QL} : Rr C mX12_event (90, L, st, M) x = Rr C mX12_event (91, L, qi (-1) :: st, M) x := g_pl (show decode cX12_event 90 = .ok (.iconst (-1), 1) by decide +kernel) rfl
set_option maxRecDepth 20000 in
theorem kX12_event_91 {C : QC} {x : QP} {M : QM} {st : List CV} {L : QL} {z : Int} : Rr C mX12_event (91, L, [qi z], M) x = x (some (qi z)) M := g_iret (show decode cX12_event 91 = .ok (.ireturn, 1) by decide +kernel) rfl
set_option maxRecDepth 20000 in
theorem eX12_event {d : Nat} {M : QM} {x : QP} {a : Nat} {v0 : Int} {v1 : Int} {v2 : Int} : q_T (d + 1) iX12_event [qr a, qi v0, qi v1, qi v2] M x = Rr (q_C d) mX12_event (0, [some (qr a), some (qi v0), some (qi v1), some (qi v2), none], [], M) x := g_entryT (e := _) rfl (Nat.le_of_ble_eq_true rfl) rfl rfl
def mX12_again : QI := (12, cX12_again, false, some .int)
set_option maxRecDepth 20000 in
theorem kX12_again_0 {C : QC} {x : QP} {M : QM} {st : List CV} {L : QL} {l0 l1 l2 l3 : Option CV} {r : Option Nat} : Rr C mX12_again (0, [some (.inr (.inr r)), l1, l2, l3], st, M) x = Rr C mX12_again (1, [some (.inr (.inr r)), l1, l2, l3], .inr (.inr r) :: st, M) x := g_pl (show decode cX12_again 0 = .ok (.aload_n 0, 1) by decide +kernel) rfl
set_option maxRecDepth 20000 in
theorem kX12_again_1 {C : QC} {x : QP} {M : QM} {st : List CV} {L : QL} {a : Nat} (hk : q_kd M a = (1, 12)) : Rr C mX12_again (1, L, qr a :: st, M) x = Rr C mX12_again (4, L, q_fv M a 2 :: st, M) x := g_getf (ow := 12) (e := (12, 2, RX12, 381, 0)) (show decode cX12_again 1 = .ok (.getfield 26, 3) by decide +kernel) rfl hk
set_option maxRecDepth 20000 in
theorem kX12_again_4 {C : QC} {x : QP} {M : QM} {st : List CV} {L : QL} {l0 l1 l2 l3 : Option CV} {z : Int} : Rr C mX12_again (4, [l0, some (qi z), l2, l3], st, M) x = Rr C mX12_again (5, [l0, some (qi z), l2, l3], qi z :: st, M) x := g_pl (show decode cX12_again 4 = .ok (.iload_n 1, 1) by decide +kernel) rfl
set_option maxRecDepth 20000 in
theorem kX12_again_5 {C : QC} {x : QP} {M : QM} {L : QL} {rest : List CV} {a0 : CV} {v : CV} {M1 : QM} {b : Nat} (hb : q_kd M b = (1, 11)) (hC : C iX11_place [qr b, a0] M (some v) M1) (hw : (rest.map q_wd).sum ≤ 8) (k : Rr C mX12_again (8, L, v :: rest, M1) x) : Rr C mX12_again (5, L, a0 :: qr b :: rest, M) x := g_cv (ow := 12) (e := (0, 30, 11, [867, 504, 505, 83])) (as := [a0]) (show decode cX12_again 5 = .ok (.invokevirtual 144, 3) by decide +kernel) rfl rfl rfl (Or.inl rfl) rfl hb hC hw k
set_option maxRecDepth 20000 in
theorem kX12_again_8 {C : QC} {x : QP} {M : QM} {st : List CV} {L : QL} {l0 l1 l2 l3 : Option CV} {z : Option Nat} : Rr C mX12_again (8, [l0, l1, l2, l3], .inr (.inr z) :: st, M) x = Rr C mX12_again (9, [l0, l1, q_cut l2, some (.inr (.inr z))], st, M) x := g_pl (show decode cX12_again 8 = .ok (.astore_n 3, 1) by decide +kernel) rfl
set_option maxRecDepth 20000 in
theorem kX12_again_9 {C : QC} {x : QP} {M : QM} {st : List CV} {L : QL} {l0 l1 l2 l3 : Option CV} {r : Option Nat} : Rr C mX12_again (9, [l0, l1, l2, some (.inr (.inr r))], st, M) x = Rr C mX12_again (10, [l0, l1, l2, some (.inr (.inr r))], .inr (.inr r) :: st, M) x := g_pl (show decode cX12_again 9 = .ok (.aload_n 3, 1) by decide +kernel) rfl
set_option maxRecDepth 20000 in
theorem kX12_again_10r {C : QC} {x : QP} {M : QM} {st : List CV} {L : QL} {a : Nat} : Rr C mX12_again (10, L, qr a :: st, M) x = Rr C mX12_again (15, L, st, M) x := g_pl (show decode cX12_again 10 = .ok (.ifnonnull 5, 3) by decide +kernel) rfl
set_option maxRecDepth 20000 in
theorem kX12_again_10n {C : QC} {x : QP} {M : QM} {st : List CV} {L : QL} : Rr C mX12_again (10, L, qn :: st, M) x = Rr C mX12_again (13, L, st, M) x := g_pl (show decode cX12_again 10 = .ok (.ifnonnull 5, 3) by decide +kernel) rfl
set_option maxRecDepth 20000 in
theorem kX12_again_13 {C : QC} {x : QP} {M : QM} {st : List CV} {L : QL} : Rr C mX12_again (13, L, st, M) x = Rr C mX12_again (14, L, qi (-1) :: st, M) x := g_pl (show decode cX12_again 13 = .ok (.iconst (-1), 1) by decide +kernel) rfl
set_option maxRecDepth 20000 in
theorem kX12_again_14 {C : QC} {x : QP} {M : QM} {st : List CV} {L : QL} {z : Int} : Rr C mX12_again (14, L, [qi z], M) x = x (some (qi z)) M := g_iret (show decode cX12_again 14 = .ok (.ireturn, 1) by decide +kernel) rfl
set_option maxRecDepth 20000 in
theorem kX12_again_15 {C : QC} {x : QP} {M : QM} {st : List CV} {L : QL} {l0 l1 l2 l3 : Option CV} {z : Int} : Rr C mX12_again (15, [l0, l1, some (qi z), l3], st, M) x = Rr C mX12_again (16, [l0, l1, some (qi z), l3], qi z :: st, M) x := g_pl (show decode cX12_again 15 = .ok (.iload_n 2, 1) by decide +kernel) rfl
set_option maxRecDepth 20000 in
theorem kX12_again_16 {C : QC} {x : QP} {M : QM} {L : QL} {rest : List CV} {a0 : CV} {v : CV} {M1 : QM} (hC : C iX12_isDay [a0] M (some v) M1) (hw : (rest.map q_wd).sum ≤ 8) (k : Rr C mX12_again (19, L, v :: rest, M1) x) : Rr C mX12_again (16, L, a0 :: rest, M) x := g_cs (ow := 12) (e := (1, 27, 0, [868, 494, 77])) (as := [a0]) (show decode cX12_again 16 = .ok (.invokestatic 148, 3) by decide +kernel) rfl rfl rfl rfl (Or.inl rfl) rfl hC hw k
set_option maxRecDepth 20000 in
theorem kX12_again_19 {C : QC} {x : QP} {M : QM} {st : List CV} {L : QL} {a : Int} (ha1 : -2147483648 ≤ a) (ha2 : a < 2147483648) : Rr C mX12_again (19, L, qi a :: st, M) x = (if a = 0 then Rr C mX12_again (22, L, st, M) x else Rr C mX12_again (25, L, st, M) x) := (g_if (show decode cX12_again 19 = .ok (.ifCond .ne 6, 3) by decide +kernel) rfl ha1 ha2).trans (g_itn c_ne)
set_option maxRecDepth 20000 in
theorem kX12_again_22 {C : QC} {x : QP} {M : QM} {st : List CV} {L : QL} : Rr C mX12_again (22, L, st, M) x = Rr C mX12_again (24, L, qi (-2) :: st, M) x := g_pl (show decode cX12_again 22 = .ok (.bipush (-2), 2) by decide +kernel) rfl
set_option maxRecDepth 20000 in
theorem kX12_again_24 {C : QC} {x : QP} {M : QM} {st : List CV} {L : QL} {z : Int} : Rr C mX12_again (24, L, [qi z], M) x = x (some (qi z)) M := g_iret (show decode cX12_again 24 = .ok (.ireturn, 1) by decide +kernel) rfl
set_option maxRecDepth 20000 in
theorem kX12_again_25 {C : QC} {x : QP} {M : QM} {st : List CV} {L : QL} {l0 l1 l2 l3 : Option CV} {r : Option Nat} : Rr C mX12_again (25, [l0, l1, l2, some (.inr (.inr r))], st, M) x = Rr C mX12_again (26, [l0, l1, l2, some (.inr (.inr r))], .inr (.inr r) :: st, M) x := g_pl (show decode cX12_again 25 = .ok (.aload_n 3, 1) by decide +kernel) rfl
set_option maxRecDepth 20000 in
theorem kX12_again_26 {C : QC} {x : QP} {M : QM} {st : List CV} {L : QL} {a : Nat} (hk : q_kd M a = (1, 4)) : Rr C mX12_again (26, L, qr a :: st, M) x = Rr C mX12_again (29, L, q_fv M a 8 :: st, M) x := g_getf (ow := 12) (e := (4, 8, RX4, 294, 0)) (show decode cX12_again 26 = .ok (.getfield 213, 3) by decide +kernel) rfl hk
set_option maxRecDepth 20000 in
theorem kX12_again_29 {C : QC} {x : QP} {M : QM} {L : QL} {rest : List CV} {v : CV} {M1 : QM} {b : Nat} (hb : q_kd M b = (1, 1)) (hC : C iX1_told [qr b] M (some v) M1) (hw : (rest.map q_wd).sum ≤ 8) (k : Rr C mX12_again (32, L, v :: rest, M1) x) : Rr C mX12_again (29, L, qr b :: rest, M) x := g_cv (ow := 12) (e := (0, 120, 1, [921, 922, 923, 88])) (as := []) (show decode cX12_again 29 = .ok (.invokevirtual 217, 3) by decide +kernel) rfl rfl rfl (Or.inl rfl) rfl hb hC hw k
set_option maxRecDepth 20000 in
theorem kX12_again_32 {C : QC} {x : QP} {M : QM} {st : List CV} {L : QL} : Rr C mX12_again (32, L, st, M) x = Rr C mX12_again (34, L, qi 24 :: st, M) x := g_pl (show decode cX12_again 32 = .ok (.bipush 24, 2) by decide +kernel) rfl
set_option maxRecDepth 20000 in
theorem kX12_again_34 {C : QC} {x : QP} {M : QM} {st : List CV} {L : QL} {a b : Int} (ha1 : -2147483648 ≤ a) (ha2 : a < 2147483648) (hb1 : -2147483648 ≤ b) (hb2 : b < 2147483648) : Rr C mX12_again (34, L, qi b :: qi a :: st, M) x = (if b < a then Rr C mX12_again (37, L, st, M) x else Rr C mX12_again (40, L, st, M) x) := (g_icmp (show decode cX12_again 34 = .ok (.if_icmp .le 6, 3) by decide +kernel) rfl ha1 ha2 hb1 hb2).trans (g_itn c_le)
set_option maxRecDepth 20000 in
theorem kX12_again_37 {C : QC} {x : QP} {M : QM} {st : List CV} {L : QL} : Rr C mX12_again (37, L, st, M) x = Rr C mX12_again (39, L, qi (-3) :: st, M) x := g_pl (show decode cX12_again 37 = .ok (.bipush (-3), 2) by decide +kernel) rfl
set_option maxRecDepth 20000 in
theorem kX12_again_39 {C : QC} {x : QP} {M : QM} {st : List CV} {L : QL} {z : Int} : Rr C mX12_again (39, L, [qi z], M) x = x (some (qi z)) M := g_iret (show decode cX12_again 39 = .ok (.ireturn, 1) by decide +kernel) rfl
set_option maxRecDepth 20000 in
theorem kX12_again_40 {C : QC} {x : QP} {M : QM} {st : List CV} {L : QL} {l0 l1 l2 l3 : Option CV} {r : Option Nat} : Rr C mX12_again (40, [l0, l1, l2, some (.inr (.inr r))], st, M) x = Rr C mX12_again (41, [l0, l1, l2, some (.inr (.inr r))], .inr (.inr r) :: st, M) x := g_pl (show decode cX12_again 40 = .ok (.aload_n 3, 1) by decide +kernel) rfl
set_option maxRecDepth 20000 in
theorem kX12_again_41 {C : QC} {x : QP} {M : QM} {st : List CV} {L : QL} {a : Nat} (hk : q_kd M a = (1, 4)) : Rr C mX12_again (41, L, qr a :: st, M) x = Rr C mX12_again (44, L, q_fv M a 8 :: st, M) x := g_getf (ow := 12) (e := (4, 8, RX4, 294, 0)) (show decode cX12_again 41 = .ok (.getfield 213, 3) by decide +kernel) rfl hk
set_option maxRecDepth 20000 in
theorem kX12_again_44 {C : QC} {x : QP} {M : QM} {st : List CV} {L : QL} {l0 l1 l2 l3 : Option CV} {z : Int} : Rr C mX12_again (44, [l0, l1, some (qi z), l3], st, M) x = Rr C mX12_again (45, [l0, l1, some (qi z), l3], qi z :: st, M) x := g_pl (show decode cX12_again 44 = .ok (.iload_n 2, 1) by decide +kernel) rfl
set_option maxRecDepth 20000 in
theorem kX12_again_45 {C : QC} {x : QP} {M : QM} {st : List CV} {L : QL} {l0 l1 l2 l3 : Option CV} {r : Option Nat} : Rr C mX12_again (45, [some (.inr (.inr r)), l1, l2, l3], st, M) x = Rr C mX12_again (46, [some (.inr (.inr r)), l1, l2, l3], .inr (.inr r) :: st, M) x := g_pl (show decode cX12_again 45 = .ok (.aload_n 0, 1) by decide +kernel) rfl
set_option maxRecDepth 20000 in
theorem kX12_again_46 {C : QC} {x : QP} {M : QM} {st : List CV} {L : QL} {a : Nat} (hk : q_kd M a = (1, 12)) : Rr C mX12_again (46, L, qr a :: st, M) x = Rr C mX12_again (49, L, q_fv M a 4 :: st, M) x := g_getf (ow := 12) (e := (12, 4, RX12, 383, 0)) (show decode cX12_again 46 = .ok (.getfield 40, 3) by decide +kernel) rfl hk
set_option maxRecDepth 20000 in
theorem kX12_again_49 {C : QC} {x : QP} {M : QM} {L : QL} {rest : List CV} {a0 a1 : CV} {v : CV} {M1 : QM} {b : Nat} (hb : q_kd M b = (1, 1)) (hC : C iX1_parentOn [qr b, a0, a1] M (some v) M1) (hw : (rest.map q_wd).sum ≤ 8) (k : Rr C mX12_again (52, L, v :: rest, M1) x) : Rr C mX12_again (49, L, a1 :: a0 :: qr b :: rest, M) x := g_cv (ow := 12) (e := (0, 127, 1, [951, 952, 953, 88])) (as := [a0, a1]) (show decode cX12_again 49 = .ok (.invokevirtual 234, 3) by decide +kernel) rfl rfl rfl (Or.inl rfl) rfl hb hC hw k
set_option maxRecDepth 20000 in
theorem kX12_again_52 {C : QC} {x : QP} {M : QM} {st : List CV} {L : QL} {z : Int} : Rr C mX12_again (52, L, [qi z], M) x = x (some (qi z)) M := g_iret (show decode cX12_again 52 = .ok (.ireturn, 1) by decide +kernel) rfl
set_option maxRecDepth 20000 in
theorem eX12_again {d : Nat} {M : QM} {x : QP} {a : Nat} {v0 : Int} {v1 : Int} : q_T (d + 1) iX12_again [qr a, qi v0, qi v1] M x = Rr (q_C d) mX12_again (0, [some (qr a), some (qi v0), some (qi v1), none], [], M) x := g_entryT (e := _) rfl (Nat.le_of_ble_eq_true rfl) rfl rfl
def mX12_lookup : QI := (12, cX12_lookup, false, some .int)
set_option maxRecDepth 20000 in
theorem kX12_lookup_0 {C : QC} {x : QP} {M : QM} {st : List CV} {L : QL} {l0 l1 l2 l3 l4 l5 : Option CV} {r : Option Nat} : Rr C mX12_lookup (0, [some (.inr (.inr r)), l1, l2, l3, l4, l5], st, M) x = Rr C mX12_lookup (1, [some (.inr (.inr r)), l1, l2, l3, l4, l5], .inr (.inr r) :: st, M) x := g_pl (show decode cX12_lookup 0 = .ok (.aload_n 0, 1) by decide +kernel) rfl
set_option maxRecDepth 20000 in
theorem kX12_lookup_1 {C : QC} {x : QP} {M : QM} {st : List CV} {L : QL} {a : Nat} (hk : q_kd M a = (1, 12)) : Rr C mX12_lookup (1, L, qr a :: st, M) x = Rr C mX12_lookup (4, L, q_fv M a 0 :: st, M) x := g_getf (ow := 12) (e := (12, 0, RX12, 379, 0)) (show decode cX12_lookup 1 = .ok (.getfield 10, 3) by decide +kernel) rfl hk
set_option maxRecDepth 20000 in
theorem kX12_lookup_4 {C : QC} {x : QP} {M : QM} {L : QL} {rest : List CV} {v : CV} {M1 : QM} {b : Nat} (hb : q_kd M b = (1, 8)) (hC : C iX8_takeWord [qr b] M (some v) M1) (hw : (rest.map q_wd).sum ≤ 8) (k : Rr C mX12_lookup (7, L, v :: rest, M1) x) : Rr C mX12_lookup (4, L, qr b :: rest, M) x := g_cv (ow := 12) (e := (0, 20, 8, [441, 442, 443, 78])) (as := []) (show decode cX12_lookup 4 = .ok (.invokevirtual 94, 3) by decide +kernel) rfl rfl rfl (Or.inl rfl) rfl hb hC hw k
set_option maxRecDepth 20000 in
theorem kX12_lookup_7 {C : QC} {x : QP} {M : QM} {st : List CV} {L : QL} {l0 l1 l2 l3 l4 l5 : Option CV} {z : Int} : Rr C mX12_lookup (7, [l0, l1, l2, l3, l4, l5], ql z :: st, M) x = Rr C mX12_lookup (8, [l0, l1, q_cut l2, some (ql z), none, l5], st, M) x := g_pl (show decode cX12_lookup 7 = .ok (.lstore_n 3, 1) by decide +kernel) rfl
set_option maxRecDepth 20000 in
theorem kX12_lookup_8 {C : QC} {x : QP} {M : QM} {st : List CV} {L : QL} {l0 l1 l2 l3 l4 l5 : Option CV} {z : Int} : Rr C mX12_lookup (8, [l0, some (qi z), l2, l3, l4, l5], st, M) x = Rr C mX12_lookup (9, [l0, some (qi z), l2, l3, l4, l5], qi z :: st, M) x := g_pl (show decode cX12_lookup 8 = .ok (.iload_n 1, 1) by decide +kernel) rfl
set_option maxRecDepth 20000 in
theorem kX12_lookup_9 {C : QC} {x : QP} {M : QM} {L : QL} {rest : List CV} {a0 : CV} {v : CV} {M1 : QM} (hC : C iX12_isDay [a0] M (some v) M1) (hw : (rest.map q_wd).sum ≤ 8) (k : Rr C mX12_lookup (12, L, v :: rest, M1) x) : Rr C mX12_lookup (9, L, a0 :: rest, M) x := g_cs (ow := 12) (e := (1, 27, 0, [868, 494, 77])) (as := [a0]) (show decode cX12_lookup 9 = .ok (.invokestatic 148, 3) by decide +kernel) rfl rfl rfl rfl (Or.inl rfl) rfl hC hw k
set_option maxRecDepth 20000 in
theorem kX12_lookup_12 {C : QC} {x : QP} {M : QM} {st : List CV} {L : QL} {a : Int} (ha1 : -2147483648 ≤ a) (ha2 : a < 2147483648) : Rr C mX12_lookup (12, L, qi a :: st, M) x = (if a = 0 then Rr C mX12_lookup (24, L, st, M) x else Rr C mX12_lookup (15, L, st, M) x) := (g_if (show decode cX12_lookup 12 = .ok (.ifCond .eq 12, 3) by decide +kernel) rfl ha1 ha2).trans (g_ite c_eq)
set_option maxRecDepth 20000 in
theorem kX12_lookup_15 {C : QC} {x : QP} {M : QM} {st : List CV} {L : QL} {l0 l1 l2 l3 l4 l5 : Option CV} {z : Int} : Rr C mX12_lookup (15, [l0, l1, some (qi z), l3, l4, l5], st, M) x = Rr C mX12_lookup (16, [l0, l1, some (qi z), l3, l4, l5], qi z :: st, M) x := g_pl (show decode cX12_lookup 15 = .ok (.iload_n 2, 1) by decide +kernel) rfl
set_option maxRecDepth 20000 in
theorem kX12_lookup_16 {C : QC} {x : QP} {M : QM} {st : List CV} {L : QL} {a : Int} (ha1 : -2147483648 ≤ a) (ha2 : a < 2147483648) : Rr C mX12_lookup (16, L, qi a :: st, M) x = (if a < 0 then Rr C mX12_lookup (24, L, st, M) x else Rr C mX12_lookup (19, L, st, M) x) := (g_if (show decode cX12_lookup 16 = .ok (.ifCond .lt 8, 3) by decide +kernel) rfl ha1 ha2).trans (g_ite c_lt)
set_option maxRecDepth 20000 in
theorem kX12_lookup_19 {C : QC} {x : QP} {M : QM} {st : List CV} {L : QL} {l0 l1 l2 l3 l4 l5 : Option CV} {z : Int} : Rr C mX12_lookup (19, [l0, l1, some (qi z), l3, l4, l5], st, M) x = Rr C mX12_lookup (20, [l0, l1, some (qi z), l3, l4, l5], qi z :: st, M) x := g_pl (show decode cX12_lookup 19 = .ok (.iload_n 2, 1) by decide +kernel) rfl
set_option maxRecDepth 20000 in
theorem kX12_lookup_20 {C : QC} {x : QP} {M : QM} {st : List CV} {L : QL} : Rr C mX12_lookup (20, L, st, M) x = Rr C mX12_lookup (21, L, qi 3 :: st, M) x := g_pl (show decode cX12_lookup 20 = .ok (.iconst 3, 1) by decide +kernel) rfl
set_option maxRecDepth 20000 in
theorem kX12_lookup_21 {C : QC} {x : QP} {M : QM} {st : List CV} {L : QL} {a b : Int} (ha1 : -2147483648 ≤ a) (ha2 : a < 2147483648) (hb1 : -2147483648 ≤ b) (hb2 : b < 2147483648) : Rr C mX12_lookup (21, L, qi b :: qi a :: st, M) x = (if b < a then Rr C mX12_lookup (24, L, st, M) x else Rr C mX12_lookup (27, L, st, M) x) := (g_icmp (show decode cX12_lookup 21 = .ok (.if_icmp .le 6, 3) by decide +kernel) rfl ha1 ha2 hb1 hb2).trans (g_itn c_le)
set_option maxRecDepth 20000 in
theorem kX12_lookup_24 {C : QC} {x : QP} {M : QM} {st : List CV} {L : QL} : Rr C mX12_lookup (24, L, st, M) x = Rr C mX12_lookup (26, L, qi (-2) :: st, M) x := g_pl (show decode cX12_lookup 24 = .ok (.bipush (-2), 2) by decide +kernel) rfl
set_option maxRecDepth 20000 in
theorem kX12_lookup_26 {C : QC} {x : QP} {M : QM} {st : List CV} {L : QL} {z : Int} : Rr C mX12_lookup (26, L, [qi z], M) x = x (some (qi z)) M := g_iret (show decode cX12_lookup 26 = .ok (.ireturn, 1) by decide +kernel) rfl
set_option maxRecDepth 20000 in
theorem kX12_lookup_27 {C : QC} {x : QP} {M : QM} {st : List CV} {L : QL} {l0 l1 l2 l3 l4 l5 : Option CV} {z : Int} : Rr C mX12_lookup (27, [l0, l1, l2, some (ql z), l4, l5], st, M) x = Rr C mX12_lookup (28, [l0, l1, l2, some (ql z), l4, l5], ql z :: st, M) x := g_pl (show decode cX12_lookup 27 = .ok (.lload_n 3, 1) by decide +kernel) rfl
set_option maxRecDepth 20000 in
theorem kX12_lookup_28 {C : QC} {x : QP} {M : QM} {st : List CV} {L : QL} : Rr C mX12_lookup (28, L, st, M) x = Rr C mX12_lookup (29, L, ql 0 :: st, M) x := g_pl (show decode cX12_lookup 28 = .ok (.lconst 0, 1) by decide +kernel) rfl
set_option maxRecDepth 20000 in
theorem kX12_lookup_29 {C : QC} {x : QP} {M : QM} {st : List CV} {L : QL} {a b : Int} : Rr C mX12_lookup (29, L, ql b :: ql a :: st, M) x = Rr C mX12_lookup (30, L, qi (q_lcmp a b) :: st, M) x := g_pl (show decode cX12_lookup 29 = .ok (.lcmp, 1) by decide +kernel) rfl
set_option maxRecDepth 20000 in
theorem kX12_lookup_30 {C : QC} {x : QP} {M : QM} {st : List CV} {L : QL} {a : Int} (ha1 : -2147483648 ≤ a) (ha2 : a < 2147483648) : Rr C mX12_lookup (30, L, qi a :: st, M) x = (if a = 0 then Rr C mX12_lookup (33, L, st, M) x else Rr C mX12_lookup (42, L, st, M) x) := (g_if (show decode cX12_lookup 30 = .ok (.ifCond .ne 12, 3) by decide +kernel) rfl ha1 ha2).trans (g_itn c_ne)
set_option maxRecDepth 20000 in
theorem kX12_lookup_33 {C : QC} {x : QP} {M : QM} {st : List CV} {L : QL} {l0 l1 l2 l3 l4 l5 : Option CV} {r : Option Nat} : Rr C mX12_lookup (33, [some (.inr (.inr r)), l1, l2, l3, l4, l5], st, M) x = Rr C mX12_lookup (34, [some (.inr (.inr r)), l1, l2, l3, l4, l5], .inr (.inr r) :: st, M) x := g_pl (show decode cX12_lookup 33 = .ok (.aload_n 0, 1) by decide +kernel) rfl
set_option maxRecDepth 20000 in
theorem kX12_lookup_34 {C : QC} {x : QP} {M : QM} {st : List CV} {L : QL} : Rr C mX12_lookup (34, L, st, M) x = Rr C mX12_lookup (36, L, qi 9 :: st, M) x := g_pl (show decode cX12_lookup 34 = .ok (.bipush 9, 2) by decide +kernel) rfl
set_option maxRecDepth 20000 in
theorem kX12_lookup_36 {C : QC} {x : QP} {M : QM} {st : List CV} {L : QL} {z : Int} {a : Nat} (hk : q_kd M a = (1, 12)) : Rr C mX12_lookup (36, L, qi z :: qr a :: st, M) x = Rr C mX12_lookup (39, L, st, q_wr M a 11 (qi z)) x := g_putf (ow := 12) (ini := false) (e := (12, 11, RX12, 390, 0)) (r := (RX12, TX12, 14)) (t := tyX12) (show decode cX12_lookup 36 = .ok (.putfield 73, 3) by decide +kernel) rfl rfl rfl rfl (by decide +kernel) hk
set_option maxRecDepth 20000 in
theorem kX12_lookup_39 {C : QC} {x : QP} {M : QM} {st : List CV} {L : QL} : Rr C mX12_lookup (39, L, st, M) x = Rr C mX12_lookup (41, L, qi (-3) :: st, M) x := g_pl (show decode cX12_lookup 39 = .ok (.bipush (-3), 2) by decide +kernel) rfl
set_option maxRecDepth 20000 in
theorem kX12_lookup_41 {C : QC} {x : QP} {M : QM} {st : List CV} {L : QL} {z : Int} : Rr C mX12_lookup (41, L, [qi z], M) x = x (some (qi z)) M := g_iret (show decode cX12_lookup 41 = .ok (.ireturn, 1) by decide +kernel) rfl
set_option maxRecDepth 20000 in
theorem kX12_lookup_42 {C : QC} {x : QP} {M : QM} {st : List CV} {L : QL} {l0 l1 l2 l3 l4 l5 : Option CV} {r : Option Nat} : Rr C mX12_lookup (42, [some (.inr (.inr r)), l1, l2, l3, l4, l5], st, M) x = Rr C mX12_lookup (43, [some (.inr (.inr r)), l1, l2, l3, l4, l5], .inr (.inr r) :: st, M) x := g_pl (show decode cX12_lookup 42 = .ok (.aload_n 0, 1) by decide +kernel) rfl
set_option maxRecDepth 20000 in
theorem kX12_lookup_43 {C : QC} {x : QP} {M : QM} {st : List CV} {L : QL} : Rr C mX12_lookup (43, L, st, M) x = Rr C mX12_lookup (44, L, qi 0 :: st, M) x := g_pl (show decode cX12_lookup 43 = .ok (.iconst 0, 1) by decide +kernel) rfl
set_option maxRecDepth 20000 in
theorem kX12_lookup_44 {C : QC} {x : QP} {M : QM} {st : List CV} {L : QL} {z : Int} {a : Nat} (hk : q_kd M a = (1, 12)) : Rr C mX12_lookup (44, L, qi z :: qr a :: st, M) x = Rr C mX12_lookup (47, L, st, q_wr M a 13 (qi z)) x := g_putf (ow := 12) (ini := false) (e := (12, 13, RX12, 392, 0)) (r := (RX12, TX12, 14)) (t := tyX12) (show decode cX12_lookup 44 = .ok (.putfield 79, 3) by decide +kernel) rfl rfl rfl rfl (by decide +kernel) hk
set_option maxRecDepth 20000 in
theorem kX12_lookup_47 {C : QC} {x : QP} {M : QM} {st : List CV} {L : QL} : Rr C mX12_lookup (47, L, st, M) x = Rr C mX12_lookup (48, L, qi 0 :: st, M) x := g_pl (show decode cX12_lookup 47 = .ok (.iconst 0, 1) by decide +kernel) rfl
set_option maxRecDepth 20000 in
theorem kX12_lookup_48 {C : QC} {x : QP} {M : QM} {st : List CV} {L : QL} {l0 l1 l2 l3 l4 l5 : Option CV} {z : Int} : Rr C mX12_lookup (48, [l0, l1, l2, l3, l4, l5], qi z :: st, M) x = Rr C mX12_lookup (50, [l0, l1, l2, l3, q_cut l4, some (qi z)], st, M) x := g_pl (show decode cX12_lookup 48 = .ok (.istore 5, 2) by decide +kernel) rfl
set_option maxRecDepth 20000 in
theorem kX12_lookup_50 {C : QC} {x : QP} {M : QM} {st : List CV} {L : QL} {l0 l1 l2 l3 l4 l5 : Option CV} {z : Int} : Rr C mX12_lookup (50, [l0, l1, l2, l3, l4, some (qi z)], st, M) x = Rr C mX12_lookup (52, [l0, l1, l2, l3, l4, some (qi z)], qi z :: st, M) x := g_pl (show decode cX12_lookup 50 = .ok (.iload 5, 2) by decide +kernel) rfl
set_option maxRecDepth 20000 in
theorem kX12_lookup_52 {C : QC} {x : QP} {M : QM} {st : List CV} {L : QL} {l0 l1 l2 l3 l4 l5 : Option CV} {z : Int} : Rr C mX12_lookup (52, [l0, l1, some (qi z), l3, l4, l5], st, M) x = Rr C mX12_lookup (53, [l0, l1, some (qi z), l3, l4, l5], qi z :: st, M) x := g_pl (show decode cX12_lookup 52 = .ok (.iload_n 2, 1) by decide +kernel) rfl
set_option maxRecDepth 20000 in
theorem kX12_lookup_53 {C : QC} {x : QP} {M : QM} {st : List CV} {L : QL} {a b : Int} (ha1 : -2147483648 ≤ a) (ha2 : a < 2147483648) (hb1 : -2147483648 ≤ b) (hb2 : b < 2147483648) : Rr C mX12_lookup (53, L, qi b :: qi a :: st, M) x = (if b < a then Rr C mX12_lookup (70, L, st, M) x else Rr C mX12_lookup (56, L, st, M) x) := (g_icmp (show decode cX12_lookup 53 = .ok (.if_icmp .gt 17, 3) by decide +kernel) rfl ha1 ha2 hb1 hb2).trans (g_ite c_gt)
set_option maxRecDepth 20000 in
theorem kX12_lookup_56 {C : QC} {x : QP} {M : QM} {st : List CV} {L : QL} {l0 l1 l2 l3 l4 l5 : Option CV} {r : Option Nat} : Rr C mX12_lookup (56, [some (.inr (.inr r)), l1, l2, l3, l4, l5], st, M) x = Rr C mX12_lookup (57, [some (.inr (.inr r)), l1, l2, l3, l4, l5], .inr (.inr r) :: st, M) x := g_pl (show decode cX12_lookup 56 = .ok (.aload_n 0, 1) by decide +kernel) rfl
set_option maxRecDepth 20000 in
theorem kX12_lookup_57 {C : QC} {x : QP} {M : QM} {st : List CV} {L : QL} {l0 l1 l2 l3 l4 l5 : Option CV} {z : Int} : Rr C mX12_lookup (57, [l0, l1, l2, some (ql z), l4, l5], st, M) x = Rr C mX12_lookup (58, [l0, l1, l2, some (ql z), l4, l5], ql z :: st, M) x := g_pl (show decode cX12_lookup 57 = .ok (.lload_n 3, 1) by decide +kernel) rfl
set_option maxRecDepth 20000 in
theorem kX12_lookup_58 {C : QC} {x : QP} {M : QM} {st : List CV} {L : QL} {l0 l1 l2 l3 l4 l5 : Option CV} {z : Int} : Rr C mX12_lookup (58, [l0, some (qi z), l2, l3, l4, l5], st, M) x = Rr C mX12_lookup (59, [l0, some (qi z), l2, l3, l4, l5], qi z :: st, M) x := g_pl (show decode cX12_lookup 58 = .ok (.iload_n 1, 1) by decide +kernel) rfl
set_option maxRecDepth 20000 in
theorem kX12_lookup_59 {C : QC} {x : QP} {M : QM} {st : List CV} {L : QL} {l0 l1 l2 l3 l4 l5 : Option CV} {z : Int} : Rr C mX12_lookup (59, [l0, l1, l2, l3, l4, some (qi z)], st, M) x = Rr C mX12_lookup (61, [l0, l1, l2, l3, l4, some (qi z)], qi z :: st, M) x := g_pl (show decode cX12_lookup 59 = .ok (.iload 5, 2) by decide +kernel) rfl
set_option maxRecDepth 20000 in
theorem kX12_lookup_61 {C : QC} {x : QP} {M : QM} {L : QL} {rest : List CV} {a0 a1 a2 : CV} {M1 : QM} {b : Nat} (hb : q_kd M b = (1, 12)) (hC : C iX12_keepHits [qr b, a0, a1, a2] M none M1) (hw : (rest.map q_wd).sum ≤ 8) (k : Rr C mX12_lookup (64, L, rest, M1) x) : Rr C mX12_lookup (61, L, a2 :: a1 :: a0 :: qr b :: rest, M) x := g_cv (ow := 12) (e := (0, 129, 12, [963, 965, 21, 77])) (as := [a0, a1, a2]) (show decode cX12_lookup 61 = .ok (.invokevirtual 238, 3) by decide +kernel) rfl rfl rfl (Or.inl rfl) rfl hb hC hw k
set_option maxRecDepth 20000 in
theorem kX12_lookup_64 {C : QC} {x : QP} {M : QM} {st : List CV} {L : QL} {l0 l1 l2 l3 l4 l5 : Option CV} {z : Int} : Rr C mX12_lookup (64, [l0, l1, l2, l3, l4, some (qi z)], st, M) x = Rr C mX12_lookup (67, [l0, l1, l2, l3, q_cut l4, some (qi (z + 1))], st, M) x := g_pl (show decode cX12_lookup 64 = .ok (.iinc 5 1, 3) by decide +kernel) rfl
set_option maxRecDepth 20000 in
theorem kX12_lookup_67 {C : QC} {x : QP} {M : QM} {st : List CV} {L : QL} : Rr C mX12_lookup (67, L, st, M) x = Rr C mX12_lookup (50, L, st, M) x := g_pl (show decode cX12_lookup 67 = .ok (.goto (-17), 3) by decide +kernel) rfl
set_option maxRecDepth 20000 in
theorem kX12_lookup_70 {C : QC} {x : QP} {M : QM} {st : List CV} {L : QL} {l0 l1 l2 l3 l4 l5 : Option CV} {r : Option Nat} : Rr C mX12_lookup (70, [some (.inr (.inr r)), l1, l2, l3, l4, l5], st, M) x = Rr C mX12_lookup (71, [some (.inr (.inr r)), l1, l2, l3, l4, l5], .inr (.inr r) :: st, M) x := g_pl (show decode cX12_lookup 70 = .ok (.aload_n 0, 1) by decide +kernel) rfl
set_option maxRecDepth 20000 in
theorem kX12_lookup_71 {C : QC} {x : QP} {M : QM} {st : List CV} {L : QL} {a : Nat} (hk : q_kd M a = (1, 12)) : Rr C mX12_lookup (71, L, qr a :: st, M) x = Rr C mX12_lookup (74, L, q_fv M a 13 :: st, M) x := g_getf (ow := 12) (e := (12, 13, RX12, 392, 0)) (show decode cX12_lookup 71 = .ok (.getfield 79, 3) by decide +kernel) rfl hk
set_option maxRecDepth 20000 in
theorem kX12_lookup_74 {C : QC} {x : QP} {M : QM} {st : List CV} {L : QL} {z : Int} : Rr C mX12_lookup (74, L, [qi z], M) x = x (some (qi z)) M := g_iret (show decode cX12_lookup 74 = .ok (.ireturn, 1) by decide +kernel) rfl
set_option maxRecDepth 20000 in
theorem eX12_lookup {d : Nat} {M : QM} {x : QP} {a : Nat} {v0 : Int} {v1 : Int} : q_T (d + 1) iX12_lookup [qr a, qi v0, qi v1] M x = Rr (q_C d) mX12_lookup (0, [some (qr a), some (qi v0), some (qi v1), none, none, none], [], M) x := g_entryT (e := _) rfl (Nat.le_of_ble_eq_true rfl) rfl rfl
def mX12_keepHits : QI := (12, cX12_keepHits, false, none)
set_option maxRecDepth 20000 in
theorem kX12_keepHits_0 {C : QC} {x : QP} {M : QM} {st : List CV} {L : QL} : Rr C mX12_keepHits (0, L, st, M) x = Rr C mX12_keepHits (1, L, qi 0 :: st, M) x := g_pl (show decode cX12_keepHits 0 = .ok (.iconst 0, 1) by decide +kernel) rfl
set_option maxRecDepth 20000 in
theorem kX12_keepHits_1 {C : QC} {x : QP} {M : QM} {st : List CV} {L : QL} {l0 l1 l2 l3 l4 l5 l6 : Option CV} {z : Int} : Rr C mX12_keepHits (1, [l0, l1, l2, l3, l4, l5, l6], qi z :: st, M) x = Rr C mX12_keepHits (3, [l0, l1, l2, l3, q_cut l4, some (qi z), l6], st, M) x := g_pl (show decode cX12_keepHits 1 = .ok (.istore 5, 2) by decide +kernel) rfl
set_option maxRecDepth 20000 in
theorem kX12_keepHits_3 {C : QC} {x : QP} {M : QM} {st : List CV} {L : QL} {l0 l1 l2 l3 l4 l5 l6 : Option CV} {z : Int} : Rr C mX12_keepHits (3, [l0, l1, l2, l3, l4, some (qi z), l6], st, M) x = Rr C mX12_keepHits (5, [l0, l1, l2, l3, l4, some (qi z), l6], qi z :: st, M) x := g_pl (show decode cX12_keepHits 3 = .ok (.iload 5, 2) by decide +kernel) rfl
set_option maxRecDepth 20000 in
theorem kX12_keepHits_5 {C : QC} {x : QP} {M : QM} {st : List CV} {L : QL} {l0 l1 l2 l3 l4 l5 l6 : Option CV} {r : Option Nat} : Rr C mX12_keepHits (5, [some (.inr (.inr r)), l1, l2, l3, l4, l5, l6], st, M) x = Rr C mX12_keepHits (6, [some (.inr (.inr r)), l1, l2, l3, l4, l5, l6], .inr (.inr r) :: st, M) x := g_pl (show decode cX12_keepHits 5 = .ok (.aload_n 0, 1) by decide +kernel) rfl
set_option maxRecDepth 20000 in
theorem kX12_keepHits_6 {C : QC} {x : QP} {M : QM} {st : List CV} {L : QL} {a : Nat} (hk : q_kd M a = (1, 12)) : Rr C mX12_keepHits (6, L, qr a :: st, M) x = Rr C mX12_keepHits (9, L, q_fv M a 2 :: st, M) x := g_getf (ow := 12) (e := (12, 2, RX12, 381, 0)) (show decode cX12_keepHits 6 = .ok (.getfield 26, 3) by decide +kernel) rfl hk
set_option maxRecDepth 20000 in
theorem kX12_keepHits_9 {C : QC} {x : QP} {M : QM} {L : QL} {rest : List CV} {v : CV} {M1 : QM} {b : Nat} (hb : q_kd M b = (1, 11)) (hC : C iX11_size [qr b] M (some v) M1) (hw : (rest.map q_wd).sum ≤ 8) (k : Rr C mX12_keepHits (12, L, v :: rest, M1) x) : Rr C mX12_keepHits (9, L, qr b :: rest, M) x := g_cv (ow := 12) (e := (0, 130, 11, [967, 968, 969, 83])) (as := []) (show decode cX12_keepHits 9 = .ok (.invokevirtual 242, 3) by decide +kernel) rfl rfl rfl (Or.inl rfl) rfl hb hC hw k
set_option maxRecDepth 20000 in
theorem kX12_keepHits_12 {C : QC} {x : QP} {M : QM} {st : List CV} {L : QL} {a b : Int} (ha1 : -2147483648 ≤ a) (ha2 : a < 2147483648) (hb1 : -2147483648 ≤ b) (hb2 : b < 2147483648) : Rr C mX12_keepHits (12, L, qi b :: qi a :: st, M) x = (if a < b then Rr C mX12_keepHits (15, L, st, M) x else Rr C mX12_keepHits (104, L, st, M) x) := (g_icmp (show decode cX12_keepHits 12 = .ok (.if_icmp .ge 92, 3) by decide +kernel) rfl ha1 ha2 hb1 hb2).trans (g_itn c_ge)
set_option maxRecDepth 20000 in
theorem kX12_keepHits_15 {C : QC} {x : QP} {M : QM} {st : List CV} {L : QL} {l0 l1 l2 l3 l4 l5 l6 : Option CV} {r : Option Nat} : Rr C mX12_keepHits (15, [some (.inr (.inr r)), l1, l2, l3, l4, l5, l6], st, M) x = Rr C mX12_keepHits (16, [some (.inr (.inr r)), l1, l2, l3, l4, l5, l6], .inr (.inr r) :: st, M) x := g_pl (show decode cX12_keepHits 15 = .ok (.aload_n 0, 1) by decide +kernel) rfl
set_option maxRecDepth 20000 in
theorem kX12_keepHits_16 {C : QC} {x : QP} {M : QM} {st : List CV} {L : QL} {a : Nat} (hk : q_kd M a = (1, 12)) : Rr C mX12_keepHits (16, L, qr a :: st, M) x = Rr C mX12_keepHits (19, L, q_fv M a 2 :: st, M) x := g_getf (ow := 12) (e := (12, 2, RX12, 381, 0)) (show decode cX12_keepHits 16 = .ok (.getfield 26, 3) by decide +kernel) rfl hk
set_option maxRecDepth 20000 in
theorem kX12_keepHits_19 {C : QC} {x : QP} {M : QM} {st : List CV} {L : QL} {l0 l1 l2 l3 l4 l5 l6 : Option CV} {z : Int} : Rr C mX12_keepHits (19, [l0, l1, l2, l3, l4, some (qi z), l6], st, M) x = Rr C mX12_keepHits (21, [l0, l1, l2, l3, l4, some (qi z), l6], qi z :: st, M) x := g_pl (show decode cX12_keepHits 19 = .ok (.iload 5, 2) by decide +kernel) rfl
set_option maxRecDepth 20000 in
theorem kX12_keepHits_21 {C : QC} {x : QP} {M : QM} {L : QL} {rest : List CV} {a0 : CV} {v : CV} {M1 : QM} {b : Nat} (hb : q_kd M b = (1, 11)) (hC : C iX11_place [qr b, a0] M (some v) M1) (hw : (rest.map q_wd).sum ≤ 8) (k : Rr C mX12_keepHits (24, L, v :: rest, M1) x) : Rr C mX12_keepHits (21, L, a0 :: qr b :: rest, M) x := g_cv (ow := 12) (e := (0, 30, 11, [867, 504, 505, 83])) (as := [a0]) (show decode cX12_keepHits 21 = .ok (.invokevirtual 144, 3) by decide +kernel) rfl rfl rfl (Or.inl rfl) rfl hb hC hw k
set_option maxRecDepth 20000 in
theorem kX12_keepHits_24 {C : QC} {x : QP} {M : QM} {st : List CV} {L : QL} {l0 l1 l2 l3 l4 l5 l6 : Option CV} {z : Option Nat} : Rr C mX12_keepHits (24, [l0, l1, l2, l3, l4, l5, l6], .inr (.inr z) :: st, M) x = Rr C mX12_keepHits (26, [l0, l1, l2, l3, l4, q_cut l5, some (.inr (.inr z))], st, M) x := g_pl (show decode cX12_keepHits 24 = .ok (.astore 6, 2) by decide +kernel) rfl
set_option maxRecDepth 20000 in
theorem kX12_keepHits_26 {C : QC} {x : QP} {M : QM} {st : List CV} {L : QL} {l0 l1 l2 l3 l4 l5 l6 : Option CV} {r : Option Nat} : Rr C mX12_keepHits (26, [l0, l1, l2, l3, l4, l5, some (.inr (.inr r))], st, M) x = Rr C mX12_keepHits (28, [l0, l1, l2, l3, l4, l5, some (.inr (.inr r))], .inr (.inr r) :: st, M) x := g_pl (show decode cX12_keepHits 26 = .ok (.aload 6, 2) by decide +kernel) rfl
set_option maxRecDepth 20000 in
theorem kX12_keepHits_28r {C : QC} {x : QP} {M : QM} {st : List CV} {L : QL} {a : Nat} : Rr C mX12_keepHits (28, L, qr a :: st, M) x = Rr C mX12_keepHits (31, L, st, M) x := g_pl (show decode cX12_keepHits 28 = .ok (.ifnull 70, 3) by decide +kernel) rfl
set_option maxRecDepth 20000 in
theorem kX12_keepHits_28n {C : QC} {x : QP} {M : QM} {st : List CV} {L : QL} : Rr C mX12_keepHits (28, L, qn :: st, M) x = Rr C mX12_keepHits (98, L, st, M) x := g_pl (show decode cX12_keepHits 28 = .ok (.ifnull 70, 3) by decide +kernel) rfl
set_option maxRecDepth 20000 in
theorem kX12_keepHits_31 {C : QC} {x : QP} {M : QM} {st : List CV} {L : QL} {l0 l1 l2 l3 l4 l5 l6 : Option CV} {r : Option Nat} : Rr C mX12_keepHits (31, [l0, l1, l2, l3, l4, l5, some (.inr (.inr r))], st, M) x = Rr C mX12_keepHits (33, [l0, l1, l2, l3, l4, l5, some (.inr (.inr r))], .inr (.inr r) :: st, M) x := g_pl (show decode cX12_keepHits 31 = .ok (.aload 6, 2) by decide +kernel) rfl
set_option maxRecDepth 20000 in
theorem kX12_keepHits_33 {C : QC} {x : QP} {M : QM} {st : List CV} {L : QL} {l0 l1 l2 l3 l4 l5 l6 : Option CV} {z : Int} : Rr C mX12_keepHits (33, [l0, l1, l2, some (qi z), l4, l5, l6], st, M) x = Rr C mX12_keepHits (34, [l0, l1, l2, some (qi z), l4, l5, l6], qi z :: st, M) x := g_pl (show decode cX12_keepHits 33 = .ok (.iload_n 3, 1) by decide +kernel) rfl
set_option maxRecDepth 20000 in
theorem kX12_keepHits_34 {C : QC} {x : QP} {M : QM} {L : QL} {rest : List CV} {a0 : CV} {v : CV} {M1 : QM} {b : Nat} (hb : q_kd M b = (1, 4)) (hC : C iX4_existsOn [qr b, a0] M (some v) M1) (hw : (rest.map q_wd).sum ≤ 8) (k : Rr C mX12_keepHits (37, L, v :: rest, M1) x) : Rr C mX12_keepHits (34, L, a0 :: qr b :: rest, M) x := g_cv (ow := 12) (e := (0, 109, 4, [869, 870, 871, 85])) (as := [a0]) (show decode cX12_keepHits 34 = .ok (.invokevirtual 151, 3) by decide +kernel) rfl rfl rfl (Or.inl rfl) rfl hb hC hw k
set_option maxRecDepth 20000 in
theorem kX12_keepHits_37 {C : QC} {x : QP} {M : QM} {st : List CV} {L : QL} {a : Int} (ha1 : -2147483648 ≤ a) (ha2 : a < 2147483648) : Rr C mX12_keepHits (37, L, qi a :: st, M) x = (if a = 0 then Rr C mX12_keepHits (98, L, st, M) x else Rr C mX12_keepHits (40, L, st, M) x) := (g_if (show decode cX12_keepHits 37 = .ok (.ifCond .eq 61, 3) by decide +kernel) rfl ha1 ha2).trans (g_ite c_eq)
set_option maxRecDepth 20000 in
theorem kX12_keepHits_40 {C : QC} {x : QP} {M : QM} {st : List CV} {L : QL} {l0 l1 l2 l3 l4 l5 l6 : Option CV} {r : Option Nat} : Rr C mX12_keepHits (40, [some (.inr (.inr r)), l1, l2, l3, l4, l5, l6], st, M) x = Rr C mX12_keepHits (41, [some (.inr (.inr r)), l1, l2, l3, l4, l5, l6], .inr (.inr r) :: st, M) x := g_pl (show decode cX12_keepHits 40 = .ok (.aload_n 0, 1) by decide +kernel) rfl
set_option maxRecDepth 20000 in
theorem kX12_keepHits_41 {C : QC} {x : QP} {M : QM} {st : List CV} {L : QL} {a : Nat} (hk : q_kd M a = (1, 12)) : Rr C mX12_keepHits (41, L, qr a :: st, M) x = Rr C mX12_keepHits (44, L, q_fv M a 13 :: st, M) x := g_getf (ow := 12) (e := (12, 13, RX12, 392, 0)) (show decode cX12_keepHits 41 = .ok (.getfield 79, 3) by decide +kernel) rfl hk
set_option maxRecDepth 20000 in
theorem kX12_keepHits_44 {C : QC} {x : QP} {M : QM} {st : List CV} {L : QL} {l0 l1 l2 l3 l4 l5 l6 : Option CV} {r : Option Nat} : Rr C mX12_keepHits (44, [some (.inr (.inr r)), l1, l2, l3, l4, l5, l6], st, M) x = Rr C mX12_keepHits (45, [some (.inr (.inr r)), l1, l2, l3, l4, l5, l6], .inr (.inr r) :: st, M) x := g_pl (show decode cX12_keepHits 44 = .ok (.aload_n 0, 1) by decide +kernel) rfl
set_option maxRecDepth 20000 in
theorem kX12_keepHits_45 {C : QC} {x : QP} {M : QM} {st : List CV} {L : QL} {a : Nat} (hk : q_kd M a = (1, 12)) : Rr C mX12_keepHits (45, L, qr a :: st, M) x = Rr C mX12_keepHits (48, L, q_fv M a 12 :: st, M) x := g_getf (ow := 12) (e := (12, 12, RX12, 391, 0)) (show decode cX12_keepHits 45 = .ok (.getfield 76, 3) by decide +kernel) rfl hk
set_option maxRecDepth 20000 in
theorem kX12_keepHits_48 {C : QC} {x : QP} {M : QM} {st : List CV} {L : QL} {a : Nat} (h1 : 2 ≤ (q_kd M a).1) (h2 : (q_kd M a).1 ≤ 9) : Rr C mX12_keepHits (48, L, qr a :: st, M) x = Rr C mX12_keepHits (49, L, qi (q_kd M a).2 :: st, M) x := g_alen (show decode cX12_keepHits 48 = .ok (.arraylength, 1) by decide +kernel) h1 h2
set_option maxRecDepth 20000 in
theorem kX12_keepHits_49 {C : QC} {x : QP} {M : QM} {st : List CV} {L : QL} {a b : Int} (ha1 : -2147483648 ≤ a) (ha2 : a < 2147483648) (hb1 : -2147483648 ≤ b) (hb2 : b < 2147483648) : Rr C mX12_keepHits (49, L, qi b :: qi a :: st, M) x = (if a < b then Rr C mX12_keepHits (55, L, st, M) x else Rr C mX12_keepHits (52, L, st, M) x) := (g_icmp (show decode cX12_keepHits 49 = .ok (.if_icmp .lt 6, 3) by decide +kernel) rfl ha1 ha2 hb1 hb2).trans (g_ite c_lt)
set_option maxRecDepth 20000 in
theorem kX12_keepHits_52 {C : QC} {x : QP} {M : QM} {st : List CV} {L : QL} : Rr C mX12_keepHits (52, L, st, M) x = Rr C mX12_keepHits (98, L, st, M) x := g_pl (show decode cX12_keepHits 52 = .ok (.goto 46, 3) by decide +kernel) rfl
set_option maxRecDepth 20000 in
theorem kX12_keepHits_55 {C : QC} {x : QP} {M : QM} {st : List CV} {L : QL} {l0 l1 l2 l3 l4 l5 l6 : Option CV} {r : Option Nat} : Rr C mX12_keepHits (55, [some (.inr (.inr r)), l1, l2, l3, l4, l5, l6], st, M) x = Rr C mX12_keepHits (56, [some (.inr (.inr r)), l1, l2, l3, l4, l5, l6], .inr (.inr r) :: st, M) x := g_pl (show decode cX12_keepHits 55 = .ok (.aload_n 0, 1) by decide +kernel) rfl
set_option maxRecDepth 20000 in
theorem kX12_keepHits_56 {C : QC} {x : QP} {M : QM} {st : List CV} {L : QL} {a : Nat} (hk : q_kd M a = (1, 12)) : Rr C mX12_keepHits (56, L, qr a :: st, M) x = Rr C mX12_keepHits (59, L, q_fv M a 3 :: st, M) x := g_getf (ow := 12) (e := (12, 3, RX12, 382, 0)) (show decode cX12_keepHits 56 = .ok (.getfield 33, 3) by decide +kernel) rfl hk
set_option maxRecDepth 20000 in
theorem kX12_keepHits_59 {C : QC} {x : QP} {M : QM} {st : List CV} {L : QL} {l0 l1 l2 l3 l4 l5 l6 : Option CV} {z : Int} : Rr C mX12_keepHits (59, [l0, some (ql z), l2, l3, l4, l5, l6], st, M) x = Rr C mX12_keepHits (60, [l0, some (ql z), l2, l3, l4, l5, l6], ql z :: st, M) x := g_pl (show decode cX12_keepHits 59 = .ok (.lload_n 1, 1) by decide +kernel) rfl
set_option maxRecDepth 20000 in
theorem kX12_keepHits_60 {C : QC} {x : QP} {M : QM} {st : List CV} {L : QL} {l0 l1 l2 l3 l4 l5 l6 : Option CV} {r : Option Nat} : Rr C mX12_keepHits (60, [l0, l1, l2, l3, l4, l5, some (.inr (.inr r))], st, M) x = Rr C mX12_keepHits (62, [l0, l1, l2, l3, l4, l5, some (.inr (.inr r))], .inr (.inr r) :: st, M) x := g_pl (show decode cX12_keepHits 60 = .ok (.aload 6, 2) by decide +kernel) rfl
set_option maxRecDepth 20000 in
theorem kX12_keepHits_62 {C : QC} {x : QP} {M : QM} {st : List CV} {L : QL} {a : Nat} (hk : q_kd M a = (1, 4)) : Rr C mX12_keepHits (62, L, qr a :: st, M) x = Rr C mX12_keepHits (65, L, q_fv M a 6 :: st, M) x := g_getf (ow := 12) (e := (4, 6, RX4, 287, 0)) (show decode cX12_keepHits 62 = .ok (.getfield 174, 3) by decide +kernel) rfl hk
set_option maxRecDepth 20000 in
theorem kX12_keepHits_65 {C : QC} {x : QP} {M : QM} {st : List CV} {L : QL} {l0 l1 l2 l3 l4 l5 l6 : Option CV} {z : Int} : Rr C mX12_keepHits (65, [l0, l1, l2, some (qi z), l4, l5, l6], st, M) x = Rr C mX12_keepHits (66, [l0, l1, l2, some (qi z), l4, l5, l6], qi z :: st, M) x := g_pl (show decode cX12_keepHits 65 = .ok (.iload_n 3, 1) by decide +kernel) rfl
set_option maxRecDepth 20000 in
theorem kX12_keepHits_66 {C : QC} {x : QP} {M : QM} {L : QL} {rest : List CV} {a0 : CV} {v : CV} {M1 : QM} {b : Nat} (hb : q_kd M b = (1, 2)) (hC : C iX2_at [qr b, a0] M (some v) M1) (hw : (rest.map q_wd).sum ≤ 8) (k : Rr C mX12_keepHits (69, L, v :: rest, M1) x) : Rr C mX12_keepHits (66, L, a0 :: qr b :: rest, M) x := g_cv (ow := 12) (e := (0, 66, 2, [883, 684, 685, 86])) (as := [a0]) (show decode cX12_keepHits 66 = .ok (.invokevirtual 178, 3) by decide +kernel) rfl rfl rfl (Or.inl rfl) rfl hb hC hw k
set_option maxRecDepth 20000 in
theorem kX12_keepHits_69 {C : QC} {x : QP} {M : QM} {L : QL} {rest : List CV} {a0 a1 : CV} {v : CV} {M1 : QM} {b : Nat} (hb : q_kd M b = (1, 7)) (hC : C iX7_distance [qr b, a0, a1] M (some v) M1) (hw : (rest.map q_wd).sum ≤ 8) (k : Rr C mX12_keepHits (72, L, v :: rest, M1) x) : Rr C mX12_keepHits (69, L, a1 :: a0 :: qr b :: rest, M) x := g_cv (ow := 12) (e := (0, 131, 7, [971, 972, 973, 89])) (as := [a0, a1]) (show decode cX12_keepHits 69 = .ok (.invokevirtual 243, 3) by decide +kernel) rfl rfl rfl (Or.inl rfl) rfl hb hC hw k
set_option maxRecDepth 20000 in
theorem kX12_keepHits_72 {C : QC} {x : QP} {M : QM} {st : List CV} {L : QL} {l0 l1 l2 l3 l4 l5 l6 : Option CV} {z : Int} : Rr C mX12_keepHits (72, [l0, l1, l2, l3, some (qi z), l5, l6], st, M) x = Rr C mX12_keepHits (74, [l0, l1, l2, l3, some (qi z), l5, l6], qi z :: st, M) x := g_pl (show decode cX12_keepHits 72 = .ok (.iload 4, 2) by decide +kernel) rfl
set_option maxRecDepth 20000 in
theorem kX12_keepHits_74 {C : QC} {x : QP} {M : QM} {st : List CV} {L : QL} {a b : Int} (ha1 : -2147483648 ≤ a) (ha2 : a < 2147483648) (hb1 : -2147483648 ≤ b) (hb2 : b < 2147483648) : Rr C mX12_keepHits (74, L, qi b :: qi a :: st, M) x = (if a = b then Rr C mX12_keepHits (77, L, st, M) x else Rr C mX12_keepHits (98, L, st, M) x) := (g_icmp (show decode cX12_keepHits 74 = .ok (.if_icmp .ne 24, 3) by decide +kernel) rfl ha1 ha2 hb1 hb2).trans (g_itn c_ne)
set_option maxRecDepth 20000 in
theorem kX12_keepHits_77 {C : QC} {x : QP} {M : QM} {st : List CV} {L : QL} {l0 l1 l2 l3 l4 l5 l6 : Option CV} {r : Option Nat} : Rr C mX12_keepHits (77, [some (.inr (.inr r)), l1, l2, l3, l4, l5, l6], st, M) x = Rr C mX12_keepHits (78, [some (.inr (.inr r)), l1, l2, l3, l4, l5, l6], .inr (.inr r) :: st, M) x := g_pl (show decode cX12_keepHits 77 = .ok (.aload_n 0, 1) by decide +kernel) rfl
set_option maxRecDepth 20000 in
theorem kX12_keepHits_78 {C : QC} {x : QP} {M : QM} {st : List CV} {L : QL} {a : Nat} (hk : q_kd M a = (1, 12)) : Rr C mX12_keepHits (78, L, qr a :: st, M) x = Rr C mX12_keepHits (81, L, q_fv M a 12 :: st, M) x := g_getf (ow := 12) (e := (12, 12, RX12, 391, 0)) (show decode cX12_keepHits 78 = .ok (.getfield 76, 3) by decide +kernel) rfl hk
set_option maxRecDepth 20000 in
theorem kX12_keepHits_81 {C : QC} {x : QP} {M : QM} {st : List CV} {L : QL} {l0 l1 l2 l3 l4 l5 l6 : Option CV} {r : Option Nat} : Rr C mX12_keepHits (81, [some (.inr (.inr r)), l1, l2, l3, l4, l5, l6], st, M) x = Rr C mX12_keepHits (82, [some (.inr (.inr r)), l1, l2, l3, l4, l5, l6], .inr (.inr r) :: st, M) x := g_pl (show decode cX12_keepHits 81 = .ok (.aload_n 0, 1) by decide +kernel) rfl
set_option maxRecDepth 20000 in
theorem kX12_keepHits_82 {C : QC} {x : QP} {M : QM} {st : List CV} {L : QL} {a : Nat} (hk : q_kd M a = (1, 12)) : Rr C mX12_keepHits (82, L, qr a :: st, M) x = Rr C mX12_keepHits (85, L, q_fv M a 13 :: st, M) x := g_getf (ow := 12) (e := (12, 13, RX12, 392, 0)) (show decode cX12_keepHits 82 = .ok (.getfield 79, 3) by decide +kernel) rfl hk
set_option maxRecDepth 20000 in
theorem kX12_keepHits_85 {C : QC} {x : QP} {M : QM} {st : List CV} {L : QL} {l0 l1 l2 l3 l4 l5 l6 : Option CV} {z : Int} : Rr C mX12_keepHits (85, [l0, l1, l2, l3, l4, some (qi z), l6], st, M) x = Rr C mX12_keepHits (87, [l0, l1, l2, l3, l4, some (qi z), l6], qi z :: st, M) x := g_pl (show decode cX12_keepHits 85 = .ok (.iload 5, 2) by decide +kernel) rfl
set_option maxRecDepth 20000 in
theorem kX12_keepHits_87 {C : QC} {x : QP} {M : QM} {st : List CV} {L : QL} {a : Nat} {j v : Int} (hk : (q_kd M a).1 = 2) (h0 : 0 ≤ j) (h1 : j < ((q_kd M a).2 : Int)) : Rr C mX12_keepHits (87, L, qi v :: qi j :: qr a :: st, M) x = Rr C mX12_keepHits (88, L, st, q_wr M a j.toNat (qi v)) x := g_iast (show decode cX12_keepHits 87 = .ok (.iastore, 1) by decide +kernel) hk h0 h1
set_option maxRecDepth 20000 in
theorem kX12_keepHits_88 {C : QC} {x : QP} {M : QM} {st : List CV} {L : QL} {l0 l1 l2 l3 l4 l5 l6 : Option CV} {r : Option Nat} : Rr C mX12_keepHits (88, [some (.inr (.inr r)), l1, l2, l3, l4, l5, l6], st, M) x = Rr C mX12_keepHits (89, [some (.inr (.inr r)), l1, l2, l3, l4, l5, l6], .inr (.inr r) :: st, M) x := g_pl (show decode cX12_keepHits 88 = .ok (.aload_n 0, 1) by decide +kernel) rfl
set_option maxRecDepth 20000 in
theorem kX12_keepHits_89i {C : QC} {x : QP} {M : QM} {st : List CV} {L : QL} {a : Int} : Rr C mX12_keepHits (89, L, qi a :: st, M) x = Rr C mX12_keepHits (90, L, qi a :: qi a :: st, M) x := g_pl (show decode cX12_keepHits 89 = .ok (.dup, 1) by decide +kernel) rfl
set_option maxRecDepth 20000 in
theorem kX12_keepHits_89r {C : QC} {x : QP} {M : QM} {st : List CV} {L : QL} {a : Option Nat} : Rr C mX12_keepHits (89, L, .inr (.inr a) :: st, M) x = Rr C mX12_keepHits (90, L, .inr (.inr a) :: .inr (.inr a) :: st, M) x := g_pl (show decode cX12_keepHits 89 = .ok (.dup, 1) by decide +kernel) rfl
set_option maxRecDepth 20000 in
theorem kX12_keepHits_90 {C : QC} {x : QP} {M : QM} {st : List CV} {L : QL} {a : Nat} (hk : q_kd M a = (1, 12)) : Rr C mX12_keepHits (90, L, qr a :: st, M) x = Rr C mX12_keepHits (93, L, q_fv M a 13 :: st, M) x := g_getf (ow := 12) (e := (12, 13, RX12, 392, 0)) (show decode cX12_keepHits 90 = .ok (.getfield 79, 3) by decide +kernel) rfl hk
set_option maxRecDepth 20000 in
theorem kX12_keepHits_93 {C : QC} {x : QP} {M : QM} {st : List CV} {L : QL} : Rr C mX12_keepHits (93, L, st, M) x = Rr C mX12_keepHits (94, L, qi 1 :: st, M) x := g_pl (show decode cX12_keepHits 93 = .ok (.iconst 1, 1) by decide +kernel) rfl
set_option maxRecDepth 20000 in
theorem kX12_keepHits_94 {C : QC} {x : QP} {M : QM} {st : List CV} {L : QL} {a b : Int} : Rr C mX12_keepHits (94, L, qi b :: qi a :: st, M) x = Rr C mX12_keepHits (95, L, qi (a + b) :: st, M) x := g_pl (show decode cX12_keepHits 94 = .ok (.iadd, 1) by decide +kernel) rfl
set_option maxRecDepth 20000 in
theorem kX12_keepHits_95 {C : QC} {x : QP} {M : QM} {st : List CV} {L : QL} {z : Int} {a : Nat} (hk : q_kd M a = (1, 12)) : Rr C mX12_keepHits (95, L, qi z :: qr a :: st, M) x = Rr C mX12_keepHits (98, L, st, q_wr M a 13 (qi z)) x := g_putf (ow := 12) (ini := false) (e := (12, 13, RX12, 392, 0)) (r := (RX12, TX12, 14)) (t := tyX12) (show decode cX12_keepHits 95 = .ok (.putfield 79, 3) by decide +kernel) rfl rfl rfl rfl (by decide +kernel) hk
set_option maxRecDepth 20000 in
theorem kX12_keepHits_98 {C : QC} {x : QP} {M : QM} {st : List CV} {L : QL} {l0 l1 l2 l3 l4 l5 l6 : Option CV} {z : Int} : Rr C mX12_keepHits (98, [l0, l1, l2, l3, l4, some (qi z), l6], st, M) x = Rr C mX12_keepHits (101, [l0, l1, l2, l3, q_cut l4, some (qi (z + 1)), l6], st, M) x := g_pl (show decode cX12_keepHits 98 = .ok (.iinc 5 1, 3) by decide +kernel) rfl
set_option maxRecDepth 20000 in
theorem kX12_keepHits_101 {C : QC} {x : QP} {M : QM} {st : List CV} {L : QL} : Rr C mX12_keepHits (101, L, st, M) x = Rr C mX12_keepHits (3, L, st, M) x := g_pl (show decode cX12_keepHits 101 = .ok (.goto (-98), 3) by decide +kernel) rfl
set_option maxRecDepth 20000 in
theorem kX12_keepHits_104 {C : QC} {x : QP} {M : QM} {st : List CV} {L : QL} : Rr C mX12_keepHits (104, L, [], M) x = x none M := g_vret (show decode cX12_keepHits 104 = .ok (.return_, 1) by decide +kernel)
set_option maxRecDepth 20000 in
theorem eX12_keepHits {d : Nat} {M : QM} {x : QP} {a : Nat} {v0 : Int} {v1 : Int} {v2 : Int} : q_T (d + 1) iX12_keepHits [qr a, ql v0, qi v1, qi v2] M x = Rr (q_C d) mX12_keepHits (0, [some (qr a), some (ql v0), none, some (qi v1), some (qi v2), none, none], [], M) x := g_entryT (e := _) rfl (Nat.le_of_ble_eq_true rfl) rfl rfl
def mX12_sought : QI := (12, cX12_sought, false, some .int)
set_option maxRecDepth 20000 in
theorem kX12_sought_0 {C : QC} {x : QP} {M : QM} {st : List CV} {L : QL} {l0 l1 : Option CV} {z : Int} : Rr C mX12_sought (0, [l0, some (qi z)], st, M) x = Rr C mX12_sought (1, [l0, some (qi z)], qi z :: st, M) x := g_pl (show decode cX12_sought 0 = .ok (.iload_n 1, 1) by decide +kernel) rfl
set_option maxRecDepth 20000 in
theorem kX12_sought_1 {C : QC} {x : QP} {M : QM} {st : List CV} {L : QL} {a : Int} (ha1 : -2147483648 ≤ a) (ha2 : a < 2147483648) : Rr C mX12_sought (1, L, qi a :: st, M) x = (if a < 0 then Rr C mX12_sought (4, L, st, M) x else Rr C mX12_sought (6, L, st, M) x) := (g_if (show decode cX12_sought 1 = .ok (.ifCond .ge 5, 3) by decide +kernel) rfl ha1 ha2).trans (g_itn c_ge)
set_option maxRecDepth 20000 in
theorem kX12_sought_4 {C : QC} {x : QP} {M : QM} {st : List CV} {L : QL} : Rr C mX12_sought (4, L, st, M) x = Rr C mX12_sought (5, L, qi (-1) :: st, M) x := g_pl (show decode cX12_sought 4 = .ok (.iconst (-1), 1) by decide +kernel) rfl
set_option maxRecDepth 20000 in
theorem kX12_sought_5 {C : QC} {x : QP} {M : QM} {st : List CV} {L : QL} {z : Int} : Rr C mX12_sought (5, L, [qi z], M) x = x (some (qi z)) M := g_iret (show decode cX12_sought 5 = .ok (.ireturn, 1) by decide +kernel) rfl
set_option maxRecDepth 20000 in
theorem kX12_sought_6 {C : QC} {x : QP} {M : QM} {st : List CV} {L : QL} {l0 l1 : Option CV} {z : Int} : Rr C mX12_sought (6, [l0, some (qi z)], st, M) x = Rr C mX12_sought (7, [l0, some (qi z)], qi z :: st, M) x := g_pl (show decode cX12_sought 6 = .ok (.iload_n 1, 1) by decide +kernel) rfl
set_option maxRecDepth 20000 in
theorem kX12_sought_7 {C : QC} {x : QP} {M : QM} {st : List CV} {L : QL} {l0 l1 : Option CV} {r : Option Nat} : Rr C mX12_sought (7, [some (.inr (.inr r)), l1], st, M) x = Rr C mX12_sought (8, [some (.inr (.inr r)), l1], .inr (.inr r) :: st, M) x := g_pl (show decode cX12_sought 7 = .ok (.aload_n 0, 1) by decide +kernel) rfl
set_option maxRecDepth 20000 in
theorem kX12_sought_8 {C : QC} {x : QP} {M : QM} {st : List CV} {L : QL} {a : Nat} (hk : q_kd M a = (1, 12)) : Rr C mX12_sought (8, L, qr a :: st, M) x = Rr C mX12_sought (11, L, q_fv M a 13 :: st, M) x := g_getf (ow := 12) (e := (12, 13, RX12, 392, 0)) (show decode cX12_sought 8 = .ok (.getfield 79, 3) by decide +kernel) rfl hk
set_option maxRecDepth 20000 in
theorem kX12_sought_11 {C : QC} {x : QP} {M : QM} {st : List CV} {L : QL} {a b : Int} (ha1 : -2147483648 ≤ a) (ha2 : a < 2147483648) (hb1 : -2147483648 ≤ b) (hb2 : b < 2147483648) : Rr C mX12_sought (11, L, qi b :: qi a :: st, M) x = (if a < b then Rr C mX12_sought (14, L, st, M) x else Rr C mX12_sought (32, L, st, M) x) := (g_icmp (show decode cX12_sought 11 = .ok (.if_icmp .ge 21, 3) by decide +kernel) rfl ha1 ha2 hb1 hb2).trans (g_itn c_ge)
set_option maxRecDepth 20000 in
theorem kX12_sought_14 {C : QC} {x : QP} {M : QM} {st : List CV} {L : QL} {l0 l1 : Option CV} {z : Int} : Rr C mX12_sought (14, [l0, some (qi z)], st, M) x = Rr C mX12_sought (15, [l0, some (qi z)], qi z :: st, M) x := g_pl (show decode cX12_sought 14 = .ok (.iload_n 1, 1) by decide +kernel) rfl
set_option maxRecDepth 20000 in
theorem kX12_sought_15 {C : QC} {x : QP} {M : QM} {st : List CV} {L : QL} {l0 l1 : Option CV} {r : Option Nat} : Rr C mX12_sought (15, [some (.inr (.inr r)), l1], st, M) x = Rr C mX12_sought (16, [some (.inr (.inr r)), l1], .inr (.inr r) :: st, M) x := g_pl (show decode cX12_sought 15 = .ok (.aload_n 0, 1) by decide +kernel) rfl
set_option maxRecDepth 20000 in
theorem kX12_sought_16 {C : QC} {x : QP} {M : QM} {st : List CV} {L : QL} {a : Nat} (hk : q_kd M a = (1, 12)) : Rr C mX12_sought (16, L, qr a :: st, M) x = Rr C mX12_sought (19, L, q_fv M a 12 :: st, M) x := g_getf (ow := 12) (e := (12, 12, RX12, 391, 0)) (show decode cX12_sought 16 = .ok (.getfield 76, 3) by decide +kernel) rfl hk
set_option maxRecDepth 20000 in
theorem kX12_sought_19 {C : QC} {x : QP} {M : QM} {st : List CV} {L : QL} {a : Nat} (h1 : 2 ≤ (q_kd M a).1) (h2 : (q_kd M a).1 ≤ 9) : Rr C mX12_sought (19, L, qr a :: st, M) x = Rr C mX12_sought (20, L, qi (q_kd M a).2 :: st, M) x := g_alen (show decode cX12_sought 19 = .ok (.arraylength, 1) by decide +kernel) h1 h2
set_option maxRecDepth 20000 in
theorem kX12_sought_20 {C : QC} {x : QP} {M : QM} {st : List CV} {L : QL} {a b : Int} (ha1 : -2147483648 ≤ a) (ha2 : a < 2147483648) (hb1 : -2147483648 ≤ b) (hb2 : b < 2147483648) : Rr C mX12_sought (20, L, qi b :: qi a :: st, M) x = (if a < b then Rr C mX12_sought (23, L, st, M) x else Rr C mX12_sought (32, L, st, M) x) := (g_icmp (show decode cX12_sought 20 = .ok (.if_icmp .ge 12, 3) by decide +kernel) rfl ha1 ha2 hb1 hb2).trans (g_itn c_ge)
set_option maxRecDepth 20000 in
theorem kX12_sought_23 {C : QC} {x : QP} {M : QM} {st : List CV} {L : QL} {l0 l1 : Option CV} {r : Option Nat} : Rr C mX12_sought (23, [some (.inr (.inr r)), l1], st, M) x = Rr C mX12_sought (24, [some (.inr (.inr r)), l1], .inr (.inr r) :: st, M) x := g_pl (show decode cX12_sought 23 = .ok (.aload_n 0, 1) by decide +kernel) rfl
set_option maxRecDepth 20000 in
theorem kX12_sought_24 {C : QC} {x : QP} {M : QM} {st : List CV} {L : QL} {a : Nat} (hk : q_kd M a = (1, 12)) : Rr C mX12_sought (24, L, qr a :: st, M) x = Rr C mX12_sought (27, L, q_fv M a 12 :: st, M) x := g_getf (ow := 12) (e := (12, 12, RX12, 391, 0)) (show decode cX12_sought 24 = .ok (.getfield 76, 3) by decide +kernel) rfl hk
set_option maxRecDepth 20000 in
theorem kX12_sought_27 {C : QC} {x : QP} {M : QM} {st : List CV} {L : QL} {l0 l1 : Option CV} {z : Int} : Rr C mX12_sought (27, [l0, some (qi z)], st, M) x = Rr C mX12_sought (28, [l0, some (qi z)], qi z :: st, M) x := g_pl (show decode cX12_sought 27 = .ok (.iload_n 1, 1) by decide +kernel) rfl
set_option maxRecDepth 20000 in
theorem kX12_sought_28 {C : QC} {x : QP} {M : QM} {st : List CV} {L : QL} {a : Nat} {j : Int} (hk : (q_kd M a).1 = 2) (h0 : 0 ≤ j) (h1 : j < ((q_kd M a).2 : Int)) : Rr C mX12_sought (28, L, qi j :: qr a :: st, M) x = Rr C mX12_sought (29, L, q_fv M a j.toNat :: st, M) x := g_iald (show decode cX12_sought 28 = .ok (.iaload, 1) by decide +kernel) hk h0 h1
set_option maxRecDepth 20000 in
theorem kX12_sought_29 {C : QC} {x : QP} {M : QM} {st : List CV} {L : QL} : Rr C mX12_sought (29, L, st, M) x = Rr C mX12_sought (34, L, st, M) x := g_pl (show decode cX12_sought 29 = .ok (.goto 5, 3) by decide +kernel) rfl
set_option maxRecDepth 20000 in
theorem kX12_sought_32 {C : QC} {x : QP} {M : QM} {st : List CV} {L : QL} : Rr C mX12_sought (32, L, st, M) x = Rr C mX12_sought (34, L, qi (-5) :: st, M) x := g_pl (show decode cX12_sought 32 = .ok (.bipush (-5), 2) by decide +kernel) rfl
set_option maxRecDepth 20000 in
theorem kX12_sought_34 {C : QC} {x : QP} {M : QM} {st : List CV} {L : QL} {z : Int} : Rr C mX12_sought (34, L, [qi z], M) x = x (some (qi z)) M := g_iret (show decode cX12_sought 34 = .ok (.ireturn, 1) by decide +kernel) rfl
set_option maxRecDepth 20000 in
theorem eX12_sought {d : Nat} {M : QM} {x : QP} {a : Nat} {v0 : Int} : q_T (d + 1) iX12_sought [qr a, qi v0] M x = Rr (q_C d) mX12_sought (0, [some (qr a), some (qi v0)], [], M) x := g_entryT (e := _) rfl (Nat.le_of_ble_eq_true rfl) rfl rfl
def mX12_filter : QI := (12, cX12_filter, false, some .int)
set_option maxRecDepth 20000 in
theorem kX12_filter_0 {C : QC} {x : QP} {M : QM} {st : List CV} {L : QL} {l0 l1 l2 : Option CV} {z : Int} : Rr C mX12_filter (0, [l0, some (qi z), l2], st, M) x = Rr C mX12_filter (1, [l0, some (qi z), l2], qi z :: st, M) x := g_pl (show decode cX12_filter 0 = .ok (.iload_n 1, 1) by decide +kernel) rfl
set_option maxRecDepth 20000 in
theorem kX12_filter_1 {C : QC} {x : QP} {M : QM} {st : List CV} {L : QL} {a : Int} (ha1 : -2147483648 ≤ a) (ha2 : a < 2147483648) : Rr C mX12_filter (1, L, qi a :: st, M) x = (if a < 0 then Rr C mX12_filter (9, L, st, M) x else Rr C mX12_filter (4, L, st, M) x) := (g_if (show decode cX12_filter 1 = .ok (.ifCond .lt 8, 3) by decide +kernel) rfl ha1 ha2).trans (g_ite c_lt)
set_option maxRecDepth 20000 in
theorem kX12_filter_4 {C : QC} {x : QP} {M : QM} {st : List CV} {L : QL} {l0 l1 l2 : Option CV} {z : Int} : Rr C mX12_filter (4, [l0, some (qi z), l2], st, M) x = Rr C mX12_filter (5, [l0, some (qi z), l2], qi z :: st, M) x := g_pl (show decode cX12_filter 4 = .ok (.iload_n 1, 1) by decide +kernel) rfl
set_option maxRecDepth 20000 in
theorem kX12_filter_5 {C : QC} {x : QP} {M : QM} {st : List CV} {L : QL} : Rr C mX12_filter (5, L, st, M) x = Rr C mX12_filter (6, L, qi 5 :: st, M) x := g_pl (show decode cX12_filter 5 = .ok (.iconst 5, 1) by decide +kernel) rfl
set_option maxRecDepth 20000 in
theorem kX12_filter_6 {C : QC} {x : QP} {M : QM} {st : List CV} {L : QL} {a b : Int} (ha1 : -2147483648 ≤ a) (ha2 : a < 2147483648) (hb1 : -2147483648 ≤ b) (hb2 : b < 2147483648) : Rr C mX12_filter (6, L, qi b :: qi a :: st, M) x = (if a < b then Rr C mX12_filter (11, L, st, M) x else Rr C mX12_filter (9, L, st, M) x) := (g_icmp (show decode cX12_filter 6 = .ok (.if_icmp .lt 5, 3) by decide +kernel) rfl ha1 ha2 hb1 hb2).trans (g_ite c_lt)
set_option maxRecDepth 20000 in
theorem kX12_filter_9 {C : QC} {x : QP} {M : QM} {st : List CV} {L : QL} : Rr C mX12_filter (9, L, st, M) x = Rr C mX12_filter (10, L, qi (-1) :: st, M) x := g_pl (show decode cX12_filter 9 = .ok (.iconst (-1), 1) by decide +kernel) rfl
set_option maxRecDepth 20000 in
theorem kX12_filter_10 {C : QC} {x : QP} {M : QM} {st : List CV} {L : QL} {z : Int} : Rr C mX12_filter (10, L, [qi z], M) x = x (some (qi z)) M := g_iret (show decode cX12_filter 10 = .ok (.ireturn, 1) by decide +kernel) rfl
set_option maxRecDepth 20000 in
theorem kX12_filter_11 {C : QC} {x : QP} {M : QM} {st : List CV} {L : QL} {l0 l1 l2 : Option CV} {z : Int} : Rr C mX12_filter (11, [l0, l1, some (qi z)], st, M) x = Rr C mX12_filter (12, [l0, l1, some (qi z)], qi z :: st, M) x := g_pl (show decode cX12_filter 11 = .ok (.iload_n 2, 1) by decide +kernel) rfl
set_option maxRecDepth 20000 in
theorem kX12_filter_12 {C : QC} {x : QP} {M : QM} {st : List CV} {L : QL} {a : Int} (ha1 : -2147483648 ≤ a) (ha2 : a < 2147483648) : Rr C mX12_filter (12, L, qi a :: st, M) x = (if a < 0 then Rr C mX12_filter (22, L, st, M) x else Rr C mX12_filter (15, L, st, M) x) := (g_if (show decode cX12_filter 12 = .ok (.ifCond .lt 10, 3) by decide +kernel) rfl ha1 ha2).trans (g_ite c_lt)
set_option maxRecDepth 20000 in
theorem kX12_filter_15 {C : QC} {x : QP} {M : QM} {st : List CV} {L : QL} {l0 l1 l2 : Option CV} {z : Int} : Rr C mX12_filter (15, [l0, l1, some (qi z)], st, M) x = Rr C mX12_filter (16, [l0, l1, some (qi z)], qi z :: st, M) x := g_pl (show decode cX12_filter 15 = .ok (.iload_n 2, 1) by decide +kernel) rfl
set_option maxRecDepth 20000 in
theorem kX12_filter_16 {C : QC} {x : QP} {M : QM} {st : List CV} {L : QL} : Rr C mX12_filter (16, L, st, M) x = Rr C mX12_filter (19, L, qi 10000 :: st, M) x := g_pl (show decode cX12_filter 16 = .ok (.sipush 10000, 3) by decide +kernel) rfl
set_option maxRecDepth 20000 in
theorem kX12_filter_19 {C : QC} {x : QP} {M : QM} {st : List CV} {L : QL} {a b : Int} (ha1 : -2147483648 ≤ a) (ha2 : a < 2147483648) (hb1 : -2147483648 ≤ b) (hb2 : b < 2147483648) : Rr C mX12_filter (19, L, qi b :: qi a :: st, M) x = (if a < b then Rr C mX12_filter (25, L, st, M) x else Rr C mX12_filter (22, L, st, M) x) := (g_icmp (show decode cX12_filter 19 = .ok (.if_icmp .lt 6, 3) by decide +kernel) rfl ha1 ha2 hb1 hb2).trans (g_ite c_lt)
set_option maxRecDepth 20000 in
theorem kX12_filter_22 {C : QC} {x : QP} {M : QM} {st : List CV} {L : QL} : Rr C mX12_filter (22, L, st, M) x = Rr C mX12_filter (24, L, qi (-2) :: st, M) x := g_pl (show decode cX12_filter 22 = .ok (.bipush (-2), 2) by decide +kernel) rfl
set_option maxRecDepth 20000 in
theorem kX12_filter_24 {C : QC} {x : QP} {M : QM} {st : List CV} {L : QL} {z : Int} : Rr C mX12_filter (24, L, [qi z], M) x = x (some (qi z)) M := g_iret (show decode cX12_filter 24 = .ok (.ireturn, 1) by decide +kernel) rfl
set_option maxRecDepth 20000 in
theorem kX12_filter_25 {C : QC} {x : QP} {M : QM} {st : List CV} {L : QL} {l0 l1 l2 : Option CV} {r : Option Nat} : Rr C mX12_filter (25, [some (.inr (.inr r)), l1, l2], st, M) x = Rr C mX12_filter (26, [some (.inr (.inr r)), l1, l2], .inr (.inr r) :: st, M) x := g_pl (show decode cX12_filter 25 = .ok (.aload_n 0, 1) by decide +kernel) rfl
set_option maxRecDepth 20000 in
theorem kX12_filter_26 {C : QC} {x : QP} {M : QM} {st : List CV} {L : QL} {a : Nat} (hk : q_kd M a = (1, 12)) : Rr C mX12_filter (26, L, qr a :: st, M) x = Rr C mX12_filter (29, L, q_fv M a 2 :: st, M) x := g_getf (ow := 12) (e := (12, 2, RX12, 381, 0)) (show decode cX12_filter 26 = .ok (.getfield 26, 3) by decide +kernel) rfl hk
set_option maxRecDepth 20000 in
theorem kX12_filter_29 {C : QC} {x : QP} {M : QM} {st : List CV} {L : QL} {a : Nat} (hk : q_kd M a = (1, 11)) : Rr C mX12_filter (29, L, qr a :: st, M) x = Rr C mX12_filter (32, L, q_fv M a 0 :: st, M) x := g_getf (ow := 12) (e := (11, 0, RX11, 315, 0)) (show decode cX12_filter 29 = .ok (.getfield 249, 3) by decide +kernel) rfl hk
set_option maxRecDepth 20000 in
theorem kX12_filter_32 {C : QC} {x : QP} {M : QM} {L : QL} {rest : List CV} {v : CV} {M1 : QM} {b : Nat} (hb : q_kd M b = (1, 0)) (hC : C iX0_size [qr b] M (some v) M1) (hw : (rest.map q_wd).sum ≤ 8) (k : Rr C mX12_filter (35, L, v :: rest, M1) x) : Rr C mX12_filter (32, L, qr b :: rest, M) x := g_cv (ow := 12) (e := (0, 135, 0, [990, 991, 992, 84])) (as := []) (show decode cX12_filter 32 = .ok (.invokevirtual 253, 3) by decide +kernel) rfl rfl rfl (Or.inl rfl) rfl hb hC hw k
set_option maxRecDepth 20000 in
theorem kX12_filter_35 {C : QC} {x : QP} {M : QM} {st : List CV} {L : QL} : Rr C mX12_filter (35, L, st, M) x = Rr C mX12_filter (37, L, qi 8 :: st, M) x := g_pl (show decode cX12_filter 35 = .ok (.bipush 8, 2) by decide +kernel) rfl
set_option maxRecDepth 20000 in
theorem kX12_filter_37 {C : QC} {x : QP} {M : QM} {st : List CV} {L : QL} {a b : Int} (ha1 : -2147483648 ≤ a) (ha2 : a < 2147483648) (hb1 : -2147483648 ≤ b) (hb2 : b < 2147483648) : Rr C mX12_filter (37, L, qi b :: qi a :: st, M) x = (if a < b then Rr C mX12_filter (43, L, st, M) x else Rr C mX12_filter (40, L, st, M) x) := (g_icmp (show decode cX12_filter 37 = .ok (.if_icmp .lt 6, 3) by decide +kernel) rfl ha1 ha2 hb1 hb2).trans (g_ite c_lt)
set_option maxRecDepth 20000 in
theorem kX12_filter_40 {C : QC} {x : QP} {M : QM} {st : List CV} {L : QL} : Rr C mX12_filter (40, L, st, M) x = Rr C mX12_filter (42, L, qi (-4) :: st, M) x := g_pl (show decode cX12_filter 40 = .ok (.bipush (-4), 2) by decide +kernel) rfl
set_option maxRecDepth 20000 in
theorem kX12_filter_42 {C : QC} {x : QP} {M : QM} {st : List CV} {L : QL} {z : Int} : Rr C mX12_filter (42, L, [qi z], M) x = x (some (qi z)) M := g_iret (show decode cX12_filter 42 = .ok (.ireturn, 1) by decide +kernel) rfl
set_option maxRecDepth 20000 in
theorem kX12_filter_43 {C : QC} {x : QP} {M : QM} {st : List CV} {L : QL} {l0 l1 l2 : Option CV} {r : Option Nat} : Rr C mX12_filter (43, [some (.inr (.inr r)), l1, l2], st, M) x = Rr C mX12_filter (44, [some (.inr (.inr r)), l1, l2], .inr (.inr r) :: st, M) x := g_pl (show decode cX12_filter 43 = .ok (.aload_n 0, 1) by decide +kernel) rfl
set_option maxRecDepth 20000 in
theorem kX12_filter_44 {C : QC} {x : QP} {M : QM} {st : List CV} {L : QL} : Rr C mX12_filter (44, L, st, M) x = Rr C mX12_filter (47, L, qr (q_top M) :: st, q_al M (1, 3) 5 (fun k => q_dv (tyX3 k))) x := g_new (ow := 12) (e := (3, 451, 452, 96)) (r := (RX3, TX3, 5)) (t := tyX3) (show decode cX12_filter 44 = .ok (.new 98, 3) by decide +kernel) rfl rfl rfl
set_option maxRecDepth 20000 in
theorem kX12_filter_47i {C : QC} {x : QP} {M : QM} {st : List CV} {L : QL} {a : Int} : Rr C mX12_filter (47, L, qi a :: st, M) x = Rr C mX12_filter (48, L, qi a :: qi a :: st, M) x := g_pl (show decode cX12_filter 47 = .ok (.dup, 1) by decide +kernel) rfl
set_option maxRecDepth 20000 in
theorem kX12_filter_47r {C : QC} {x : QP} {M : QM} {st : List CV} {L : QL} {a : Option Nat} : Rr C mX12_filter (47, L, .inr (.inr a) :: st, M) x = Rr C mX12_filter (48, L, .inr (.inr a) :: .inr (.inr a) :: st, M) x := g_pl (show decode cX12_filter 47 = .ok (.dup, 1) by decide +kernel) rfl
set_option maxRecDepth 20000 in
theorem kX12_filter_48 {C : QC} {x : QP} {M : QM} {st : List CV} {L : QL} : Rr C mX12_filter (48, L, st, M) x = Rr C mX12_filter (50, L, qi 6 :: st, M) x := g_pl (show decode cX12_filter 48 = .ok (.bipush 6, 2) by decide +kernel) rfl
set_option maxRecDepth 20000 in
theorem kX12_filter_50 {C : QC} {x : QP} {M : QM} {st : List CV} {L : QL} {l0 l1 l2 : Option CV} {z : Int} : Rr C mX12_filter (50, [l0, some (qi z), l2], st, M) x = Rr C mX12_filter (51, [l0, some (qi z), l2], qi z :: st, M) x := g_pl (show decode cX12_filter 50 = .ok (.iload_n 1, 1) by decide +kernel) rfl
set_option maxRecDepth 20000 in
theorem kX12_filter_51 {C : QC} {x : QP} {M : QM} {st : List CV} {L : QL} {l0 l1 l2 : Option CV} {z : Int} : Rr C mX12_filter (51, [l0, l1, some (qi z)], st, M) x = Rr C mX12_filter (52, [l0, l1, some (qi z)], qi z :: st, M) x := g_pl (show decode cX12_filter 51 = .ok (.iload_n 2, 1) by decide +kernel) rfl
set_option maxRecDepth 20000 in
theorem kX12_filter_52 {C : QC} {x : QP} {M : QM} {st : List CV} {L : QL} : Rr C mX12_filter (52, L, st, M) x = Rr C mX12_filter (53, L, qi 0 :: st, M) x := g_pl (show decode cX12_filter 52 = .ok (.iconst 0, 1) by decide +kernel) rfl
set_option maxRecDepth 20000 in
theorem kX12_filter_53 {C : QC} {x : QP} {M : QM} {st : List CV} {L : QL} : Rr C mX12_filter (53, L, st, M) x = Rr C mX12_filter (54, L, ql 0 :: st, M) x := g_pl (show decode cX12_filter 53 = .ok (.lconst 0, 1) by decide +kernel) rfl
set_option maxRecDepth 20000 in
theorem kX12_filter_54 {C : QC} {x : QP} {M : QM} {L : QL} {rest : List CV} {a0 a1 a2 a3 a4 : CV} {M1 : QM} {b : Nat} (hC : C iX3_init [qr b, a0, a1, a2, a3, a4] M none M1) (hw : (rest.map q_wd).sum ≤ 8) (k : Rr C mX12_filter (57, L, rest, M1) x) : Rr C mX12_filter (54, L, a4 :: a3 :: a2 :: a1 :: a0 :: qr b :: rest, M) x := g_ci (ow := 12) (e := (3, 23, 0, [453, 454, 96])) (as := [a0, a1, a2, a3, a4]) (show decode cX12_filter 54 = .ok (.invokespecial 100, 3) by decide +kernel) rfl rfl rfl (Or.inl (Or.inl rfl)) rfl hC hw k
set_option maxRecDepth 20000 in
theorem kX12_filter_57 {C : QC} {x : QP} {M : QM} {L : QL} {rest : List CV} {a0 : CV} {v : CV} {M1 : QM} {b : Nat} (hb : q_kd M b = (1, 12)) (hC : C iX12_tell [qr b, a0] M (some v) M1) (hw : (rest.map q_wd).sum ≤ 8) (k : Rr C mX12_filter (60, L, v :: rest, M1) x) : Rr C mX12_filter (57, L, a0 :: qr b :: rest, M) x := g_cv (ow := 12) (e := (0, 24, 12, [483, 485, 0, 77])) (as := [a0]) (show decode cX12_filter 57 = .ok (.invokevirtual 103, 3) by decide +kernel) rfl rfl rfl (Or.inl rfl) rfl hb hC hw k
set_option maxRecDepth 20000 in
theorem kX12_filter_60 {C : QC} {x : QP} {M : QM} {st : List CV} {L : QL} {z : Int} : Rr C mX12_filter (60, L, [qi z], M) x = x (some (qi z)) M := g_iret (show decode cX12_filter 60 = .ok (.ireturn, 1) by decide +kernel) rfl
set_option maxRecDepth 20000 in
theorem eX12_filter {d : Nat} {M : QM} {x : QP} {a : Nat} {v0 : Int} {v1 : Int} : q_T (d + 1) iX12_filter [qr a, qi v0, qi v1] M x = Rr (q_C d) mX12_filter (0, [some (qr a), some (qi v0), some (qi v1)], [], M) x := g_entryT (e := _) rfl (Nat.le_of_ble_eq_true rfl) rfl rfl
def mX12_join : QI := (12, cX12_join, false, some .int)
set_option maxRecDepth 20000 in
theorem kX12_join_0 {C : QC} {x : QP} {M : QM} {st : List CV} {L : QL} {l0 l1 l2 l3 : Option CV} {z : Int} : Rr C mX12_join (0, [l0, some (qi z), l2, l3], st, M) x = Rr C mX12_join (1, [l0, some (qi z), l2, l3], qi z :: st, M) x := g_pl (show decode cX12_join 0 = .ok (.iload_n 1, 1) by decide +kernel) rfl
set_option maxRecDepth 20000 in
theorem kX12_join_1 {C : QC} {x : QP} {M : QM} {st : List CV} {L : QL} {a : Int} (ha1 : -2147483648 ≤ a) (ha2 : a < 2147483648) : Rr C mX12_join (1, L, qi a :: st, M) x = (if a < 0 then Rr C mX12_join (23, L, st, M) x else Rr C mX12_join (4, L, st, M) x) := (g_if (show decode cX12_join 1 = .ok (.ifCond .lt 22, 3) by decide +kernel) rfl ha1 ha2).trans (g_ite c_lt)
set_option maxRecDepth 20000 in
theorem kX12_join_4 {C : QC} {x : QP} {M : QM} {st : List CV} {L : QL} {l0 l1 l2 l3 : Option CV} {z : Int} : Rr C mX12_join (4, [l0, some (qi z), l2, l3], st, M) x = Rr C mX12_join (5, [l0, some (qi z), l2, l3], qi z :: st, M) x := g_pl (show decode cX12_join 4 = .ok (.iload_n 1, 1) by decide +kernel) rfl
set_option maxRecDepth 20000 in
theorem kX12_join_5 {C : QC} {x : QP} {M : QM} {st : List CV} {L : QL} : Rr C mX12_join (5, L, st, M) x = Rr C mX12_join (6, L, qi 2 :: st, M) x := g_pl (show decode cX12_join 5 = .ok (.iconst 2, 1) by decide +kernel) rfl
set_option maxRecDepth 20000 in
theorem kX12_join_6 {C : QC} {x : QP} {M : QM} {st : List CV} {L : QL} {a b : Int} (ha1 : -2147483648 ≤ a) (ha2 : a < 2147483648) (hb1 : -2147483648 ≤ b) (hb2 : b < 2147483648) : Rr C mX12_join (6, L, qi b :: qi a :: st, M) x = (if b < a then Rr C mX12_join (23, L, st, M) x else Rr C mX12_join (9, L, st, M) x) := (g_icmp (show decode cX12_join 6 = .ok (.if_icmp .gt 17, 3) by decide +kernel) rfl ha1 ha2 hb1 hb2).trans (g_ite c_gt)
set_option maxRecDepth 20000 in
theorem kX12_join_9 {C : QC} {x : QP} {M : QM} {st : List CV} {L : QL} {l0 l1 l2 l3 : Option CV} {r : Option Nat} : Rr C mX12_join (9, [some (.inr (.inr r)), l1, l2, l3], st, M) x = Rr C mX12_join (10, [some (.inr (.inr r)), l1, l2, l3], .inr (.inr r) :: st, M) x := g_pl (show decode cX12_join 9 = .ok (.aload_n 0, 1) by decide +kernel) rfl
set_option maxRecDepth 20000 in
theorem kX12_join_10 {C : QC} {x : QP} {M : QM} {st : List CV} {L : QL} {a : Nat} (hk : q_kd M a = (1, 12)) : Rr C mX12_join (10, L, qr a :: st, M) x = Rr C mX12_join (13, L, q_fv M a 2 :: st, M) x := g_getf (ow := 12) (e := (12, 2, RX12, 381, 0)) (show decode cX12_join 10 = .ok (.getfield 26, 3) by decide +kernel) rfl hk
set_option maxRecDepth 20000 in
theorem kX12_join_13 {C : QC} {x : QP} {M : QM} {st : List CV} {L : QL} {a : Nat} (hk : q_kd M a = (1, 11)) : Rr C mX12_join (13, L, qr a :: st, M) x = Rr C mX12_join (16, L, q_fv M a 0 :: st, M) x := g_getf (ow := 12) (e := (11, 0, RX11, 315, 0)) (show decode cX12_join 13 = .ok (.getfield 249, 3) by decide +kernel) rfl hk
set_option maxRecDepth 20000 in
theorem kX12_join_16 {C : QC} {x : QP} {M : QM} {st : List CV} {L : QL} {l0 l1 l2 l3 : Option CV} {z : Int} : Rr C mX12_join (16, [l0, l1, some (qi z), l3], st, M) x = Rr C mX12_join (17, [l0, l1, some (qi z), l3], qi z :: st, M) x := g_pl (show decode cX12_join 16 = .ok (.iload_n 2, 1) by decide +kernel) rfl
set_option maxRecDepth 20000 in
theorem kX12_join_17 {C : QC} {x : QP} {M : QM} {L : QL} {rest : List CV} {a0 : CV} {v : CV} {M1 : QM} {b : Nat} (hb : q_kd M b = (1, 0)) (hC : C iX0_has [qr b, a0] M (some v) M1) (hw : (rest.map q_wd).sum ≤ 8) (k : Rr C mX12_join (20, L, v :: rest, M1) x) : Rr C mX12_join (17, L, a0 :: qr b :: rest, M) x := g_cv (ow := 12) (e := (0, 63, 0, [998, 672, 673, 84])) (as := [a0]) (show decode cX12_join 17 = .ok (.invokevirtual 254, 3) by decide +kernel) rfl rfl rfl (Or.inl rfl) rfl hb hC hw k
set_option maxRecDepth 20000 in
theorem kX12_join_20 {C : QC} {x : QP} {M : QM} {st : List CV} {L : QL} {a : Int} (ha1 : -2147483648 ≤ a) (ha2 : a < 2147483648) : Rr C mX12_join (20, L, qi a :: st, M) x = (if a = 0 then Rr C mX12_join (23, L, st, M) x else Rr C mX12_join (25, L, st, M) x) := (g_if (show decode cX12_join 20 = .ok (.ifCond .ne 5, 3) by decide +kernel) rfl ha1 ha2).trans (g_itn c_ne)
set_option maxRecDepth 20000 in
theorem kX12_join_23 {C : QC} {x : QP} {M : QM} {st : List CV} {L : QL} : Rr C mX12_join (23, L, st, M) x = Rr C mX12_join (24, L, qi (-1) :: st, M) x := g_pl (show decode cX12_join 23 = .ok (.iconst (-1), 1) by decide +kernel) rfl
set_option maxRecDepth 20000 in
theorem kX12_join_24 {C : QC} {x : QP} {M : QM} {st : List CV} {L : QL} {z : Int} : Rr C mX12_join (24, L, [qi z], M) x = x (some (qi z)) M := g_iret (show decode cX12_join 24 = .ok (.ireturn, 1) by decide +kernel) rfl
set_option maxRecDepth 20000 in
theorem kX12_join_25 {C : QC} {x : QP} {M : QM} {st : List CV} {L : QL} {l0 l1 l2 l3 : Option CV} {z : Int} : Rr C mX12_join (25, [l0, some (qi z), l2, l3], st, M) x = Rr C mX12_join (26, [l0, some (qi z), l2, l3], qi z :: st, M) x := g_pl (show decode cX12_join 25 = .ok (.iload_n 1, 1) by decide +kernel) rfl
set_option maxRecDepth 20000 in
theorem kX12_join_26 {C : QC} {x : QP} {M : QM} {st : List CV} {L : QL} : Rr C mX12_join (26, L, st, M) x = Rr C mX12_join (27, L, qi 2 :: st, M) x := g_pl (show decode cX12_join 26 = .ok (.iconst 2, 1) by decide +kernel) rfl
set_option maxRecDepth 20000 in
theorem kX12_join_27 {C : QC} {x : QP} {M : QM} {st : List CV} {L : QL} {a b : Int} (ha1 : -2147483648 ≤ a) (ha2 : a < 2147483648) (hb1 : -2147483648 ≤ b) (hb2 : b < 2147483648) : Rr C mX12_join (27, L, qi b :: qi a :: st, M) x = (if a < b then Rr C mX12_join (30, L, st, M) x else Rr C mX12_join (46, L, st, M) x) := (g_icmp (show decode cX12_join 27 = .ok (.if_icmp .ge 19, 3) by decide +kernel) rfl ha1 ha2 hb1 hb2).trans (g_itn c_ge)
set_option maxRecDepth 20000 in
theorem kX12_join_30 {C : QC} {x : QP} {M : QM} {st : List CV} {L : QL} {l0 l1 l2 l3 : Option CV} {r : Option Nat} : Rr C mX12_join (30, [some (.inr (.inr r)), l1, l2, l3], st, M) x = Rr C mX12_join (31, [some (.inr (.inr r)), l1, l2, l3], .inr (.inr r) :: st, M) x := g_pl (show decode cX12_join 30 = .ok (.aload_n 0, 1) by decide +kernel) rfl
set_option maxRecDepth 20000 in
theorem kX12_join_31 {C : QC} {x : QP} {M : QM} {st : List CV} {L : QL} {a : Nat} (hk : q_kd M a = (1, 12)) : Rr C mX12_join (31, L, qr a :: st, M) x = Rr C mX12_join (34, L, q_fv M a 2 :: st, M) x := g_getf (ow := 12) (e := (12, 2, RX12, 381, 0)) (show decode cX12_join 31 = .ok (.getfield 26, 3) by decide +kernel) rfl hk
set_option maxRecDepth 20000 in
theorem kX12_join_34 {C : QC} {x : QP} {M : QM} {st : List CV} {L : QL} {a : Nat} (hk : q_kd M a = (1, 11)) : Rr C mX12_join (34, L, qr a :: st, M) x = Rr C mX12_join (37, L, q_fv M a 0 :: st, M) x := g_getf (ow := 12) (e := (11, 0, RX11, 315, 0)) (show decode cX12_join 34 = .ok (.getfield 249, 3) by decide +kernel) rfl hk
set_option maxRecDepth 20000 in
theorem kX12_join_37 {C : QC} {x : QP} {M : QM} {st : List CV} {L : QL} {l0 l1 l2 l3 : Option CV} {z : Int} : Rr C mX12_join (37, [l0, l1, l2, some (qi z)], st, M) x = Rr C mX12_join (38, [l0, l1, l2, some (qi z)], qi z :: st, M) x := g_pl (show decode cX12_join 37 = .ok (.iload_n 3, 1) by decide +kernel) rfl
set_option maxRecDepth 20000 in
theorem kX12_join_38 {C : QC} {x : QP} {M : QM} {L : QL} {rest : List CV} {a0 : CV} {v : CV} {M1 : QM} {b : Nat} (hb : q_kd M b = (1, 0)) (hC : C iX0_has [qr b, a0] M (some v) M1) (hw : (rest.map q_wd).sum ≤ 8) (k : Rr C mX12_join (41, L, v :: rest, M1) x) : Rr C mX12_join (38, L, a0 :: qr b :: rest, M) x := g_cv (ow := 12) (e := (0, 63, 0, [998, 672, 673, 84])) (as := [a0]) (show decode cX12_join 38 = .ok (.invokevirtual 254, 3) by decide +kernel) rfl rfl rfl (Or.inl rfl) rfl hb hC hw k
set_option maxRecDepth 20000 in
theorem kX12_join_41 {C : QC} {x : QP} {M : QM} {st : List CV} {L : QL} {a : Int} (ha1 : -2147483648 ≤ a) (ha2 : a < 2147483648) : Rr C mX12_join (41, L, qi a :: st, M) x = (if a = 0 then Rr C mX12_join (44, L, st, M) x else Rr C mX12_join (46, L, st, M) x) := (g_if (show decode cX12_join 41 = .ok (.ifCond .ne 5, 3) by decide +kernel) rfl ha1 ha2).trans (g_itn c_ne)
set_option maxRecDepth 20000 in
theorem kX12_join_44 {C : QC} {x : QP} {M : QM} {st : List CV} {L : QL} : Rr C mX12_join (44, L, st, M) x = Rr C mX12_join (45, L, qi (-1) :: st, M) x := g_pl (show decode cX12_join 44 = .ok (.iconst (-1), 1) by decide +kernel) rfl
set_option maxRecDepth 20000 in
theorem kX12_join_45 {C : QC} {x : QP} {M : QM} {st : List CV} {L : QL} {z : Int} : Rr C mX12_join (45, L, [qi z], M) x = x (some (qi z)) M := g_iret (show decode cX12_join 45 = .ok (.ireturn, 1) by decide +kernel) rfl
set_option maxRecDepth 20000 in
theorem kX12_join_46 {C : QC} {x : QP} {M : QM} {st : List CV} {L : QL} {l0 l1 l2 l3 : Option CV} {r : Option Nat} : Rr C mX12_join (46, [some (.inr (.inr r)), l1, l2, l3], st, M) x = Rr C mX12_join (47, [some (.inr (.inr r)), l1, l2, l3], .inr (.inr r) :: st, M) x := g_pl (show decode cX12_join 46 = .ok (.aload_n 0, 1) by decide +kernel) rfl
set_option maxRecDepth 20000 in
theorem kX12_join_47 {C : QC} {x : QP} {M : QM} {st : List CV} {L : QL} {a : Nat} (hk : q_kd M a = (1, 12)) : Rr C mX12_join (47, L, qr a :: st, M) x = Rr C mX12_join (50, L, q_fv M a 2 :: st, M) x := g_getf (ow := 12) (e := (12, 2, RX12, 381, 0)) (show decode cX12_join 47 = .ok (.getfield 26, 3) by decide +kernel) rfl hk
set_option maxRecDepth 20000 in
theorem kX12_join_50 {C : QC} {x : QP} {M : QM} {st : List CV} {L : QL} {a : Nat} (hk : q_kd M a = (1, 11)) : Rr C mX12_join (50, L, qr a :: st, M) x = Rr C mX12_join (53, L, q_fv M a 0 :: st, M) x := g_getf (ow := 12) (e := (11, 0, RX11, 315, 0)) (show decode cX12_join 50 = .ok (.getfield 249, 3) by decide +kernel) rfl hk
set_option maxRecDepth 20000 in
theorem kX12_join_53 {C : QC} {x : QP} {M : QM} {L : QL} {rest : List CV} {v : CV} {M1 : QM} {b : Nat} (hb : q_kd M b = (1, 0)) (hC : C iX0_size [qr b] M (some v) M1) (hw : (rest.map q_wd).sum ≤ 8) (k : Rr C mX12_join (56, L, v :: rest, M1) x) : Rr C mX12_join (53, L, qr b :: rest, M) x := g_cv (ow := 12) (e := (0, 135, 0, [990, 991, 992, 84])) (as := []) (show decode cX12_join 53 = .ok (.invokevirtual 253, 3) by decide +kernel) rfl rfl rfl (Or.inl rfl) rfl hb hC hw k
set_option maxRecDepth 20000 in
theorem kX12_join_56 {C : QC} {x : QP} {M : QM} {st : List CV} {L : QL} : Rr C mX12_join (56, L, st, M) x = Rr C mX12_join (58, L, qi 8 :: st, M) x := g_pl (show decode cX12_join 56 = .ok (.bipush 8, 2) by decide +kernel) rfl
set_option maxRecDepth 20000 in
theorem kX12_join_58 {C : QC} {x : QP} {M : QM} {st : List CV} {L : QL} {a b : Int} (ha1 : -2147483648 ≤ a) (ha2 : a < 2147483648) (hb1 : -2147483648 ≤ b) (hb2 : b < 2147483648) : Rr C mX12_join (58, L, qi b :: qi a :: st, M) x = (if a < b then Rr C mX12_join (64, L, st, M) x else Rr C mX12_join (61, L, st, M) x) := (g_icmp (show decode cX12_join 58 = .ok (.if_icmp .lt 6, 3) by decide +kernel) rfl ha1 ha2 hb1 hb2).trans (g_ite c_lt)
set_option maxRecDepth 20000 in
theorem kX12_join_61 {C : QC} {x : QP} {M : QM} {st : List CV} {L : QL} : Rr C mX12_join (61, L, st, M) x = Rr C mX12_join (63, L, qi (-4) :: st, M) x := g_pl (show decode cX12_join 61 = .ok (.bipush (-4), 2) by decide +kernel) rfl
set_option maxRecDepth 20000 in
theorem kX12_join_63 {C : QC} {x : QP} {M : QM} {st : List CV} {L : QL} {z : Int} : Rr C mX12_join (63, L, [qi z], M) x = x (some (qi z)) M := g_iret (show decode cX12_join 63 = .ok (.ireturn, 1) by decide +kernel) rfl
set_option maxRecDepth 20000 in
theorem kX12_join_64 {C : QC} {x : QP} {M : QM} {st : List CV} {L : QL} {l0 l1 l2 l3 : Option CV} {r : Option Nat} : Rr C mX12_join (64, [some (.inr (.inr r)), l1, l2, l3], st, M) x = Rr C mX12_join (65, [some (.inr (.inr r)), l1, l2, l3], .inr (.inr r) :: st, M) x := g_pl (show decode cX12_join 64 = .ok (.aload_n 0, 1) by decide +kernel) rfl
set_option maxRecDepth 20000 in
theorem kX12_join_65 {C : QC} {x : QP} {M : QM} {st : List CV} {L : QL} : Rr C mX12_join (65, L, st, M) x = Rr C mX12_join (68, L, qr (q_top M) :: st, q_al M (1, 3) 5 (fun k => q_dv (tyX3 k))) x := g_new (ow := 12) (e := (3, 451, 452, 96)) (r := (RX3, TX3, 5)) (t := tyX3) (show decode cX12_join 65 = .ok (.new 98, 3) by decide +kernel) rfl rfl rfl
set_option maxRecDepth 20000 in
theorem kX12_join_68i {C : QC} {x : QP} {M : QM} {st : List CV} {L : QL} {a : Int} : Rr C mX12_join (68, L, qi a :: st, M) x = Rr C mX12_join (69, L, qi a :: qi a :: st, M) x := g_pl (show decode cX12_join 68 = .ok (.dup, 1) by decide +kernel) rfl
set_option maxRecDepth 20000 in
theorem kX12_join_68r {C : QC} {x : QP} {M : QM} {st : List CV} {L : QL} {a : Option Nat} : Rr C mX12_join (68, L, .inr (.inr a) :: st, M) x = Rr C mX12_join (69, L, .inr (.inr a) :: .inr (.inr a) :: st, M) x := g_pl (show decode cX12_join 68 = .ok (.dup, 1) by decide +kernel) rfl
set_option maxRecDepth 20000 in
theorem kX12_join_69 {C : QC} {x : QP} {M : QM} {st : List CV} {L : QL} : Rr C mX12_join (69, L, st, M) x = Rr C mX12_join (71, L, qi 7 :: st, M) x := g_pl (show decode cX12_join 69 = .ok (.bipush 7, 2) by decide +kernel) rfl
set_option maxRecDepth 20000 in
theorem kX12_join_71 {C : QC} {x : QP} {M : QM} {st : List CV} {L : QL} {l0 l1 l2 l3 : Option CV} {z : Int} : Rr C mX12_join (71, [l0, l1, some (qi z), l3], st, M) x = Rr C mX12_join (72, [l0, l1, some (qi z), l3], qi z :: st, M) x := g_pl (show decode cX12_join 71 = .ok (.iload_n 2, 1) by decide +kernel) rfl
set_option maxRecDepth 20000 in
theorem kX12_join_72 {C : QC} {x : QP} {M : QM} {st : List CV} {L : QL} {l0 l1 l2 l3 : Option CV} {z : Int} : Rr C mX12_join (72, [l0, l1, l2, some (qi z)], st, M) x = Rr C mX12_join (73, [l0, l1, l2, some (qi z)], qi z :: st, M) x := g_pl (show decode cX12_join 72 = .ok (.iload_n 3, 1) by decide +kernel) rfl
set_option maxRecDepth 20000 in
theorem kX12_join_73 {C : QC} {x : QP} {M : QM} {st : List CV} {L : QL} {l0 l1 l2 l3 : Option CV} {z : Int} : Rr C mX12_join (73, [l0, some (qi z), l2, l3], st, M) x = Rr C mX12_join (74, [l0, some (qi z), l2, l3], qi z :: st, M) x := g_pl (show decode cX12_join 73 = .ok (.iload_n 1, 1) by decide +kernel) rfl
set_option maxRecDepth 20000 in
theorem kX12_join_74 {C : QC} {x : QP} {M : QM} {st : List CV} {L : QL} : Rr C mX12_join (74, L, st, M) x = Rr C mX12_join (75, L, ql 0 :: st, M) x := g_pl (show decode cX12_join 74 = .ok (.lconst 0, 1) by decide +kernel) rfl
set_option maxRecDepth 20000 in
theorem kX12_join_75 {C : QC} {x : QP} {M : QM} {L : QL} {rest : List CV} {a0 a1 a2 a3 a4 : CV} {M1 : QM} {b : Nat} (hC : C iX3_init [qr b, a0, a1, a2, a3, a4] M none M1) (hw : (rest.map q_wd).sum ≤ 8) (k : Rr C mX12_join (78, L, rest, M1) x) : Rr C mX12_join (75, L, a4 :: a3 :: a2 :: a1 :: a0 :: qr b :: rest, M) x := g_ci (ow := 12) (e := (3, 23, 0, [453, 454, 96])) (as := [a0, a1, a2, a3, a4]) (show decode cX12_join 75 = .ok (.invokespecial 100, 3) by decide +kernel) rfl rfl rfl (Or.inl (Or.inl rfl)) rfl hC hw k
set_option maxRecDepth 20000 in
theorem kX12_join_78 {C : QC} {x : QP} {M : QM} {L : QL} {rest : List CV} {a0 : CV} {v : CV} {M1 : QM} {b : Nat} (hb : q_kd M b = (1, 12)) (hC : C iX12_tell [qr b, a0] M (some v) M1) (hw : (rest.map q_wd).sum ≤ 8) (k : Rr C mX12_join (81, L, v :: rest, M1) x) : Rr C mX12_join (78, L, a0 :: qr b :: rest, M) x := g_cv (ow := 12) (e := (0, 24, 12, [483, 485, 0, 77])) (as := [a0]) (show decode cX12_join 78 = .ok (.invokevirtual 103, 3) by decide +kernel) rfl rfl rfl (Or.inl rfl) rfl hb hC hw k
set_option maxRecDepth 20000 in
theorem kX12_join_81 {C : QC} {x : QP} {M : QM} {st : List CV} {L : QL} {z : Int} : Rr C mX12_join (81, L, [qi z], M) x = x (some (qi z)) M := g_iret (show decode cX12_join 81 = .ok (.ireturn, 1) by decide +kernel) rfl
set_option maxRecDepth 20000 in
theorem eX12_join {d : Nat} {M : QM} {x : QP} {a : Nat} {v0 : Int} {v1 : Int} {v2 : Int} : q_T (d + 1) iX12_join [qr a, qi v0, qi v1, qi v2] M x = Rr (q_C d) mX12_join (0, [some (qr a), some (qi v0), some (qi v1), some (qi v2)], [], M) x := g_entryT (e := _) rfl (Nat.le_of_ble_eq_true rfl) rfl rfl
def mX12_drop : QI := (12, cX12_drop, false, some .int)
set_option maxRecDepth 20000 in
theorem kX12_drop_0 {C : QC} {x : QP} {M : QM} {st : List CV} {L : QL} {l0 l1 : Option CV} {r : Option Nat} : Rr C mX12_drop (0, [some (.inr (.inr r)), l1], st, M) x = Rr C mX12_drop (1, [some (.inr (.inr r)), l1], .inr (.inr r) :: st, M) x := g_pl (show decode cX12_drop 0 = .ok (.aload_n 0, 1) by decide +kernel) rfl
set_option maxRecDepth 20000 in
theorem kX12_drop_1 {C : QC} {x : QP} {M : QM} {st : List CV} {L : QL} {a : Nat} (hk : q_kd M a = (1, 12)) : Rr C mX12_drop (1, L, qr a :: st, M) x = Rr C mX12_drop (4, L, q_fv M a 2 :: st, M) x := g_getf (ow := 12) (e := (12, 2, RX12, 381, 0)) (show decode cX12_drop 1 = .ok (.getfield 26, 3) by decide +kernel) rfl hk
set_option maxRecDepth 20000 in
theorem kX12_drop_4 {C : QC} {x : QP} {M : QM} {st : List CV} {L : QL} {a : Nat} (hk : q_kd M a = (1, 11)) : Rr C mX12_drop (4, L, qr a :: st, M) x = Rr C mX12_drop (7, L, q_fv M a 0 :: st, M) x := g_getf (ow := 12) (e := (11, 0, RX11, 315, 0)) (show decode cX12_drop 4 = .ok (.getfield 249, 3) by decide +kernel) rfl hk
set_option maxRecDepth 20000 in
theorem kX12_drop_7 {C : QC} {x : QP} {M : QM} {st : List CV} {L : QL} {l0 l1 : Option CV} {z : Int} : Rr C mX12_drop (7, [l0, some (qi z)], st, M) x = Rr C mX12_drop (8, [l0, some (qi z)], qi z :: st, M) x := g_pl (show decode cX12_drop 7 = .ok (.iload_n 1, 1) by decide +kernel) rfl
set_option maxRecDepth 20000 in
theorem kX12_drop_8 {C : QC} {x : QP} {M : QM} {L : QL} {rest : List CV} {a0 : CV} {v : CV} {M1 : QM} {b : Nat} (hb : q_kd M b = (1, 0)) (hC : C iX0_has [qr b, a0] M (some v) M1) (hw : (rest.map q_wd).sum ≤ 8) (k : Rr C mX12_drop (11, L, v :: rest, M1) x) : Rr C mX12_drop (8, L, a0 :: qr b :: rest, M) x := g_cv (ow := 12) (e := (0, 63, 0, [998, 672, 673, 84])) (as := [a0]) (show decode cX12_drop 8 = .ok (.invokevirtual 254, 3) by decide +kernel) rfl rfl rfl (Or.inl rfl) rfl hb hC hw k
set_option maxRecDepth 20000 in
theorem kX12_drop_11 {C : QC} {x : QP} {M : QM} {st : List CV} {L : QL} {a : Int} (ha1 : -2147483648 ≤ a) (ha2 : a < 2147483648) : Rr C mX12_drop (11, L, qi a :: st, M) x = (if a = 0 then Rr C mX12_drop (14, L, st, M) x else Rr C mX12_drop (16, L, st, M) x) := (g_if (show decode cX12_drop 11 = .ok (.ifCond .ne 5, 3) by decide +kernel) rfl ha1 ha2).trans (g_itn c_ne)
set_option maxRecDepth 20000 in
theorem kX12_drop_14 {C : QC} {x : QP} {M : QM} {st : List CV} {L : QL} : Rr C mX12_drop (14, L, st, M) x = Rr C mX12_drop (15, L, qi (-1) :: st, M) x := g_pl (show decode cX12_drop 14 = .ok (.iconst (-1), 1) by decide +kernel) rfl
set_option maxRecDepth 20000 in
theorem kX12_drop_15 {C : QC} {x : QP} {M : QM} {st : List CV} {L : QL} {z : Int} : Rr C mX12_drop (15, L, [qi z], M) x = x (some (qi z)) M := g_iret (show decode cX12_drop 15 = .ok (.ireturn, 1) by decide +kernel) rfl
set_option maxRecDepth 20000 in
theorem kX12_drop_16 {C : QC} {x : QP} {M : QM} {st : List CV} {L : QL} {l0 l1 : Option CV} {r : Option Nat} : Rr C mX12_drop (16, [some (.inr (.inr r)), l1], st, M) x = Rr C mX12_drop (17, [some (.inr (.inr r)), l1], .inr (.inr r) :: st, M) x := g_pl (show decode cX12_drop 16 = .ok (.aload_n 0, 1) by decide +kernel) rfl
set_option maxRecDepth 20000 in
theorem kX12_drop_17 {C : QC} {x : QP} {M : QM} {st : List CV} {L : QL} : Rr C mX12_drop (17, L, st, M) x = Rr C mX12_drop (20, L, qr (q_top M) :: st, q_al M (1, 3) 5 (fun k => q_dv (tyX3 k))) x := g_new (ow := 12) (e := (3, 451, 452, 96)) (r := (RX3, TX3, 5)) (t := tyX3) (show decode cX12_drop 17 = .ok (.new 98, 3) by decide +kernel) rfl rfl rfl
set_option maxRecDepth 20000 in
theorem kX12_drop_20i {C : QC} {x : QP} {M : QM} {st : List CV} {L : QL} {a : Int} : Rr C mX12_drop (20, L, qi a :: st, M) x = Rr C mX12_drop (21, L, qi a :: qi a :: st, M) x := g_pl (show decode cX12_drop 20 = .ok (.dup, 1) by decide +kernel) rfl
set_option maxRecDepth 20000 in
theorem kX12_drop_20r {C : QC} {x : QP} {M : QM} {st : List CV} {L : QL} {a : Option Nat} : Rr C mX12_drop (20, L, .inr (.inr a) :: st, M) x = Rr C mX12_drop (21, L, .inr (.inr a) :: .inr (.inr a) :: st, M) x := g_pl (show decode cX12_drop 20 = .ok (.dup, 1) by decide +kernel) rfl
set_option maxRecDepth 20000 in
theorem kX12_drop_21 {C : QC} {x : QP} {M : QM} {st : List CV} {L : QL} : Rr C mX12_drop (21, L, st, M) x = Rr C mX12_drop (23, L, qi 8 :: st, M) x := g_pl (show decode cX12_drop 21 = .ok (.bipush 8, 2) by decide +kernel) rfl
set_option maxRecDepth 20000 in
theorem kX12_drop_23 {C : QC} {x : QP} {M : QM} {st : List CV} {L : QL} {l0 l1 : Option CV} {z : Int} : Rr C mX12_drop (23, [l0, some (qi z)], st, M) x = Rr C mX12_drop (24, [l0, some (qi z)], qi z :: st, M) x := g_pl (show decode cX12_drop 23 = .ok (.iload_n 1, 1) by decide +kernel) rfl
set_option maxRecDepth 20000 in
theorem kX12_drop_24 {C : QC} {x : QP} {M : QM} {st : List CV} {L : QL} : Rr C mX12_drop (24, L, st, M) x = Rr C mX12_drop (25, L, qi 0 :: st, M) x := g_pl (show decode cX12_drop 24 = .ok (.iconst 0, 1) by decide +kernel) rfl
set_option maxRecDepth 20000 in
theorem kX12_drop_25 {C : QC} {x : QP} {M : QM} {st : List CV} {L : QL} : Rr C mX12_drop (25, L, st, M) x = Rr C mX12_drop (26, L, qi 0 :: st, M) x := g_pl (show decode cX12_drop 25 = .ok (.iconst 0, 1) by decide +kernel) rfl
set_option maxRecDepth 20000 in
theorem kX12_drop_26 {C : QC} {x : QP} {M : QM} {st : List CV} {L : QL} : Rr C mX12_drop (26, L, st, M) x = Rr C mX12_drop (27, L, ql 0 :: st, M) x := g_pl (show decode cX12_drop 26 = .ok (.lconst 0, 1) by decide +kernel) rfl
set_option maxRecDepth 20000 in
theorem kX12_drop_27 {C : QC} {x : QP} {M : QM} {L : QL} {rest : List CV} {a0 a1 a2 a3 a4 : CV} {M1 : QM} {b : Nat} (hC : C iX3_init [qr b, a0, a1, a2, a3, a4] M none M1) (hw : (rest.map q_wd).sum ≤ 8) (k : Rr C mX12_drop (30, L, rest, M1) x) : Rr C mX12_drop (27, L, a4 :: a3 :: a2 :: a1 :: a0 :: qr b :: rest, M) x := g_ci (ow := 12) (e := (3, 23, 0, [453, 454, 96])) (as := [a0, a1, a2, a3, a4]) (show decode cX12_drop 27 = .ok (.invokespecial 100, 3) by decide +kernel) rfl rfl rfl (Or.inl (Or.inl rfl)) rfl hC hw k
set_option maxRecDepth 20000 in
theorem kX12_drop_30 {C : QC} {x : QP} {M : QM} {L : QL} {rest : List CV} {a0 : CV} {v : CV} {M1 : QM} {b : Nat} (hb : q_kd M b = (1, 12)) (hC : C iX12_tell [qr b, a0] M (some v) M1) (hw : (rest.map q_wd).sum ≤ 8) (k : Rr C mX12_drop (33, L, v :: rest, M1) x) : Rr C mX12_drop (30, L, a0 :: qr b :: rest, M) x := g_cv (ow := 12) (e := (0, 24, 12, [483, 485, 0, 77])) (as := [a0]) (show decode cX12_drop 30 = .ok (.invokevirtual 103, 3) by decide +kernel) rfl rfl rfl (Or.inl rfl) rfl hb hC hw k
set_option maxRecDepth 20000 in
theorem kX12_drop_33 {C : QC} {x : QP} {M : QM} {st : List CV} {L : QL} {z : Int} : Rr C mX12_drop (33, L, [qi z], M) x = x (some (qi z)) M := g_iret (show decode cX12_drop 33 = .ok (.ireturn, 1) by decide +kernel) rfl
set_option maxRecDepth 20000 in
theorem eX12_drop {d : Nat} {M : QM} {x : QP} {a : Nat} {v0 : Int} : q_T (d + 1) iX12_drop [qr a, qi v0] M x = Rr (q_C d) mX12_drop (0, [some (qr a), some (qi v0)], [], M) x := g_entryT (e := _) rfl (Nat.le_of_ble_eq_true rfl) rfl rfl
def mX12_fits : QI := (12, cX12_fits, false, some .int)
set_option maxRecDepth 20000 in
theorem kX12_fits_0 {C : QC} {x : QP} {M : QM} {st : List CV} {L : QL} {l0 l1 l2 : Option CV} {r : Option Nat} : Rr C mX12_fits (0, [some (.inr (.inr r)), l1, l2], st, M) x = Rr C mX12_fits (1, [some (.inr (.inr r)), l1, l2], .inr (.inr r) :: st, M) x := g_pl (show decode cX12_fits 0 = .ok (.aload_n 0, 1) by decide +kernel) rfl
set_option maxRecDepth 20000 in
theorem kX12_fits_1 {C : QC} {x : QP} {M : QM} {st : List CV} {L : QL} {a : Nat} (hk : q_kd M a = (1, 12)) : Rr C mX12_fits (1, L, qr a :: st, M) x = Rr C mX12_fits (4, L, q_fv M a 2 :: st, M) x := g_getf (ow := 12) (e := (12, 2, RX12, 381, 0)) (show decode cX12_fits 1 = .ok (.getfield 26, 3) by decide +kernel) rfl hk
set_option maxRecDepth 20000 in
theorem kX12_fits_4 {C : QC} {x : QP} {M : QM} {st : List CV} {L : QL} {a : Nat} (hk : q_kd M a = (1, 11)) : Rr C mX12_fits (4, L, qr a :: st, M) x = Rr C mX12_fits (7, L, q_fv M a 0 :: st, M) x := g_getf (ow := 12) (e := (11, 0, RX11, 315, 0)) (show decode cX12_fits 4 = .ok (.getfield 249, 3) by decide +kernel) rfl hk
set_option maxRecDepth 20000 in
theorem kX12_fits_7 {C : QC} {x : QP} {M : QM} {st : List CV} {L : QL} {l0 l1 l2 : Option CV} {z : Int} : Rr C mX12_fits (7, [l0, some (qi z), l2], st, M) x = Rr C mX12_fits (8, [l0, some (qi z), l2], qi z :: st, M) x := g_pl (show decode cX12_fits 7 = .ok (.iload_n 1, 1) by decide +kernel) rfl
set_option maxRecDepth 20000 in
theorem kX12_fits_8 {C : QC} {x : QP} {M : QM} {L : QL} {rest : List CV} {a0 : CV} {v : CV} {M1 : QM} {b : Nat} (hb : q_kd M b = (1, 0)) (hC : C iX0_has [qr b, a0] M (some v) M1) (hw : (rest.map q_wd).sum ≤ 8) (k : Rr C mX12_fits (11, L, v :: rest, M1) x) : Rr C mX12_fits (8, L, a0 :: qr b :: rest, M) x := g_cv (ow := 12) (e := (0, 63, 0, [998, 672, 673, 84])) (as := [a0]) (show decode cX12_fits 8 = .ok (.invokevirtual 254, 3) by decide +kernel) rfl rfl rfl (Or.inl rfl) rfl hb hC hw k
set_option maxRecDepth 20000 in
theorem kX12_fits_11 {C : QC} {x : QP} {M : QM} {st : List CV} {L : QL} {a : Int} (ha1 : -2147483648 ≤ a) (ha2 : a < 2147483648) : Rr C mX12_fits (11, L, qi a :: st, M) x = (if a = 0 then Rr C mX12_fits (14, L, st, M) x else Rr C mX12_fits (16, L, st, M) x) := (g_if (show decode cX12_fits 11 = .ok (.ifCond .ne 5, 3) by decide +kernel) rfl ha1 ha2).trans (g_itn c_ne)
set_option maxRecDepth 20000 in
theorem kX12_fits_14 {C : QC} {x : QP} {M : QM} {st : List CV} {L : QL} : Rr C mX12_fits (14, L, st, M) x = Rr C mX12_fits (15, L, qi (-1) :: st, M) x := g_pl (show decode cX12_fits 14 = .ok (.iconst (-1), 1) by decide +kernel) rfl
set_option maxRecDepth 20000 in
theorem kX12_fits_15 {C : QC} {x : QP} {M : QM} {st : List CV} {L : QL} {z : Int} : Rr C mX12_fits (15, L, [qi z], M) x = x (some (qi z)) M := g_iret (show decode cX12_fits 15 = .ok (.ireturn, 1) by decide +kernel) rfl
set_option maxRecDepth 20000 in
theorem kX12_fits_16 {C : QC} {x : QP} {M : QM} {st : List CV} {L : QL} {l0 l1 l2 : Option CV} {z : Int} : Rr C mX12_fits (16, [l0, l1, some (qi z)], st, M) x = Rr C mX12_fits (17, [l0, l1, some (qi z)], qi z :: st, M) x := g_pl (show decode cX12_fits 16 = .ok (.iload_n 2, 1) by decide +kernel) rfl
set_option maxRecDepth 20000 in
theorem kX12_fits_17 {C : QC} {x : QP} {M : QM} {L : QL} {rest : List CV} {a0 : CV} {v : CV} {M1 : QM} (hC : C iX12_isDay [a0] M (some v) M1) (hw : (rest.map q_wd).sum ≤ 8) (k : Rr C mX12_fits (20, L, v :: rest, M1) x) : Rr C mX12_fits (17, L, a0 :: rest, M) x := g_cs (ow := 12) (e := (1, 27, 0, [868, 494, 77])) (as := [a0]) (show decode cX12_fits 17 = .ok (.invokestatic 148, 3) by decide +kernel) rfl rfl rfl rfl (Or.inl rfl) rfl hC hw k
set_option maxRecDepth 20000 in
theorem kX12_fits_20 {C : QC} {x : QP} {M : QM} {st : List CV} {L : QL} {a : Int} (ha1 : -2147483648 ≤ a) (ha2 : a < 2147483648) : Rr C mX12_fits (20, L, qi a :: st, M) x = (if a = 0 then Rr C mX12_fits (23, L, st, M) x else Rr C mX12_fits (26, L, st, M) x) := (g_if (show decode cX12_fits 20 = .ok (.ifCond .ne 6, 3) by decide +kernel) rfl ha1 ha2).trans (g_itn c_ne)
set_option maxRecDepth 20000 in
theorem kX12_fits_23 {C : QC} {x : QP} {M : QM} {st : List CV} {L : QL} : Rr C mX12_fits (23, L, st, M) x = Rr C mX12_fits (25, L, qi (-2) :: st, M) x := g_pl (show decode cX12_fits 23 = .ok (.bipush (-2), 2) by decide +kernel) rfl
set_option maxRecDepth 20000 in
theorem kX12_fits_25 {C : QC} {x : QP} {M : QM} {st : List CV} {L : QL} {z : Int} : Rr C mX12_fits (25, L, [qi z], M) x = x (some (qi z)) M := g_iret (show decode cX12_fits 25 = .ok (.ireturn, 1) by decide +kernel) rfl
set_option maxRecDepth 20000 in
theorem kX12_fits_26 {C : QC} {x : QP} {M : QM} {st : List CV} {L : QL} {l0 l1 l2 : Option CV} {r : Option Nat} : Rr C mX12_fits (26, [some (.inr (.inr r)), l1, l2], st, M) x = Rr C mX12_fits (27, [some (.inr (.inr r)), l1, l2], .inr (.inr r) :: st, M) x := g_pl (show decode cX12_fits 26 = .ok (.aload_n 0, 1) by decide +kernel) rfl
set_option maxRecDepth 20000 in
theorem kX12_fits_27 {C : QC} {x : QP} {M : QM} {st : List CV} {L : QL} {a : Nat} (hk : q_kd M a = (1, 12)) : Rr C mX12_fits (27, L, qr a :: st, M) x = Rr C mX12_fits (30, L, q_fv M a 2 :: st, M) x := g_getf (ow := 12) (e := (12, 2, RX12, 381, 0)) (show decode cX12_fits 27 = .ok (.getfield 26, 3) by decide +kernel) rfl hk
set_option maxRecDepth 20000 in
theorem kX12_fits_30 {C : QC} {x : QP} {M : QM} {st : List CV} {L : QL} {a : Nat} (hk : q_kd M a = (1, 11)) : Rr C mX12_fits (30, L, qr a :: st, M) x = Rr C mX12_fits (33, L, q_fv M a 0 :: st, M) x := g_getf (ow := 12) (e := (11, 0, RX11, 315, 0)) (show decode cX12_fits 30 = .ok (.getfield 249, 3) by decide +kernel) rfl hk
set_option maxRecDepth 20000 in
theorem kX12_fits_33 {C : QC} {x : QP} {M : QM} {st : List CV} {L : QL} {l0 l1 l2 : Option CV} {z : Int} : Rr C mX12_fits (33, [l0, some (qi z), l2], st, M) x = Rr C mX12_fits (34, [l0, some (qi z), l2], qi z :: st, M) x := g_pl (show decode cX12_fits 33 = .ok (.iload_n 1, 1) by decide +kernel) rfl
set_option maxRecDepth 20000 in
theorem kX12_fits_34 {C : QC} {x : QP} {M : QM} {st : List CV} {L : QL} {l0 l1 l2 : Option CV} {z : Int} : Rr C mX12_fits (34, [l0, l1, some (qi z)], st, M) x = Rr C mX12_fits (35, [l0, l1, some (qi z)], qi z :: st, M) x := g_pl (show decode cX12_fits 34 = .ok (.iload_n 2, 1) by decide +kernel) rfl
set_option maxRecDepth 20000 in
theorem kX12_fits_35 {C : QC} {x : QP} {M : QM} {st : List CV} {L : QL} {l0 l1 l2 : Option CV} {r : Option Nat} : Rr C mX12_fits (35, [some (.inr (.inr r)), l1, l2], st, M) x = Rr C mX12_fits (36, [some (.inr (.inr r)), l1, l2], .inr (.inr r) :: st, M) x := g_pl (show decode cX12_fits 35 = .ok (.aload_n 0, 1) by decide +kernel) rfl
set_option maxRecDepth 20000 in
theorem kX12_fits_36 {C : QC} {x : QP} {M : QM} {st : List CV} {L : QL} {a : Nat} (hk : q_kd M a = (1, 12)) : Rr C mX12_fits (36, L, qr a :: st, M) x = Rr C mX12_fits (39, L, q_fv M a 2 :: st, M) x := g_getf (ow := 12) (e := (12, 2, RX12, 381, 0)) (show decode cX12_fits 36 = .ok (.getfield 26, 3) by decide +kernel) rfl hk
set_option maxRecDepth 20000 in
theorem kX12_fits_39 {C : QC} {x : QP} {M : QM} {L : QL} {rest : List CV} {a0 a1 a2 : CV} {v : CV} {M1 : QM} {b : Nat} (hb : q_kd M b = (1, 0)) (hC : C iX0_setOn [qr b, a0, a1, a2] M (some v) M1) (hw : (rest.map q_wd).sum ≤ 8) (k : Rr C mX12_fits (42, L, v :: rest, M1) x) : Rr C mX12_fits (39, L, a2 :: a1 :: a0 :: qr b :: rest, M) x := g_cv (ow := 12) (e := (0, 139, 0, [1007, 1008, 1009, 84])) (as := [a0, a1, a2]) (show decode cX12_fits 39 = .ok (.invokevirtual 257, 3) by decide +kernel) rfl rfl rfl (Or.inl rfl) rfl hb hC hw k
set_option maxRecDepth 20000 in
theorem kX12_fits_42 {C : QC} {x : QP} {M : QM} {st : List CV} {L : QL} {z : Int} : Rr C mX12_fits (42, L, [qi z], M) x = x (some (qi z)) M := g_iret (show decode cX12_fits 42 = .ok (.ireturn, 1) by decide +kernel) rfl
set_option maxRecDepth 20000 in
theorem eX12_fits {d : Nat} {M : QM} {x : QP} {a : Nat} {v0 : Int} {v1 : Int} : q_T (d + 1) iX12_fits [qr a, qi v0, qi v1] M x = Rr (q_C d) mX12_fits (0, [some (qr a), some (qi v0), some (qi v1)], [], M) x := g_entryT (e := _) rfl (Nat.le_of_ble_eq_true rfl) rfl rfl
def mX12_write : QI := (12, cX12_write, false, some .int)
set_option maxRecDepth 20000 in
theorem kX12_write_0 {C : QC} {x : QP} {M : QM} {st : List CV} {L : QL} {l0 l1 l2 : Option CV} {r : Option Nat} : Rr C mX12_write (0, [some (.inr (.inr r)), l1, l2], st, M) x = Rr C mX12_write (1, [some (.inr (.inr r)), l1, l2], .inr (.inr r) :: st, M) x := g_pl (show decode cX12_write 0 = .ok (.aload_n 0, 1) by decide +kernel) rfl
set_option maxRecDepth 20000 in
theorem kX12_write_1 {C : QC} {x : QP} {M : QM} {st : List CV} {L : QL} {a : Nat} (hk : q_kd M a = (1, 12)) : Rr C mX12_write (1, L, qr a :: st, M) x = Rr C mX12_write (4, L, q_fv M a 2 :: st, M) x := g_getf (ow := 12) (e := (12, 2, RX12, 381, 0)) (show decode cX12_write 1 = .ok (.getfield 26, 3) by decide +kernel) rfl hk
set_option maxRecDepth 20000 in
theorem kX12_write_4 {C : QC} {x : QP} {M : QM} {st : List CV} {L : QL} {l0 l1 l2 : Option CV} {z : Int} : Rr C mX12_write (4, [l0, some (qi z), l2], st, M) x = Rr C mX12_write (5, [l0, some (qi z), l2], qi z :: st, M) x := g_pl (show decode cX12_write 4 = .ok (.iload_n 1, 1) by decide +kernel) rfl
set_option maxRecDepth 20000 in
theorem kX12_write_5 {C : QC} {x : QP} {M : QM} {L : QL} {rest : List CV} {a0 : CV} {v : CV} {M1 : QM} {b : Nat} (hb : q_kd M b = (1, 11)) (hC : C iX11_place [qr b, a0] M (some v) M1) (hw : (rest.map q_wd).sum ≤ 8) (k : Rr C mX12_write (8, L, v :: rest, M1) x) : Rr C mX12_write (5, L, a0 :: qr b :: rest, M) x := g_cv (ow := 12) (e := (0, 30, 11, [867, 504, 505, 83])) (as := [a0]) (show decode cX12_write 5 = .ok (.invokevirtual 144, 3) by decide +kernel) rfl rfl rfl (Or.inl rfl) rfl hb hC hw k
set_option maxRecDepth 20000 in
theorem kX12_write_8 {C : QC} {x : QP} {M : QM} {st : List CV} {L : QL} {l0 l1 l2 : Option CV} {z : Option Nat} : Rr C mX12_write (8, [l0, l1, l2], .inr (.inr z) :: st, M) x = Rr C mX12_write (9, [l0, q_cut l1, some (.inr (.inr z))], st, M) x := g_pl (show decode cX12_write 8 = .ok (.astore_n 2, 1) by decide +kernel) rfl
set_option maxRecDepth 20000 in
theorem kX12_write_9 {C : QC} {x : QP} {M : QM} {st : List CV} {L : QL} {l0 l1 l2 : Option CV} {r : Option Nat} : Rr C mX12_write (9, [l0, l1, some (.inr (.inr r))], st, M) x = Rr C mX12_write (10, [l0, l1, some (.inr (.inr r))], .inr (.inr r) :: st, M) x := g_pl (show decode cX12_write 9 = .ok (.aload_n 2, 1) by decide +kernel) rfl
set_option maxRecDepth 20000 in
theorem kX12_write_10r {C : QC} {x : QP} {M : QM} {st : List CV} {L : QL} {a : Nat} : Rr C mX12_write (10, L, qr a :: st, M) x = Rr C mX12_write (15, L, st, M) x := g_pl (show decode cX12_write 10 = .ok (.ifnonnull 5, 3) by decide +kernel) rfl
set_option maxRecDepth 20000 in
theorem kX12_write_10n {C : QC} {x : QP} {M : QM} {st : List CV} {L : QL} : Rr C mX12_write (10, L, qn :: st, M) x = Rr C mX12_write (13, L, st, M) x := g_pl (show decode cX12_write 10 = .ok (.ifnonnull 5, 3) by decide +kernel) rfl
set_option maxRecDepth 20000 in
theorem kX12_write_13 {C : QC} {x : QP} {M : QM} {st : List CV} {L : QL} : Rr C mX12_write (13, L, st, M) x = Rr C mX12_write (14, L, qi (-1) :: st, M) x := g_pl (show decode cX12_write 13 = .ok (.iconst (-1), 1) by decide +kernel) rfl
set_option maxRecDepth 20000 in
theorem kX12_write_14 {C : QC} {x : QP} {M : QM} {st : List CV} {L : QL} {z : Int} : Rr C mX12_write (14, L, [qi z], M) x = x (some (qi z)) M := g_iret (show decode cX12_write 14 = .ok (.ireturn, 1) by decide +kernel) rfl
set_option maxRecDepth 20000 in
theorem kX12_write_15 {C : QC} {x : QP} {M : QM} {st : List CV} {L : QL} {l0 l1 l2 : Option CV} {r : Option Nat} : Rr C mX12_write (15, [some (.inr (.inr r)), l1, l2], st, M) x = Rr C mX12_write (16, [some (.inr (.inr r)), l1, l2], .inr (.inr r) :: st, M) x := g_pl (show decode cX12_write 15 = .ok (.aload_n 0, 1) by decide +kernel) rfl
set_option maxRecDepth 20000 in
theorem kX12_write_16 {C : QC} {x : QP} {M : QM} {st : List CV} {L : QL} {a : Nat} (hk : q_kd M a = (1, 12)) : Rr C mX12_write (16, L, qr a :: st, M) x = Rr C mX12_write (19, L, q_fv M a 5 :: st, M) x := g_getf (ow := 12) (e := (12, 5, RX12, 384, 0)) (show decode cX12_write 16 = .ok (.getfield 47, 3) by decide +kernel) rfl hk
set_option maxRecDepth 20000 in
theorem kX12_write_19 {C : QC} {x : QP} {M : QM} {st : List CV} {L : QL} : Rr C mX12_write (19, L, st, M) x = Rr C mX12_write (20, L, qi 0 :: st, M) x := g_pl (show decode cX12_write 19 = .ok (.iconst 0, 1) by decide +kernel) rfl
set_option maxRecDepth 20000 in
theorem kX12_write_20 {C : QC} {x : QP} {M : QM} {L : QL} {rest : List CV} {a0 : CV} {M1 : QM} {b : Nat} (hb : q_kd M b = (1, 14)) (hC : C iJ4_setLength_d00df [qr b, a0] M none M1) (hw : (rest.map q_wd).sum ≤ 8) (k : Rr C mX12_write (23, L, rest, M1) x) : Rr C mX12_write (20, L, a0 :: qr b :: rest, M) x := g_cv (ow := 12) (e := (0, 144, 14, [1028, 1029, 1030, 91])) (as := [a0]) (show decode cX12_write 20 = .ok (.invokevirtual 261, 3) by decide +kernel) rfl rfl rfl (Or.inl rfl) rfl hb hC hw k
set_option maxRecDepth 20000 in
theorem kX12_write_23 {C : QC} {x : QP} {M : QM} {st : List CV} {L : QL} {l0 l1 l2 : Option CV} {r : Option Nat} : Rr C mX12_write (23, [l0, l1, some (.inr (.inr r))], st, M) x = Rr C mX12_write (24, [l0, l1, some (.inr (.inr r))], .inr (.inr r) :: st, M) x := g_pl (show decode cX12_write 23 = .ok (.aload_n 2, 1) by decide +kernel) rfl
set_option maxRecDepth 20000 in
theorem kX12_write_24 {C : QC} {x : QP} {M : QM} {st : List CV} {L : QL} {a : Nat} (hk : q_kd M a = (1, 4)) : Rr C mX12_write (24, L, qr a :: st, M) x = Rr C mX12_write (27, L, q_fv M a 8 :: st, M) x := g_getf (ow := 12) (e := (4, 8, RX4, 294, 0)) (show decode cX12_write 24 = .ok (.getfield 213, 3) by decide +kernel) rfl hk
set_option maxRecDepth 20000 in
theorem kX12_write_27 {C : QC} {x : QP} {M : QM} {st : List CV} {L : QL} {l0 l1 l2 : Option CV} {r : Option Nat} : Rr C mX12_write (27, [some (.inr (.inr r)), l1, l2], st, M) x = Rr C mX12_write (28, [some (.inr (.inr r)), l1, l2], .inr (.inr r) :: st, M) x := g_pl (show decode cX12_write 27 = .ok (.aload_n 0, 1) by decide +kernel) rfl
set_option maxRecDepth 20000 in
theorem kX12_write_28 {C : QC} {x : QP} {M : QM} {st : List CV} {L : QL} {a : Nat} (hk : q_kd M a = (1, 12)) : Rr C mX12_write (28, L, qr a :: st, M) x = Rr C mX12_write (31, L, q_fv M a 5 :: st, M) x := g_getf (ow := 12) (e := (12, 5, RX12, 384, 0)) (show decode cX12_write 28 = .ok (.getfield 47, 3) by decide +kernel) rfl hk
set_option maxRecDepth 20000 in
theorem kX12_write_31 {C : QC} {x : QP} {M : QM} {L : QL} {rest : List CV} {a0 : CV} {M1 : QM} {b : Nat} (hb : q_kd M b = (1, 1)) (hC : C iX1_print [qr b, a0] M none M1) (hw : (rest.map q_wd).sum ≤ 8) (k : Rr C mX12_write (34, L, rest, M1) x) : Rr C mX12_write (31, L, a0 :: qr b :: rest, M) x := g_cv (ow := 12) (e := (0, 153, 1, [1071, 1072, 1073, 88])) (as := [a0]) (show decode cX12_write 31 = .ok (.invokevirtual 264, 3) by decide +kernel) rfl rfl rfl (Or.inl rfl) rfl hb hC hw k
set_option maxRecDepth 20000 in
theorem kX12_write_34 {C : QC} {x : QP} {M : QM} {st : List CV} {L : QL} {l0 l1 l2 : Option CV} {r : Option Nat} : Rr C mX12_write (34, [some (.inr (.inr r)), l1, l2], st, M) x = Rr C mX12_write (35, [some (.inr (.inr r)), l1, l2], .inr (.inr r) :: st, M) x := g_pl (show decode cX12_write 34 = .ok (.aload_n 0, 1) by decide +kernel) rfl
set_option maxRecDepth 20000 in
theorem kX12_write_35 {C : QC} {x : QP} {M : QM} {st : List CV} {L : QL} {a : Nat} (hk : q_kd M a = (1, 12)) : Rr C mX12_write (35, L, qr a :: st, M) x = Rr C mX12_write (38, L, q_fv M a 5 :: st, M) x := g_getf (ow := 12) (e := (12, 5, RX12, 384, 0)) (show decode cX12_write 35 = .ok (.getfield 47, 3) by decide +kernel) rfl hk
set_option maxRecDepth 20000 in
theorem kX12_write_38 {C : QC} {x : QP} {M : QM} {L : QL} {rest : List CV} {v : CV} {M1 : QM} {b : Nat} (hb : q_kd M b = (1, 14)) (hC : C iJ4_length_8abf5 [qr b] M (some v) M1) (hw : (rest.map q_wd).sum ≤ 8) (k : Rr C mX12_write (41, L, v :: rest, M1) x) : Rr C mX12_write (38, L, qr b :: rest, M) x := g_cv (ow := 12) (e := (0, 173, 14, [1190, 1191, 1192, 91])) (as := []) (show decode cX12_write 38 = .ok (.invokevirtual 268, 3) by decide +kernel) rfl rfl rfl (Or.inl rfl) rfl hb hC hw k
set_option maxRecDepth 20000 in
theorem kX12_write_41 {C : QC} {x : QP} {M : QM} {st : List CV} {L : QL} {z : Int} : Rr C mX12_write (41, L, [qi z], M) x = x (some (qi z)) M := g_iret (show decode cX12_write 41 = .ok (.ireturn, 1) by decide +kernel) rfl
set_option maxRecDepth 20000 in
theorem eX12_write {d : Nat} {M : QM} {x : QP} {a : Nat} {v0 : Int} : q_T (d + 1) iX12_write [qr a, qi v0] M x = Rr (q_C d) mX12_write (0, [some (qr a), some (qi v0), none], [], M) x := g_entryT (e := _) rfl (Nat.le_of_ble_eq_true rfl) rfl rfl
def mX12_paper : QI := (12, cX12_paper, false, some .int)
set_option maxRecDepth 20000 in
theorem kX12_paper_0 {C : QC} {x : QP} {M : QM} {st : List CV} {L : QL} {l0 l1 : Option CV} {z : Int} : Rr C mX12_paper (0, [l0, some (qi z)], st, M) x = Rr C mX12_paper (1, [l0, some (qi z)], qi z :: st, M) x := g_pl (show decode cX12_paper 0 = .ok (.iload_n 1, 1) by decide +kernel) rfl
set_option maxRecDepth 20000 in
theorem kX12_paper_1 {C : QC} {x : QP} {M : QM} {st : List CV} {L : QL} {a : Int} (ha1 : -2147483648 ≤ a) (ha2 : a < 2147483648) : Rr C mX12_paper (1, L, qi a :: st, M) x = (if a < 0 then Rr C mX12_paper (4, L, st, M) x else Rr C mX12_paper (6, L, st, M) x) := (g_if (show decode cX12_paper 1 = .ok (.ifCond .ge 5, 3) by decide +kernel) rfl ha1 ha2).trans (g_itn c_ge)
set_option maxRecDepth 20000 in
theorem kX12_paper_4 {C : QC} {x : QP} {M : QM} {st : List CV} {L : QL} : Rr C mX12_paper (4, L, st, M) x = Rr C mX12_paper (5, L, qi (-1) :: st, M) x := g_pl (show decode cX12_paper 4 = .ok (.iconst (-1), 1) by decide +kernel) rfl
set_option maxRecDepth 20000 in
theorem kX12_paper_5 {C : QC} {x : QP} {M : QM} {st : List CV} {L : QL} {z : Int} : Rr C mX12_paper (5, L, [qi z], M) x = x (some (qi z)) M := g_iret (show decode cX12_paper 5 = .ok (.ireturn, 1) by decide +kernel) rfl
set_option maxRecDepth 20000 in
theorem kX12_paper_6 {C : QC} {x : QP} {M : QM} {st : List CV} {L : QL} {l0 l1 : Option CV} {z : Int} : Rr C mX12_paper (6, [l0, some (qi z)], st, M) x = Rr C mX12_paper (7, [l0, some (qi z)], qi z :: st, M) x := g_pl (show decode cX12_paper 6 = .ok (.iload_n 1, 1) by decide +kernel) rfl
set_option maxRecDepth 20000 in
theorem kX12_paper_7 {C : QC} {x : QP} {M : QM} {st : List CV} {L : QL} {l0 l1 : Option CV} {r : Option Nat} : Rr C mX12_paper (7, [some (.inr (.inr r)), l1], st, M) x = Rr C mX12_paper (8, [some (.inr (.inr r)), l1], .inr (.inr r) :: st, M) x := g_pl (show decode cX12_paper 7 = .ok (.aload_n 0, 1) by decide +kernel) rfl
set_option maxRecDepth 20000 in
theorem kX12_paper_8 {C : QC} {x : QP} {M : QM} {st : List CV} {L : QL} {a : Nat} (hk : q_kd M a = (1, 12)) : Rr C mX12_paper (8, L, qr a :: st, M) x = Rr C mX12_paper (11, L, q_fv M a 5 :: st, M) x := g_getf (ow := 12) (e := (12, 5, RX12, 384, 0)) (show decode cX12_paper 8 = .ok (.getfield 47, 3) by decide +kernel) rfl hk
set_option maxRecDepth 20000 in
theorem kX12_paper_11 {C : QC} {x : QP} {M : QM} {L : QL} {rest : List CV} {v : CV} {M1 : QM} {b : Nat} (hb : q_kd M b = (1, 14)) (hC : C iJ4_length_8abf5 [qr b] M (some v) M1) (hw : (rest.map q_wd).sum ≤ 8) (k : Rr C mX12_paper (14, L, v :: rest, M1) x) : Rr C mX12_paper (11, L, qr b :: rest, M) x := g_cv (ow := 12) (e := (0, 173, 14, [1190, 1191, 1192, 91])) (as := []) (show decode cX12_paper 11 = .ok (.invokevirtual 268, 3) by decide +kernel) rfl rfl rfl (Or.inl rfl) rfl hb hC hw k
set_option maxRecDepth 20000 in
theorem kX12_paper_14 {C : QC} {x : QP} {M : QM} {st : List CV} {L : QL} {a b : Int} (ha1 : -2147483648 ≤ a) (ha2 : a < 2147483648) (hb1 : -2147483648 ≤ b) (hb2 : b < 2147483648) : Rr C mX12_paper (14, L, qi b :: qi a :: st, M) x = (if a < b then Rr C mX12_paper (17, L, st, M) x else Rr C mX12_paper (28, L, st, M) x) := (g_icmp (show decode cX12_paper 14 = .ok (.if_icmp .ge 14, 3) by decide +kernel) rfl ha1 ha2 hb1 hb2).trans (g_itn c_ge)
set_option maxRecDepth 20000 in
theorem kX12_paper_17 {C : QC} {x : QP} {M : QM} {st : List CV} {L : QL} {l0 l1 : Option CV} {r : Option Nat} : Rr C mX12_paper (17, [some (.inr (.inr r)), l1], st, M) x = Rr C mX12_paper (18, [some (.inr (.inr r)), l1], .inr (.inr r) :: st, M) x := g_pl (show decode cX12_paper 17 = .ok (.aload_n 0, 1) by decide +kernel) rfl
set_option maxRecDepth 20000 in
theorem kX12_paper_18 {C : QC} {x : QP} {M : QM} {st : List CV} {L : QL} {a : Nat} (hk : q_kd M a = (1, 12)) : Rr C mX12_paper (18, L, qr a :: st, M) x = Rr C mX12_paper (21, L, q_fv M a 5 :: st, M) x := g_getf (ow := 12) (e := (12, 5, RX12, 384, 0)) (show decode cX12_paper 18 = .ok (.getfield 47, 3) by decide +kernel) rfl hk
set_option maxRecDepth 20000 in
theorem kX12_paper_21 {C : QC} {x : QP} {M : QM} {st : List CV} {L : QL} {l0 l1 : Option CV} {z : Int} : Rr C mX12_paper (21, [l0, some (qi z)], st, M) x = Rr C mX12_paper (22, [l0, some (qi z)], qi z :: st, M) x := g_pl (show decode cX12_paper 21 = .ok (.iload_n 1, 1) by decide +kernel) rfl
set_option maxRecDepth 20000 in
theorem kX12_paper_22 {C : QC} {x : QP} {M : QM} {L : QL} {rest : List CV} {a0 : CV} {v : CV} {M1 : QM} {b : Nat} (hb : q_kd M b = (1, 14)) (hC : C iJ4_charAt_5068e [qr b, a0] M (some v) M1) (hw : (rest.map q_wd).sum ≤ 8) (k : Rr C mX12_paper (25, L, v :: rest, M1) x) : Rr C mX12_paper (22, L, a0 :: qr b :: rest, M) x := g_cv (ow := 12) (e := (0, 176, 14, [1201, 1202, 1203, 91])) (as := [a0]) (show decode cX12_paper 22 = .ok (.invokevirtual 269, 3) by decide +kernel) rfl rfl rfl (Or.inl rfl) rfl hb hC hw k
set_option maxRecDepth 20000 in
theorem kX12_paper_25 {C : QC} {x : QP} {M : QM} {st : List CV} {L : QL} : Rr C mX12_paper (25, L, st, M) x = Rr C mX12_paper (30, L, st, M) x := g_pl (show decode cX12_paper 25 = .ok (.goto 5, 3) by decide +kernel) rfl
set_option maxRecDepth 20000 in
theorem kX12_paper_28 {C : QC} {x : QP} {M : QM} {st : List CV} {L : QL} : Rr C mX12_paper (28, L, st, M) x = Rr C mX12_paper (30, L, qi (-5) :: st, M) x := g_pl (show decode cX12_paper 28 = .ok (.bipush (-5), 2) by decide +kernel) rfl
set_option maxRecDepth 20000 in
theorem kX12_paper_30 {C : QC} {x : QP} {M : QM} {st : List CV} {L : QL} {z : Int} : Rr C mX12_paper (30, L, [qi z], M) x = x (some (qi z)) M := g_iret (show decode cX12_paper 30 = .ok (.ireturn, 1) by decide +kernel) rfl
set_option maxRecDepth 20000 in
theorem eX12_paper {d : Nat} {M : QM} {x : QP} {a : Nat} {v0 : Int} : q_T (d + 1) iX12_paper [qr a, qi v0] M x = Rr (q_C d) mX12_paper (0, [some (qr a), some (qi v0)], [], M) x := g_entryT (e := _) rfl (Nat.le_of_ble_eq_true rfl) rfl rfl
def mX12_changed : QI := (12, cX12_changed, false, some .int)
set_option maxRecDepth 20000 in
theorem kX12_changed_0 {C : QC} {x : QP} {M : QM} {st : List CV} {L : QL} {l0 l1 l2 l3 l4 l5 : Option CV} {z : Int} : Rr C mX12_changed (0, [l0, some (qi z), l2, l3, l4, l5], st, M) x = Rr C mX12_changed (1, [l0, some (qi z), l2, l3, l4, l5], qi z :: st, M) x := g_pl (show decode cX12_changed 0 = .ok (.iload_n 1, 1) by decide +kernel) rfl
set_option maxRecDepth 20000 in
theorem kX12_changed_1 {C : QC} {x : QP} {M : QM} {L : QL} {rest : List CV} {a0 : CV} {v : CV} {M1 : QM} (hC : C iX12_isDay [a0] M (some v) M1) (hw : (rest.map q_wd).sum ≤ 8) (k : Rr C mX12_changed (4, L, v :: rest, M1) x) : Rr C mX12_changed (1, L, a0 :: rest, M) x := g_cs (ow := 12) (e := (1, 27, 0, [868, 494, 77])) (as := [a0]) (show decode cX12_changed 1 = .ok (.invokestatic 148, 3) by decide +kernel) rfl rfl rfl rfl (Or.inl rfl) rfl hC hw k
set_option maxRecDepth 20000 in
theorem kX12_changed_4 {C : QC} {x : QP} {M : QM} {st : List CV} {L : QL} {a : Int} (ha1 : -2147483648 ≤ a) (ha2 : a < 2147483648) : Rr C mX12_changed (4, L, qi a :: st, M) x = (if a = 0 then Rr C mX12_changed (14, L, st, M) x else Rr C mX12_changed (7, L, st, M) x) := (g_if (show decode cX12_changed 4 = .ok (.ifCond .eq 10, 3) by decide +kernel) rfl ha1 ha2).trans (g_ite c_eq)
set_option maxRecDepth 20000 in
theorem kX12_changed_7 {C : QC} {x : QP} {M : QM} {st : List CV} {L : QL} {l0 l1 l2 l3 l4 l5 : Option CV} {z : Int} : Rr C mX12_changed (7, [l0, l1, some (qi z), l3, l4, l5], st, M) x = Rr C mX12_changed (8, [l0, l1, some (qi z), l3, l4, l5], qi z :: st, M) x := g_pl (show decode cX12_changed 7 = .ok (.iload_n 2, 1) by decide +kernel) rfl
set_option maxRecDepth 20000 in
theorem kX12_changed_8 {C : QC} {x : QP} {M : QM} {L : QL} {rest : List CV} {a0 : CV} {v : CV} {M1 : QM} (hC : C iX12_isDay [a0] M (some v) M1) (hw : (rest.map q_wd).sum ≤ 8) (k : Rr C mX12_changed (11, L, v :: rest, M1) x) : Rr C mX12_changed (8, L, a0 :: rest, M) x := g_cs (ow := 12) (e := (1, 27, 0, [868, 494, 77])) (as := [a0]) (show decode cX12_changed 8 = .ok (.invokestatic 148, 3) by decide +kernel) rfl rfl rfl rfl (Or.inl rfl) rfl hC hw k
set_option maxRecDepth 20000 in
theorem kX12_changed_11 {C : QC} {x : QP} {M : QM} {st : List CV} {L : QL} {a : Int} (ha1 : -2147483648 ≤ a) (ha2 : a < 2147483648) : Rr C mX12_changed (11, L, qi a :: st, M) x = (if a = 0 then Rr C mX12_changed (14, L, st, M) x else Rr C mX12_changed (17, L, st, M) x) := (g_if (show decode cX12_changed 11 = .ok (.ifCond .ne 6, 3) by decide +kernel) rfl ha1 ha2).trans (g_itn c_ne)
set_option maxRecDepth 20000 in
theorem kX12_changed_14 {C : QC} {x : QP} {M : QM} {st : List CV} {L : QL} : Rr C mX12_changed (14, L, st, M) x = Rr C mX12_changed (16, L, qi (-2) :: st, M) x := g_pl (show decode cX12_changed 14 = .ok (.bipush (-2), 2) by decide +kernel) rfl
set_option maxRecDepth 20000 in
theorem kX12_changed_16 {C : QC} {x : QP} {M : QM} {st : List CV} {L : QL} {z : Int} : Rr C mX12_changed (16, L, [qi z], M) x = x (some (qi z)) M := g_iret (show decode cX12_changed 16 = .ok (.ireturn, 1) by decide +kernel) rfl
set_option maxRecDepth 20000 in
theorem kX12_changed_17 {C : QC} {x : QP} {M : QM} {st : List CV} {L : QL} : Rr C mX12_changed (17, L, st, M) x = Rr C mX12_changed (18, L, qi 0 :: st, M) x := g_pl (show decode cX12_changed 17 = .ok (.iconst 0, 1) by decide +kernel) rfl
set_option maxRecDepth 20000 in
theorem kX12_changed_18 {C : QC} {x : QP} {M : QM} {st : List CV} {L : QL} {l0 l1 l2 l3 l4 l5 : Option CV} {z : Int} : Rr C mX12_changed (18, [l0, l1, l2, l3, l4, l5], qi z :: st, M) x = Rr C mX12_changed (19, [l0, l1, q_cut l2, some (qi z), l4, l5], st, M) x := g_pl (show decode cX12_changed 18 = .ok (.istore_n 3, 1) by decide +kernel) rfl
set_option maxRecDepth 20000 in
theorem kX12_changed_19 {C : QC} {x : QP} {M : QM} {st : List CV} {L : QL} : Rr C mX12_changed (19, L, st, M) x = Rr C mX12_changed (20, L, qi 0 :: st, M) x := g_pl (show decode cX12_changed 19 = .ok (.iconst 0, 1) by decide +kernel) rfl
set_option maxRecDepth 20000 in
theorem kX12_changed_20 {C : QC} {x : QP} {M : QM} {st : List CV} {L : QL} {l0 l1 l2 l3 l4 l5 : Option CV} {z : Int} : Rr C mX12_changed (20, [l0, l1, l2, l3, l4, l5], qi z :: st, M) x = Rr C mX12_changed (22, [l0, l1, l2, q_cut l3, some (qi z), l5], st, M) x := g_pl (show decode cX12_changed 20 = .ok (.istore 4, 2) by decide +kernel) rfl
set_option maxRecDepth 20000 in
theorem kX12_changed_22 {C : QC} {x : QP} {M : QM} {st : List CV} {L : QL} {l0 l1 l2 l3 l4 l5 : Option CV} {z : Int} : Rr C mX12_changed (22, [l0, l1, l2, l3, some (qi z), l5], st, M) x = Rr C mX12_changed (24, [l0, l1, l2, l3, some (qi z), l5], qi z :: st, M) x := g_pl (show decode cX12_changed 22 = .ok (.iload 4, 2) by decide +kernel) rfl
set_option maxRecDepth 20000 in
theorem kX12_changed_24 {C : QC} {x : QP} {M : QM} {st : List CV} {L : QL} {l0 l1 l2 l3 l4 l5 : Option CV} {r : Option Nat} : Rr C mX12_changed (24, [some (.inr (.inr r)), l1, l2, l3, l4, l5], st, M) x = Rr C mX12_changed (25, [some (.inr (.inr r)), l1, l2, l3, l4, l5], .inr (.inr r) :: st, M) x := g_pl (show decode cX12_changed 24 = .ok (.aload_n 0, 1) by decide +kernel) rfl
set_option maxRecDepth 20000 in
theorem kX12_changed_25 {C : QC} {x : QP} {M : QM} {st : List CV} {L : QL} {a : Nat} (hk : q_kd M a = (1, 12)) : Rr C mX12_changed (25, L, qr a :: st, M) x = Rr C mX12_changed (28, L, q_fv M a 2 :: st, M) x := g_getf (ow := 12) (e := (12, 2, RX12, 381, 0)) (show decode cX12_changed 25 = .ok (.getfield 26, 3) by decide +kernel) rfl hk
set_option maxRecDepth 20000 in
theorem kX12_changed_28 {C : QC} {x : QP} {M : QM} {L : QL} {rest : List CV} {v : CV} {M1 : QM} {b : Nat} (hb : q_kd M b = (1, 11)) (hC : C iX11_size [qr b] M (some v) M1) (hw : (rest.map q_wd).sum ≤ 8) (k : Rr C mX12_changed (31, L, v :: rest, M1) x) : Rr C mX12_changed (28, L, qr b :: rest, M) x := g_cv (ow := 12) (e := (0, 130, 11, [967, 968, 969, 83])) (as := []) (show decode cX12_changed 28 = .ok (.invokevirtual 242, 3) by decide +kernel) rfl rfl rfl (Or.inl rfl) rfl hb hC hw k
set_option maxRecDepth 20000 in
theorem kX12_changed_31 {C : QC} {x : QP} {M : QM} {st : List CV} {L : QL} {a b : Int} (ha1 : -2147483648 ≤ a) (ha2 : a < 2147483648) (hb1 : -2147483648 ≤ b) (hb2 : b < 2147483648) : Rr C mX12_changed (31, L, qi b :: qi a :: st, M) x = (if a < b then Rr C mX12_changed (34, L, st, M) x else Rr C mX12_changed (73, L, st, M) x) := (g_icmp (show decode cX12_changed 31 = .ok (.if_icmp .ge 42, 3) by decide +kernel) rfl ha1 ha2 hb1 hb2).trans (g_itn c_ge)
set_option maxRecDepth 20000 in
theorem kX12_changed_34 {C : QC} {x : QP} {M : QM} {st : List CV} {L : QL} {l0 l1 l2 l3 l4 l5 : Option CV} {r : Option Nat} : Rr C mX12_changed (34, [some (.inr (.inr r)), l1, l2, l3, l4, l5], st, M) x = Rr C mX12_changed (35, [some (.inr (.inr r)), l1, l2, l3, l4, l5], .inr (.inr r) :: st, M) x := g_pl (show decode cX12_changed 34 = .ok (.aload_n 0, 1) by decide +kernel) rfl
set_option maxRecDepth 20000 in
theorem kX12_changed_35 {C : QC} {x : QP} {M : QM} {st : List CV} {L : QL} {a : Nat} (hk : q_kd M a = (1, 12)) : Rr C mX12_changed (35, L, qr a :: st, M) x = Rr C mX12_changed (38, L, q_fv M a 2 :: st, M) x := g_getf (ow := 12) (e := (12, 2, RX12, 381, 0)) (show decode cX12_changed 35 = .ok (.getfield 26, 3) by decide +kernel) rfl hk
set_option maxRecDepth 20000 in
theorem kX12_changed_38 {C : QC} {x : QP} {M : QM} {st : List CV} {L : QL} {l0 l1 l2 l3 l4 l5 : Option CV} {z : Int} : Rr C mX12_changed (38, [l0, l1, l2, l3, some (qi z), l5], st, M) x = Rr C mX12_changed (40, [l0, l1, l2, l3, some (qi z), l5], qi z :: st, M) x := g_pl (show decode cX12_changed 38 = .ok (.iload 4, 2) by decide +kernel) rfl
set_option maxRecDepth 20000 in
theorem kX12_changed_40 {C : QC} {x : QP} {M : QM} {L : QL} {rest : List CV} {a0 : CV} {v : CV} {M1 : QM} {b : Nat} (hb : q_kd M b = (1, 11)) (hC : C iX11_place [qr b, a0] M (some v) M1) (hw : (rest.map q_wd).sum ≤ 8) (k : Rr C mX12_changed (43, L, v :: rest, M1) x) : Rr C mX12_changed (40, L, a0 :: qr b :: rest, M) x := g_cv (ow := 12) (e := (0, 30, 11, [867, 504, 505, 83])) (as := [a0]) (show decode cX12_changed 40 = .ok (.invokevirtual 144, 3) by decide +kernel) rfl rfl rfl (Or.inl rfl) rfl hb hC hw k
set_option maxRecDepth 20000 in
theorem kX12_changed_43 {C : QC} {x : QP} {M : QM} {st : List CV} {L : QL} {l0 l1 l2 l3 l4 l5 : Option CV} {z : Option Nat} : Rr C mX12_changed (43, [l0, l1, l2, l3, l4, l5], .inr (.inr z) :: st, M) x = Rr C mX12_changed (45, [l0, l1, l2, l3, q_cut l4, some (.inr (.inr z))], st, M) x := g_pl (show decode cX12_changed 43 = .ok (.astore 5, 2) by decide +kernel) rfl
set_option maxRecDepth 20000 in
theorem kX12_changed_45 {C : QC} {x : QP} {M : QM} {st : List CV} {L : QL} {l0 l1 l2 l3 l4 l5 : Option CV} {r : Option Nat} : Rr C mX12_changed (45, [l0, l1, l2, l3, l4, some (.inr (.inr r))], st, M) x = Rr C mX12_changed (47, [l0, l1, l2, l3, l4, some (.inr (.inr r))], .inr (.inr r) :: st, M) x := g_pl (show decode cX12_changed 45 = .ok (.aload 5, 2) by decide +kernel) rfl
set_option maxRecDepth 20000 in
theorem kX12_changed_47r {C : QC} {x : QP} {M : QM} {st : List CV} {L : QL} {a : Nat} : Rr C mX12_changed (47, L, qr a :: st, M) x = Rr C mX12_changed (50, L, st, M) x := g_pl (show decode cX12_changed 47 = .ok (.ifnull 20, 3) by decide +kernel) rfl
set_option maxRecDepth 20000 in
theorem kX12_changed_47n {C : QC} {x : QP} {M : QM} {st : List CV} {L : QL} : Rr C mX12_changed (47, L, qn :: st, M) x = Rr C mX12_changed (67, L, st, M) x := g_pl (show decode cX12_changed 47 = .ok (.ifnull 20, 3) by decide +kernel) rfl
set_option maxRecDepth 20000 in
theorem kX12_changed_50 {C : QC} {x : QP} {M : QM} {st : List CV} {L : QL} {l0 l1 l2 l3 l4 l5 : Option CV} {r : Option Nat} : Rr C mX12_changed (50, [l0, l1, l2, l3, l4, some (.inr (.inr r))], st, M) x = Rr C mX12_changed (52, [l0, l1, l2, l3, l4, some (.inr (.inr r))], .inr (.inr r) :: st, M) x := g_pl (show decode cX12_changed 50 = .ok (.aload 5, 2) by decide +kernel) rfl
set_option maxRecDepth 20000 in
theorem kX12_changed_52 {C : QC} {x : QP} {M : QM} {st : List CV} {L : QL} {l0 l1 l2 l3 l4 l5 : Option CV} {z : Int} : Rr C mX12_changed (52, [l0, some (qi z), l2, l3, l4, l5], st, M) x = Rr C mX12_changed (53, [l0, some (qi z), l2, l3, l4, l5], qi z :: st, M) x := g_pl (show decode cX12_changed 52 = .ok (.iload_n 1, 1) by decide +kernel) rfl
set_option maxRecDepth 20000 in
theorem kX12_changed_53 {C : QC} {x : QP} {M : QM} {st : List CV} {L : QL} {l0 l1 l2 l3 l4 l5 : Option CV} {z : Int} : Rr C mX12_changed (53, [l0, l1, some (qi z), l3, l4, l5], st, M) x = Rr C mX12_changed (54, [l0, l1, some (qi z), l3, l4, l5], qi z :: st, M) x := g_pl (show decode cX12_changed 53 = .ok (.iload_n 2, 1) by decide +kernel) rfl
set_option maxRecDepth 20000 in
theorem kX12_changed_54 {C : QC} {x : QP} {M : QM} {L : QL} {rest : List CV} {a0 a1 : CV} {v : CV} {M1 : QM} {b : Nat} (hb : q_kd M b = (1, 4)) (hC : C iX4_differsOn [qr b, a0, a1] M (some v) M1) (hw : (rest.map q_wd).sum ≤ 8) (k : Rr C mX12_changed (57, L, v :: rest, M1) x) : Rr C mX12_changed (54, L, a1 :: a0 :: qr b :: rest, M) x := g_cv (ow := 12) (e := (0, 179, 4, [1215, 1216, 1217, 85])) (as := [a0, a1]) (show decode cX12_changed 54 = .ok (.invokevirtual 273, 3) by decide +kernel) rfl rfl rfl (Or.inl rfl) rfl hb hC hw k
set_option maxRecDepth 20000 in
theorem kX12_changed_57 {C : QC} {x : QP} {M : QM} {st : List CV} {L : QL} {a : Int} (ha1 : -2147483648 ≤ a) (ha2 : a < 2147483648) : Rr C mX12_changed (57, L, qi a :: st, M) x = (if a = 0 then Rr C mX12_changed (67, L, st, M) x else Rr C mX12_changed (60, L, st, M) x) := (g_if (show decode cX12_changed 57 = .ok (.ifCond .eq 10, 3) by decide +kernel) rfl ha1 ha2).trans (g_ite c_eq)
set_option maxRecDepth 20000 in
theorem kX12_changed_60 {C : QC} {x : QP} {M : QM} {st : List CV} {L : QL} {l0 l1 l2 l3 l4 l5 : Option CV} {z : Int} : Rr C mX12_changed (60, [l0, l1, l2, some (qi z), l4, l5], st, M) x = Rr C mX12_changed (61, [l0, l1, l2, some (qi z), l4, l5], qi z :: st, M) x := g_pl (show decode cX12_changed 60 = .ok (.iload_n 3, 1) by decide +kernel) rfl
set_option maxRecDepth 20000 in
theorem kX12_changed_61 {C : QC} {x : QP} {M : QM} {st : List CV} {L : QL} : Rr C mX12_changed (61, L, st, M) x = Rr C mX12_changed (62, L, qi 1 :: st, M) x := g_pl (show decode cX12_changed 61 = .ok (.iconst 1, 1) by decide +kernel) rfl
set_option maxRecDepth 20000 in
theorem kX12_changed_62 {C : QC} {x : QP} {M : QM} {st : List CV} {L : QL} {l0 l1 l2 l3 l4 l5 : Option CV} {z : Int} : Rr C mX12_changed (62, [l0, l1, l2, l3, some (qi z), l5], st, M) x = Rr C mX12_changed (64, [l0, l1, l2, l3, some (qi z), l5], qi z :: st, M) x := g_pl (show decode cX12_changed 62 = .ok (.iload 4, 2) by decide +kernel) rfl
set_option maxRecDepth 20000 in
theorem kX12_changed_64 {C : QC} {x : QP} {M : QM} {st : List CV} {L : QL} {a b : Int} : Rr C mX12_changed (64, L, qi b :: qi a :: st, M) x = Rr C mX12_changed (65, L, qi (q_shl a b) :: st, M) x := g_pl (show decode cX12_changed 64 = .ok (.ishl, 1) by decide +kernel) rfl
set_option maxRecDepth 20000 in
theorem kX12_changed_65 {C : QC} {x : QP} {M : QM} {st : List CV} {L : QL} {a b : Int} : Rr C mX12_changed (65, L, qi b :: qi a :: st, M) x = Rr C mX12_changed (66, L, qi (q_or a b) :: st, M) x := g_pl (show decode cX12_changed 65 = .ok (.ior, 1) by decide +kernel) rfl
set_option maxRecDepth 20000 in
theorem kX12_changed_66 {C : QC} {x : QP} {M : QM} {st : List CV} {L : QL} {l0 l1 l2 l3 l4 l5 : Option CV} {z : Int} : Rr C mX12_changed (66, [l0, l1, l2, l3, l4, l5], qi z :: st, M) x = Rr C mX12_changed (67, [l0, l1, q_cut l2, some (qi z), l4, l5], st, M) x := g_pl (show decode cX12_changed 66 = .ok (.istore_n 3, 1) by decide +kernel) rfl
set_option maxRecDepth 20000 in
theorem kX12_changed_67 {C : QC} {x : QP} {M : QM} {st : List CV} {L : QL} {l0 l1 l2 l3 l4 l5 : Option CV} {z : Int} : Rr C mX12_changed (67, [l0, l1, l2, l3, some (qi z), l5], st, M) x = Rr C mX12_changed (70, [l0, l1, l2, q_cut l3, some (qi (z + 1)), l5], st, M) x := g_pl (show decode cX12_changed 67 = .ok (.iinc 4 1, 3) by decide +kernel) rfl
set_option maxRecDepth 20000 in
theorem kX12_changed_70 {C : QC} {x : QP} {M : QM} {st : List CV} {L : QL} : Rr C mX12_changed (70, L, st, M) x = Rr C mX12_changed (22, L, st, M) x := g_pl (show decode cX12_changed 70 = .ok (.goto (-48), 3) by decide +kernel) rfl
set_option maxRecDepth 20000 in
theorem kX12_changed_73 {C : QC} {x : QP} {M : QM} {st : List CV} {L : QL} {l0 l1 l2 l3 l4 l5 : Option CV} {z : Int} : Rr C mX12_changed (73, [l0, l1, l2, some (qi z), l4, l5], st, M) x = Rr C mX12_changed (74, [l0, l1, l2, some (qi z), l4, l5], qi z :: st, M) x := g_pl (show decode cX12_changed 73 = .ok (.iload_n 3, 1) by decide +kernel) rfl
set_option maxRecDepth 20000 in
theorem kX12_changed_74 {C : QC} {x : QP} {M : QM} {st : List CV} {L : QL} {z : Int} : Rr C mX12_changed (74, L, [qi z], M) x = x (some (qi z)) M := g_iret (show decode cX12_changed 74 = .ok (.ireturn, 1) by decide +kernel) rfl
set_option maxRecDepth 20000 in
theorem eX12_changed {d : Nat} {M : QM} {x : QP} {a : Nat} {v0 : Int} {v1 : Int} : q_T (d + 1) iX12_changed [qr a, qi v0, qi v1] M x = Rr (q_C d) mX12_changed (0, [some (qr a), some (qi v0), some (qi v1), none, none, none], [], M) x := g_entryT (e := _) rfl (Nat.le_of_ble_eq_true rfl) rfl rfl
def mX12_longest : QI := (12, cX12_longest, false, some .int)
set_option maxRecDepth 20000 in
theorem kX12_longest_0 {C : QC} {x : QP} {M : QM} {st : List CV} {L : QL} {l0 l1 l2 l3 l4 : Option CV} {r : Option Nat} : Rr C mX12_longest (0, [some (.inr (.inr r)), l1, l2, l3, l4], st, M) x = Rr C mX12_longest (1, [some (.inr (.inr r)), l1, l2, l3, l4], .inr (.inr r) :: st, M) x := g_pl (show decode cX12_longest 0 = .ok (.aload_n 0, 1) by decide +kernel) rfl
set_option maxRecDepth 20000 in
theorem kX12_longest_1 {C : QC} {x : QP} {M : QM} {st : List CV} {L : QL} {a : Nat} (hk : q_kd M a = (1, 12)) : Rr C mX12_longest (1, L, qr a :: st, M) x = Rr C mX12_longest (4, L, q_fv M a 2 :: st, M) x := g_getf (ow := 12) (e := (12, 2, RX12, 381, 0)) (show decode cX12_longest 1 = .ok (.getfield 26, 3) by decide +kernel) rfl hk
set_option maxRecDepth 20000 in
theorem kX12_longest_4 {C : QC} {x : QP} {M : QM} {st : List CV} {L : QL} {l0 l1 l2 l3 l4 : Option CV} {z : Int} : Rr C mX12_longest (4, [l0, some (qi z), l2, l3, l4], st, M) x = Rr C mX12_longest (5, [l0, some (qi z), l2, l3, l4], qi z :: st, M) x := g_pl (show decode cX12_longest 4 = .ok (.iload_n 1, 1) by decide +kernel) rfl
set_option maxRecDepth 20000 in
theorem kX12_longest_5 {C : QC} {x : QP} {M : QM} {L : QL} {rest : List CV} {a0 : CV} {v : CV} {M1 : QM} {b : Nat} (hb : q_kd M b = (1, 11)) (hC : C iX11_place [qr b, a0] M (some v) M1) (hw : (rest.map q_wd).sum ≤ 8) (k : Rr C mX12_longest (8, L, v :: rest, M1) x) : Rr C mX12_longest (5, L, a0 :: qr b :: rest, M) x := g_cv (ow := 12) (e := (0, 30, 11, [867, 504, 505, 83])) (as := [a0]) (show decode cX12_longest 5 = .ok (.invokevirtual 144, 3) by decide +kernel) rfl rfl rfl (Or.inl rfl) rfl hb hC hw k
set_option maxRecDepth 20000 in
theorem kX12_longest_8 {C : QC} {x : QP} {M : QM} {st : List CV} {L : QL} {l0 l1 l2 l3 l4 : Option CV} {z : Option Nat} : Rr C mX12_longest (8, [l0, l1, l2, l3, l4], .inr (.inr z) :: st, M) x = Rr C mX12_longest (9, [l0, l1, q_cut l2, some (.inr (.inr z)), l4], st, M) x := g_pl (show decode cX12_longest 8 = .ok (.astore_n 3, 1) by decide +kernel) rfl
set_option maxRecDepth 20000 in
theorem kX12_longest_9 {C : QC} {x : QP} {M : QM} {st : List CV} {L : QL} {l0 l1 l2 l3 l4 : Option CV} {r : Option Nat} : Rr C mX12_longest (9, [l0, l1, l2, some (.inr (.inr r)), l4], st, M) x = Rr C mX12_longest (10, [l0, l1, l2, some (.inr (.inr r)), l4], .inr (.inr r) :: st, M) x := g_pl (show decode cX12_longest 9 = .ok (.aload_n 3, 1) by decide +kernel) rfl
set_option maxRecDepth 20000 in
theorem kX12_longest_10r {C : QC} {x : QP} {M : QM} {st : List CV} {L : QL} {a : Nat} : Rr C mX12_longest (10, L, qr a :: st, M) x = Rr C mX12_longest (15, L, st, M) x := g_pl (show decode cX12_longest 10 = .ok (.ifnonnull 5, 3) by decide +kernel) rfl
set_option maxRecDepth 20000 in
theorem kX12_longest_10n {C : QC} {x : QP} {M : QM} {st : List CV} {L : QL} : Rr C mX12_longest (10, L, qn :: st, M) x = Rr C mX12_longest (13, L, st, M) x := g_pl (show decode cX12_longest 10 = .ok (.ifnonnull 5, 3) by decide +kernel) rfl
set_option maxRecDepth 20000 in
theorem kX12_longest_13 {C : QC} {x : QP} {M : QM} {st : List CV} {L : QL} : Rr C mX12_longest (13, L, st, M) x = Rr C mX12_longest (14, L, qi (-1) :: st, M) x := g_pl (show decode cX12_longest 13 = .ok (.iconst (-1), 1) by decide +kernel) rfl
set_option maxRecDepth 20000 in
theorem kX12_longest_14 {C : QC} {x : QP} {M : QM} {st : List CV} {L : QL} {z : Int} : Rr C mX12_longest (14, L, [qi z], M) x = x (some (qi z)) M := g_iret (show decode cX12_longest 14 = .ok (.ireturn, 1) by decide +kernel) rfl
set_option maxRecDepth 20000 in
theorem kX12_longest_15 {C : QC} {x : QP} {M : QM} {st : List CV} {L : QL} {l0 l1 l2 l3 l4 : Option CV} {r : Option Nat} : Rr C mX12_longest (15, [l0, l1, l2, some (.inr (.inr r)), l4], st, M) x = Rr C mX12_longest (16, [l0, l1, l2, some (.inr (.inr r)), l4], .inr (.inr r) :: st, M) x := g_pl (show decode cX12_longest 15 = .ok (.aload_n 3, 1) by decide +kernel) rfl
set_option maxRecDepth 20000 in
theorem kX12_longest_16 {C : QC} {x : QP} {M : QM} {st : List CV} {L : QL} {a : Nat} (hk : q_kd M a = (1, 4)) : Rr C mX12_longest (16, L, qr a :: st, M) x = Rr C mX12_longest (19, L, q_fv M a 6 :: st, M) x := g_getf (ow := 12) (e := (4, 6, RX4, 287, 0)) (show decode cX12_longest 16 = .ok (.getfield 174, 3) by decide +kernel) rfl hk
set_option maxRecDepth 20000 in
theorem kX12_longest_19 {C : QC} {x : QP} {M : QM} {st : List CV} {L : QL} {l0 l1 l2 l3 l4 : Option CV} {r : Option Nat} : Rr C mX12_longest (19, [l0, l1, l2, some (.inr (.inr r)), l4], st, M) x = Rr C mX12_longest (20, [l0, l1, l2, some (.inr (.inr r)), l4], .inr (.inr r) :: st, M) x := g_pl (show decode cX12_longest 19 = .ok (.aload_n 3, 1) by decide +kernel) rfl
set_option maxRecDepth 20000 in
theorem kX12_longest_20 {C : QC} {x : QP} {M : QM} {L : QL} {rest : List CV} {v : CV} {M1 : QM} {b : Nat} (hb : q_kd M b = (1, 4)) (hC : C iX4_end [qr b] M (some v) M1) (hw : (rest.map q_wd).sum ≤ 8) (k : Rr C mX12_longest (23, L, v :: rest, M1) x) : Rr C mX12_longest (20, L, qr b :: rest, M) x := g_cv (ow := 12) (e := (0, 40, 4, [1226, 541, 542, 85])) (as := []) (show decode cX12_longest 20 = .ok (.invokevirtual 277, 3) by decide +kernel) rfl rfl rfl (Or.inl rfl) rfl hb hC hw k
set_option maxRecDepth 20000 in
theorem kX12_longest_23 {C : QC} {x : QP} {M : QM} {L : QL} {rest : List CV} {a0 : CV} {v : CV} {M1 : QM} {b : Nat} (hb : q_kd M b = (1, 2)) (hC : C iX2_longestHeld [qr b, a0] M (some v) M1) (hw : (rest.map q_wd).sum ≤ 8) (k : Rr C mX12_longest (26, L, v :: rest, M1) x) : Rr C mX12_longest (23, L, a0 :: qr b :: rest, M) x := g_cv (ow := 12) (e := (0, 181, 2, [1227, 1228, 1229, 86])) (as := [a0]) (show decode cX12_longest 23 = .ok (.invokevirtual 280, 3) by decide +kernel) rfl rfl rfl (Or.inl rfl) rfl hb hC hw k
set_option maxRecDepth 20000 in
theorem kX12_longest_26 {C : QC} {x : QP} {M : QM} {st : List CV} {L : QL} {l0 l1 l2 l3 l4 : Option CV} {z : Int} : Rr C mX12_longest (26, [l0, l1, l2, l3, l4], qi z :: st, M) x = Rr C mX12_longest (28, [l0, l1, l2, q_cut l3, some (qi z)], st, M) x := g_pl (show decode cX12_longest 26 = .ok (.istore 4, 2) by decide +kernel) rfl
set_option maxRecDepth 20000 in
theorem kX12_longest_28 {C : QC} {x : QP} {M : QM} {st : List CV} {L : QL} {l0 l1 l2 l3 l4 : Option CV} {z : Int} : Rr C mX12_longest (28, [l0, l1, some (qi z), l3, l4], st, M) x = Rr C mX12_longest (29, [l0, l1, some (qi z), l3, l4], qi z :: st, M) x := g_pl (show decode cX12_longest 28 = .ok (.iload_n 2, 1) by decide +kernel) rfl
set_option maxRecDepth 20000 in
theorem kX12_longest_29 {C : QC} {x : QP} {M : QM} {st : List CV} {L : QL} {a : Int} (ha1 : -2147483648 ≤ a) (ha2 : a < 2147483648) : Rr C mX12_longest (29, L, qi a :: st, M) x = (if a = 0 then Rr C mX12_longest (56, L, st, M) x else if a = 1 then Rr C mX12_longest (66, L, st, M) x else if a = 2 then Rr C mX12_longest (80, L, st, M) x else Rr C mX12_longest (93, L, st, M) x) := by
  by_cases h0 : a = 0
  · subst h0; rw [if_pos rfl]; exact g_tsI (show decode cX12_longest 29 = .ok (.tableswitch 64 0 2 #[27, 37, 51], 27) by decide +kernel) (by decide) (by decide) rfl rfl
  rw [if_neg h0]
  by_cases h1 : a = 1
  · subst h1; rw [if_pos rfl]; exact g_tsI (show decode cX12_longest 29 = .ok (.tableswitch 64 0 2 #[27, 37, 51], 27) by decide +kernel) (by decide) (by decide) rfl rfl
  rw [if_neg h1]
  by_cases h2 : a = 2
  · subst h2; rw [if_pos rfl]; exact g_tsI (show decode cX12_longest 29 = .ok (.tableswitch 64 0 2 #[27, 37, 51], 27) by decide +kernel) (by decide) (by decide) rfl rfl
  rw [if_neg h2]
  exact g_tsO (show decode cX12_longest 29 = .ok (.tableswitch 64 0 2 #[27, 37, 51], 27) by decide +kernel) ⟨ha1, ha2⟩ (by omega) rfl
set_option maxRecDepth 20000 in
theorem kX12_longest_56 {C : QC} {x : QP} {M : QM} {st : List CV} {L : QL} {l0 l1 l2 l3 l4 : Option CV} {r : Option Nat} : Rr C mX12_longest (56, [l0, l1, l2, some (.inr (.inr r)), l4], st, M) x = Rr C mX12_longest (57, [l0, l1, l2, some (.inr (.inr r)), l4], .inr (.inr r) :: st, M) x := g_pl (show decode cX12_longest 56 = .ok (.aload_n 3, 1) by decide +kernel) rfl
set_option maxRecDepth 20000 in
theorem kX12_longest_57 {C : QC} {x : QP} {M : QM} {st : List CV} {L : QL} {a : Nat} (hk : q_kd M a = (1, 4)) : Rr C mX12_longest (57, L, qr a :: st, M) x = Rr C mX12_longest (60, L, q_fv M a 6 :: st, M) x := g_getf (ow := 12) (e := (4, 6, RX4, 287, 0)) (show decode cX12_longest 57 = .ok (.getfield 174, 3) by decide +kernel) rfl hk
set_option maxRecDepth 20000 in
theorem kX12_longest_60 {C : QC} {x : QP} {M : QM} {st : List CV} {L : QL} {l0 l1 l2 l3 l4 : Option CV} {z : Int} : Rr C mX12_longest (60, [l0, l1, l2, l3, some (qi z)], st, M) x = Rr C mX12_longest (62, [l0, l1, l2, l3, some (qi z)], qi z :: st, M) x := g_pl (show decode cX12_longest 60 = .ok (.iload 4, 2) by decide +kernel) rfl
set_option maxRecDepth 20000 in
theorem kX12_longest_62 {C : QC} {x : QP} {M : QM} {L : QL} {rest : List CV} {a0 : CV} {v : CV} {M1 : QM} {b : Nat} (hb : q_kd M b = (1, 2)) (hC : C iX2_dayOf [qr b, a0] M (some v) M1) (hw : (rest.map q_wd).sum ≤ 8) (k : Rr C mX12_longest (65, L, v :: rest, M1) x) : Rr C mX12_longest (62, L, a0 :: qr b :: rest, M) x := g_cv (ow := 12) (e := (0, 183, 2, [1239, 1236, 1237, 86])) (as := [a0]) (show decode cX12_longest 62 = .ok (.invokevirtual 283, 3) by decide +kernel) rfl rfl rfl (Or.inl rfl) rfl hb hC hw k
set_option maxRecDepth 20000 in
theorem kX12_longest_65 {C : QC} {x : QP} {M : QM} {st : List CV} {L : QL} {z : Int} : Rr C mX12_longest (65, L, [qi z], M) x = x (some (qi z)) M := g_iret (show decode cX12_longest 65 = .ok (.ireturn, 1) by decide +kernel) rfl
set_option maxRecDepth 20000 in
theorem kX12_longest_66 {C : QC} {x : QP} {M : QM} {st : List CV} {L : QL} {l0 l1 l2 l3 l4 : Option CV} {r : Option Nat} : Rr C mX12_longest (66, [l0, l1, l2, some (.inr (.inr r)), l4], st, M) x = Rr C mX12_longest (67, [l0, l1, l2, some (.inr (.inr r)), l4], .inr (.inr r) :: st, M) x := g_pl (show decode cX12_longest 66 = .ok (.aload_n 3, 1) by decide +kernel) rfl
set_option maxRecDepth 20000 in
theorem kX12_longest_67 {C : QC} {x : QP} {M : QM} {st : List CV} {L : QL} {a : Nat} (hk : q_kd M a = (1, 4)) : Rr C mX12_longest (67, L, qr a :: st, M) x = Rr C mX12_longest (70, L, q_fv M a 6 :: st, M) x := g_getf (ow := 12) (e := (4, 6, RX4, 287, 0)) (show decode cX12_longest 67 = .ok (.getfield 174, 3) by decide +kernel) rfl hk
set_option maxRecDepth 20000 in
theorem kX12_longest_70 {C : QC} {x : QP} {M : QM} {st : List CV} {L : QL} {l0 l1 l2 l3 l4 : Option CV} {z : Int} : Rr C mX12_longest (70, [l0, l1, l2, l3, some (qi z)], st, M) x = Rr C mX12_longest (72, [l0, l1, l2, l3, some (qi z)], qi z :: st, M) x := g_pl (show decode cX12_longest 70 = .ok (.iload 4, 2) by decide +kernel) rfl
set_option maxRecDepth 20000 in
theorem kX12_longest_72 {C : QC} {x : QP} {M : QM} {st : List CV} {L : QL} {l0 l1 l2 l3 l4 : Option CV} {r : Option Nat} : Rr C mX12_longest (72, [l0, l1, l2, some (.inr (.inr r)), l4], st, M) x = Rr C mX12_longest (73, [l0, l1, l2, some (.inr (.inr r)), l4], .inr (.inr r) :: st, M) x := g_pl (show decode cX12_longest 72 = .ok (.aload_n 3, 1) by decide +kernel) rfl
set_option maxRecDepth 20000 in
theorem kX12_longest_73 {C : QC} {x : QP} {M : QM} {L : QL} {rest : List CV} {v : CV} {M1 : QM} {b : Nat} (hb : q_kd M b = (1, 4)) (hC : C iX4_end [qr b] M (some v) M1) (hw : (rest.map q_wd).sum ≤ 8) (k : Rr C mX12_longest (76, L, v :: rest, M1) x) : Rr C mX12_longest (73, L, qr b :: rest, M) x := g_cv (ow := 12) (e := (0, 40, 4, [1226, 541, 542, 85])) (as := []) (show decode cX12_longest 73 = .ok (.invokevirtual 277, 3) by decide +kernel) rfl rfl rfl (Or.inl rfl) rfl hb hC hw k
set_option maxRecDepth 20000 in
theorem kX12_longest_76 {C : QC} {x : QP} {M : QM} {L : QL} {rest : List CV} {a0 a1 : CV} {v : CV} {M1 : QM} {b : Nat} (hb : q_kd M b = (1, 2)) (hC : C iX2_daysOf [qr b, a0, a1] M (some v) M1) (hw : (rest.map q_wd).sum ≤ 8) (k : Rr C mX12_longest (79, L, v :: rest, M1) x) : Rr C mX12_longest (76, L, a1 :: a0 :: qr b :: rest, M) x := g_cv (ow := 12) (e := (0, 182, 2, [1240, 1232, 1233, 86])) (as := [a0, a1]) (show decode cX12_longest 76 = .ok (.invokevirtual 284, 3) by decide +kernel) rfl rfl rfl (Or.inl rfl) rfl hb hC hw k
set_option maxRecDepth 20000 in
theorem kX12_longest_79 {C : QC} {x : QP} {M : QM} {st : List CV} {L : QL} {z : Int} : Rr C mX12_longest (79, L, [qi z], M) x = x (some (qi z)) M := g_iret (show decode cX12_longest 79 = .ok (.ireturn, 1) by decide +kernel) rfl
set_option maxRecDepth 20000 in
theorem kX12_longest_80 {C : QC} {x : QP} {M : QM} {st : List CV} {L : QL} {l0 l1 l2 l3 l4 : Option CV} {r : Option Nat} : Rr C mX12_longest (80, [l0, l1, l2, some (.inr (.inr r)), l4], st, M) x = Rr C mX12_longest (81, [l0, l1, l2, some (.inr (.inr r)), l4], .inr (.inr r) :: st, M) x := g_pl (show decode cX12_longest 80 = .ok (.aload_n 3, 1) by decide +kernel) rfl
set_option maxRecDepth 20000 in
theorem kX12_longest_81 {C : QC} {x : QP} {M : QM} {st : List CV} {L : QL} {a : Nat} (hk : q_kd M a = (1, 4)) : Rr C mX12_longest (81, L, qr a :: st, M) x = Rr C mX12_longest (84, L, q_fv M a 6 :: st, M) x := g_getf (ow := 12) (e := (4, 6, RX4, 287, 0)) (show decode cX12_longest 81 = .ok (.getfield 174, 3) by decide +kernel) rfl hk
set_option maxRecDepth 20000 in
theorem kX12_longest_84 {C : QC} {x : QP} {M : QM} {st : List CV} {L : QL} {l0 l1 l2 l3 l4 : Option CV} {z : Int} : Rr C mX12_longest (84, [l0, l1, l2, l3, some (qi z)], st, M) x = Rr C mX12_longest (86, [l0, l1, l2, l3, some (qi z)], qi z :: st, M) x := g_pl (show decode cX12_longest 84 = .ok (.iload 4, 2) by decide +kernel) rfl
set_option maxRecDepth 20000 in
theorem kX12_longest_86 {C : QC} {x : QP} {M : QM} {L : QL} {rest : List CV} {a0 : CV} {v : CV} {M1 : QM} {b : Nat} (hb : q_kd M b = (1, 2)) (hC : C iX2_wordOf [qr b, a0] M (some v) M1) (hw : (rest.map q_wd).sum ≤ 8) (k : Rr C mX12_longest (89, L, v :: rest, M1) x) : Rr C mX12_longest (86, L, a0 :: qr b :: rest, M) x := g_cv (ow := 12) (e := (0, 184, 2, [1241, 1242, 1243, 86])) (as := [a0]) (show decode cX12_longest 86 = .ok (.invokevirtual 287, 3) by decide +kernel) rfl rfl rfl (Or.inl rfl) rfl hb hC hw k
set_option maxRecDepth 20000 in
theorem kX12_longest_89 {C : QC} {x : QP} {M : QM} {L : QL} {rest : List CV} {a0 : CV} {v : CV} {M1 : QM} (hC : C iX10_lengthOf [a0] M (some v) M1) (hw : (rest.map q_wd).sum ≤ 8) (k : Rr C mX12_longest (92, L, v :: rest, M1) x) : Rr C mX12_longest (89, L, a0 :: rest, M) x := g_cs (ow := 12) (e := (1, 67, 0, [884, 688, 95])) (as := [a0]) (show decode cX12_longest 89 = .ok (.invokestatic 183, 3) by decide +kernel) rfl rfl rfl rfl (Or.inl rfl) rfl hC hw k
set_option maxRecDepth 20000 in
theorem kX12_longest_92 {C : QC} {x : QP} {M : QM} {st : List CV} {L : QL} {z : Int} : Rr C mX12_longest (92, L, [qi z], M) x = x (some (qi z)) M := g_iret (show decode cX12_longest 92 = .ok (.ireturn, 1) by decide +kernel) rfl
set_option maxRecDepth 20000 in
theorem kX12_longest_93 {C : QC} {x : QP} {M : QM} {st : List CV} {L : QL} : Rr C mX12_longest (93, L, st, M) x = Rr C mX12_longest (94, L, qi (-1) :: st, M) x := g_pl (show decode cX12_longest 93 = .ok (.iconst (-1), 1) by decide +kernel) rfl
set_option maxRecDepth 20000 in
theorem kX12_longest_94 {C : QC} {x : QP} {M : QM} {st : List CV} {L : QL} {z : Int} : Rr C mX12_longest (94, L, [qi z], M) x = x (some (qi z)) M := g_iret (show decode cX12_longest 94 = .ok (.ireturn, 1) by decide +kernel) rfl
set_option maxRecDepth 20000 in
theorem eX12_longest {d : Nat} {M : QM} {x : QP} {a : Nat} {v0 : Int} {v1 : Int} : q_T (d + 1) iX12_longest [qr a, qi v0, qi v1] M x = Rr (q_C d) mX12_longest (0, [some (qr a), some (qi v0), some (qi v1), none, none], [], M) x := g_entryT (e := _) rfl (Nat.le_of_ble_eq_true rfl) rfl rfl
def mX12_account : QI := (12, cX12_account, false, some .int)
set_option maxRecDepth 20000 in
theorem kX12_account_0 {C : QC} {x : QP} {M : QM} {st : List CV} {L : QL} {l0 l1 l2 : Option CV} {z : Int} : Rr C mX12_account (0, [l0, l1, some (qi z)], st, M) x = Rr C mX12_account (1, [l0, l1, some (qi z)], qi z :: st, M) x := g_pl (show decode cX12_account 0 = .ok (.iload_n 2, 1) by decide +kernel) rfl
set_option maxRecDepth 20000 in
theorem kX12_account_1 {C : QC} {x : QP} {M : QM} {st : List CV} {L : QL} {a : Int} (ha1 : -2147483648 ≤ a) (ha2 : a < 2147483648) : Rr C mX12_account (1, L, qi a :: st, M) x = (if a < 0 then Rr C mX12_account (10, L, st, M) x else Rr C mX12_account (4, L, st, M) x) := (g_if (show decode cX12_account 1 = .ok (.ifCond .lt 9, 3) by decide +kernel) rfl ha1 ha2).trans (g_ite c_lt)
set_option maxRecDepth 20000 in
theorem kX12_account_4 {C : QC} {x : QP} {M : QM} {st : List CV} {L : QL} {l0 l1 l2 : Option CV} {z : Int} : Rr C mX12_account (4, [l0, l1, some (qi z)], st, M) x = Rr C mX12_account (5, [l0, l1, some (qi z)], qi z :: st, M) x := g_pl (show decode cX12_account 4 = .ok (.iload_n 2, 1) by decide +kernel) rfl
set_option maxRecDepth 20000 in
theorem kX12_account_5 {C : QC} {x : QP} {M : QM} {st : List CV} {L : QL} : Rr C mX12_account (5, L, st, M) x = Rr C mX12_account (7, L, qi 8 :: st, M) x := g_pl (show decode cX12_account 5 = .ok (.bipush 8, 2) by decide +kernel) rfl
set_option maxRecDepth 20000 in
theorem kX12_account_7 {C : QC} {x : QP} {M : QM} {st : List CV} {L : QL} {a b : Int} (ha1 : -2147483648 ≤ a) (ha2 : a < 2147483648) (hb1 : -2147483648 ≤ b) (hb2 : b < 2147483648) : Rr C mX12_account (7, L, qi b :: qi a :: st, M) x = (if b < a then Rr C mX12_account (10, L, st, M) x else Rr C mX12_account (12, L, st, M) x) := (g_icmp (show decode cX12_account 7 = .ok (.if_icmp .le 5, 3) by decide +kernel) rfl ha1 ha2 hb1 hb2).trans (g_itn c_le)
set_option maxRecDepth 20000 in
theorem kX12_account_10 {C : QC} {x : QP} {M : QM} {st : List CV} {L : QL} : Rr C mX12_account (10, L, st, M) x = Rr C mX12_account (11, L, qi (-1) :: st, M) x := g_pl (show decode cX12_account 10 = .ok (.iconst (-1), 1) by decide +kernel) rfl
set_option maxRecDepth 20000 in
theorem kX12_account_11 {C : QC} {x : QP} {M : QM} {st : List CV} {L : QL} {z : Int} : Rr C mX12_account (11, L, [qi z], M) x = x (some (qi z)) M := g_iret (show decode cX12_account 11 = .ok (.ireturn, 1) by decide +kernel) rfl
set_option maxRecDepth 20000 in
theorem kX12_account_12 {C : QC} {x : QP} {M : QM} {st : List CV} {L : QL} {l0 l1 l2 : Option CV} {z : Int} : Rr C mX12_account (12, [l0, some (qi z), l2], st, M) x = Rr C mX12_account (13, [l0, some (qi z), l2], qi z :: st, M) x := g_pl (show decode cX12_account 12 = .ok (.iload_n 1, 1) by decide +kernel) rfl
set_option maxRecDepth 20000 in
theorem kX12_account_13 {C : QC} {x : QP} {M : QM} {L : QL} {rest : List CV} {a0 : CV} {v : CV} {M1 : QM} (hC : C iX12_isDay [a0] M (some v) M1) (hw : (rest.map q_wd).sum ≤ 8) (k : Rr C mX12_account (16, L, v :: rest, M1) x) : Rr C mX12_account (13, L, a0 :: rest, M) x := g_cs (ow := 12) (e := (1, 27, 0, [868, 494, 77])) (as := [a0]) (show decode cX12_account 13 = .ok (.invokestatic 148, 3) by decide +kernel) rfl rfl rfl rfl (Or.inl rfl) rfl hC hw k
set_option maxRecDepth 20000 in
theorem kX12_account_16 {C : QC} {x : QP} {M : QM} {st : List CV} {L : QL} {a : Int} (ha1 : -2147483648 ≤ a) (ha2 : a < 2147483648) : Rr C mX12_account (16, L, qi a :: st, M) x = (if a = 0 then Rr C mX12_account (19, L, st, M) x else Rr C mX12_account (22, L, st, M) x) := (g_if (show decode cX12_account 16 = .ok (.ifCond .ne 6, 3) by decide +kernel) rfl ha1 ha2).trans (g_itn c_ne)
set_option maxRecDepth 20000 in
theorem kX12_account_19 {C : QC} {x : QP} {M : QM} {st : List CV} {L : QL} : Rr C mX12_account (19, L, st, M) x = Rr C mX12_account (21, L, qi (-2) :: st, M) x := g_pl (show decode cX12_account 19 = .ok (.bipush (-2), 2) by decide +kernel) rfl
set_option maxRecDepth 20000 in
theorem kX12_account_21 {C : QC} {x : QP} {M : QM} {st : List CV} {L : QL} {z : Int} : Rr C mX12_account (21, L, [qi z], M) x = x (some (qi z)) M := g_iret (show decode cX12_account 21 = .ok (.ireturn, 1) by decide +kernel) rfl
set_option maxRecDepth 20000 in
theorem kX12_account_22 {C : QC} {x : QP} {M : QM} {st : List CV} {L : QL} {l0 l1 l2 : Option CV} {z : Int} : Rr C mX12_account (22, [l0, l1, some (qi z)], st, M) x = Rr C mX12_account (23, [l0, l1, some (qi z)], qi z :: st, M) x := g_pl (show decode cX12_account 22 = .ok (.iload_n 2, 1) by decide +kernel) rfl
set_option maxRecDepth 20000 in
theorem kX12_account_23 {C : QC} {x : QP} {M : QM} {st : List CV} {L : QL} {a : Int} (ha1 : -2147483648 ≤ a) (ha2 : a < 2147483648) : Rr C mX12_account (23, L, qi a :: st, M) x = (if a = 4 then Rr C mX12_account (56, L, st, M) x else if a = 5 then Rr C mX12_account (68, L, st, M) x else if a = 6 then Rr C mX12_account (77, L, st, M) x else if a = 7 then Rr C mX12_account (86, L, st, M) x else if a = 8 then Rr C mX12_account (95, L, st, M) x else Rr C mX12_account (104, L, st, M) x) := by
  by_cases h0 : a = 4
  · subst h0; rw [if_pos rfl]; exact g_tsI (show decode cX12_account 23 = .ok (.tableswitch 81 4 8 #[33, 45, 54, 63, 72], 33) by decide +kernel) (by decide) (by decide) rfl rfl
  rw [if_neg h0]
  by_cases h1 : a = 5
  · subst h1; rw [if_pos rfl]; exact g_tsI (show decode cX12_account 23 = .ok (.tableswitch 81 4 8 #[33, 45, 54, 63, 72], 33) by decide +kernel) (by decide) (by decide) rfl rfl
  rw [if_neg h1]
  by_cases h2 : a = 6
  · subst h2; rw [if_pos rfl]; exact g_tsI (show decode cX12_account 23 = .ok (.tableswitch 81 4 8 #[33, 45, 54, 63, 72], 33) by decide +kernel) (by decide) (by decide) rfl rfl
  rw [if_neg h2]
  by_cases h3 : a = 7
  · subst h3; rw [if_pos rfl]; exact g_tsI (show decode cX12_account 23 = .ok (.tableswitch 81 4 8 #[33, 45, 54, 63, 72], 33) by decide +kernel) (by decide) (by decide) rfl rfl
  rw [if_neg h3]
  by_cases h4 : a = 8
  · subst h4; rw [if_pos rfl]; exact g_tsI (show decode cX12_account 23 = .ok (.tableswitch 81 4 8 #[33, 45, 54, 63, 72], 33) by decide +kernel) (by decide) (by decide) rfl rfl
  rw [if_neg h4]
  exact g_tsO (show decode cX12_account 23 = .ok (.tableswitch 81 4 8 #[33, 45, 54, 63, 72], 33) by decide +kernel) ⟨ha1, ha2⟩ (by omega) rfl
set_option maxRecDepth 20000 in
theorem kX12_account_56 {C : QC} {x : QP} {M : QM} {st : List CV} {L : QL} {l0 l1 l2 : Option CV} {r : Option Nat} : Rr C mX12_account (56, [some (.inr (.inr r)), l1, l2], st, M) x = Rr C mX12_account (57, [some (.inr (.inr r)), l1, l2], .inr (.inr r) :: st, M) x := g_pl (show decode cX12_account 56 = .ok (.aload_n 0, 1) by decide +kernel) rfl
set_option maxRecDepth 20000 in
theorem kX12_account_57 {C : QC} {x : QP} {M : QM} {st : List CV} {L : QL} {a : Nat} (hk : q_kd M a = (1, 12)) : Rr C mX12_account (57, L, qr a :: st, M) x = Rr C mX12_account (60, L, q_fv M a 2 :: st, M) x := g_getf (ow := 12) (e := (12, 2, RX12, 381, 0)) (show decode cX12_account 57 = .ok (.getfield 26, 3) by decide +kernel) rfl hk
set_option maxRecDepth 20000 in
theorem kX12_account_60 {C : QC} {x : QP} {M : QM} {st : List CV} {L : QL} {l0 l1 l2 : Option CV} {z : Int} : Rr C mX12_account (60, [l0, some (qi z), l2], st, M) x = Rr C mX12_account (61, [l0, some (qi z), l2], qi z :: st, M) x := g_pl (show decode cX12_account 60 = .ok (.iload_n 1, 1) by decide +kernel) rfl
set_option maxRecDepth 20000 in
theorem kX12_account_61 {C : QC} {x : QP} {M : QM} {L : QL} {rest : List CV} {a0 : CV} {v : CV} {M1 : QM} {b : Nat} (hb : q_kd M b = (1, 11)) (hC : C iX11_existingOn [qr b, a0] M (some v) M1) (hw : (rest.map q_wd).sum ≤ 8) (k : Rr C mX12_account (64, L, v :: rest, M1) x) : Rr C mX12_account (61, L, a0 :: qr b :: rest, M) x := g_cv (ow := 12) (e := (0, 142, 11, [1249, 1020, 1021, 83])) (as := [a0]) (show decode cX12_account 61 = .ok (.invokevirtual 290, 3) by decide +kernel) rfl rfl rfl (Or.inl rfl) rfl hb hC hw k
set_option maxRecDepth 20000 in
theorem kX12_account_64 {C : QC} {x : QP} {M : QM} {L : QL} {rest : List CV} {a0 : CV} {v : CV} {M1 : QM} (hC : C iJ6_bitCount_0f7a4 [a0] M (some v) M1) (hw : (rest.map q_wd).sum ≤ 8) (k : Rr C mX12_account (67, L, v :: rest, M1) x) : Rr C mX12_account (64, L, a0 :: rest, M) x := g_cs (ow := 12) (e := (1, 117, 0, [1250, 907, 105])) (as := [a0]) (show decode cX12_account 64 = .ok (.invokestatic 293, 3) by decide +kernel) rfl rfl rfl rfl (Or.inl rfl) rfl hC hw k
set_option maxRecDepth 20000 in
theorem kX12_account_67 {C : QC} {x : QP} {M : QM} {st : List CV} {L : QL} {z : Int} : Rr C mX12_account (67, L, [qi z], M) x = x (some (qi z)) M := g_iret (show decode cX12_account 67 = .ok (.ireturn, 1) by decide +kernel) rfl
set_option maxRecDepth 20000 in
theorem kX12_account_68 {C : QC} {x : QP} {M : QM} {st : List CV} {L : QL} {l0 l1 l2 : Option CV} {r : Option Nat} : Rr C mX12_account (68, [some (.inr (.inr r)), l1, l2], st, M) x = Rr C mX12_account (69, [some (.inr (.inr r)), l1, l2], .inr (.inr r) :: st, M) x := g_pl (show decode cX12_account 68 = .ok (.aload_n 0, 1) by decide +kernel) rfl
set_option maxRecDepth 20000 in
theorem kX12_account_69 {C : QC} {x : QP} {M : QM} {st : List CV} {L : QL} {a : Nat} (hk : q_kd M a = (1, 12)) : Rr C mX12_account (69, L, qr a :: st, M) x = Rr C mX12_account (72, L, q_fv M a 2 :: st, M) x := g_getf (ow := 12) (e := (12, 2, RX12, 381, 0)) (show decode cX12_account 69 = .ok (.getfield 26, 3) by decide +kernel) rfl hk
set_option maxRecDepth 20000 in
theorem kX12_account_72 {C : QC} {x : QP} {M : QM} {st : List CV} {L : QL} {l0 l1 l2 : Option CV} {z : Int} : Rr C mX12_account (72, [l0, some (qi z), l2], st, M) x = Rr C mX12_account (73, [l0, some (qi z), l2], qi z :: st, M) x := g_pl (show decode cX12_account 72 = .ok (.iload_n 1, 1) by decide +kernel) rfl
set_option maxRecDepth 20000 in
theorem kX12_account_73 {C : QC} {x : QP} {M : QM} {L : QL} {rest : List CV} {a0 : CV} {v : CV} {M1 : QM} {b : Nat} (hb : q_kd M b = (1, 11)) (hC : C iX11_notFoundedOn [qr b, a0] M (some v) M1) (hw : (rest.map q_wd).sum ≤ 8) (k : Rr C mX12_account (76, L, v :: rest, M1) x) : Rr C mX12_account (73, L, a0 :: qr b :: rest, M) x := g_cv (ow := 12) (e := (0, 186, 11, [1251, 1252, 1253, 83])) (as := [a0]) (show decode cX12_account 73 = .ok (.invokevirtual 298, 3) by decide +kernel) rfl rfl rfl (Or.inl rfl) rfl hb hC hw k
set_option maxRecDepth 20000 in
theorem kX12_account_76 {C : QC} {x : QP} {M : QM} {st : List CV} {L : QL} {z : Int} : Rr C mX12_account (76, L, [qi z], M) x = x (some (qi z)) M := g_iret (show decode cX12_account 76 = .ok (.ireturn, 1) by decide +kernel) rfl
set_option maxRecDepth 20000 in
theorem kX12_account_77 {C : QC} {x : QP} {M : QM} {st : List CV} {L : QL} {l0 l1 l2 : Option CV} {r : Option Nat} : Rr C mX12_account (77, [some (.inr (.inr r)), l1, l2], st, M) x = Rr C mX12_account (78, [some (.inr (.inr r)), l1, l2], .inr (.inr r) :: st, M) x := g_pl (show decode cX12_account 77 = .ok (.aload_n 0, 1) by decide +kernel) rfl
set_option maxRecDepth 20000 in
theorem kX12_account_78 {C : QC} {x : QP} {M : QM} {st : List CV} {L : QL} {a : Nat} (hk : q_kd M a = (1, 12)) : Rr C mX12_account (78, L, qr a :: st, M) x = Rr C mX12_account (81, L, q_fv M a 2 :: st, M) x := g_getf (ow := 12) (e := (12, 2, RX12, 381, 0)) (show decode cX12_account 78 = .ok (.getfield 26, 3) by decide +kernel) rfl hk
set_option maxRecDepth 20000 in
theorem kX12_account_81 {C : QC} {x : QP} {M : QM} {st : List CV} {L : QL} {l0 l1 l2 : Option CV} {z : Int} : Rr C mX12_account (81, [l0, some (qi z), l2], st, M) x = Rr C mX12_account (82, [l0, some (qi z), l2], qi z :: st, M) x := g_pl (show decode cX12_account 81 = .ok (.iload_n 1, 1) by decide +kernel) rfl
set_option maxRecDepth 20000 in
theorem kX12_account_82 {C : QC} {x : QP} {M : QM} {L : QL} {rest : List CV} {a0 : CV} {v : CV} {M1 : QM} {b : Nat} (hb : q_kd M b = (1, 11)) (hC : C iX11_endedOn [qr b, a0] M (some v) M1) (hw : (rest.map q_wd).sum ≤ 8) (k : Rr C mX12_account (85, L, v :: rest, M1) x) : Rr C mX12_account (82, L, a0 :: qr b :: rest, M) x := g_cv (ow := 12) (e := (0, 187, 11, [1255, 1256, 1257, 83])) (as := [a0]) (show decode cX12_account 82 = .ok (.invokevirtual 301, 3) by decide +kernel) rfl rfl rfl (Or.inl rfl) rfl hb hC hw k
set_option maxRecDepth 20000 in
theorem kX12_account_85 {C : QC} {x : QP} {M : QM} {st : List CV} {L : QL} {z : Int} : Rr C mX12_account (85, L, [qi z], M) x = x (some (qi z)) M := g_iret (show decode cX12_account 85 = .ok (.ireturn, 1) by decide +kernel) rfl
set_option maxRecDepth 20000 in
theorem kX12_account_86 {C : QC} {x : QP} {M : QM} {st : List CV} {L : QL} {l0 l1 l2 : Option CV} {r : Option Nat} : Rr C mX12_account (86, [some (.inr (.inr r)), l1, l2], st, M) x = Rr C mX12_account (87, [some (.inr (.inr r)), l1, l2], .inr (.inr r) :: st, M) x := g_pl (show decode cX12_account 86 = .ok (.aload_n 0, 1) by decide +kernel) rfl
set_option maxRecDepth 20000 in
theorem kX12_account_87 {C : QC} {x : QP} {M : QM} {st : List CV} {L : QL} {a : Nat} (hk : q_kd M a = (1, 12)) : Rr C mX12_account (87, L, qr a :: st, M) x = Rr C mX12_account (90, L, q_fv M a 2 :: st, M) x := g_getf (ow := 12) (e := (12, 2, RX12, 381, 0)) (show decode cX12_account 87 = .ok (.getfield 26, 3) by decide +kernel) rfl hk
set_option maxRecDepth 20000 in
theorem kX12_account_90 {C : QC} {x : QP} {M : QM} {st : List CV} {L : QL} {l0 l1 l2 : Option CV} {z : Int} : Rr C mX12_account (90, [l0, some (qi z), l2], st, M) x = Rr C mX12_account (91, [l0, some (qi z), l2], qi z :: st, M) x := g_pl (show decode cX12_account 90 = .ok (.iload_n 1, 1) by decide +kernel) rfl
set_option maxRecDepth 20000 in
theorem kX12_account_91 {C : QC} {x : QP} {M : QM} {L : QL} {rest : List CV} {a0 : CV} {v : CV} {M1 : QM} {b : Nat} (hb : q_kd M b = (1, 11)) (hC : C iX11_differentNamesOn [qr b, a0] M (some v) M1) (hw : (rest.map q_wd).sum ≤ 8) (k : Rr C mX12_account (94, L, v :: rest, M1) x) : Rr C mX12_account (91, L, a0 :: qr b :: rest, M) x := g_cv (ow := 12) (e := (0, 188, 11, [1259, 1260, 1261, 83])) (as := [a0]) (show decode cX12_account 91 = .ok (.invokevirtual 304, 3) by decide +kernel) rfl rfl rfl (Or.inl rfl) rfl hb hC hw k
set_option maxRecDepth 20000 in
theorem kX12_account_94 {C : QC} {x : QP} {M : QM} {st : List CV} {L : QL} {z : Int} : Rr C mX12_account (94, L, [qi z], M) x = x (some (qi z)) M := g_iret (show decode cX12_account 94 = .ok (.ireturn, 1) by decide +kernel) rfl
set_option maxRecDepth 20000 in
theorem kX12_account_95 {C : QC} {x : QP} {M : QM} {st : List CV} {L : QL} {l0 l1 l2 : Option CV} {r : Option Nat} : Rr C mX12_account (95, [some (.inr (.inr r)), l1, l2], st, M) x = Rr C mX12_account (96, [some (.inr (.inr r)), l1, l2], .inr (.inr r) :: st, M) x := g_pl (show decode cX12_account 95 = .ok (.aload_n 0, 1) by decide +kernel) rfl
set_option maxRecDepth 20000 in
theorem kX12_account_96 {C : QC} {x : QP} {M : QM} {st : List CV} {L : QL} {a : Nat} (hk : q_kd M a = (1, 12)) : Rr C mX12_account (96, L, qr a :: st, M) x = Rr C mX12_account (99, L, q_fv M a 2 :: st, M) x := g_getf (ow := 12) (e := (12, 2, RX12, 381, 0)) (show decode cX12_account 96 = .ok (.getfield 26, 3) by decide +kernel) rfl hk
set_option maxRecDepth 20000 in
theorem kX12_account_99 {C : QC} {x : QP} {M : QM} {st : List CV} {L : QL} {l0 l1 l2 : Option CV} {z : Int} : Rr C mX12_account (99, [l0, some (qi z), l2], st, M) x = Rr C mX12_account (100, [l0, some (qi z), l2], qi z :: st, M) x := g_pl (show decode cX12_account 99 = .ok (.iload_n 1, 1) by decide +kernel) rfl
set_option maxRecDepth 20000 in
theorem kX12_account_100 {C : QC} {x : QP} {M : QM} {L : QL} {rest : List CV} {a0 : CV} {v : CV} {M1 : QM} {b : Nat} (hb : q_kd M b = (1, 11)) (hC : C iX11_mostChildrenOn [qr b, a0] M (some v) M1) (hw : (rest.map q_wd).sum ≤ 8) (k : Rr C mX12_account (103, L, v :: rest, M1) x) : Rr C mX12_account (100, L, a0 :: qr b :: rest, M) x := g_cv (ow := 12) (e := (0, 190, 11, [1267, 1268, 1269, 83])) (as := [a0]) (show decode cX12_account 100 = .ok (.invokevirtual 307, 3) by decide +kernel) rfl rfl rfl (Or.inl rfl) rfl hb hC hw k
set_option maxRecDepth 20000 in
theorem kX12_account_103 {C : QC} {x : QP} {M : QM} {st : List CV} {L : QL} {z : Int} : Rr C mX12_account (103, L, [qi z], M) x = x (some (qi z)) M := g_iret (show decode cX12_account 103 = .ok (.ireturn, 1) by decide +kernel) rfl
set_option maxRecDepth 20000 in
theorem kX12_account_104 {C : QC} {x : QP} {M : QM} {st : List CV} {L : QL} {l0 l1 l2 : Option CV} {r : Option Nat} : Rr C mX12_account (104, [some (.inr (.inr r)), l1, l2], st, M) x = Rr C mX12_account (105, [some (.inr (.inr r)), l1, l2], .inr (.inr r) :: st, M) x := g_pl (show decode cX12_account 104 = .ok (.aload_n 0, 1) by decide +kernel) rfl
set_option maxRecDepth 20000 in
theorem kX12_account_105 {C : QC} {x : QP} {M : QM} {st : List CV} {L : QL} {a : Nat} (hk : q_kd M a = (1, 12)) : Rr C mX12_account (105, L, qr a :: st, M) x = Rr C mX12_account (108, L, q_fv M a 2 :: st, M) x := g_getf (ow := 12) (e := (12, 2, RX12, 381, 0)) (show decode cX12_account 105 = .ok (.getfield 26, 3) by decide +kernel) rfl hk
set_option maxRecDepth 20000 in
theorem kX12_account_108 {C : QC} {x : QP} {M : QM} {st : List CV} {L : QL} : Rr C mX12_account (108, L, st, M) x = Rr C mX12_account (109, L, qi 0 :: st, M) x := g_pl (show decode cX12_account 108 = .ok (.iconst 0, 1) by decide +kernel) rfl
set_option maxRecDepth 20000 in
theorem kX12_account_109 {C : QC} {x : QP} {M : QM} {st : List CV} {L : QL} {l0 l1 l2 : Option CV} {z : Int} : Rr C mX12_account (109, [l0, l1, some (qi z)], st, M) x = Rr C mX12_account (110, [l0, l1, some (qi z)], qi z :: st, M) x := g_pl (show decode cX12_account 109 = .ok (.iload_n 2, 1) by decide +kernel) rfl
set_option maxRecDepth 20000 in
theorem kX12_account_110 {C : QC} {x : QP} {M : QM} {st : List CV} {L : QL} {l0 l1 l2 : Option CV} {z : Int} : Rr C mX12_account (110, [l0, some (qi z), l2], st, M) x = Rr C mX12_account (111, [l0, some (qi z), l2], qi z :: st, M) x := g_pl (show decode cX12_account 110 = .ok (.iload_n 1, 1) by decide +kernel) rfl
set_option maxRecDepth 20000 in
theorem kX12_account_111 {C : QC} {x : QP} {M : QM} {L : QL} {rest : List CV} {a0 a1 a2 : CV} {v : CV} {M1 : QM} {b : Nat} (hb : q_kd M b = (1, 11)) (hC : C iX11_leafSet [qr b, a0, a1, a2] M (some v) M1) (hw : (rest.map q_wd).sum ≤ 8) (k : Rr C mX12_account (114, L, v :: rest, M1) x) : Rr C mX12_account (111, L, a2 :: a1 :: a0 :: qr b :: rest, M) x := g_cv (ow := 12) (e := (0, 114, 11, [1273, 894, 895, 83])) (as := [a0, a1, a2]) (show decode cX12_account 111 = .ok (.invokevirtual 310, 3) by decide +kernel) rfl rfl rfl (Or.inl rfl) rfl hb hC hw k
set_option maxRecDepth 20000 in
theorem kX12_account_114 {C : QC} {x : QP} {M : QM} {L : QL} {rest : List CV} {a0 : CV} {v : CV} {M1 : QM} (hC : C iJ6_bitCount_0f7a4 [a0] M (some v) M1) (hw : (rest.map q_wd).sum ≤ 8) (k : Rr C mX12_account (117, L, v :: rest, M1) x) : Rr C mX12_account (114, L, a0 :: rest, M) x := g_cs (ow := 12) (e := (1, 117, 0, [1250, 907, 105])) (as := [a0]) (show decode cX12_account 114 = .ok (.invokestatic 293, 3) by decide +kernel) rfl rfl rfl rfl (Or.inl rfl) rfl hC hw k
set_option maxRecDepth 20000 in
theorem kX12_account_117 {C : QC} {x : QP} {M : QM} {st : List CV} {L : QL} {z : Int} : Rr C mX12_account (117, L, [qi z], M) x = x (some (qi z)) M := g_iret (show decode cX12_account 117 = .ok (.ireturn, 1) by decide +kernel) rfl
set_option maxRecDepth 20000 in
theorem eX12_account {d : Nat} {M : QM} {x : QP} {a : Nat} {v0 : Int} {v1 : Int} : q_T (d + 1) iX12_account [qr a, qi v0, qi v1] M x = Rr (q_C d) mX12_account (0, [some (qr a), some (qi v0), some (qi v1)], [], M) x := g_entryT (e := _) rfl (Nat.le_of_ble_eq_true rfl) rfl rfl
def mX12_back : QI := (12, cX12_back, false, some .int)
set_option maxRecDepth 20000 in
theorem kX12_back_0 {C : QC} {x : QP} {M : QM} {st : List CV} {L : QL} {r : Option Nat} : Rr C mX12_back (0, [some (.inr (.inr r))], st, M) x = Rr C mX12_back (1, [some (.inr (.inr r))], .inr (.inr r) :: st, M) x := g_pl (show decode cX12_back 0 = .ok (.aload_n 0, 1) by decide +kernel) rfl
set_option maxRecDepth 20000 in
theorem kX12_back_1 {C : QC} {x : QP} {M : QM} {st : List CV} {L : QL} {a : Nat} (hk : q_kd M a = (1, 12)) : Rr C mX12_back (1, L, qr a :: st, M) x = Rr C mX12_back (4, L, q_fv M a 10 :: st, M) x := g_getf (ow := 12) (e := (12, 10, RX12, 389, 0)) (show decode cX12_back 1 = .ok (.getfield 69, 3) by decide +kernel) rfl hk
set_option maxRecDepth 20000 in
theorem kX12_back_4 {C : QC} {x : QP} {M : QM} {st : List CV} {L : QL} : Rr C mX12_back (4, L, st, M) x = Rr C mX12_back (5, L, qi 1 :: st, M) x := g_pl (show decode cX12_back 4 = .ok (.iconst 1, 1) by decide +kernel) rfl
set_option maxRecDepth 20000 in
theorem kX12_back_5 {C : QC} {x : QP} {M : QM} {st : List CV} {L : QL} {a b : Int} (ha1 : -2147483648 ≤ a) (ha2 : a < 2147483648) (hb1 : -2147483648 ≤ b) (hb2 : b < 2147483648) : Rr C mX12_back (5, L, qi b :: qi a :: st, M) x = (if a < b then Rr C mX12_back (20, L, st, M) x else Rr C mX12_back (8, L, st, M) x) := (g_icmp (show decode cX12_back 5 = .ok (.if_icmp .lt 15, 3) by decide +kernel) rfl ha1 ha2 hb1 hb2).trans (g_ite c_lt)
set_option maxRecDepth 20000 in
theorem kX12_back_8 {C : QC} {x : QP} {M : QM} {st : List CV} {L : QL} {r : Option Nat} : Rr C mX12_back (8, [some (.inr (.inr r))], st, M) x = Rr C mX12_back (9, [some (.inr (.inr r))], .inr (.inr r) :: st, M) x := g_pl (show decode cX12_back 8 = .ok (.aload_n 0, 1) by decide +kernel) rfl
set_option maxRecDepth 20000 in
theorem kX12_back_9 {C : QC} {x : QP} {M : QM} {st : List CV} {L : QL} {a : Nat} (hk : q_kd M a = (1, 12)) : Rr C mX12_back (9, L, qr a :: st, M) x = Rr C mX12_back (12, L, q_fv M a 10 :: st, M) x := g_getf (ow := 12) (e := (12, 10, RX12, 389, 0)) (show decode cX12_back 9 = .ok (.getfield 69, 3) by decide +kernel) rfl hk
set_option maxRecDepth 20000 in
theorem kX12_back_12 {C : QC} {x : QP} {M : QM} {st : List CV} {L : QL} {r : Option Nat} : Rr C mX12_back (12, [some (.inr (.inr r))], st, M) x = Rr C mX12_back (13, [some (.inr (.inr r))], .inr (.inr r) :: st, M) x := g_pl (show decode cX12_back 12 = .ok (.aload_n 0, 1) by decide +kernel) rfl
set_option maxRecDepth 20000 in
theorem kX12_back_13 {C : QC} {x : QP} {M : QM} {st : List CV} {L : QL} {a : Nat} (hk : q_kd M a = (1, 12)) : Rr C mX12_back (13, L, qr a :: st, M) x = Rr C mX12_back (16, L, q_fv M a 9 :: st, M) x := g_getf (ow := 12) (e := (12, 9, RX12, 388, 0)) (show decode cX12_back 13 = .ok (.getfield 65, 3) by decide +kernel) rfl hk
set_option maxRecDepth 20000 in
theorem kX12_back_16 {C : QC} {x : QP} {M : QM} {st : List CV} {L : QL} {a : Nat} (h1 : 2 ≤ (q_kd M a).1) (h2 : (q_kd M a).1 ≤ 9) : Rr C mX12_back (16, L, qr a :: st, M) x = Rr C mX12_back (17, L, qi (q_kd M a).2 :: st, M) x := g_alen (show decode cX12_back 16 = .ok (.arraylength, 1) by decide +kernel) h1 h2
set_option maxRecDepth 20000 in
theorem kX12_back_17 {C : QC} {x : QP} {M : QM} {st : List CV} {L : QL} {a b : Int} (ha1 : -2147483648 ≤ a) (ha2 : a < 2147483648) (hb1 : -2147483648 ≤ b) (hb2 : b < 2147483648) : Rr C mX12_back (17, L, qi b :: qi a :: st, M) x = (if b < a then Rr C mX12_back (20, L, st, M) x else Rr C mX12_back (23, L, st, M) x) := (g_icmp (show decode cX12_back 17 = .ok (.if_icmp .le 6, 3) by decide +kernel) rfl ha1 ha2 hb1 hb2).trans (g_itn c_le)
set_option maxRecDepth 20000 in
theorem kX12_back_20 {C : QC} {x : QP} {M : QM} {st : List CV} {L : QL} : Rr C mX12_back (20, L, st, M) x = Rr C mX12_back (22, L, qi (-3) :: st, M) x := g_pl (show decode cX12_back 20 = .ok (.bipush (-3), 2) by decide +kernel) rfl
set_option maxRecDepth 20000 in
theorem kX12_back_22 {C : QC} {x : QP} {M : QM} {st : List CV} {L : QL} {z : Int} : Rr C mX12_back (22, L, [qi z], M) x = x (some (qi z)) M := g_iret (show decode cX12_back 22 = .ok (.ireturn, 1) by decide +kernel) rfl
set_option maxRecDepth 20000 in
theorem kX12_back_23 {C : QC} {x : QP} {M : QM} {st : List CV} {L : QL} {r : Option Nat} : Rr C mX12_back (23, [some (.inr (.inr r))], st, M) x = Rr C mX12_back (24, [some (.inr (.inr r))], .inr (.inr r) :: st, M) x := g_pl (show decode cX12_back 23 = .ok (.aload_n 0, 1) by decide +kernel) rfl
set_option maxRecDepth 20000 in
theorem kX12_back_24i {C : QC} {x : QP} {M : QM} {st : List CV} {L : QL} {a : Int} : Rr C mX12_back (24, L, qi a :: st, M) x = Rr C mX12_back (25, L, qi a :: qi a :: st, M) x := g_pl (show decode cX12_back 24 = .ok (.dup, 1) by decide +kernel) rfl
set_option maxRecDepth 20000 in
theorem kX12_back_24r {C : QC} {x : QP} {M : QM} {st : List CV} {L : QL} {a : Option Nat} : Rr C mX12_back (24, L, .inr (.inr a) :: st, M) x = Rr C mX12_back (25, L, .inr (.inr a) :: .inr (.inr a) :: st, M) x := g_pl (show decode cX12_back 24 = .ok (.dup, 1) by decide +kernel) rfl
set_option maxRecDepth 20000 in
theorem kX12_back_25 {C : QC} {x : QP} {M : QM} {st : List CV} {L : QL} {a : Nat} (hk : q_kd M a = (1, 12)) : Rr C mX12_back (25, L, qr a :: st, M) x = Rr C mX12_back (28, L, q_fv M a 10 :: st, M) x := g_getf (ow := 12) (e := (12, 10, RX12, 389, 0)) (show decode cX12_back 25 = .ok (.getfield 69, 3) by decide +kernel) rfl hk
set_option maxRecDepth 20000 in
theorem kX12_back_28 {C : QC} {x : QP} {M : QM} {st : List CV} {L : QL} : Rr C mX12_back (28, L, st, M) x = Rr C mX12_back (29, L, qi 1 :: st, M) x := g_pl (show decode cX12_back 28 = .ok (.iconst 1, 1) by decide +kernel) rfl
set_option maxRecDepth 20000 in
theorem kX12_back_29 {C : QC} {x : QP} {M : QM} {st : List CV} {L : QL} {a b : Int} : Rr C mX12_back (29, L, qi b :: qi a :: st, M) x = Rr C mX12_back (30, L, qi (a - b) :: st, M) x := g_pl (show decode cX12_back 29 = .ok (.isub, 1) by decide +kernel) rfl
set_option maxRecDepth 20000 in
theorem kX12_back_30 {C : QC} {x : QP} {M : QM} {st : List CV} {L : QL} {z : Int} {a : Nat} (hk : q_kd M a = (1, 12)) : Rr C mX12_back (30, L, qi z :: qr a :: st, M) x = Rr C mX12_back (33, L, st, q_wr M a 10 (qi z)) x := g_putf (ow := 12) (ini := false) (e := (12, 10, RX12, 389, 0)) (r := (RX12, TX12, 14)) (t := tyX12) (show decode cX12_back 30 = .ok (.putfield 69, 3) by decide +kernel) rfl rfl rfl rfl (by decide +kernel) hk
set_option maxRecDepth 20000 in
theorem kX12_back_33 {C : QC} {x : QP} {M : QM} {st : List CV} {L : QL} {r : Option Nat} : Rr C mX12_back (33, [some (.inr (.inr r))], st, M) x = Rr C mX12_back (34, [some (.inr (.inr r))], .inr (.inr r) :: st, M) x := g_pl (show decode cX12_back 33 = .ok (.aload_n 0, 1) by decide +kernel) rfl
set_option maxRecDepth 20000 in
theorem kX12_back_34 {C : QC} {x : QP} {M : QM} {st : List CV} {L : QL} {r : Option Nat} : Rr C mX12_back (34, [some (.inr (.inr r))], st, M) x = Rr C mX12_back (35, [some (.inr (.inr r))], .inr (.inr r) :: st, M) x := g_pl (show decode cX12_back 34 = .ok (.aload_n 0, 1) by decide +kernel) rfl
set_option maxRecDepth 20000 in
theorem kX12_back_35 {C : QC} {x : QP} {M : QM} {st : List CV} {L : QL} {a : Nat} (hk : q_kd M a = (1, 12)) : Rr C mX12_back (35, L, qr a :: st, M) x = Rr C mX12_back (38, L, q_fv M a 9 :: st, M) x := g_getf (ow := 12) (e := (12, 9, RX12, 388, 0)) (show decode cX12_back 35 = .ok (.getfield 65, 3) by decide +kernel) rfl hk
set_option maxRecDepth 20000 in
theorem kX12_back_38 {C : QC} {x : QP} {M : QM} {st : List CV} {L : QL} {r : Option Nat} : Rr C mX12_back (38, [some (.inr (.inr r))], st, M) x = Rr C mX12_back (39, [some (.inr (.inr r))], .inr (.inr r) :: st, M) x := g_pl (show decode cX12_back 38 = .ok (.aload_n 0, 1) by decide +kernel) rfl
set_option maxRecDepth 20000 in
theorem kX12_back_39 {C : QC} {x : QP} {M : QM} {st : List CV} {L : QL} {a : Nat} (hk : q_kd M a = (1, 12)) : Rr C mX12_back (39, L, qr a :: st, M) x = Rr C mX12_back (42, L, q_fv M a 10 :: st, M) x := g_getf (ow := 12) (e := (12, 10, RX12, 389, 0)) (show decode cX12_back 39 = .ok (.getfield 69, 3) by decide +kernel) rfl hk
set_option maxRecDepth 20000 in
theorem kX12_back_42 {C : QC} {x : QP} {M : QM} {st : List CV} {L : QL} {a : Nat} {j : Int} (hk : (q_kd M a).1 = 2) (h0 : 0 ≤ j) (h1 : j < ((q_kd M a).2 : Int)) : Rr C mX12_back (42, L, qi j :: qr a :: st, M) x = Rr C mX12_back (43, L, q_fv M a j.toNat :: st, M) x := g_iald (show decode cX12_back 42 = .ok (.iaload, 1) by decide +kernel) hk h0 h1
set_option maxRecDepth 20000 in
theorem kX12_back_43 {C : QC} {x : QP} {M : QM} {L : QL} {rest : List CV} {a0 : CV} {M1 : QM} {b : Nat} (hb : q_kd M b = (1, 12)) (hC : C iX12_cutJournal [qr b, a0] M none M1) (hw : (rest.map q_wd).sum ≤ 8) (k : Rr C mX12_back (46, L, rest, M1) x) : Rr C mX12_back (43, L, a0 :: qr b :: rest, M) x := g_cv (ow := 12) (e := (0, 101, 12, [833, 835, 16, 77])) (as := [a0]) (show decode cX12_back 43 = .ok (.invokevirtual 128, 3) by decide +kernel) rfl rfl rfl (Or.inl rfl) rfl hb hC hw k
set_option maxRecDepth 20000 in
theorem kX12_back_46 {C : QC} {x : QP} {M : QM} {st : List CV} {L : QL} {r : Option Nat} : Rr C mX12_back (46, [some (.inr (.inr r))], st, M) x = Rr C mX12_back (47, [some (.inr (.inr r))], .inr (.inr r) :: st, M) x := g_pl (show decode cX12_back 46 = .ok (.aload_n 0, 1) by decide +kernel) rfl
set_option maxRecDepth 20000 in
theorem kX12_back_47 {C : QC} {x : QP} {M : QM} {L : QL} {rest : List CV} {M1 : QM} {b : Nat} (hb : q_kd M b = (1, 12)) (hC : C iX12_tellAgain [qr b] M none M1) (hw : (rest.map q_wd).sum ≤ 8) (k : Rr C mX12_back (50, L, rest, M1) x) : Rr C mX12_back (47, L, qr b :: rest, M) x := g_cv (ow := 12) (e := (0, 104, 12, [846, 848, 18, 77])) (as := []) (show decode cX12_back 47 = .ok (.invokevirtual 131, 3) by decide +kernel) rfl rfl rfl (Or.inl rfl) rfl hb hC hw k
set_option maxRecDepth 20000 in
theorem kX12_back_50 {C : QC} {x : QP} {M : QM} {st : List CV} {L : QL} {r : Option Nat} : Rr C mX12_back (50, [some (.inr (.inr r))], st, M) x = Rr C mX12_back (51, [some (.inr (.inr r))], .inr (.inr r) :: st, M) x := g_pl (show decode cX12_back 50 = .ok (.aload_n 0, 1) by decide +kernel) rfl
set_option maxRecDepth 20000 in
theorem kX12_back_51 {C : QC} {x : QP} {M : QM} {st : List CV} {L : QL} {a : Nat} (hk : q_kd M a = (1, 12)) : Rr C mX12_back (51, L, qr a :: st, M) x = Rr C mX12_back (54, L, q_fv M a 10 :: st, M) x := g_getf (ow := 12) (e := (12, 10, RX12, 389, 0)) (show decode cX12_back 51 = .ok (.getfield 69, 3) by decide +kernel) rfl hk
set_option maxRecDepth 20000 in
theorem kX12_back_54 {C : QC} {x : QP} {M : QM} {st : List CV} {L : QL} {z : Int} : Rr C mX12_back (54, L, [qi z], M) x = x (some (qi z)) M := g_iret (show decode cX12_back 54 = .ok (.ireturn, 1) by decide +kernel) rfl
set_option maxRecDepth 20000 in
theorem eX12_back {d : Nat} {M : QM} {x : QP} {a : Nat} : q_T (d + 1) iX12_back [qr a] M x = Rr (q_C d) mX12_back (0, [some (qr a)], [], M) x := g_entryT (e := _) rfl (Nat.le_of_ble_eq_true rfl) rfl rfl
def mX12_image : QI := (12, cX12_image, false, some .int)
set_option maxRecDepth 20000 in
theorem kX12_image_0 {C : QC} {x : QP} {M : QM} {st : List CV} {L : QL} {r : Option Nat} : Rr C mX12_image (0, [some (.inr (.inr r))], st, M) x = Rr C mX12_image (1, [some (.inr (.inr r))], .inr (.inr r) :: st, M) x := g_pl (show decode cX12_image 0 = .ok (.aload_n 0, 1) by decide +kernel) rfl
set_option maxRecDepth 20000 in
theorem kX12_image_1 {C : QC} {x : QP} {M : QM} {st : List CV} {L : QL} {a : Nat} (hk : q_kd M a = (1, 12)) : Rr C mX12_image (1, L, qr a :: st, M) x = Rr C mX12_image (4, L, q_fv M a 6 :: st, M) x := g_getf (ow := 12) (e := (12, 6, RX12, 385, 0)) (show decode cX12_image 1 = .ok (.getfield 54, 3) by decide +kernel) rfl hk
set_option maxRecDepth 20000 in
theorem kX12_image_4 {C : QC} {x : QP} {M : QM} {st : List CV} {L : QL} {r : Option Nat} : Rr C mX12_image (4, [some (.inr (.inr r))], st, M) x = Rr C mX12_image (5, [some (.inr (.inr r))], .inr (.inr r) :: st, M) x := g_pl (show decode cX12_image 4 = .ok (.aload_n 0, 1) by decide +kernel) rfl
set_option maxRecDepth 20000 in
theorem kX12_image_5 {C : QC} {x : QP} {M : QM} {st : List CV} {L : QL} {a : Nat} (hk : q_kd M a = (1, 12)) : Rr C mX12_image (5, L, qr a :: st, M) x = Rr C mX12_image (8, L, q_fv M a 7 :: st, M) x := g_getf (ow := 12) (e := (12, 7, RX12, 386, 0)) (show decode cX12_image 5 = .ok (.getfield 58, 3) by decide +kernel) rfl hk
set_option maxRecDepth 20000 in
theorem kX12_image_8 {C : QC} {x : QP} {M : QM} {L : QL} {rest : List CV} {a0 a1 : CV} {M1 : QM} (hC : C iX12_copyOrders [a0, a1] M none M1) (hw : (rest.map q_wd).sum ≤ 8) (k : Rr C mX12_image (11, L, rest, M1) x) : Rr C mX12_image (8, L, a1 :: a0 :: rest, M) x := g_cs (ow := 12) (e := (1, 193, 0, [1282, 1283, 77])) (as := [a0, a1]) (show decode cX12_image 8 = .ok (.invokestatic 314, 3) by decide +kernel) rfl rfl rfl rfl (Or.inl rfl) rfl hC hw k
set_option maxRecDepth 20000 in
theorem kX12_image_11 {C : QC} {x : QP} {M : QM} {st : List CV} {L : QL} {r : Option Nat} : Rr C mX12_image (11, [some (.inr (.inr r))], st, M) x = Rr C mX12_image (12, [some (.inr (.inr r))], .inr (.inr r) :: st, M) x := g_pl (show decode cX12_image 11 = .ok (.aload_n 0, 1) by decide +kernel) rfl
set_option maxRecDepth 20000 in
theorem kX12_image_12 {C : QC} {x : QP} {M : QM} {st : List CV} {L : QL} : Rr C mX12_image (12, L, st, M) x = Rr C mX12_image (13, L, qi 1 :: st, M) x := g_pl (show decode cX12_image 12 = .ok (.iconst 1, 1) by decide +kernel) rfl
set_option maxRecDepth 20000 in
theorem kX12_image_13 {C : QC} {x : QP} {M : QM} {st : List CV} {L : QL} {z : Int} (hz : z = 0 ∨ z = 1) {a : Nat} (hk : q_kd M a = (1, 12)) : Rr C mX12_image (13, L, qi z :: qr a :: st, M) x = Rr C mX12_image (16, L, st, q_wr M a 8 (qi z)) x := g_putf (ow := 12) (ini := false) (e := (12, 8, RX12, 387, 0)) (r := (RX12, TX12, 14)) (t := tyX12) (show decode cX12_image 13 = .ok (.putfield 61, 3) by decide +kernel) rfl rfl rfl (by rcases hz with rfl | rfl <;> rfl) (by decide +kernel) hk
set_option maxRecDepth 20000 in
theorem kX12_image_16 {C : QC} {x : QP} {M : QM} {st : List CV} {L : QL} {r : Option Nat} : Rr C mX12_image (16, [some (.inr (.inr r))], st, M) x = Rr C mX12_image (17, [some (.inr (.inr r))], .inr (.inr r) :: st, M) x := g_pl (show decode cX12_image 16 = .ok (.aload_n 0, 1) by decide +kernel) rfl
set_option maxRecDepth 20000 in
theorem kX12_image_17 {C : QC} {x : QP} {M : QM} {st : List CV} {L : QL} {a : Nat} (hk : q_kd M a = (1, 12)) : Rr C mX12_image (17, L, qr a :: st, M) x = Rr C mX12_image (20, L, q_fv M a 2 :: st, M) x := g_getf (ow := 12) (e := (12, 2, RX12, 381, 0)) (show decode cX12_image 17 = .ok (.getfield 26, 3) by decide +kernel) rfl hk
set_option maxRecDepth 20000 in
theorem kX12_image_20 {C : QC} {x : QP} {M : QM} {L : QL} {rest : List CV} {v : CV} {M1 : QM} {b : Nat} (hb : q_kd M b = (1, 11)) (hC : C iX11_size [qr b] M (some v) M1) (hw : (rest.map q_wd).sum ≤ 8) (k : Rr C mX12_image (23, L, v :: rest, M1) x) : Rr C mX12_image (20, L, qr b :: rest, M) x := g_cv (ow := 12) (e := (0, 130, 11, [967, 968, 969, 83])) (as := []) (show decode cX12_image 20 = .ok (.invokevirtual 242, 3) by decide +kernel) rfl rfl rfl (Or.inl rfl) rfl hb hC hw k
set_option maxRecDepth 20000 in
theorem kX12_image_23 {C : QC} {x : QP} {M : QM} {st : List CV} {L : QL} {z : Int} : Rr C mX12_image (23, L, [qi z], M) x = x (some (qi z)) M := g_iret (show decode cX12_image 23 = .ok (.ireturn, 1) by decide +kernel) rfl
set_option maxRecDepth 20000 in
theorem eX12_image {d : Nat} {M : QM} {x : QP} {a : Nat} : q_T (d + 1) iX12_image [qr a] M x = Rr (q_C d) mX12_image (0, [some (qr a)], [], M) x := g_entryT (e := _) rfl (Nat.le_of_ble_eq_true rfl) rfl rfl
def mX12_undo : QI := (12, cX12_undo, false, some .int)
set_option maxRecDepth 20000 in
theorem kX12_undo_0 {C : QC} {x : QP} {M : QM} {st : List CV} {L : QL} {r : Option Nat} : Rr C mX12_undo (0, [some (.inr (.inr r))], st, M) x = Rr C mX12_undo (1, [some (.inr (.inr r))], .inr (.inr r) :: st, M) x := g_pl (show decode cX12_undo 0 = .ok (.aload_n 0, 1) by decide +kernel) rfl
set_option maxRecDepth 20000 in
theorem kX12_undo_1 {C : QC} {x : QP} {M : QM} {st : List CV} {L : QL} {a : Nat} (hk : q_kd M a = (1, 12)) : Rr C mX12_undo (1, L, qr a :: st, M) x = Rr C mX12_undo (4, L, q_fv M a 8 :: st, M) x := g_getf (ow := 12) (e := (12, 8, RX12, 387, 0)) (show decode cX12_undo 1 = .ok (.getfield 61, 3) by decide +kernel) rfl hk
set_option maxRecDepth 20000 in
theorem kX12_undo_4 {C : QC} {x : QP} {M : QM} {st : List CV} {L : QL} {a : Int} (ha1 : -2147483648 ≤ a) (ha2 : a < 2147483648) : Rr C mX12_undo (4, L, qi a :: st, M) x = (if a = 0 then Rr C mX12_undo (7, L, st, M) x else Rr C mX12_undo (10, L, st, M) x) := (g_if (show decode cX12_undo 4 = .ok (.ifCond .ne 6, 3) by decide +kernel) rfl ha1 ha2).trans (g_itn c_ne)
set_option maxRecDepth 20000 in
theorem kX12_undo_7 {C : QC} {x : QP} {M : QM} {st : List CV} {L : QL} : Rr C mX12_undo (7, L, st, M) x = Rr C mX12_undo (9, L, qi (-3) :: st, M) x := g_pl (show decode cX12_undo 7 = .ok (.bipush (-3), 2) by decide +kernel) rfl
set_option maxRecDepth 20000 in
theorem kX12_undo_9 {C : QC} {x : QP} {M : QM} {st : List CV} {L : QL} {z : Int} : Rr C mX12_undo (9, L, [qi z], M) x = x (some (qi z)) M := g_iret (show decode cX12_undo 9 = .ok (.ireturn, 1) by decide +kernel) rfl
set_option maxRecDepth 20000 in
theorem kX12_undo_10 {C : QC} {x : QP} {M : QM} {st : List CV} {L : QL} {r : Option Nat} : Rr C mX12_undo (10, [some (.inr (.inr r))], st, M) x = Rr C mX12_undo (11, [some (.inr (.inr r))], .inr (.inr r) :: st, M) x := g_pl (show decode cX12_undo 10 = .ok (.aload_n 0, 1) by decide +kernel) rfl
set_option maxRecDepth 20000 in
theorem kX12_undo_11 {C : QC} {x : QP} {M : QM} {st : List CV} {L : QL} {a : Nat} (hk : q_kd M a = (1, 12)) : Rr C mX12_undo (11, L, qr a :: st, M) x = Rr C mX12_undo (14, L, q_fv M a 7 :: st, M) x := g_getf (ow := 12) (e := (12, 7, RX12, 386, 0)) (show decode cX12_undo 11 = .ok (.getfield 58, 3) by decide +kernel) rfl hk
set_option maxRecDepth 20000 in
theorem kX12_undo_14 {C : QC} {x : QP} {M : QM} {st : List CV} {L : QL} {r : Option Nat} : Rr C mX12_undo (14, [some (.inr (.inr r))], st, M) x = Rr C mX12_undo (15, [some (.inr (.inr r))], .inr (.inr r) :: st, M) x := g_pl (show decode cX12_undo 14 = .ok (.aload_n 0, 1) by decide +kernel) rfl
set_option maxRecDepth 20000 in
theorem kX12_undo_15 {C : QC} {x : QP} {M : QM} {st : List CV} {L : QL} {a : Nat} (hk : q_kd M a = (1, 12)) : Rr C mX12_undo (15, L, qr a :: st, M) x = Rr C mX12_undo (18, L, q_fv M a 6 :: st, M) x := g_getf (ow := 12) (e := (12, 6, RX12, 385, 0)) (show decode cX12_undo 15 = .ok (.getfield 54, 3) by decide +kernel) rfl hk
set_option maxRecDepth 20000 in
theorem kX12_undo_18 {C : QC} {x : QP} {M : QM} {L : QL} {rest : List CV} {a0 a1 : CV} {M1 : QM} (hC : C iX12_copyOrders [a0, a1] M none M1) (hw : (rest.map q_wd).sum ≤ 8) (k : Rr C mX12_undo (21, L, rest, M1) x) : Rr C mX12_undo (18, L, a1 :: a0 :: rest, M) x := g_cs (ow := 12) (e := (1, 193, 0, [1282, 1283, 77])) (as := [a0, a1]) (show decode cX12_undo 18 = .ok (.invokestatic 314, 3) by decide +kernel) rfl rfl rfl rfl (Or.inl rfl) rfl hC hw k
set_option maxRecDepth 20000 in
theorem kX12_undo_21 {C : QC} {x : QP} {M : QM} {st : List CV} {L : QL} {r : Option Nat} : Rr C mX12_undo (21, [some (.inr (.inr r))], st, M) x = Rr C mX12_undo (22, [some (.inr (.inr r))], .inr (.inr r) :: st, M) x := g_pl (show decode cX12_undo 21 = .ok (.aload_n 0, 1) by decide +kernel) rfl
set_option maxRecDepth 20000 in
theorem kX12_undo_22 {C : QC} {x : QP} {M : QM} {st : List CV} {L : QL} : Rr C mX12_undo (22, L, st, M) x = Rr C mX12_undo (23, L, qi 0 :: st, M) x := g_pl (show decode cX12_undo 22 = .ok (.iconst 0, 1) by decide +kernel) rfl
set_option maxRecDepth 20000 in
theorem kX12_undo_23 {C : QC} {x : QP} {M : QM} {st : List CV} {L : QL} {z : Int} {a : Nat} (hk : q_kd M a = (1, 12)) : Rr C mX12_undo (23, L, qi z :: qr a :: st, M) x = Rr C mX12_undo (26, L, st, q_wr M a 10 (qi z)) x := g_putf (ow := 12) (ini := false) (e := (12, 10, RX12, 389, 0)) (r := (RX12, TX12, 14)) (t := tyX12) (show decode cX12_undo 23 = .ok (.putfield 69, 3) by decide +kernel) rfl rfl rfl rfl (by decide +kernel) hk
set_option maxRecDepth 20000 in
theorem kX12_undo_26 {C : QC} {x : QP} {M : QM} {st : List CV} {L : QL} {r : Option Nat} : Rr C mX12_undo (26, [some (.inr (.inr r))], st, M) x = Rr C mX12_undo (27, [some (.inr (.inr r))], .inr (.inr r) :: st, M) x := g_pl (show decode cX12_undo 26 = .ok (.aload_n 0, 1) by decide +kernel) rfl
set_option maxRecDepth 20000 in
theorem kX12_undo_27 {C : QC} {x : QP} {M : QM} {L : QL} {rest : List CV} {M1 : QM} {b : Nat} (hb : q_kd M b = (1, 12)) (hC : C iX12_tellAgain [qr b] M none M1) (hw : (rest.map q_wd).sum ≤ 8) (k : Rr C mX12_undo (30, L, rest, M1) x) : Rr C mX12_undo (27, L, qr b :: rest, M) x := g_cv (ow := 12) (e := (0, 104, 12, [846, 848, 18, 77])) (as := []) (show decode cX12_undo 27 = .ok (.invokevirtual 131, 3) by decide +kernel) rfl rfl rfl (Or.inl rfl) rfl hb hC hw k
set_option maxRecDepth 20000 in
theorem kX12_undo_30 {C : QC} {x : QP} {M : QM} {st : List CV} {L : QL} {r : Option Nat} : Rr C mX12_undo (30, [some (.inr (.inr r))], st, M) x = Rr C mX12_undo (31, [some (.inr (.inr r))], .inr (.inr r) :: st, M) x := g_pl (show decode cX12_undo 30 = .ok (.aload_n 0, 1) by decide +kernel) rfl
set_option maxRecDepth 20000 in
theorem kX12_undo_31 {C : QC} {x : QP} {M : QM} {st : List CV} {L : QL} {a : Nat} (hk : q_kd M a = (1, 12)) : Rr C mX12_undo (31, L, qr a :: st, M) x = Rr C mX12_undo (34, L, q_fv M a 2 :: st, M) x := g_getf (ow := 12) (e := (12, 2, RX12, 381, 0)) (show decode cX12_undo 31 = .ok (.getfield 26, 3) by decide +kernel) rfl hk
set_option maxRecDepth 20000 in
theorem kX12_undo_34 {C : QC} {x : QP} {M : QM} {L : QL} {rest : List CV} {v : CV} {M1 : QM} {b : Nat} (hb : q_kd M b = (1, 11)) (hC : C iX11_size [qr b] M (some v) M1) (hw : (rest.map q_wd).sum ≤ 8) (k : Rr C mX12_undo (37, L, v :: rest, M1) x) : Rr C mX12_undo (34, L, qr b :: rest, M) x := g_cv (ow := 12) (e := (0, 130, 11, [967, 968, 969, 83])) (as := []) (show decode cX12_undo 34 = .ok (.invokevirtual 242, 3) by decide +kernel) rfl rfl rfl (Or.inl rfl) rfl hb hC hw k
set_option maxRecDepth 20000 in
theorem kX12_undo_37 {C : QC} {x : QP} {M : QM} {st : List CV} {L : QL} {z : Int} : Rr C mX12_undo (37, L, [qi z], M) x = x (some (qi z)) M := g_iret (show decode cX12_undo 37 = .ok (.ireturn, 1) by decide +kernel) rfl
set_option maxRecDepth 20000 in
theorem eX12_undo {d : Nat} {M : QM} {x : QP} {a : Nat} : q_T (d + 1) iX12_undo [qr a] M x = Rr (q_C d) mX12_undo (0, [some (qr a)], [], M) x := g_entryT (e := _) rfl (Nat.le_of_ble_eq_true rfl) rfl rfl
def mX12_count : QI := (12, cX12_count, false, some .int)
set_option maxRecDepth 20000 in
theorem kX12_count_0 {C : QC} {x : QP} {M : QM} {st : List CV} {L : QL} {l0 l1 : Option CV} {z : Int} : Rr C mX12_count (0, [l0, some (qi z)], st, M) x = Rr C mX12_count (1, [l0, some (qi z)], qi z :: st, M) x := g_pl (show decode cX12_count 0 = .ok (.iload_n 1, 1) by decide +kernel) rfl
set_option maxRecDepth 20000 in
theorem kX12_count_1 {C : QC} {x : QP} {M : QM} {st : List CV} {L : QL} {a : Int} (ha1 : -2147483648 ≤ a) (ha2 : a < 2147483648) : Rr C mX12_count (1, L, qi a :: st, M) x = (if a = 0 then Rr C mX12_count (40, L, st, M) x else if a = 1 then Rr C mX12_count (48, L, st, M) x else if a = 2 then Rr C mX12_count (59, L, st, M) x else if a = 3 then Rr C mX12_count (67, L, st, M) x else if a = 4 then Rr C mX12_count (72, L, st, M) x else if a = 5 then Rr C mX12_count (80, L, st, M) x else Rr C mX12_count (88, L, st, M) x) := by
  by_cases h0 : a = 0
  · subst h0; rw [if_pos rfl]; exact g_tsI (show decode cX12_count 1 = .ok (.tableswitch 87 0 5 #[39, 47, 58, 66, 71, 79], 39) by decide +kernel) (by decide) (by decide) rfl rfl
  rw [if_neg h0]
  by_cases h1 : a = 1
  · subst h1; rw [if_pos rfl]; exact g_tsI (show decode cX12_count 1 = .ok (.tableswitch 87 0 5 #[39, 47, 58, 66, 71, 79], 39) by decide +kernel) (by decide) (by decide) rfl rfl
  rw [if_neg h1]
  by_cases h2 : a = 2
  · subst h2; rw [if_pos rfl]; exact g_tsI (show decode cX12_count 1 = .ok (.tableswitch 87 0 5 #[39, 47, 58, 66, 71, 79], 39) by decide +kernel) (by decide) (by decide) rfl rfl
  rw [if_neg h2]
  by_cases h3 : a = 3
  · subst h3; rw [if_pos rfl]; exact g_tsI (show decode cX12_count 1 = .ok (.tableswitch 87 0 5 #[39, 47, 58, 66, 71, 79], 39) by decide +kernel) (by decide) (by decide) rfl rfl
  rw [if_neg h3]
  by_cases h4 : a = 4
  · subst h4; rw [if_pos rfl]; exact g_tsI (show decode cX12_count 1 = .ok (.tableswitch 87 0 5 #[39, 47, 58, 66, 71, 79], 39) by decide +kernel) (by decide) (by decide) rfl rfl
  rw [if_neg h4]
  by_cases h5 : a = 5
  · subst h5; rw [if_pos rfl]; exact g_tsI (show decode cX12_count 1 = .ok (.tableswitch 87 0 5 #[39, 47, 58, 66, 71, 79], 39) by decide +kernel) (by decide) (by decide) rfl rfl
  rw [if_neg h5]
  exact g_tsO (show decode cX12_count 1 = .ok (.tableswitch 87 0 5 #[39, 47, 58, 66, 71, 79], 39) by decide +kernel) ⟨ha1, ha2⟩ (by omega) rfl
set_option maxRecDepth 20000 in
theorem kX12_count_40 {C : QC} {x : QP} {M : QM} {st : List CV} {L : QL} {l0 l1 : Option CV} {r : Option Nat} : Rr C mX12_count (40, [some (.inr (.inr r)), l1], st, M) x = Rr C mX12_count (41, [some (.inr (.inr r)), l1], .inr (.inr r) :: st, M) x := g_pl (show decode cX12_count 40 = .ok (.aload_n 0, 1) by decide +kernel) rfl
set_option maxRecDepth 20000 in
theorem kX12_count_41 {C : QC} {x : QP} {M : QM} {st : List CV} {L : QL} {a : Nat} (hk : q_kd M a = (1, 12)) : Rr C mX12_count (41, L, qr a :: st, M) x = Rr C mX12_count (44, L, q_fv M a 2 :: st, M) x := g_getf (ow := 12) (e := (12, 2, RX12, 381, 0)) (show decode cX12_count 41 = .ok (.getfield 26, 3) by decide +kernel) rfl hk
set_option maxRecDepth 20000 in
theorem kX12_count_44 {C : QC} {x : QP} {M : QM} {L : QL} {rest : List CV} {v : CV} {M1 : QM} {b : Nat} (hb : q_kd M b = (1, 11)) (hC : C iX11_size [qr b] M (some v) M1) (hw : (rest.map q_wd).sum ≤ 8) (k : Rr C mX12_count (47, L, v :: rest, M1) x) : Rr C mX12_count (44, L, qr b :: rest, M) x := g_cv (ow := 12) (e := (0, 130, 11, [967, 968, 969, 83])) (as := []) (show decode cX12_count 44 = .ok (.invokevirtual 242, 3) by decide +kernel) rfl rfl rfl (Or.inl rfl) rfl hb hC hw k
set_option maxRecDepth 20000 in
theorem kX12_count_47 {C : QC} {x : QP} {M : QM} {st : List CV} {L : QL} {z : Int} : Rr C mX12_count (47, L, [qi z], M) x = x (some (qi z)) M := g_iret (show decode cX12_count 47 = .ok (.ireturn, 1) by decide +kernel) rfl
set_option maxRecDepth 20000 in
theorem kX12_count_48 {C : QC} {x : QP} {M : QM} {st : List CV} {L : QL} {l0 l1 : Option CV} {r : Option Nat} : Rr C mX12_count (48, [some (.inr (.inr r)), l1], st, M) x = Rr C mX12_count (49, [some (.inr (.inr r)), l1], .inr (.inr r) :: st, M) x := g_pl (show decode cX12_count 48 = .ok (.aload_n 0, 1) by decide +kernel) rfl
set_option maxRecDepth 20000 in
theorem kX12_count_49 {C : QC} {x : QP} {M : QM} {st : List CV} {L : QL} {a : Nat} (hk : q_kd M a = (1, 12)) : Rr C mX12_count (49, L, qr a :: st, M) x = Rr C mX12_count (52, L, q_fv M a 2 :: st, M) x := g_getf (ow := 12) (e := (12, 2, RX12, 381, 0)) (show decode cX12_count 49 = .ok (.getfield 26, 3) by decide +kernel) rfl hk
set_option maxRecDepth 20000 in
theorem kX12_count_52 {C : QC} {x : QP} {M : QM} {st : List CV} {L : QL} {a : Nat} (hk : q_kd M a = (1, 11)) : Rr C mX12_count (52, L, qr a :: st, M) x = Rr C mX12_count (55, L, q_fv M a 0 :: st, M) x := g_getf (ow := 12) (e := (11, 0, RX11, 315, 0)) (show decode cX12_count 52 = .ok (.getfield 249, 3) by decide +kernel) rfl hk
set_option maxRecDepth 20000 in
theorem kX12_count_55 {C : QC} {x : QP} {M : QM} {L : QL} {rest : List CV} {v : CV} {M1 : QM} {b : Nat} (hb : q_kd M b = (1, 0)) (hC : C iX0_size [qr b] M (some v) M1) (hw : (rest.map q_wd).sum ≤ 8) (k : Rr C mX12_count (58, L, v :: rest, M1) x) : Rr C mX12_count (55, L, qr b :: rest, M) x := g_cv (ow := 12) (e := (0, 135, 0, [990, 991, 992, 84])) (as := []) (show decode cX12_count 55 = .ok (.invokevirtual 253, 3) by decide +kernel) rfl rfl rfl (Or.inl rfl) rfl hb hC hw k
set_option maxRecDepth 20000 in
theorem kX12_count_58 {C : QC} {x : QP} {M : QM} {st : List CV} {L : QL} {z : Int} : Rr C mX12_count (58, L, [qi z], M) x = x (some (qi z)) M := g_iret (show decode cX12_count 58 = .ok (.ireturn, 1) by decide +kernel) rfl
set_option maxRecDepth 20000 in
theorem kX12_count_59 {C : QC} {x : QP} {M : QM} {st : List CV} {L : QL} {l0 l1 : Option CV} {r : Option Nat} : Rr C mX12_count (59, [some (.inr (.inr r)), l1], st, M) x = Rr C mX12_count (60, [some (.inr (.inr r)), l1], .inr (.inr r) :: st, M) x := g_pl (show decode cX12_count 59 = .ok (.aload_n 0, 1) by decide +kernel) rfl
set_option maxRecDepth 20000 in
theorem kX12_count_60 {C : QC} {x : QP} {M : QM} {st : List CV} {L : QL} {a : Nat} (hk : q_kd M a = (1, 12)) : Rr C mX12_count (60, L, qr a :: st, M) x = Rr C mX12_count (63, L, q_fv M a 0 :: st, M) x := g_getf (ow := 12) (e := (12, 0, RX12, 379, 0)) (show decode cX12_count 60 = .ok (.getfield 10, 3) by decide +kernel) rfl hk
set_option maxRecDepth 20000 in
theorem kX12_count_63 {C : QC} {x : QP} {M : QM} {L : QL} {rest : List CV} {v : CV} {M1 : QM} {b : Nat} (hb : q_kd M b = (1, 8)) (hC : C iX8_length [qr b] M (some v) M1) (hw : (rest.map q_wd).sum ≤ 8) (k : Rr C mX12_count (66, L, v :: rest, M1) x) : Rr C mX12_count (63, L, qr b :: rest, M) x := g_cv (ow := 12) (e := (0, 17, 8, [429, 430, 431, 78])) (as := []) (show decode cX12_count 63 = .ok (.invokevirtual 86, 3) by decide +kernel) rfl rfl rfl (Or.inl rfl) rfl hb hC hw k
set_option maxRecDepth 20000 in
theorem kX12_count_66 {C : QC} {x : QP} {M : QM} {st : List CV} {L : QL} {z : Int} : Rr C mX12_count (66, L, [qi z], M) x = x (some (qi z)) M := g_iret (show decode cX12_count 66 = .ok (.ireturn, 1) by decide +kernel) rfl
set_option maxRecDepth 20000 in
theorem kX12_count_67 {C : QC} {x : QP} {M : QM} {st : List CV} {L : QL} {l0 l1 : Option CV} {r : Option Nat} : Rr C mX12_count (67, [some (.inr (.inr r)), l1], st, M) x = Rr C mX12_count (68, [some (.inr (.inr r)), l1], .inr (.inr r) :: st, M) x := g_pl (show decode cX12_count 67 = .ok (.aload_n 0, 1) by decide +kernel) rfl
set_option maxRecDepth 20000 in
theorem kX12_count_68 {C : QC} {x : QP} {M : QM} {st : List CV} {L : QL} {a : Nat} (hk : q_kd M a = (1, 12)) : Rr C mX12_count (68, L, qr a :: st, M) x = Rr C mX12_count (71, L, q_fv M a 10 :: st, M) x := g_getf (ow := 12) (e := (12, 10, RX12, 389, 0)) (show decode cX12_count 68 = .ok (.getfield 69, 3) by decide +kernel) rfl hk
set_option maxRecDepth 20000 in
theorem kX12_count_71 {C : QC} {x : QP} {M : QM} {st : List CV} {L : QL} {z : Int} : Rr C mX12_count (71, L, [qi z], M) x = x (some (qi z)) M := g_iret (show decode cX12_count 71 = .ok (.ireturn, 1) by decide +kernel) rfl
set_option maxRecDepth 20000 in
theorem kX12_count_72 {C : QC} {x : QP} {M : QM} {st : List CV} {L : QL} {l0 l1 : Option CV} {r : Option Nat} : Rr C mX12_count (72, [some (.inr (.inr r)), l1], st, M) x = Rr C mX12_count (73, [some (.inr (.inr r)), l1], .inr (.inr r) :: st, M) x := g_pl (show decode cX12_count 72 = .ok (.aload_n 0, 1) by decide +kernel) rfl
set_option maxRecDepth 20000 in
theorem kX12_count_73 {C : QC} {x : QP} {M : QM} {st : List CV} {L : QL} {a : Nat} (hk : q_kd M a = (1, 12)) : Rr C mX12_count (73, L, qr a :: st, M) x = Rr C mX12_count (76, L, q_fv M a 2 :: st, M) x := g_getf (ow := 12) (e := (12, 2, RX12, 381, 0)) (show decode cX12_count 73 = .ok (.getfield 26, 3) by decide +kernel) rfl hk
set_option maxRecDepth 20000 in
theorem kX12_count_76 {C : QC} {x : QP} {M : QM} {st : List CV} {L : QL} {a : Nat} (hk : q_kd M a = (1, 11)) : Rr C mX12_count (76, L, qr a :: st, M) x = Rr C mX12_count (79, L, q_fv M a 1 :: st, M) x := g_getf (ow := 12) (e := (11, 1, RX11, 317, 0)) (show decode cX12_count 76 = .ok (.getfield 318, 3) by decide +kernel) rfl hk
set_option maxRecDepth 20000 in
theorem kX12_count_79 {C : QC} {x : QP} {M : QM} {st : List CV} {L : QL} {z : Int} : Rr C mX12_count (79, L, [qi z], M) x = x (some (qi z)) M := g_iret (show decode cX12_count 79 = .ok (.ireturn, 1) by decide +kernel) rfl
set_option maxRecDepth 20000 in
theorem kX12_count_80 {C : QC} {x : QP} {M : QM} {st : List CV} {L : QL} {l0 l1 : Option CV} {r : Option Nat} : Rr C mX12_count (80, [some (.inr (.inr r)), l1], st, M) x = Rr C mX12_count (81, [some (.inr (.inr r)), l1], .inr (.inr r) :: st, M) x := g_pl (show decode cX12_count 80 = .ok (.aload_n 0, 1) by decide +kernel) rfl
set_option maxRecDepth 20000 in
theorem kX12_count_81 {C : QC} {x : QP} {M : QM} {st : List CV} {L : QL} {a : Nat} (hk : q_kd M a = (1, 12)) : Rr C mX12_count (81, L, qr a :: st, M) x = Rr C mX12_count (84, L, q_fv M a 2 :: st, M) x := g_getf (ow := 12) (e := (12, 2, RX12, 381, 0)) (show decode cX12_count 81 = .ok (.getfield 26, 3) by decide +kernel) rfl hk
set_option maxRecDepth 20000 in
theorem kX12_count_84 {C : QC} {x : QP} {M : QM} {st : List CV} {L : QL} {a : Nat} (hk : q_kd M a = (1, 11)) : Rr C mX12_count (84, L, qr a :: st, M) x = Rr C mX12_count (87, L, q_fv M a 2 :: st, M) x := g_getf (ow := 12) (e := (11, 2, RX11, 319, 0)) (show decode cX12_count 84 = .ok (.getfield 321, 3) by decide +kernel) rfl hk
set_option maxRecDepth 20000 in
theorem kX12_count_87 {C : QC} {x : QP} {M : QM} {st : List CV} {L : QL} {z : Int} : Rr C mX12_count (87, L, [qi z], M) x = x (some (qi z)) M := g_iret (show decode cX12_count 87 = .ok (.ireturn, 1) by decide +kernel) rfl
set_option maxRecDepth 20000 in
theorem kX12_count_88 {C : QC} {x : QP} {M : QM} {st : List CV} {L : QL} : Rr C mX12_count (88, L, st, M) x = Rr C mX12_count (89, L, qi (-1) :: st, M) x := g_pl (show decode cX12_count 88 = .ok (.iconst (-1), 1) by decide +kernel) rfl
set_option maxRecDepth 20000 in
theorem kX12_count_89 {C : QC} {x : QP} {M : QM} {st : List CV} {L : QL} {z : Int} : Rr C mX12_count (89, L, [qi z], M) x = x (some (qi z)) M := g_iret (show decode cX12_count 89 = .ok (.ireturn, 1) by decide +kernel) rfl
set_option maxRecDepth 20000 in
theorem eX12_count {d : Nat} {M : QM} {x : QP} {a : Nat} {v0 : Int} : q_T (d + 1) iX12_count [qr a, qi v0] M x = Rr (q_C d) mX12_count (0, [some (qr a), some (qi v0)], [], M) x := g_entryT (e := _) rfl (Nat.le_of_ble_eq_true rfl) rfl rfl
def mX12_isByte : QI := (12, cX12_isByte, false, some .boolean)
set_option maxRecDepth 20000 in
theorem kX12_isByte_0 {C : QC} {x : QP} {M : QM} {st : List CV} {L : QL} {z : Int} : Rr C mX12_isByte (0, [some (qi z)], st, M) x = Rr C mX12_isByte (1, [some (qi z)], qi z :: st, M) x := g_pl (show decode cX12_isByte 0 = .ok (.iload_n 0, 1) by decide +kernel) rfl
set_option maxRecDepth 20000 in
theorem kX12_isByte_1 {C : QC} {x : QP} {M : QM} {st : List CV} {L : QL} {a : Int} (ha1 : -2147483648 ≤ a) (ha2 : a < 2147483648) : Rr C mX12_isByte (1, L, qi a :: st, M) x = (if a < 0 then Rr C mX12_isByte (14, L, st, M) x else Rr C mX12_isByte (4, L, st, M) x) := (g_if (show decode cX12_isByte 1 = .ok (.ifCond .lt 13, 3) by decide +kernel) rfl ha1 ha2).trans (g_ite c_lt)
set_option maxRecDepth 20000 in
theorem kX12_isByte_4 {C : QC} {x : QP} {M : QM} {st : List CV} {L : QL} {z : Int} : Rr C mX12_isByte (4, [some (qi z)], st, M) x = Rr C mX12_isByte (5, [some (qi z)], qi z :: st, M) x := g_pl (show decode cX12_isByte 4 = .ok (.iload_n 0, 1) by decide +kernel) rfl
set_option maxRecDepth 20000 in
theorem kX12_isByte_5 {C : QC} {x : QP} {M : QM} {st : List CV} {L : QL} : Rr C mX12_isByte (5, L, st, M) x = Rr C mX12_isByte (7, L, qi 127 :: st, M) x := g_pl (show decode cX12_isByte 5 = .ok (.bipush 127, 2) by decide +kernel) rfl
set_option maxRecDepth 20000 in
theorem kX12_isByte_7 {C : QC} {x : QP} {M : QM} {st : List CV} {L : QL} {a b : Int} (ha1 : -2147483648 ≤ a) (ha2 : a < 2147483648) (hb1 : -2147483648 ≤ b) (hb2 : b < 2147483648) : Rr C mX12_isByte (7, L, qi b :: qi a :: st, M) x = (if b < a then Rr C mX12_isByte (14, L, st, M) x else Rr C mX12_isByte (10, L, st, M) x) := (g_icmp (show decode cX12_isByte 7 = .ok (.if_icmp .gt 7, 3) by decide +kernel) rfl ha1 ha2 hb1 hb2).trans (g_ite c_gt)
set_option maxRecDepth 20000 in
theorem kX12_isByte_10 {C : QC} {x : QP} {M : QM} {st : List CV} {L : QL} : Rr C mX12_isByte (10, L, st, M) x = Rr C mX12_isByte (11, L, qi 1 :: st, M) x := g_pl (show decode cX12_isByte 10 = .ok (.iconst 1, 1) by decide +kernel) rfl
set_option maxRecDepth 20000 in
theorem kX12_isByte_11 {C : QC} {x : QP} {M : QM} {st : List CV} {L : QL} : Rr C mX12_isByte (11, L, st, M) x = Rr C mX12_isByte (15, L, st, M) x := g_pl (show decode cX12_isByte 11 = .ok (.goto 4, 3) by decide +kernel) rfl
set_option maxRecDepth 20000 in
theorem kX12_isByte_14 {C : QC} {x : QP} {M : QM} {st : List CV} {L : QL} : Rr C mX12_isByte (14, L, st, M) x = Rr C mX12_isByte (15, L, qi 0 :: st, M) x := g_pl (show decode cX12_isByte 14 = .ok (.iconst 0, 1) by decide +kernel) rfl
set_option maxRecDepth 20000 in
theorem kX12_isByte_15 {C : QC} {x : QP} {M : QM} {st : List CV} {L : QL} {z : Int} (hz : z = 0 ∨ z = 1) : Rr C mX12_isByte (15, L, [qi z], M) x = x (some (qi z)) M := g_iret (show decode cX12_isByte 15 = .ok (.ireturn, 1) by decide +kernel) (by rcases hz with rfl | rfl <;> rfl)
set_option maxRecDepth 20000 in
theorem eX12_isByte {d : Nat} {M : QM} {x : QP} {v0 : Int} : q_T (d + 1) iX12_isByte [qi v0] M x = Rr (q_C d) mX12_isByte (0, [some (qi v0)], [], M) x := g_entryT (e := _) rfl (Nat.le_of_ble_eq_true rfl) rfl rfl
def mX12_isDay : QI := (12, cX12_isDay, false, some .boolean)
set_option maxRecDepth 20000 in
theorem kX12_isDay_0 {C : QC} {x : QP} {M : QM} {st : List CV} {L : QL} {z : Int} : Rr C mX12_isDay (0, [some (qi z)], st, M) x = Rr C mX12_isDay (1, [some (qi z)], qi z :: st, M) x := g_pl (show decode cX12_isDay 0 = .ok (.iload_n 0, 1) by decide +kernel) rfl
set_option maxRecDepth 20000 in
theorem kX12_isDay_1 {C : QC} {x : QP} {M : QM} {st : List CV} {L : QL} {a : Int} (ha1 : -2147483648 ≤ a) (ha2 : a < 2147483648) : Rr C mX12_isDay (1, L, qi a :: st, M) x = (if a < 0 then Rr C mX12_isDay (15, L, st, M) x else Rr C mX12_isDay (4, L, st, M) x) := (g_if (show decode cX12_isDay 1 = .ok (.ifCond .lt 14, 3) by decide +kernel) rfl ha1 ha2).trans (g_ite c_lt)
set_option maxRecDepth 20000 in
theorem kX12_isDay_4 {C : QC} {x : QP} {M : QM} {st : List CV} {L : QL} {z : Int} : Rr C mX12_isDay (4, [some (qi z)], st, M) x = Rr C mX12_isDay (5, [some (qi z)], qi z :: st, M) x := g_pl (show decode cX12_isDay 4 = .ok (.iload_n 0, 1) by decide +kernel) rfl
set_option maxRecDepth 20000 in
theorem kX12_isDay_5 {C : QC} {x : QP} {M : QM} {st : List CV} {L : QL} : Rr C mX12_isDay (5, L, st, M) x = Rr C mX12_isDay (8, L, qi 10000 :: st, M) x := g_pl (show decode cX12_isDay 5 = .ok (.sipush 10000, 3) by decide +kernel) rfl
set_option maxRecDepth 20000 in
theorem kX12_isDay_8 {C : QC} {x : QP} {M : QM} {st : List CV} {L : QL} {a b : Int} (ha1 : -2147483648 ≤ a) (ha2 : a < 2147483648) (hb1 : -2147483648 ≤ b) (hb2 : b < 2147483648) : Rr C mX12_isDay (8, L, qi b :: qi a :: st, M) x = (if a < b then Rr C mX12_isDay (11, L, st, M) x else Rr C mX12_isDay (15, L, st, M) x) := (g_icmp (show decode cX12_isDay 8 = .ok (.if_icmp .ge 7, 3) by decide +kernel) rfl ha1 ha2 hb1 hb2).trans (g_itn c_ge)
set_option maxRecDepth 20000 in
theorem kX12_isDay_11 {C : QC} {x : QP} {M : QM} {st : List CV} {L : QL} : Rr C mX12_isDay (11, L, st, M) x = Rr C mX12_isDay (12, L, qi 1 :: st, M) x := g_pl (show decode cX12_isDay 11 = .ok (.iconst 1, 1) by decide +kernel) rfl
set_option maxRecDepth 20000 in
theorem kX12_isDay_12 {C : QC} {x : QP} {M : QM} {st : List CV} {L : QL} : Rr C mX12_isDay (12, L, st, M) x = Rr C mX12_isDay (16, L, st, M) x := g_pl (show decode cX12_isDay 12 = .ok (.goto 4, 3) by decide +kernel) rfl
set_option maxRecDepth 20000 in
theorem kX12_isDay_15 {C : QC} {x : QP} {M : QM} {st : List CV} {L : QL} : Rr C mX12_isDay (15, L, st, M) x = Rr C mX12_isDay (16, L, qi 0 :: st, M) x := g_pl (show decode cX12_isDay 15 = .ok (.iconst 0, 1) by decide +kernel) rfl
set_option maxRecDepth 20000 in
theorem kX12_isDay_16 {C : QC} {x : QP} {M : QM} {st : List CV} {L : QL} {z : Int} (hz : z = 0 ∨ z = 1) : Rr C mX12_isDay (16, L, [qi z], M) x = x (some (qi z)) M := g_iret (show decode cX12_isDay 16 = .ok (.ireturn, 1) by decide +kernel) (by rcases hz with rfl | rfl <;> rfl)
set_option maxRecDepth 20000 in
theorem eX12_isDay {d : Nat} {M : QM} {x : QP} {v0 : Int} : q_T (d + 1) iX12_isDay [qi v0] M x = Rr (q_C d) mX12_isDay (0, [some (qi v0)], [], M) x := g_entryT (e := _) rfl (Nat.le_of_ble_eq_true rfl) rfl rfl
def mX12_tell : QI := (12, cX12_tell, false, some .int)
set_option maxRecDepth 20000 in
theorem kX12_tell_0 {C : QC} {x : QP} {M : QM} {st : List CV} {L : QL} {l0 l1 l2 : Option CV} {r : Option Nat} : Rr C mX12_tell (0, [some (.inr (.inr r)), l1, l2], st, M) x = Rr C mX12_tell (1, [some (.inr (.inr r)), l1, l2], .inr (.inr r) :: st, M) x := g_pl (show decode cX12_tell 0 = .ok (.aload_n 0, 1) by decide +kernel) rfl
set_option maxRecDepth 20000 in
theorem kX12_tell_1 {C : QC} {x : QP} {M : QM} {st : List CV} {L : QL} {a : Nat} (hk : q_kd M a = (1, 12)) : Rr C mX12_tell (1, L, qr a :: st, M) x = Rr C mX12_tell (4, L, q_fv M a 2 :: st, M) x := g_getf (ow := 12) (e := (12, 2, RX12, 381, 0)) (show decode cX12_tell 1 = .ok (.getfield 26, 3) by decide +kernel) rfl hk
set_option maxRecDepth 20000 in
theorem kX12_tell_4 {C : QC} {x : QP} {M : QM} {st : List CV} {L : QL} {l0 l1 l2 : Option CV} {r : Option Nat} : Rr C mX12_tell (4, [l0, some (.inr (.inr r)), l2], st, M) x = Rr C mX12_tell (5, [l0, some (.inr (.inr r)), l2], .inr (.inr r) :: st, M) x := g_pl (show decode cX12_tell 4 = .ok (.aload_n 1, 1) by decide +kernel) rfl
set_option maxRecDepth 20000 in
theorem kX12_tell_5 {C : QC} {x : QP} {M : QM} {L : QL} {rest : List CV} {a0 a1 : CV} {v : CV} {M1 : QM} (hC : C iX6_refusal [a0, a1] M (some v) M1) (hw : (rest.map q_wd).sum ≤ 8) (k : Rr C mX12_tell (8, L, v :: rest, M1) x) : Rr C mX12_tell (5, L, a1 :: a0 :: rest, M) x := g_cs (ow := 12) (e := (1, 25, 0, [487, 488, 97])) (as := [a0, a1]) (show decode cX12_tell 5 = .ok (.invokestatic 122, 3) by decide +kernel) rfl rfl rfl rfl (Or.inl rfl) rfl hC hw k
set_option maxRecDepth 20000 in
theorem kX12_tell_8 {C : QC} {x : QP} {M : QM} {st : List CV} {L : QL} {l0 l1 l2 : Option CV} {z : Int} : Rr C mX12_tell (8, [l0, l1, l2], qi z :: st, M) x = Rr C mX12_tell (9, [l0, q_cut l1, some (qi z)], st, M) x := g_pl (show decode cX12_tell 8 = .ok (.istore_n 2, 1) by decide +kernel) rfl
set_option maxRecDepth 20000 in
theorem kX12_tell_9 {C : QC} {x : QP} {M : QM} {st : List CV} {L : QL} {l0 l1 l2 : Option CV} {z : Int} : Rr C mX12_tell (9, [l0, l1, some (qi z)], st, M) x = Rr C mX12_tell (10, [l0, l1, some (qi z)], qi z :: st, M) x := g_pl (show decode cX12_tell 9 = .ok (.iload_n 2, 1) by decide +kernel) rfl
set_option maxRecDepth 20000 in
theorem kX12_tell_10 {C : QC} {x : QP} {M : QM} {st : List CV} {L : QL} {a : Int} (ha1 : -2147483648 ≤ a) (ha2 : a < 2147483648) : Rr C mX12_tell (10, L, qi a :: st, M) x = (if a = 0 then Rr C mX12_tell (21, L, st, M) x else Rr C mX12_tell (13, L, st, M) x) := (g_if (show decode cX12_tell 10 = .ok (.ifCond .eq 11, 3) by decide +kernel) rfl ha1 ha2).trans (g_ite c_eq)
set_option maxRecDepth 20000 in
theorem kX12_tell_13 {C : QC} {x : QP} {M : QM} {st : List CV} {L : QL} {l0 l1 l2 : Option CV} {r : Option Nat} : Rr C mX12_tell (13, [some (.inr (.inr r)), l1, l2], st, M) x = Rr C mX12_tell (14, [some (.inr (.inr r)), l1, l2], .inr (.inr r) :: st, M) x := g_pl (show decode cX12_tell 13 = .ok (.aload_n 0, 1) by decide +kernel) rfl
set_option maxRecDepth 20000 in
theorem kX12_tell_14 {C : QC} {x : QP} {M : QM} {st : List CV} {L : QL} {l0 l1 l2 : Option CV} {z : Int} : Rr C mX12_tell (14, [l0, l1, some (qi z)], st, M) x = Rr C mX12_tell (15, [l0, l1, some (qi z)], qi z :: st, M) x := g_pl (show decode cX12_tell 14 = .ok (.iload_n 2, 1) by decide +kernel) rfl
set_option maxRecDepth 20000 in
theorem kX12_tell_15 {C : QC} {x : QP} {M : QM} {st : List CV} {L : QL} {z : Int} {a : Nat} (hk : q_kd M a = (1, 12)) : Rr C mX12_tell (15, L, qi z :: qr a :: st, M) x = Rr C mX12_tell (18, L, st, q_wr M a 11 (qi z)) x := g_putf (ow := 12) (ini := false) (e := (12, 11, RX12, 390, 0)) (r := (RX12, TX12, 14)) (t := tyX12) (show decode cX12_tell 15 = .ok (.putfield 73, 3) by decide +kernel) rfl rfl rfl rfl (by decide +kernel) hk
set_option maxRecDepth 20000 in
theorem kX12_tell_18 {C : QC} {x : QP} {M : QM} {st : List CV} {L : QL} : Rr C mX12_tell (18, L, st, M) x = Rr C mX12_tell (20, L, qi (-3) :: st, M) x := g_pl (show decode cX12_tell 18 = .ok (.bipush (-3), 2) by decide +kernel) rfl
set_option maxRecDepth 20000 in
theorem kX12_tell_20 {C : QC} {x : QP} {M : QM} {st : List CV} {L : QL} {z : Int} : Rr C mX12_tell (20, L, [qi z], M) x = x (some (qi z)) M := g_iret (show decode cX12_tell 20 = .ok (.ireturn, 1) by decide +kernel) rfl
set_option maxRecDepth 20000 in
theorem kX12_tell_21 {C : QC} {x : QP} {M : QM} {st : List CV} {L : QL} {l0 l1 l2 : Option CV} {r : Option Nat} : Rr C mX12_tell (21, [some (.inr (.inr r)), l1, l2], st, M) x = Rr C mX12_tell (22, [some (.inr (.inr r)), l1, l2], .inr (.inr r) :: st, M) x := g_pl (show decode cX12_tell 21 = .ok (.aload_n 0, 1) by decide +kernel) rfl
set_option maxRecDepth 20000 in
theorem kX12_tell_22 {C : QC} {x : QP} {M : QM} {st : List CV} {L : QL} {a : Nat} (hk : q_kd M a = (1, 12)) : Rr C mX12_tell (22, L, qr a :: st, M) x = Rr C mX12_tell (25, L, q_fv M a 6 :: st, M) x := g_getf (ow := 12) (e := (12, 6, RX12, 385, 0)) (show decode cX12_tell 22 = .ok (.getfield 54, 3) by decide +kernel) rfl hk
set_option maxRecDepth 20000 in
theorem kX12_tell_25 {C : QC} {x : QP} {M : QM} {L : QL} {rest : List CV} {v : CV} {M1 : QM} {b : Nat} (hb : q_kd M b = (1, 15)) (hC : C iJx4a65c_size_8abf5 [qr b] M (some v) M1) (hw : (rest.map q_wd).sum ≤ 8) (k : Rr C mX12_tell (28, L, v :: rest, M1) x) : Rr C mX12_tell (25, L, qr b :: rest, M) x := g_cv (ow := 12) (e := (0, 43, 15, [558, 559, 560, 82])) (as := []) (show decode cX12_tell 25 = .ok (.invokevirtual 117, 3) by decide +kernel) rfl rfl rfl (Or.inl rfl) rfl hb hC hw k
set_option maxRecDepth 20000 in
theorem kX12_tell_28 {C : QC} {x : QP} {M : QM} {st : List CV} {L : QL} : Rr C mX12_tell (28, L, st, M) x = Rr C mX12_tell (31, L, qi 512 :: st, M) x := g_pl (show decode cX12_tell 28 = .ok (.sipush 512, 3) by decide +kernel) rfl
set_option maxRecDepth 20000 in
theorem kX12_tell_31 {C : QC} {x : QP} {M : QM} {st : List CV} {L : QL} {a b : Int} (ha1 : -2147483648 ≤ a) (ha2 : a < 2147483648) (hb1 : -2147483648 ≤ b) (hb2 : b < 2147483648) : Rr C mX12_tell (31, L, qi b :: qi a :: st, M) x = (if a < b then Rr C mX12_tell (37, L, st, M) x else Rr C mX12_tell (34, L, st, M) x) := (g_icmp (show decode cX12_tell 31 = .ok (.if_icmp .lt 6, 3) by decide +kernel) rfl ha1 ha2 hb1 hb2).trans (g_ite c_lt)
set_option maxRecDepth 20000 in
theorem kX12_tell_34 {C : QC} {x : QP} {M : QM} {st : List CV} {L : QL} : Rr C mX12_tell (34, L, st, M) x = Rr C mX12_tell (36, L, qi (-4) :: st, M) x := g_pl (show decode cX12_tell 34 = .ok (.bipush (-4), 2) by decide +kernel) rfl
set_option maxRecDepth 20000 in
theorem kX12_tell_36 {C : QC} {x : QP} {M : QM} {st : List CV} {L : QL} {z : Int} : Rr C mX12_tell (36, L, [qi z], M) x = x (some (qi z)) M := g_iret (show decode cX12_tell 36 = .ok (.ireturn, 1) by decide +kernel) rfl
set_option maxRecDepth 20000 in
theorem kX12_tell_37 {C : QC} {x : QP} {M : QM} {st : List CV} {L : QL} {l0 l1 l2 : Option CV} {r : Option Nat} : Rr C mX12_tell (37, [some (.inr (.inr r)), l1, l2], st, M) x = Rr C mX12_tell (38, [some (.inr (.inr r)), l1, l2], .inr (.inr r) :: st, M) x := g_pl (show decode cX12_tell 37 = .ok (.aload_n 0, 1) by decide +kernel) rfl
set_option maxRecDepth 20000 in
theorem kX12_tell_38 {C : QC} {x : QP} {M : QM} {st : List CV} {L : QL} {l0 l1 l2 : Option CV} {r : Option Nat} : Rr C mX12_tell (38, [some (.inr (.inr r)), l1, l2], st, M) x = Rr C mX12_tell (39, [some (.inr (.inr r)), l1, l2], .inr (.inr r) :: st, M) x := g_pl (show decode cX12_tell 38 = .ok (.aload_n 0, 1) by decide +kernel) rfl
set_option maxRecDepth 20000 in
theorem kX12_tell_39 {C : QC} {x : QP} {M : QM} {st : List CV} {L : QL} {a : Nat} (hk : q_kd M a = (1, 12)) : Rr C mX12_tell (39, L, qr a :: st, M) x = Rr C mX12_tell (42, L, q_fv M a 6 :: st, M) x := g_getf (ow := 12) (e := (12, 6, RX12, 385, 0)) (show decode cX12_tell 39 = .ok (.getfield 54, 3) by decide +kernel) rfl hk
set_option maxRecDepth 20000 in
theorem kX12_tell_42 {C : QC} {x : QP} {M : QM} {L : QL} {rest : List CV} {v : CV} {M1 : QM} {b : Nat} (hb : q_kd M b = (1, 15)) (hC : C iJx4a65c_size_8abf5 [qr b] M (some v) M1) (hw : (rest.map q_wd).sum ≤ 8) (k : Rr C mX12_tell (45, L, v :: rest, M1) x) : Rr C mX12_tell (42, L, qr b :: rest, M) x := g_cv (ow := 12) (e := (0, 43, 15, [558, 559, 560, 82])) (as := []) (show decode cX12_tell 42 = .ok (.invokevirtual 117, 3) by decide +kernel) rfl rfl rfl (Or.inl rfl) rfl hb hC hw k
set_option maxRecDepth 20000 in
theorem kX12_tell_45 {C : QC} {x : QP} {M : QM} {L : QL} {rest : List CV} {a0 : CV} {M1 : QM} {b : Nat} (hb : q_kd M b = (1, 12)) (hC : C iX12_keepMark [qr b, a0] M none M1) (hw : (rest.map q_wd).sum ≤ 8) (k : Rr C mX12_tell (48, L, rest, M1) x) : Rr C mX12_tell (45, L, a0 :: qr b :: rest, M) x := g_cv (ow := 12) (e := (0, 44, 12, [562, 564, 2, 77])) (as := [a0]) (show decode cX12_tell 45 = .ok (.invokevirtual 141, 3) by decide +kernel) rfl rfl rfl (Or.inl rfl) rfl hb hC hw k
set_option maxRecDepth 20000 in
theorem kX12_tell_48 {C : QC} {x : QP} {M : QM} {st : List CV} {L : QL} {l0 l1 l2 : Option CV} {r : Option Nat} : Rr C mX12_tell (48, [some (.inr (.inr r)), l1, l2], st, M) x = Rr C mX12_tell (49, [some (.inr (.inr r)), l1, l2], .inr (.inr r) :: st, M) x := g_pl (show decode cX12_tell 48 = .ok (.aload_n 0, 1) by decide +kernel) rfl
set_option maxRecDepth 20000 in
theorem kX12_tell_49 {C : QC} {x : QP} {M : QM} {st : List CV} {L : QL} {a : Nat} (hk : q_kd M a = (1, 12)) : Rr C mX12_tell (49, L, qr a :: st, M) x = Rr C mX12_tell (52, L, q_fv M a 6 :: st, M) x := g_getf (ow := 12) (e := (12, 6, RX12, 385, 0)) (show decode cX12_tell 49 = .ok (.getfield 54, 3) by decide +kernel) rfl hk
set_option maxRecDepth 20000 in
theorem kX12_tell_52 {C : QC} {x : QP} {M : QM} {st : List CV} {L : QL} {l0 l1 l2 : Option CV} {r : Option Nat} : Rr C mX12_tell (52, [l0, some (.inr (.inr r)), l2], st, M) x = Rr C mX12_tell (53, [l0, some (.inr (.inr r)), l2], .inr (.inr r) :: st, M) x := g_pl (show decode cX12_tell 52 = .ok (.aload_n 1, 1) by decide +kernel) rfl
set_option maxRecDepth 20000 in
theorem kX12_tell_53 {C : QC} {x : QP} {M : QM} {L : QL} {rest : List CV} {a0 : CV} {v : CV} {M1 : QM} {b : Nat} (hb : q_kd M b = (1, 15)) (hC : C iJx4a65c_add_9ea2d [qr b, a0] M (some v) M1) (hw : (rest.map q_wd).sum ≤ 8) (k : Rr C mX12_tell (56, L, v :: rest, M1) x) : Rr C mX12_tell (53, L, a0 :: qr b :: rest, M) x := g_cv (ow := 12) (e := (0, 45, 15, [569, 570, 571, 82])) (as := [a0]) (show decode cX12_tell 53 = .ok (.invokevirtual 134, 3) by decide +kernel) rfl rfl rfl (Or.inl rfl) rfl hb hC hw k
set_option maxRecDepth 20000 in
theorem kX12_tell_56i {C : QC} {x : QP} {M : QM} {st : List CV} {L : QL} {a : Int} : Rr C mX12_tell (56, L, qi a :: st, M) x = Rr C mX12_tell (57, L, st, M) x := g_pl (show decode cX12_tell 56 = .ok (.pop, 1) by decide +kernel) rfl
set_option maxRecDepth 20000 in
theorem kX12_tell_56r {C : QC} {x : QP} {M : QM} {st : List CV} {L : QL} {a : Option Nat} : Rr C mX12_tell (56, L, .inr (.inr a) :: st, M) x = Rr C mX12_tell (57, L, st, M) x := g_pl (show decode cX12_tell 56 = .ok (.pop, 1) by decide +kernel) rfl
set_option maxRecDepth 20000 in
theorem kX12_tell_57 {C : QC} {x : QP} {M : QM} {st : List CV} {L : QL} {l0 l1 l2 : Option CV} {r : Option Nat} : Rr C mX12_tell (57, [some (.inr (.inr r)), l1, l2], st, M) x = Rr C mX12_tell (58, [some (.inr (.inr r)), l1, l2], .inr (.inr r) :: st, M) x := g_pl (show decode cX12_tell 57 = .ok (.aload_n 0, 1) by decide +kernel) rfl
set_option maxRecDepth 20000 in
theorem kX12_tell_58 {C : QC} {x : QP} {M : QM} {st : List CV} {L : QL} {a : Nat} (hk : q_kd M a = (1, 12)) : Rr C mX12_tell (58, L, qr a :: st, M) x = Rr C mX12_tell (61, L, q_fv M a 2 :: st, M) x := g_getf (ow := 12) (e := (12, 2, RX12, 381, 0)) (show decode cX12_tell 58 = .ok (.getfield 26, 3) by decide +kernel) rfl hk
set_option maxRecDepth 20000 in
theorem kX12_tell_61 {C : QC} {x : QP} {M : QM} {st : List CV} {L : QL} {l0 l1 l2 : Option CV} {r : Option Nat} : Rr C mX12_tell (61, [l0, some (.inr (.inr r)), l2], st, M) x = Rr C mX12_tell (62, [l0, some (.inr (.inr r)), l2], .inr (.inr r) :: st, M) x := g_pl (show decode cX12_tell 61 = .ok (.aload_n 1, 1) by decide +kernel) rfl
set_option maxRecDepth 20000 in
theorem kX12_tell_62 {C : QC} {x : QP} {M : QM} {L : QL} {rest : List CV} {a0 : CV} {v : CV} {M1 : QM} {b : Nat} (hb : q_kd M b = (1, 11)) (hC : C iX11_carryOut [qr b, a0] M (some v) M1) (hw : (rest.map q_wd).sum ≤ 8) (k : Rr C mX12_tell (65, L, v :: rest, M1) x) : Rr C mX12_tell (62, L, a0 :: qr b :: rest, M) x := g_cv (ow := 12) (e := (0, 53, 11, [624, 625, 626, 83])) (as := [a0]) (show decode cX12_tell 62 = .ok (.invokevirtual 138, 3) by decide +kernel) rfl rfl rfl (Or.inl rfl) rfl hb hC hw k
set_option maxRecDepth 20000 in
theorem kX12_tell_65 {C : QC} {x : QP} {M : QM} {st : List CV} {L : QL} {z : Int} : Rr C mX12_tell (65, L, [qi z], M) x = x (some (qi z)) M := g_iret (show decode cX12_tell 65 = .ok (.ireturn, 1) by decide +kernel) rfl
set_option maxRecDepth 20000 in
theorem eX12_tell {d : Nat} {M : QM} {x : QP} {a : Nat} {v0 : Option Nat} : q_T (d + 1) iX12_tell [qr a, .inr (.inr v0)] M x = Rr (q_C d) mX12_tell (0, [some (qr a), some (.inr (.inr v0)), none], [], M) x := g_entryT (e := _) rfl (Nat.le_of_ble_eq_true rfl) rfl rfl
def mX12_keepMark : QI := (12, cX12_keepMark, false, none)
set_option maxRecDepth 20000 in
theorem kX12_keepMark_0 {C : QC} {x : QP} {M : QM} {st : List CV} {L : QL} {l0 l1 : Option CV} {r : Option Nat} : Rr C mX12_keepMark (0, [some (.inr (.inr r)), l1], st, M) x = Rr C mX12_keepMark (1, [some (.inr (.inr r)), l1], .inr (.inr r) :: st, M) x := g_pl (show decode cX12_keepMark 0 = .ok (.aload_n 0, 1) by decide +kernel) rfl
set_option maxRecDepth 20000 in
theorem kX12_keepMark_1 {C : QC} {x : QP} {M : QM} {st : List CV} {L : QL} {a : Nat} (hk : q_kd M a = (1, 12)) : Rr C mX12_keepMark (1, L, qr a :: st, M) x = Rr C mX12_keepMark (4, L, q_fv M a 10 :: st, M) x := g_getf (ow := 12) (e := (12, 10, RX12, 389, 0)) (show decode cX12_keepMark 1 = .ok (.getfield 69, 3) by decide +kernel) rfl hk
set_option maxRecDepth 20000 in
theorem kX12_keepMark_4 {C : QC} {x : QP} {M : QM} {st : List CV} {L : QL} {l0 l1 : Option CV} {r : Option Nat} : Rr C mX12_keepMark (4, [some (.inr (.inr r)), l1], st, M) x = Rr C mX12_keepMark (5, [some (.inr (.inr r)), l1], .inr (.inr r) :: st, M) x := g_pl (show decode cX12_keepMark 4 = .ok (.aload_n 0, 1) by decide +kernel) rfl
set_option maxRecDepth 20000 in
theorem kX12_keepMark_5 {C : QC} {x : QP} {M : QM} {st : List CV} {L : QL} {a : Nat} (hk : q_kd M a = (1, 12)) : Rr C mX12_keepMark (5, L, qr a :: st, M) x = Rr C mX12_keepMark (8, L, q_fv M a 9 :: st, M) x := g_getf (ow := 12) (e := (12, 9, RX12, 388, 0)) (show decode cX12_keepMark 5 = .ok (.getfield 65, 3) by decide +kernel) rfl hk
set_option maxRecDepth 20000 in
theorem kX12_keepMark_8 {C : QC} {x : QP} {M : QM} {st : List CV} {L : QL} {a : Nat} (h1 : 2 ≤ (q_kd M a).1) (h2 : (q_kd M a).1 ≤ 9) : Rr C mX12_keepMark (8, L, qr a :: st, M) x = Rr C mX12_keepMark (9, L, qi (q_kd M a).2 :: st, M) x := g_alen (show decode cX12_keepMark 8 = .ok (.arraylength, 1) by decide +kernel) h1 h2
set_option maxRecDepth 20000 in
theorem kX12_keepMark_9 {C : QC} {x : QP} {M : QM} {st : List CV} {L : QL} {a b : Int} (ha1 : -2147483648 ≤ a) (ha2 : a < 2147483648) (hb1 : -2147483648 ≤ b) (hb2 : b < 2147483648) : Rr C mX12_keepMark (9, L, qi b :: qi a :: st, M) x = (if a < b then Rr C mX12_keepMark (43, L, st, M) x else Rr C mX12_keepMark (12, L, st, M) x) := (g_icmp (show decode cX12_keepMark 9 = .ok (.if_icmp .lt 34, 3) by decide +kernel) rfl ha1 ha2 hb1 hb2).trans (g_ite c_lt)
set_option maxRecDepth 20000 in
theorem kX12_keepMark_12 {C : QC} {x : QP} {M : QM} {st : List CV} {L : QL} {l0 l1 : Option CV} {r : Option Nat} : Rr C mX12_keepMark (12, [some (.inr (.inr r)), l1], st, M) x = Rr C mX12_keepMark (13, [some (.inr (.inr r)), l1], .inr (.inr r) :: st, M) x := g_pl (show decode cX12_keepMark 12 = .ok (.aload_n 0, 1) by decide +kernel) rfl
set_option maxRecDepth 20000 in
theorem kX12_keepMark_13 {C : QC} {x : QP} {M : QM} {st : List CV} {L : QL} {a : Nat} (hk : q_kd M a = (1, 12)) : Rr C mX12_keepMark (13, L, qr a :: st, M) x = Rr C mX12_keepMark (16, L, q_fv M a 9 :: st, M) x := g_getf (ow := 12) (e := (12, 9, RX12, 388, 0)) (show decode cX12_keepMark 13 = .ok (.getfield 65, 3) by decide +kernel) rfl hk
set_option maxRecDepth 20000 in
theorem kX12_keepMark_16 {C : QC} {x : QP} {M : QM} {st : List CV} {L : QL} : Rr C mX12_keepMark (16, L, st, M) x = Rr C mX12_keepMark (17, L, qi 1 :: st, M) x := g_pl (show decode cX12_keepMark 16 = .ok (.iconst 1, 1) by decide +kernel) rfl
set_option maxRecDepth 20000 in
theorem kX12_keepMark_17 {C : QC} {x : QP} {M : QM} {st : List CV} {L : QL} {l0 l1 : Option CV} {r : Option Nat} : Rr C mX12_keepMark (17, [some (.inr (.inr r)), l1], st, M) x = Rr C mX12_keepMark (18, [some (.inr (.inr r)), l1], .inr (.inr r) :: st, M) x := g_pl (show decode cX12_keepMark 17 = .ok (.aload_n 0, 1) by decide +kernel) rfl
set_option maxRecDepth 20000 in
theorem kX12_keepMark_18 {C : QC} {x : QP} {M : QM} {st : List CV} {L : QL} {a : Nat} (hk : q_kd M a = (1, 12)) : Rr C mX12_keepMark (18, L, qr a :: st, M) x = Rr C mX12_keepMark (21, L, q_fv M a 9 :: st, M) x := g_getf (ow := 12) (e := (12, 9, RX12, 388, 0)) (show decode cX12_keepMark 18 = .ok (.getfield 65, 3) by decide +kernel) rfl hk
set_option maxRecDepth 20000 in
theorem kX12_keepMark_21 {C : QC} {x : QP} {M : QM} {st : List CV} {L : QL} : Rr C mX12_keepMark (21, L, st, M) x = Rr C mX12_keepMark (22, L, qi 0 :: st, M) x := g_pl (show decode cX12_keepMark 21 = .ok (.iconst 0, 1) by decide +kernel) rfl
set_option maxRecDepth 20000 in
theorem kX12_keepMark_22 {C : QC} {x : QP} {M : QM} {st : List CV} {L : QL} {l0 l1 : Option CV} {r : Option Nat} : Rr C mX12_keepMark (22, [some (.inr (.inr r)), l1], st, M) x = Rr C mX12_keepMark (23, [some (.inr (.inr r)), l1], .inr (.inr r) :: st, M) x := g_pl (show decode cX12_keepMark 22 = .ok (.aload_n 0, 1) by decide +kernel) rfl
set_option maxRecDepth 20000 in
theorem kX12_keepMark_23 {C : QC} {x : QP} {M : QM} {st : List CV} {L : QL} {a : Nat} (hk : q_kd M a = (1, 12)) : Rr C mX12_keepMark (23, L, qr a :: st, M) x = Rr C mX12_keepMark (26, L, q_fv M a 9 :: st, M) x := g_getf (ow := 12) (e := (12, 9, RX12, 388, 0)) (show decode cX12_keepMark 23 = .ok (.getfield 65, 3) by decide +kernel) rfl hk
set_option maxRecDepth 20000 in
theorem kX12_keepMark_26 {C : QC} {x : QP} {M : QM} {st : List CV} {L : QL} {a : Nat} (h1 : 2 ≤ (q_kd M a).1) (h2 : (q_kd M a).1 ≤ 9) : Rr C mX12_keepMark (26, L, qr a :: st, M) x = Rr C mX12_keepMark (27, L, qi (q_kd M a).2 :: st, M) x := g_alen (show decode cX12_keepMark 26 = .ok (.arraylength, 1) by decide +kernel) h1 h2
set_option maxRecDepth 20000 in
theorem kX12_keepMark_27 {C : QC} {x : QP} {M : QM} {st : List CV} {L : QL} : Rr C mX12_keepMark (27, L, st, M) x = Rr C mX12_keepMark (28, L, qi 1 :: st, M) x := g_pl (show decode cX12_keepMark 27 = .ok (.iconst 1, 1) by decide +kernel) rfl
set_option maxRecDepth 20000 in
theorem kX12_keepMark_28 {C : QC} {x : QP} {M : QM} {st : List CV} {L : QL} {a b : Int} : Rr C mX12_keepMark (28, L, qi b :: qi a :: st, M) x = Rr C mX12_keepMark (29, L, qi (a - b) :: st, M) x := g_pl (show decode cX12_keepMark 28 = .ok (.isub, 1) by decide +kernel) rfl
set_option maxRecDepth 20000 in
theorem kX12_keepMark_29 {C : QC} {x : QP} {M : QM} {st : List CV} {L : QL} {a0 a : Nat} {sp dp n : Int} (hk : q_acc M a0 a sp dp n = true) (hw : (st.map q_wd).sum ≤ 8) : Rr C mX12_keepMark (29, L, qi n :: qi dp :: qr a :: qi sp :: qr a0 :: st, M) x = Rr C mX12_keepMark (32, L, st, q_cp M a0 sp.toNat a dp.toNat n.toNat) x := g_copy (ow := 12) (e := 566) (show decode cX12_keepMark 29 = .ok (.invokestatic 324, 3) by decide +kernel) rfl hk hw
set_option maxRecDepth 20000 in
theorem kX12_keepMark_32 {C : QC} {x : QP} {M : QM} {st : List CV} {L : QL} {l0 l1 : Option CV} {r : Option Nat} : Rr C mX12_keepMark (32, [some (.inr (.inr r)), l1], st, M) x = Rr C mX12_keepMark (33, [some (.inr (.inr r)), l1], .inr (.inr r) :: st, M) x := g_pl (show decode cX12_keepMark 32 = .ok (.aload_n 0, 1) by decide +kernel) rfl
set_option maxRecDepth 20000 in
theorem kX12_keepMark_33 {C : QC} {x : QP} {M : QM} {st : List CV} {L : QL} {l0 l1 : Option CV} {r : Option Nat} : Rr C mX12_keepMark (33, [some (.inr (.inr r)), l1], st, M) x = Rr C mX12_keepMark (34, [some (.inr (.inr r)), l1], .inr (.inr r) :: st, M) x := g_pl (show decode cX12_keepMark 33 = .ok (.aload_n 0, 1) by decide +kernel) rfl
set_option maxRecDepth 20000 in
theorem kX12_keepMark_34 {C : QC} {x : QP} {M : QM} {st : List CV} {L : QL} {a : Nat} (hk : q_kd M a = (1, 12)) : Rr C mX12_keepMark (34, L, qr a :: st, M) x = Rr C mX12_keepMark (37, L, q_fv M a 9 :: st, M) x := g_getf (ow := 12) (e := (12, 9, RX12, 388, 0)) (show decode cX12_keepMark 34 = .ok (.getfield 65, 3) by decide +kernel) rfl hk
set_option maxRecDepth 20000 in
theorem kX12_keepMark_37 {C : QC} {x : QP} {M : QM} {st : List CV} {L : QL} {a : Nat} (h1 : 2 ≤ (q_kd M a).1) (h2 : (q_kd M a).1 ≤ 9) : Rr C mX12_keepMark (37, L, qr a :: st, M) x = Rr C mX12_keepMark (38, L, qi (q_kd M a).2 :: st, M) x := g_alen (show decode cX12_keepMark 37 = .ok (.arraylength, 1) by decide +kernel) h1 h2
set_option maxRecDepth 20000 in
theorem kX12_keepMark_38 {C : QC} {x : QP} {M : QM} {st : List CV} {L : QL} : Rr C mX12_keepMark (38, L, st, M) x = Rr C mX12_keepMark (39, L, qi 1 :: st, M) x := g_pl (show decode cX12_keepMark 38 = .ok (.iconst 1, 1) by decide +kernel) rfl
set_option maxRecDepth 20000 in
theorem kX12_keepMark_39 {C : QC} {x : QP} {M : QM} {st : List CV} {L : QL} {a b : Int} : Rr C mX12_keepMark (39, L, qi b :: qi a :: st, M) x = Rr C mX12_keepMark (40, L, qi (a - b) :: st, M) x := g_pl (show decode cX12_keepMark 39 = .ok (.isub, 1) by decide +kernel) rfl
set_option maxRecDepth 20000 in
theorem kX12_keepMark_40 {C : QC} {x : QP} {M : QM} {st : List CV} {L : QL} {z : Int} {a : Nat} (hk : q_kd M a = (1, 12)) : Rr C mX12_keepMark (40, L, qi z :: qr a :: st, M) x = Rr C mX12_keepMark (43, L, st, q_wr M a 10 (qi z)) x := g_putf (ow := 12) (ini := false) (e := (12, 10, RX12, 389, 0)) (r := (RX12, TX12, 14)) (t := tyX12) (show decode cX12_keepMark 40 = .ok (.putfield 69, 3) by decide +kernel) rfl rfl rfl rfl (by decide +kernel) hk
set_option maxRecDepth 20000 in
theorem kX12_keepMark_43 {C : QC} {x : QP} {M : QM} {st : List CV} {L : QL} {l0 l1 : Option CV} {r : Option Nat} : Rr C mX12_keepMark (43, [some (.inr (.inr r)), l1], st, M) x = Rr C mX12_keepMark (44, [some (.inr (.inr r)), l1], .inr (.inr r) :: st, M) x := g_pl (show decode cX12_keepMark 43 = .ok (.aload_n 0, 1) by decide +kernel) rfl
set_option maxRecDepth 20000 in
theorem kX12_keepMark_44 {C : QC} {x : QP} {M : QM} {st : List CV} {L : QL} {a : Nat} (hk : q_kd M a = (1, 12)) : Rr C mX12_keepMark (44, L, qr a :: st, M) x = Rr C mX12_keepMark (47, L, q_fv M a 9 :: st, M) x := g_getf (ow := 12) (e := (12, 9, RX12, 388, 0)) (show decode cX12_keepMark 44 = .ok (.getfield 65, 3) by decide +kernel) rfl hk
set_option maxRecDepth 20000 in
theorem kX12_keepMark_47 {C : QC} {x : QP} {M : QM} {st : List CV} {L : QL} {l0 l1 : Option CV} {r : Option Nat} : Rr C mX12_keepMark (47, [some (.inr (.inr r)), l1], st, M) x = Rr C mX12_keepMark (48, [some (.inr (.inr r)), l1], .inr (.inr r) :: st, M) x := g_pl (show decode cX12_keepMark 47 = .ok (.aload_n 0, 1) by decide +kernel) rfl
set_option maxRecDepth 20000 in
theorem kX12_keepMark_48 {C : QC} {x : QP} {M : QM} {st : List CV} {L : QL} {a : Nat} (hk : q_kd M a = (1, 12)) : Rr C mX12_keepMark (48, L, qr a :: st, M) x = Rr C mX12_keepMark (51, L, q_fv M a 10 :: st, M) x := g_getf (ow := 12) (e := (12, 10, RX12, 389, 0)) (show decode cX12_keepMark 48 = .ok (.getfield 69, 3) by decide +kernel) rfl hk
set_option maxRecDepth 20000 in
theorem kX12_keepMark_51 {C : QC} {x : QP} {M : QM} {st : List CV} {L : QL} {l0 l1 : Option CV} {z : Int} : Rr C mX12_keepMark (51, [l0, some (qi z)], st, M) x = Rr C mX12_keepMark (52, [l0, some (qi z)], qi z :: st, M) x := g_pl (show decode cX12_keepMark 51 = .ok (.iload_n 1, 1) by decide +kernel) rfl
set_option maxRecDepth 20000 in
theorem kX12_keepMark_52 {C : QC} {x : QP} {M : QM} {st : List CV} {L : QL} {a : Nat} {j v : Int} (hk : (q_kd M a).1 = 2) (h0 : 0 ≤ j) (h1 : j < ((q_kd M a).2 : Int)) : Rr C mX12_keepMark (52, L, qi v :: qi j :: qr a :: st, M) x = Rr C mX12_keepMark (53, L, st, q_wr M a j.toNat (qi v)) x := g_iast (show decode cX12_keepMark 52 = .ok (.iastore, 1) by decide +kernel) hk h0 h1
set_option maxRecDepth 20000 in
theorem kX12_keepMark_53 {C : QC} {x : QP} {M : QM} {st : List CV} {L : QL} {l0 l1 : Option CV} {r : Option Nat} : Rr C mX12_keepMark (53, [some (.inr (.inr r)), l1], st, M) x = Rr C mX12_keepMark (54, [some (.inr (.inr r)), l1], .inr (.inr r) :: st, M) x := g_pl (show decode cX12_keepMark 53 = .ok (.aload_n 0, 1) by decide +kernel) rfl
set_option maxRecDepth 20000 in
theorem kX12_keepMark_54i {C : QC} {x : QP} {M : QM} {st : List CV} {L : QL} {a : Int} : Rr C mX12_keepMark (54, L, qi a :: st, M) x = Rr C mX12_keepMark (55, L, qi a :: qi a :: st, M) x := g_pl (show decode cX12_keepMark 54 = .ok (.dup, 1) by decide +kernel) rfl
set_option maxRecDepth 20000 in
theorem kX12_keepMark_54r {C : QC} {x : QP} {M : QM} {st : List CV} {L : QL} {a : Option Nat} : Rr C mX12_keepMark (54, L, .inr (.inr a) :: st, M) x = Rr C mX12_keepMark (55, L, .inr (.inr a) :: .inr (.inr a) :: st, M) x := g_pl (show decode cX12_keepMark 54 = .ok (.dup, 1) by decide +kernel) rfl
set_option maxRecDepth 20000 in
theorem kX12_keepMark_55 {C : QC} {x : QP} {M : QM} {st : List CV} {L : QL} {a : Nat} (hk : q_kd M a = (1, 12)) : Rr C mX12_keepMark (55, L, qr a :: st, M) x = Rr C mX12_keepMark (58, L, q_fv M a 10 :: st, M) x := g_getf (ow := 12) (e := (12, 10, RX12, 389, 0)) (show decode cX12_keepMark 55 = .ok (.getfield 69, 3) by decide +kernel) rfl hk
set_option maxRecDepth 20000 in
theorem kX12_keepMark_58 {C : QC} {x : QP} {M : QM} {st : List CV} {L : QL} : Rr C mX12_keepMark (58, L, st, M) x = Rr C mX12_keepMark (59, L, qi 1 :: st, M) x := g_pl (show decode cX12_keepMark 58 = .ok (.iconst 1, 1) by decide +kernel) rfl
set_option maxRecDepth 20000 in
theorem kX12_keepMark_59 {C : QC} {x : QP} {M : QM} {st : List CV} {L : QL} {a b : Int} : Rr C mX12_keepMark (59, L, qi b :: qi a :: st, M) x = Rr C mX12_keepMark (60, L, qi (a + b) :: st, M) x := g_pl (show decode cX12_keepMark 59 = .ok (.iadd, 1) by decide +kernel) rfl
set_option maxRecDepth 20000 in
theorem kX12_keepMark_60 {C : QC} {x : QP} {M : QM} {st : List CV} {L : QL} {z : Int} {a : Nat} (hk : q_kd M a = (1, 12)) : Rr C mX12_keepMark (60, L, qi z :: qr a :: st, M) x = Rr C mX12_keepMark (63, L, st, q_wr M a 10 (qi z)) x := g_putf (ow := 12) (ini := false) (e := (12, 10, RX12, 389, 0)) (r := (RX12, TX12, 14)) (t := tyX12) (show decode cX12_keepMark 60 = .ok (.putfield 69, 3) by decide +kernel) rfl rfl rfl rfl (by decide +kernel) hk
set_option maxRecDepth 20000 in
theorem kX12_keepMark_63 {C : QC} {x : QP} {M : QM} {st : List CV} {L : QL} : Rr C mX12_keepMark (63, L, [], M) x = x none M := g_vret (show decode cX12_keepMark 63 = .ok (.return_, 1) by decide +kernel)
set_option maxRecDepth 20000 in
theorem eX12_keepMark {d : Nat} {M : QM} {x : QP} {a : Nat} {v0 : Int} : q_T (d + 1) iX12_keepMark [qr a, qi v0] M x = Rr (q_C d) mX12_keepMark (0, [some (qr a), some (qi v0)], [], M) x := g_entryT (e := _) rfl (Nat.le_of_ble_eq_true rfl) rfl rfl
def mX12_cutJournal : QI := (12, cX12_cutJournal, false, none)
set_option maxRecDepth 20000 in
theorem kX12_cutJournal_0 {C : QC} {x : QP} {M : QM} {st : List CV} {L : QL} {l0 l1 l2 : Option CV} {r : Option Nat} : Rr C mX12_cutJournal (0, [some (.inr (.inr r)), l1, l2], st, M) x = Rr C mX12_cutJournal (1, [some (.inr (.inr r)), l1, l2], .inr (.inr r) :: st, M) x := g_pl (show decode cX12_cutJournal 0 = .ok (.aload_n 0, 1) by decide +kernel) rfl
set_option maxRecDepth 20000 in
theorem kX12_cutJournal_1 {C : QC} {x : QP} {M : QM} {st : List CV} {L : QL} {a : Nat} (hk : q_kd M a = (1, 12)) : Rr C mX12_cutJournal (1, L, qr a :: st, M) x = Rr C mX12_cutJournal (4, L, q_fv M a 6 :: st, M) x := g_getf (ow := 12) (e := (12, 6, RX12, 385, 0)) (show decode cX12_cutJournal 1 = .ok (.getfield 54, 3) by decide +kernel) rfl hk
set_option maxRecDepth 20000 in
theorem kX12_cutJournal_4 {C : QC} {x : QP} {M : QM} {L : QL} {rest : List CV} {v : CV} {M1 : QM} {b : Nat} (hb : q_kd M b = (1, 15)) (hC : C iJx4a65c_size_8abf5 [qr b] M (some v) M1) (hw : (rest.map q_wd).sum ≤ 8) (k : Rr C mX12_cutJournal (7, L, v :: rest, M1) x) : Rr C mX12_cutJournal (4, L, qr b :: rest, M) x := g_cv (ow := 12) (e := (0, 43, 15, [558, 559, 560, 82])) (as := []) (show decode cX12_cutJournal 4 = .ok (.invokevirtual 117, 3) by decide +kernel) rfl rfl rfl (Or.inl rfl) rfl hb hC hw k
set_option maxRecDepth 20000 in
theorem kX12_cutJournal_7 {C : QC} {x : QP} {M : QM} {st : List CV} {L : QL} : Rr C mX12_cutJournal (7, L, st, M) x = Rr C mX12_cutJournal (8, L, qi 1 :: st, M) x := g_pl (show decode cX12_cutJournal 7 = .ok (.iconst 1, 1) by decide +kernel) rfl
set_option maxRecDepth 20000 in
theorem kX12_cutJournal_8 {C : QC} {x : QP} {M : QM} {st : List CV} {L : QL} {a b : Int} : Rr C mX12_cutJournal (8, L, qi b :: qi a :: st, M) x = Rr C mX12_cutJournal (9, L, qi (a - b) :: st, M) x := g_pl (show decode cX12_cutJournal 8 = .ok (.isub, 1) by decide +kernel) rfl
set_option maxRecDepth 20000 in
theorem kX12_cutJournal_9 {C : QC} {x : QP} {M : QM} {st : List CV} {L : QL} {l0 l1 l2 : Option CV} {z : Int} : Rr C mX12_cutJournal (9, [l0, l1, l2], qi z :: st, M) x = Rr C mX12_cutJournal (10, [l0, q_cut l1, some (qi z)], st, M) x := g_pl (show decode cX12_cutJournal 9 = .ok (.istore_n 2, 1) by decide +kernel) rfl
set_option maxRecDepth 20000 in
theorem kX12_cutJournal_10 {C : QC} {x : QP} {M : QM} {st : List CV} {L : QL} {l0 l1 l2 : Option CV} {z : Int} : Rr C mX12_cutJournal (10, [l0, l1, some (qi z)], st, M) x = Rr C mX12_cutJournal (11, [l0, l1, some (qi z)], qi z :: st, M) x := g_pl (show decode cX12_cutJournal 10 = .ok (.iload_n 2, 1) by decide +kernel) rfl
set_option maxRecDepth 20000 in
theorem kX12_cutJournal_11 {C : QC} {x : QP} {M : QM} {st : List CV} {L : QL} {l0 l1 l2 : Option CV} {z : Int} : Rr C mX12_cutJournal (11, [l0, some (qi z), l2], st, M) x = Rr C mX12_cutJournal (12, [l0, some (qi z), l2], qi z :: st, M) x := g_pl (show decode cX12_cutJournal 11 = .ok (.iload_n 1, 1) by decide +kernel) rfl
set_option maxRecDepth 20000 in
theorem kX12_cutJournal_12 {C : QC} {x : QP} {M : QM} {st : List CV} {L : QL} {a b : Int} (ha1 : -2147483648 ≤ a) (ha2 : a < 2147483648) (hb1 : -2147483648 ≤ b) (hb2 : b < 2147483648) : Rr C mX12_cutJournal (12, L, qi b :: qi a :: st, M) x = (if a < b then Rr C mX12_cutJournal (34, L, st, M) x else Rr C mX12_cutJournal (15, L, st, M) x) := (g_icmp (show decode cX12_cutJournal 12 = .ok (.if_icmp .lt 22, 3) by decide +kernel) rfl ha1 ha2 hb1 hb2).trans (g_ite c_lt)
set_option maxRecDepth 20000 in
theorem kX12_cutJournal_15 {C : QC} {x : QP} {M : QM} {st : List CV} {L : QL} {l0 l1 l2 : Option CV} {z : Int} : Rr C mX12_cutJournal (15, [l0, l1, some (qi z)], st, M) x = Rr C mX12_cutJournal (16, [l0, l1, some (qi z)], qi z :: st, M) x := g_pl (show decode cX12_cutJournal 15 = .ok (.iload_n 2, 1) by decide +kernel) rfl
set_option maxRecDepth 20000 in
theorem kX12_cutJournal_16 {C : QC} {x : QP} {M : QM} {st : List CV} {L : QL} {a : Int} (ha1 : -2147483648 ≤ a) (ha2 : a < 2147483648) : Rr C mX12_cutJournal (16, L, qi a :: st, M) x = (if a < 0 then Rr C mX12_cutJournal (34, L, st, M) x else Rr C mX12_cutJournal (19, L, st, M) x) := (g_if (show decode cX12_cutJournal 16 = .ok (.ifCond .lt 18, 3) by decide +kernel) rfl ha1 ha2).trans (g_ite c_lt)
set_option maxRecDepth 20000 in
theorem kX12_cutJournal_19 {C : QC} {x : QP} {M : QM} {st : List CV} {L : QL} {l0 l1 l2 : Option CV} {r : Option Nat} : Rr C mX12_cutJournal (19, [some (.inr (.inr r)), l1, l2], st, M) x = Rr C mX12_cutJournal (20, [some (.inr (.inr r)), l1, l2], .inr (.inr r) :: st, M) x := g_pl (show decode cX12_cutJournal 19 = .ok (.aload_n 0, 1) by decide +kernel) rfl
set_option maxRecDepth 20000 in
theorem kX12_cutJournal_20 {C : QC} {x : QP} {M : QM} {st : List CV} {L : QL} {a : Nat} (hk : q_kd M a = (1, 12)) : Rr C mX12_cutJournal (20, L, qr a :: st, M) x = Rr C mX12_cutJournal (23, L, q_fv M a 6 :: st, M) x := g_getf (ow := 12) (e := (12, 6, RX12, 385, 0)) (show decode cX12_cutJournal 20 = .ok (.getfield 54, 3) by decide +kernel) rfl hk
set_option maxRecDepth 20000 in
theorem kX12_cutJournal_23 {C : QC} {x : QP} {M : QM} {st : List CV} {L : QL} {l0 l1 l2 : Option CV} {z : Int} : Rr C mX12_cutJournal (23, [l0, l1, some (qi z)], st, M) x = Rr C mX12_cutJournal (24, [l0, l1, some (qi z)], qi z :: st, M) x := g_pl (show decode cX12_cutJournal 23 = .ok (.iload_n 2, 1) by decide +kernel) rfl
set_option maxRecDepth 20000 in
theorem kX12_cutJournal_24 {C : QC} {x : QP} {M : QM} {L : QL} {rest : List CV} {a0 : CV} {v : CV} {M1 : QM} {b : Nat} (hb : q_kd M b = (1, 15)) (hC : C iJx4a65c_remove_915e3 [qr b, a0] M (some v) M1) (hw : (rest.map q_wd).sum ≤ 8) (k : Rr C mX12_cutJournal (27, L, v :: rest, M1) x) : Rr C mX12_cutJournal (24, L, a0 :: qr b :: rest, M) x := g_cv (ow := 12) (e := (0, 102, 15, [837, 838, 839, 82])) (as := [a0]) (show decode cX12_cutJournal 24 = .ok (.invokevirtual 330, 3) by decide +kernel) rfl rfl rfl (Or.inl rfl) rfl hb hC hw k
set_option maxRecDepth 20000 in
theorem kX12_cutJournal_27i {C : QC} {x : QP} {M : QM} {st : List CV} {L : QL} {a : Int} : Rr C mX12_cutJournal (27, L, qi a :: st, M) x = Rr C mX12_cutJournal (28, L, st, M) x := g_pl (show decode cX12_cutJournal 27 = .ok (.pop, 1) by decide +kernel) rfl
set_option maxRecDepth 20000 in
theorem kX12_cutJournal_27r {C : QC} {x : QP} {M : QM} {st : List CV} {L : QL} {a : Option Nat} : Rr C mX12_cutJournal (27, L, .inr (.inr a) :: st, M) x = Rr C mX12_cutJournal (28, L, st, M) x := g_pl (show decode cX12_cutJournal 27 = .ok (.pop, 1) by decide +kernel) rfl
set_option maxRecDepth 20000 in
theorem kX12_cutJournal_28 {C : QC} {x : QP} {M : QM} {st : List CV} {L : QL} {l0 l1 l2 : Option CV} {z : Int} : Rr C mX12_cutJournal (28, [l0, l1, some (qi z)], st, M) x = Rr C mX12_cutJournal (31, [l0, q_cut l1, some (qi (z + (-1)))], st, M) x := g_pl (show decode cX12_cutJournal 28 = .ok (.iinc 2 (-1), 3) by decide +kernel) rfl
set_option maxRecDepth 20000 in
theorem kX12_cutJournal_31 {C : QC} {x : QP} {M : QM} {st : List CV} {L : QL} : Rr C mX12_cutJournal (31, L, st, M) x = Rr C mX12_cutJournal (10, L, st, M) x := g_pl (show decode cX12_cutJournal 31 = .ok (.goto (-21), 3) by decide +kernel) rfl
set_option maxRecDepth 20000 in
theorem kX12_cutJournal_34 {C : QC} {x : QP} {M : QM} {st : List CV} {L : QL} : Rr C mX12_cutJournal (34, L, [], M) x = x none M := g_vret (show decode cX12_cutJournal 34 = .ok (.return_, 1) by decide +kernel)
set_option maxRecDepth 20000 in
theorem eX12_cutJournal {d : Nat} {M : QM} {x : QP} {a : Nat} {v0 : Int} : q_T (d + 1) iX12_cutJournal [qr a, qi v0] M x = Rr (q_C d) mX12_cutJournal (0, [some (qr a), some (qi v0), none], [], M) x := g_entryT (e := _) rfl (Nat.le_of_ble_eq_true rfl) rfl rfl
def mX12_tellAgain : QI := (12, cX12_tellAgain, false, none)
set_option maxRecDepth 20000 in
theorem kX12_tellAgain_0 {C : QC} {x : QP} {M : QM} {st : List CV} {L : QL} {l0 l1 : Option CV} {r : Option Nat} : Rr C mX12_tellAgain (0, [some (.inr (.inr r)), l1], st, M) x = Rr C mX12_tellAgain (1, [some (.inr (.inr r)), l1], .inr (.inr r) :: st, M) x := g_pl (show decode cX12_tellAgain 0 = .ok (.aload_n 0, 1) by decide +kernel) rfl
set_option maxRecDepth 20000 in
theorem kX12_tellAgain_1 {C : QC} {x : QP} {M : QM} {st : List CV} {L : QL} {a : Nat} (hk : q_kd M a = (1, 12)) : Rr C mX12_tellAgain (1, L, qr a :: st, M) x = Rr C mX12_tellAgain (4, L, q_fv M a 2 :: st, M) x := g_getf (ow := 12) (e := (12, 2, RX12, 381, 0)) (show decode cX12_tellAgain 1 = .ok (.getfield 26, 3) by decide +kernel) rfl hk
set_option maxRecDepth 20000 in
theorem kX12_tellAgain_4 {C : QC} {x : QP} {M : QM} {L : QL} {rest : List CV} {M1 : QM} {b : Nat} (hb : q_kd M b = (1, 11)) (hC : C iX11_clear [qr b] M none M1) (hw : (rest.map q_wd).sum ≤ 8) (k : Rr C mX12_tellAgain (7, L, rest, M1) x) : Rr C mX12_tellAgain (4, L, qr b :: rest, M) x := g_cv (ow := 12) (e := (0, 105, 11, [850, 851, 852, 83])) (as := []) (show decode cX12_tellAgain 4 = .ok (.invokevirtual 334, 3) by decide +kernel) rfl rfl rfl (Or.inl rfl) rfl hb hC hw k
set_option maxRecDepth 20000 in
theorem kX12_tellAgain_7 {C : QC} {x : QP} {M : QM} {st : List CV} {L : QL} : Rr C mX12_tellAgain (7, L, st, M) x = Rr C mX12_tellAgain (8, L, qi 0 :: st, M) x := g_pl (show decode cX12_tellAgain 7 = .ok (.iconst 0, 1) by decide +kernel) rfl
set_option maxRecDepth 20000 in
theorem kX12_tellAgain_8 {C : QC} {x : QP} {M : QM} {st : List CV} {L : QL} {l0 l1 : Option CV} {z : Int} : Rr C mX12_tellAgain (8, [l0, l1], qi z :: st, M) x = Rr C mX12_tellAgain (9, [q_cut l0, some (qi z)], st, M) x := g_pl (show decode cX12_tellAgain 8 = .ok (.istore_n 1, 1) by decide +kernel) rfl
set_option maxRecDepth 20000 in
theorem kX12_tellAgain_9 {C : QC} {x : QP} {M : QM} {st : List CV} {L : QL} {l0 l1 : Option CV} {z : Int} : Rr C mX12_tellAgain (9, [l0, some (qi z)], st, M) x = Rr C mX12_tellAgain (10, [l0, some (qi z)], qi z :: st, M) x := g_pl (show decode cX12_tellAgain 9 = .ok (.iload_n 1, 1) by decide +kernel) rfl
set_option maxRecDepth 20000 in
theorem kX12_tellAgain_10 {C : QC} {x : QP} {M : QM} {st : List CV} {L : QL} {l0 l1 : Option CV} {r : Option Nat} : Rr C mX12_tellAgain (10, [some (.inr (.inr r)), l1], st, M) x = Rr C mX12_tellAgain (11, [some (.inr (.inr r)), l1], .inr (.inr r) :: st, M) x := g_pl (show decode cX12_tellAgain 10 = .ok (.aload_n 0, 1) by decide +kernel) rfl
set_option maxRecDepth 20000 in
theorem kX12_tellAgain_11 {C : QC} {x : QP} {M : QM} {st : List CV} {L : QL} {a : Nat} (hk : q_kd M a = (1, 12)) : Rr C mX12_tellAgain (11, L, qr a :: st, M) x = Rr C mX12_tellAgain (14, L, q_fv M a 6 :: st, M) x := g_getf (ow := 12) (e := (12, 6, RX12, 385, 0)) (show decode cX12_tellAgain 11 = .ok (.getfield 54, 3) by decide +kernel) rfl hk
set_option maxRecDepth 20000 in
theorem kX12_tellAgain_14 {C : QC} {x : QP} {M : QM} {L : QL} {rest : List CV} {v : CV} {M1 : QM} {b : Nat} (hb : q_kd M b = (1, 15)) (hC : C iJx4a65c_size_8abf5 [qr b] M (some v) M1) (hw : (rest.map q_wd).sum ≤ 8) (k : Rr C mX12_tellAgain (17, L, v :: rest, M1) x) : Rr C mX12_tellAgain (14, L, qr b :: rest, M) x := g_cv (ow := 12) (e := (0, 43, 15, [558, 559, 560, 82])) (as := []) (show decode cX12_tellAgain 14 = .ok (.invokevirtual 117, 3) by decide +kernel) rfl rfl rfl (Or.inl rfl) rfl hb hC hw k
set_option maxRecDepth 20000 in
theorem kX12_tellAgain_17 {C : QC} {x : QP} {M : QM} {st : List CV} {L : QL} {a b : Int} (ha1 : -2147483648 ≤ a) (ha2 : a < 2147483648) (hb1 : -2147483648 ≤ b) (hb2 : b < 2147483648) : Rr C mX12_tellAgain (17, L, qi b :: qi a :: st, M) x = (if a < b then Rr C mX12_tellAgain (20, L, st, M) x else Rr C mX12_tellAgain (45, L, st, M) x) := (g_icmp (show decode cX12_tellAgain 17 = .ok (.if_icmp .ge 28, 3) by decide +kernel) rfl ha1 ha2 hb1 hb2).trans (g_itn c_ge)
set_option maxRecDepth 20000 in
theorem kX12_tellAgain_20 {C : QC} {x : QP} {M : QM} {st : List CV} {L : QL} {l0 l1 : Option CV} {r : Option Nat} : Rr C mX12_tellAgain (20, [some (.inr (.inr r)), l1], st, M) x = Rr C mX12_tellAgain (21, [some (.inr (.inr r)), l1], .inr (.inr r) :: st, M) x := g_pl (show decode cX12_tellAgain 20 = .ok (.aload_n 0, 1) by decide +kernel) rfl
set_option maxRecDepth 20000 in
theorem kX12_tellAgain_21 {C : QC} {x : QP} {M : QM} {st : List CV} {L : QL} {a : Nat} (hk : q_kd M a = (1, 12)) : Rr C mX12_tellAgain (21, L, qr a :: st, M) x = Rr C mX12_tellAgain (24, L, q_fv M a 2 :: st, M) x := g_getf (ow := 12) (e := (12, 2, RX12, 381, 0)) (show decode cX12_tellAgain 21 = .ok (.getfield 26, 3) by decide +kernel) rfl hk
set_option maxRecDepth 20000 in
theorem kX12_tellAgain_24 {C : QC} {x : QP} {M : QM} {st : List CV} {L : QL} {l0 l1 : Option CV} {r : Option Nat} : Rr C mX12_tellAgain (24, [some (.inr (.inr r)), l1], st, M) x = Rr C mX12_tellAgain (25, [some (.inr (.inr r)), l1], .inr (.inr r) :: st, M) x := g_pl (show decode cX12_tellAgain 24 = .ok (.aload_n 0, 1) by decide +kernel) rfl
set_option maxRecDepth 20000 in
theorem kX12_tellAgain_25 {C : QC} {x : QP} {M : QM} {st : List CV} {L : QL} {a : Nat} (hk : q_kd M a = (1, 12)) : Rr C mX12_tellAgain (25, L, qr a :: st, M) x = Rr C mX12_tellAgain (28, L, q_fv M a 6 :: st, M) x := g_getf (ow := 12) (e := (12, 6, RX12, 385, 0)) (show decode cX12_tellAgain 25 = .ok (.getfield 54, 3) by decide +kernel) rfl hk
set_option maxRecDepth 20000 in
theorem kX12_tellAgain_28 {C : QC} {x : QP} {M : QM} {st : List CV} {L : QL} {l0 l1 : Option CV} {z : Int} : Rr C mX12_tellAgain (28, [l0, some (qi z)], st, M) x = Rr C mX12_tellAgain (29, [l0, some (qi z)], qi z :: st, M) x := g_pl (show decode cX12_tellAgain 28 = .ok (.iload_n 1, 1) by decide +kernel) rfl
set_option maxRecDepth 20000 in
theorem kX12_tellAgain_29 {C : QC} {x : QP} {M : QM} {L : QL} {rest : List CV} {a0 : CV} {v : CV} {M1 : QM} {b : Nat} (hb : q_kd M b = (1, 15)) (hC : C iJx4a65c_get_915e3 [qr b, a0] M (some v) M1) (hw : (rest.map q_wd).sum ≤ 8) (k : Rr C mX12_tellAgain (32, L, v :: rest, M1) x) : Rr C mX12_tellAgain (29, L, a0 :: qr b :: rest, M) x := g_cv (ow := 12) (e := (0, 97, 15, [858, 820, 821, 82])) (as := [a0]) (show decode cX12_tellAgain 29 = .ok (.invokevirtual 335, 3) by decide +kernel) rfl rfl rfl (Or.inl rfl) rfl hb hC hw k
set_option maxRecDepth 20000 in
theorem kX12_tellAgain_32n {C : QC} {x : QP} {M : QM} {st : List CV} {L : QL} : Rr C mX12_tellAgain (32, L, qn :: st, M) x = Rr C mX12_tellAgain (35, L, qn :: st, M) x := g_castN (show decode cX12_tellAgain 32 = .ok (.checkcast 98, 3) by decide +kernel)
set_option maxRecDepth 20000 in
theorem kX12_tellAgain_32r {C : QC} {x : QP} {M : QM} {st : List CV} {L : QL} {a : Nat} (hk : q_kd M a = (1, 3)) : Rr C mX12_tellAgain (32, L, qr a :: st, M) x = Rr C mX12_tellAgain (35, L, qr a :: st, M) x := g_cast (ow := 12) (e := (3, 451, 452, 96)) (show decode cX12_tellAgain 32 = .ok (.checkcast 98, 3) by decide +kernel) rfl hk
set_option maxRecDepth 20000 in
theorem kX12_tellAgain_35 {C : QC} {x : QP} {M : QM} {L : QL} {rest : List CV} {a0 : CV} {v : CV} {M1 : QM} {b : Nat} (hb : q_kd M b = (1, 11)) (hC : C iX11_carryOut [qr b, a0] M (some v) M1) (hw : (rest.map q_wd).sum ≤ 8) (k : Rr C mX12_tellAgain (38, L, v :: rest, M1) x) : Rr C mX12_tellAgain (35, L, a0 :: qr b :: rest, M) x := g_cv (ow := 12) (e := (0, 53, 11, [624, 625, 626, 83])) (as := [a0]) (show decode cX12_tellAgain 35 = .ok (.invokevirtual 138, 3) by decide +kernel) rfl rfl rfl (Or.inl rfl) rfl hb hC hw k
set_option maxRecDepth 20000 in
theorem kX12_tellAgain_38i {C : QC} {x : QP} {M : QM} {st : List CV} {L : QL} {a : Int} : Rr C mX12_tellAgain (38, L, qi a :: st, M) x = Rr C mX12_tellAgain (39, L, st, M) x := g_pl (show decode cX12_tellAgain 38 = .ok (.pop, 1) by decide +kernel) rfl
set_option maxRecDepth 20000 in
theorem kX12_tellAgain_38r {C : QC} {x : QP} {M : QM} {st : List CV} {L : QL} {a : Option Nat} : Rr C mX12_tellAgain (38, L, .inr (.inr a) :: st, M) x = Rr C mX12_tellAgain (39, L, st, M) x := g_pl (show decode cX12_tellAgain 38 = .ok (.pop, 1) by decide +kernel) rfl
set_option maxRecDepth 20000 in
theorem kX12_tellAgain_39 {C : QC} {x : QP} {M : QM} {st : List CV} {L : QL} {l0 l1 : Option CV} {z : Int} : Rr C mX12_tellAgain (39, [l0, some (qi z)], st, M) x = Rr C mX12_tellAgain (42, [q_cut l0, some (qi (z + 1))], st, M) x := g_pl (show decode cX12_tellAgain 39 = .ok (.iinc 1 1, 3) by decide +kernel) rfl
set_option maxRecDepth 20000 in
theorem kX12_tellAgain_42 {C : QC} {x : QP} {M : QM} {st : List CV} {L : QL} : Rr C mX12_tellAgain (42, L, st, M) x = Rr C mX12_tellAgain (9, L, st, M) x := g_pl (show decode cX12_tellAgain 42 = .ok (.goto (-33), 3) by decide +kernel) rfl
set_option maxRecDepth 20000 in
theorem kX12_tellAgain_45 {C : QC} {x : QP} {M : QM} {st : List CV} {L : QL} : Rr C mX12_tellAgain (45, L, [], M) x = x none M := g_vret (show decode cX12_tellAgain 45 = .ok (.return_, 1) by decide +kernel)
set_option maxRecDepth 20000 in
theorem eX12_tellAgain {d : Nat} {M : QM} {x : QP} {a : Nat} : q_T (d + 1) iX12_tellAgain [qr a] M x = Rr (q_C d) mX12_tellAgain (0, [some (qr a), none], [], M) x := g_entryT (e := _) rfl (Nat.le_of_ble_eq_true rfl) rfl rfl
def mX12_copyOrders : QI := (12, cX12_copyOrders, false, none)
set_option maxRecDepth 20000 in
theorem kX12_copyOrders_0 {C : QC} {x : QP} {M : QM} {st : List CV} {L : QL} {l0 l1 l2 : Option CV} {r : Option Nat} : Rr C mX12_copyOrders (0, [l0, some (.inr (.inr r)), l2], st, M) x = Rr C mX12_copyOrders (1, [l0, some (.inr (.inr r)), l2], .inr (.inr r) :: st, M) x := g_pl (show decode cX12_copyOrders 0 = .ok (.aload_n 1, 1) by decide +kernel) rfl
set_option maxRecDepth 20000 in
theorem kX12_copyOrders_1 {C : QC} {x : QP} {M : QM} {L : QL} {rest : List CV} {M1 : QM} {b : Nat} (hb : q_kd M b = (1, 15)) (hC : C iJx4a65c_clear_da8c8 [qr b] M none M1) (hw : (rest.map q_wd).sum ≤ 8) (k : Rr C mX12_copyOrders (4, L, rest, M1) x) : Rr C mX12_copyOrders (1, L, qr b :: rest, M) x := g_cv (ow := 12) (e := (0, 86, 15, [1285, 770, 771, 82])) (as := []) (show decode cX12_copyOrders 1 = .ok (.invokevirtual 338, 3) by decide +kernel) rfl rfl rfl (Or.inl rfl) rfl hb hC hw k
set_option maxRecDepth 20000 in
theorem kX12_copyOrders_4 {C : QC} {x : QP} {M : QM} {st : List CV} {L : QL} : Rr C mX12_copyOrders (4, L, st, M) x = Rr C mX12_copyOrders (5, L, qi 0 :: st, M) x := g_pl (show decode cX12_copyOrders 4 = .ok (.iconst 0, 1) by decide +kernel) rfl
set_option maxRecDepth 20000 in
theorem kX12_copyOrders_5 {C : QC} {x : QP} {M : QM} {st : List CV} {L : QL} {l0 l1 l2 : Option CV} {z : Int} : Rr C mX12_copyOrders (5, [l0, l1, l2], qi z :: st, M) x = Rr C mX12_copyOrders (6, [l0, q_cut l1, some (qi z)], st, M) x := g_pl (show decode cX12_copyOrders 5 = .ok (.istore_n 2, 1) by decide +kernel) rfl
set_option maxRecDepth 20000 in
theorem kX12_copyOrders_6 {C : QC} {x : QP} {M : QM} {st : List CV} {L : QL} {l0 l1 l2 : Option CV} {z : Int} : Rr C mX12_copyOrders (6, [l0, l1, some (qi z)], st, M) x = Rr C mX12_copyOrders (7, [l0, l1, some (qi z)], qi z :: st, M) x := g_pl (show decode cX12_copyOrders 6 = .ok (.iload_n 2, 1) by decide +kernel) rfl
set_option maxRecDepth 20000 in
theorem kX12_copyOrders_7 {C : QC} {x : QP} {M : QM} {st : List CV} {L : QL} {l0 l1 l2 : Option CV} {r : Option Nat} : Rr C mX12_copyOrders (7, [some (.inr (.inr r)), l1, l2], st, M) x = Rr C mX12_copyOrders (8, [some (.inr (.inr r)), l1, l2], .inr (.inr r) :: st, M) x := g_pl (show decode cX12_copyOrders 7 = .ok (.aload_n 0, 1) by decide +kernel) rfl
set_option maxRecDepth 20000 in
theorem kX12_copyOrders_8 {C : QC} {x : QP} {M : QM} {L : QL} {rest : List CV} {v : CV} {M1 : QM} {b : Nat} (hb : q_kd M b = (1, 15)) (hC : C iJx4a65c_size_8abf5 [qr b] M (some v) M1) (hw : (rest.map q_wd).sum ≤ 8) (k : Rr C mX12_copyOrders (11, L, v :: rest, M1) x) : Rr C mX12_copyOrders (8, L, qr b :: rest, M) x := g_cv (ow := 12) (e := (0, 43, 15, [558, 559, 560, 82])) (as := []) (show decode cX12_copyOrders 8 = .ok (.invokevirtual 117, 3) by decide +kernel) rfl rfl rfl (Or.inl rfl) rfl hb hC hw k
set_option maxRecDepth 20000 in
theorem kX12_copyOrders_11 {C : QC} {x : QP} {M : QM} {st : List CV} {L : QL} {a b : Int} (ha1 : -2147483648 ≤ a) (ha2 : a < 2147483648) (hb1 : -2147483648 ≤ b) (hb2 : b < 2147483648) : Rr C mX12_copyOrders (11, L, qi b :: qi a :: st, M) x = (if a < b then Rr C mX12_copyOrders (14, L, st, M) x else Rr C mX12_copyOrders (33, L, st, M) x) := (g_icmp (show decode cX12_copyOrders 11 = .ok (.if_icmp .ge 22, 3) by decide +kernel) rfl ha1 ha2 hb1 hb2).trans (g_itn c_ge)
set_option maxRecDepth 20000 in
theorem kX12_copyOrders_14 {C : QC} {x : QP} {M : QM} {st : List CV} {L : QL} {l0 l1 l2 : Option CV} {r : Option Nat} : Rr C mX12_copyOrders (14, [l0, some (.inr (.inr r)), l2], st, M) x = Rr C mX12_copyOrders (15, [l0, some (.inr (.inr r)), l2], .inr (.inr r) :: st, M) x := g_pl (show decode cX12_copyOrders 14 = .ok (.aload_n 1, 1) by decide +kernel) rfl
set_option maxRecDepth 20000 in
theorem kX12_copyOrders_15 {C : QC} {x : QP} {M : QM} {st : List CV} {L : QL} {l0 l1 l2 : Option CV} {r : Option Nat} : Rr C mX12_copyOrders (15, [some (.inr (.inr r)), l1, l2], st, M) x = Rr C mX12_copyOrders (16, [some (.inr (.inr r)), l1, l2], .inr (.inr r) :: st, M) x := g_pl (show decode cX12_copyOrders 15 = .ok (.aload_n 0, 1) by decide +kernel) rfl
set_option maxRecDepth 20000 in
theorem kX12_copyOrders_16 {C : QC} {x : QP} {M : QM} {st : List CV} {L : QL} {l0 l1 l2 : Option CV} {z : Int} : Rr C mX12_copyOrders (16, [l0, l1, some (qi z)], st, M) x = Rr C mX12_copyOrders (17, [l0, l1, some (qi z)], qi z :: st, M) x := g_pl (show decode cX12_copyOrders 16 = .ok (.iload_n 2, 1) by decide +kernel) rfl
set_option maxRecDepth 20000 in
theorem kX12_copyOrders_17 {C : QC} {x : QP} {M : QM} {L : QL} {rest : List CV} {a0 : CV} {v : CV} {M1 : QM} {b : Nat} (hb : q_kd M b = (1, 15)) (hC : C iJx4a65c_get_915e3 [qr b, a0] M (some v) M1) (hw : (rest.map q_wd).sum ≤ 8) (k : Rr C mX12_copyOrders (20, L, v :: rest, M1) x) : Rr C mX12_copyOrders (17, L, a0 :: qr b :: rest, M) x := g_cv (ow := 12) (e := (0, 97, 15, [858, 820, 821, 82])) (as := [a0]) (show decode cX12_copyOrders 17 = .ok (.invokevirtual 335, 3) by decide +kernel) rfl rfl rfl (Or.inl rfl) rfl hb hC hw k
set_option maxRecDepth 20000 in
theorem kX12_copyOrders_20n {C : QC} {x : QP} {M : QM} {st : List CV} {L : QL} : Rr C mX12_copyOrders (20, L, qn :: st, M) x = Rr C mX12_copyOrders (23, L, qn :: st, M) x := g_castN (show decode cX12_copyOrders 20 = .ok (.checkcast 98, 3) by decide +kernel)
set_option maxRecDepth 20000 in
theorem kX12_copyOrders_20r {C : QC} {x : QP} {M : QM} {st : List CV} {L : QL} {a : Nat} (hk : q_kd M a = (1, 3)) : Rr C mX12_copyOrders (20, L, qr a :: st, M) x = Rr C mX12_copyOrders (23, L, qr a :: st, M) x := g_cast (ow := 12) (e := (3, 451, 452, 96)) (show decode cX12_copyOrders 20 = .ok (.checkcast 98, 3) by decide +kernel) rfl hk
set_option maxRecDepth 20000 in
theorem kX12_copyOrders_23 {C : QC} {x : QP} {M : QM} {L : QL} {rest : List CV} {a0 : CV} {v : CV} {M1 : QM} {b : Nat} (hb : q_kd M b = (1, 15)) (hC : C iJx4a65c_add_9ea2d [qr b, a0] M (some v) M1) (hw : (rest.map q_wd).sum ≤ 8) (k : Rr C mX12_copyOrders (26, L, v :: rest, M1) x) : Rr C mX12_copyOrders (23, L, a0 :: qr b :: rest, M) x := g_cv (ow := 12) (e := (0, 45, 15, [569, 570, 571, 82])) (as := [a0]) (show decode cX12_copyOrders 23 = .ok (.invokevirtual 134, 3) by decide +kernel) rfl rfl rfl (Or.inl rfl) rfl hb hC hw k
set_option maxRecDepth 20000 in
theorem kX12_copyOrders_26i {C : QC} {x : QP} {M : QM} {st : List CV} {L : QL} {a : Int} : Rr C mX12_copyOrders (26, L, qi a :: st, M) x = Rr C mX12_copyOrders (27, L, st, M) x := g_pl (show decode cX12_copyOrders 26 = .ok (.pop, 1) by decide +kernel) rfl
set_option maxRecDepth 20000 in
theorem kX12_copyOrders_26r {C : QC} {x : QP} {M : QM} {st : List CV} {L : QL} {a : Option Nat} : Rr C mX12_copyOrders (26, L, .inr (.inr a) :: st, M) x = Rr C mX12_copyOrders (27, L, st, M) x := g_pl (show decode cX12_copyOrders 26 = .ok (.pop, 1) by decide +kernel) rfl
set_option maxRecDepth 20000 in
theorem kX12_copyOrders_27 {C : QC} {x : QP} {M : QM} {st : List CV} {L : QL} {l0 l1 l2 : Option CV} {z : Int} : Rr C mX12_copyOrders (27, [l0, l1, some (qi z)], st, M) x = Rr C mX12_copyOrders (30, [l0, q_cut l1, some (qi (z + 1))], st, M) x := g_pl (show decode cX12_copyOrders 27 = .ok (.iinc 2 1, 3) by decide +kernel) rfl
set_option maxRecDepth 20000 in
theorem kX12_copyOrders_30 {C : QC} {x : QP} {M : QM} {st : List CV} {L : QL} : Rr C mX12_copyOrders (30, L, st, M) x = Rr C mX12_copyOrders (6, L, st, M) x := g_pl (show decode cX12_copyOrders 30 = .ok (.goto (-24), 3) by decide +kernel) rfl
set_option maxRecDepth 20000 in
theorem kX12_copyOrders_33 {C : QC} {x : QP} {M : QM} {st : List CV} {L : QL} : Rr C mX12_copyOrders (33, L, [], M) x = x none M := g_vret (show decode cX12_copyOrders 33 = .ok (.return_, 1) by decide +kernel)
set_option maxRecDepth 20000 in
theorem eX12_copyOrders {d : Nat} {M : QM} {x : QP} {v0 : Option Nat} {v1 : Option Nat} : q_T (d + 1) iX12_copyOrders [.inr (.inr v0), .inr (.inr v1)] M x = Rr (q_C d) mX12_copyOrders (0, [some (.inr (.inr v0)), some (.inr (.inr v1)), none], [], M) x := g_entryT (e := _) rfl (Nat.le_of_ble_eq_true rfl) rfl rfl
