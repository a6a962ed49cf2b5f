/-! rules, one for each instruction: written by a program out of the code -/
def mL_law : QI := (16, cL_law, false, some .boolean)
set_option maxRecDepth 20000 in
theorem kL_law_0 {C : QC} {x : QP} {M : QM} {st : List CV} {L : QL} : Rr C mL_law (0, L, st, M) x = Rr C mL_law (3, L, qr (q_top M) :: st, q_al M (1, 12) 14 (fun k => q_dv (tyX12 k))) x := g_new (ow := 16) (e := (12, 107, 108, 77)) (r := (RX12, TX12, 14)) (t := tyX12) (show decode cL_law 0 = .ok (.new 7, 3) by decide +kernel) rfl rfl rfl
set_option maxRecDepth 20000 in
theorem kL_law_3i {C : QC} {x : QP} {M : QM} {st : List CV} {L : QL} {a : Int} : Rr C mL_law (3, L, qi a :: st, M) x = Rr C mL_law (4, L, qi a :: qi a :: st, M) x := g_pl (show decode cL_law 3 = .ok (.dup, 1) by decide +kernel) rfl
set_option maxRecDepth 20000 in
theorem kL_law_3r {C : QC} {x : QP} {M : QM} {st : List CV} {L : QL} {a : Option Nat} : Rr C mL_law (3, L, .inr (.inr a) :: st, M) x = Rr C mL_law (4, L, .inr (.inr a) :: .inr (.inr a) :: st, M) x := g_pl (show decode cL_law 3 = .ok (.dup, 1) by decide +kernel) rfl
set_option maxRecDepth 20000 in
theorem kL_law_4 {C : QC} {x : QP} {M : QM} {L : QL} {rest : List CV} {M1 : QM} {b : Nat} (hC : C iX12_init [qr b] M none M1) (hw : (rest.map q_wd).sum ≤ 8) (k : Rr C mL_law (7, L, rest, M1) x) : Rr C mL_law (4, L, qr b :: rest, M) x := g_ci (ow := 16) (e := (3, 0, 0, [109, 110, 77])) (as := []) (show decode cL_law 4 = .ok (.invokespecial 9, 3) by decide +kernel) rfl rfl rfl (Or.inl (Or.inl rfl)) rfl hC hw k
set_option maxRecDepth 20000 in
theorem kL_law_7 {C : QC} {x : QP} {M : QM} {st : List CV} {L : QL} {l0 l1 l2 l3 : Option CV} {z : Option Nat} : Rr C mL_law (7, [l0, l1, l2, l3], .inr (.inr z) :: st, M) x = Rr C mL_law (8, [q_cut l0, some (.inr (.inr z)), l2, l3], st, M) x := g_pl (show decode cL_law 7 = .ok (.astore_n 1, 1) by decide +kernel) rfl
set_option maxRecDepth 20000 in
theorem kL_law_8 {C : QC} {x : QP} {M : QM} {st : List CV} {L : QL} : Rr C mL_law (8, L, st, M) x = Rr C mL_law (11, L, qr (q_top M) :: st, q_al M (1, 13) 17 (fun k => q_dv (tyX13 k))) x := g_new (ow := 16) (e := (13, 1294, 1295, 94)) (r := (RX13, TX13, 17)) (t := tyX13) (show decode cL_law 8 = .ok (.new 10, 3) by decide +kernel) rfl rfl rfl
set_option maxRecDepth 20000 in
theorem kL_law_11i {C : QC} {x : QP} {M : QM} {st : List CV} {L : QL} {a : Int} : Rr C mL_law (11, L, qi a :: st, M) x = Rr C mL_law (12, L, qi a :: qi a :: st, M) x := g_pl (show decode cL_law 11 = .ok (.dup, 1) by decide +kernel) rfl
set_option maxRecDepth 20000 in
theorem kL_law_11r {C : QC} {x : QP} {M : QM} {st : List CV} {L : QL} {a : Option Nat} : Rr C mL_law (11, L, .inr (.inr a) :: st, M) x = Rr C mL_law (12, L, .inr (.inr a) :: .inr (.inr a) :: st, M) x := g_pl (show decode cL_law 11 = .ok (.dup, 1) by decide +kernel) rfl
set_option maxRecDepth 20000 in
theorem kL_law_12 {C : QC} {x : QP} {M : QM} {L : QL} {rest : List CV} {M1 : QM} {b : Nat} (hC : C iX13_init [qr b] M none M1) (hw : (rest.map q_wd).sum ≤ 8) (k : Rr C mL_law (15, L, rest, M1) x) : Rr C mL_law (12, L, qr b :: rest, M) x := g_ci (ow := 16) (e := (3, 196, 0, [1296, 1297, 94])) (as := []) (show decode cL_law 12 = .ok (.invokespecial 12, 3) by decide +kernel) rfl rfl rfl (Or.inl (Or.inl rfl)) rfl hC hw k
set_option maxRecDepth 20000 in
theorem kL_law_15 {C : QC} {x : QP} {M : QM} {st : List CV} {L : QL} {l0 l1 l2 l3 : Option CV} {z : Option Nat} : Rr C mL_law (15, [l0, l1, l2, l3], .inr (.inr z) :: st, M) x = Rr C mL_law (16, [l0, q_cut l1, some (.inr (.inr z)), l3], st, M) x := g_pl (show decode cL_law 15 = .ok (.astore_n 2, 1) by decide +kernel) rfl
set_option maxRecDepth 20000 in
theorem kL_law_16 {C : QC} {x : QP} {M : QM} {st : List CV} {L : QL} : Rr C mL_law (16, L, st, M) x = Rr C mL_law (17, L, qi 0 :: st, M) x := g_pl (show decode cL_law 16 = .ok (.iconst 0, 1) by decide +kernel) rfl
set_option maxRecDepth 20000 in
theorem kL_law_17 {C : QC} {x : QP} {M : QM} {st : List CV} {L : QL} {l0 l1 l2 l3 : Option CV} {z : Int} : Rr C mL_law (17, [l0, l1, l2, l3], qi z :: st, M) x = Rr C mL_law (18, [l0, l1, q_cut l2, some (qi z)], st, M) x := g_pl (show decode cL_law 17 = .ok (.istore_n 3, 1) by decide +kernel) rfl
set_option maxRecDepth 20000 in
theorem kL_law_18 {C : QC} {x : QP} {M : QM} {st : List CV} {L : QL} {l0 l1 l2 l3 : Option CV} {z : Int} : Rr C mL_law (18, [l0, l1, l2, some (qi z)], st, M) x = Rr C mL_law (19, [l0, l1, l2, some (qi z)], qi z :: st, M) x := g_pl (show decode cL_law 18 = .ok (.iload_n 3, 1) by decide +kernel) rfl
set_option maxRecDepth 20000 in
theorem kL_law_19 {C : QC} {x : QP} {M : QM} {st : List CV} {L : QL} {l0 l1 l2 l3 : Option CV} {r : Option Nat} : Rr C mL_law (19, [some (.inr (.inr r)), l1, l2, l3], st, M) x = Rr C mL_law (20, [some (.inr (.inr r)), l1, l2, l3], .inr (.inr r) :: st, M) x := g_pl (show decode cL_law 19 = .ok (.aload_n 0, 1) by decide +kernel) rfl
set_option maxRecDepth 20000 in
theorem kL_law_20 {C : QC} {x : QP} {M : QM} {st : List CV} {L : QL} {a : Nat} (h1 : 2 ≤ (q_kd M a).1) (h2 : (q_kd M a).1 ≤ 9) : Rr C mL_law (20, L, qr a :: st, M) x = Rr C mL_law (21, L, qi (q_kd M a).2 :: st, M) x := g_alen (show decode cL_law 20 = .ok (.arraylength, 1) by decide +kernel) h1 h2
set_option maxRecDepth 20000 in
theorem kL_law_21 {C : QC} {x : QP} {M : QM} {st : List CV} {L : QL} : Rr C mL_law (21, L, st, M) x = Rr C mL_law (23, L, qi 7 :: st, M) x := g_pl (show decode cL_law 21 = .ok (.bipush 7, 2) by decide +kernel) rfl
set_option maxRecDepth 20000 in
theorem kL_law_23 {C : QC} {x : QP} {M : QM} {st : List CV} {L : QL} {a b : Int} : Rr C mL_law (23, L, qi b :: qi a :: st, M) x = Rr C mL_law (24, L, qi (a - b) :: st, M) x := g_pl (show decode cL_law 23 = .ok (.isub, 1) by decide +kernel) rfl
set_option maxRecDepth 20000 in
theorem kL_law_24 {C : QC} {x : QP} {M : QM} {st : List CV} {L : QL} {a b : Int} (ha1 : -2147483648 ≤ a) (ha2 : a < 2147483648) (hb1 : -2147483648 ≤ b) (hb2 : b < 2147483648) : Rr C mL_law (24, L, qi b :: qi a :: st, M) x = (if b < a then Rr C mL_law (1042, L, st, M) x else Rr C mL_law (27, L, st, M) x) := (g_icmp (show decode cL_law 24 = .ok (.if_icmp .gt 1018, 3) by decide +kernel) rfl ha1 ha2 hb1 hb2).trans (g_ite c_gt)
set_option maxRecDepth 20000 in
theorem kL_law_27 {C : QC} {x : QP} {M : QM} {st : List CV} {L : QL} {l0 l1 l2 l3 : Option CV} {r : Option Nat} : Rr C mL_law (27, [some (.inr (.inr r)), l1, l2, l3], st, M) x = Rr C mL_law (28, [some (.inr (.inr r)), l1, l2, l3], .inr (.inr r) :: st, M) x := g_pl (show decode cL_law 27 = .ok (.aload_n 0, 1) by decide +kernel) rfl
set_option maxRecDepth 20000 in
theorem kL_law_28 {C : QC} {x : QP} {M : QM} {st : List CV} {L : QL} {l0 l1 l2 l3 : Option CV} {z : Int} : Rr C mL_law (28, [l0, l1, l2, some (qi z)], st, M) x = Rr C mL_law (29, [l0, l1, l2, some (qi z)], qi z :: st, M) x := g_pl (show decode cL_law 28 = .ok (.iload_n 3, 1) by decide +kernel) rfl
set_option maxRecDepth 20000 in
theorem kL_law_29 {C : QC} {x : QP} {M : QM} {st : List CV} {L : QL} {a : Nat} {j : Int} (hk : (q_kd M a).1 = 7) (h0 : 0 ≤ j) (h1 : j < ((q_kd M a).2 : Int)) : Rr C mL_law (29, L, qi j :: qr a :: st, M) x = Rr C mL_law (30, L, q_fv M a j.toNat :: st, M) x := g_iald7 (show decode cL_law 29 = .ok (.iaload, 1) by decide +kernel) hk h0 h1
set_option maxRecDepth 20000 in
theorem kL_law_30 {C : QC} {x : QP} {M : QM} {st : List CV} {L : QL} : Rr C mL_law (30, L, st, M) x = Rr C mL_law (32, L, qi 31 :: st, M) x := g_pl (show decode cL_law 30 = .ok (.bipush 31, 2) by decide +kernel) rfl
set_option maxRecDepth 20000 in
theorem kL_law_32 {C : QC} {x : QP} {M : QM} {st : List CV} {L : QL} {a b : Int} : Rr C mL_law (32, L, qi b :: qi a :: st, M) x = Rr C mL_law (33, L, qi (q_and a b) :: st, M) x := g_pl (show decode cL_law 32 = .ok (.iand, 1) by decide +kernel) rfl
set_option maxRecDepth 20000 in
theorem kL_law_33 {C : QC} {x : QP} {M : QM} {st : List CV} {L : QL} {a : Int} (ha1 : -2147483648 ≤ a) (ha2 : a < 2147483648) : Rr C mL_law (33, L, qi a :: st, M) x = (if a = 0 then Rr C mL_law (160, L, st, M) x else if a = 1 then Rr C mL_law (235, L, st, M) x else if a = 2 then Rr C mL_law (278, L, st, M) x else if a = 3 then Rr C mL_law (311, L, st, M) x else if a = 4 then Rr C mL_law (354, L, st, M) x else if a = 5 then Rr C mL_law (387, L, st, M) x else if a = 6 then Rr C mL_law (430, L, st, M) x else if a = 7 then Rr C mL_law (463, L, st, M) x else if a = 8 then Rr C mL_law (476, L, st, M) x else if a = 9 then Rr C mL_law (489, L, st, M) x else if a = 10 then Rr C mL_law (532, L, st, M) x else if a = 11 then Rr C mL_law (565, L, st, M) x else if a = 12 then Rr C mL_law (608, L, st, M) x else if a = 13 then Rr C mL_law (641, L, st, M) x else if a = 14 then Rr C mL_law (674, L, st, M) x else if a = 15 then Rr C mL_law (697, L, st, M) x else if a = 16 then Rr C mL_law (730, L, st, M) x else if a = 17 then Rr C mL_law (773, L, st, M) x else if a = 18 then Rr C mL_law (796, L, st, M) x else if a = 19 then Rr C mL_law (829, L, st, M) x else if a = 20 then Rr C mL_law (852, L, st, M) x else if a = 21 then Rr C mL_law (875, L, st, M) x else if a = 22 then Rr C mL_law (908, L, st, M) x else if a = 23 then Rr C mL_law (941, L, st, M) x else if a = 24 then Rr C mL_law (974, L, st, M) x else if a = 25 then Rr C mL_law (987, L, st, M) x else if a = 26 then Rr C mL_law (1000, L, st, M) x else if a = 27 then Rr C mL_law (1013, L, st, M) x else Rr C mL_law (1036, L, st, M) x) := by
  by_cases h0 : a = 0
  · subst h0; rw [if_pos rfl]; exact g_tsI (show decode cL_law 33 = .ok (.tableswitch 1003 0 27 #[127, 202, 245, 278, 321, 354, 397, 430, 443, 456, 499, 532, 575, 608, 641, 664, 697, 740, 763, 796, 819, 842, 875, 908, 941, 954, 967, 980], 127) by decide +kernel) (by decide) (by decide) rfl rfl
  rw [if_neg h0]
  by_cases h1 : a = 1
  · subst h1; rw [if_pos rfl]; exact g_tsI (show decode cL_law 33 = .ok (.tableswitch 1003 0 27 #[127, 202, 245, 278, 321, 354, 397, 430, 443, 456, 499, 532, 575, 608, 641, 664, 697, 740, 763, 796, 819, 842, 875, 908, 941, 954, 967, 980], 127) by decide +kernel) (by decide) (by decide) rfl rfl
  rw [if_neg h1]
  by_cases h2 : a = 2
  · subst h2; rw [if_pos rfl]; exact g_tsI (show decode cL_law 33 = .ok (.tableswitch 1003 0 27 #[127, 202, 245, 278, 321, 354, 397, 430, 443, 456, 499, 532, 575, 608, 641, 664, 697, 740, 763, 796, 819, 842, 875, 908, 941, 954, 967, 980], 127) by decide +kernel) (by decide) (by decide) rfl rfl
  rw [if_neg h2]
  by_cases h3 : a = 3
  · subst h3; rw [if_pos rfl]; exact g_tsI (show decode cL_law 33 = .ok (.tableswitch 1003 0 27 #[127, 202, 245, 278, 321, 354, 397, 430, 443, 456, 499, 532, 575, 608, 641, 664, 697, 740, 763, 796, 819, 842, 875, 908, 941, 954, 967, 980], 127) by decide +kernel) (by decide) (by decide) rfl rfl
  rw [if_neg h3]
  by_cases h4 : a = 4
  · subst h4; rw [if_pos rfl]; exact g_tsI (show decode cL_law 33 = .ok (.tableswitch 1003 0 27 #[127, 202, 245, 278, 321, 354, 397, 430, 443, 456, 499, 532, 575, 608, 641, 664, 697, 740, 763, 796, 819, 842, 875, 908, 941, 954, 967, 980], 127) by decide +kernel) (by decide) (by decide) rfl rfl
  rw [if_neg h4]
  by_cases h5 : a = 5
  · subst h5; rw [if_pos rfl]; exact g_tsI (show decode cL_law 33 = .ok (.tableswitch 1003 0 27 #[127, 202, 245, 278, 321, 354, 397, 430, 443, 456, 499, 532, 575, 608, 641, 664, 697, 740, 763, 796, 819, 842, 875, 908, 941, 954, 967, 980], 127) by decide +kernel) (by decide) (by decide) rfl rfl
  rw [if_neg h5]
  by_cases h6 : a = 6
  · subst h6; rw [if_pos rfl]; exact g_tsI (show decode cL_law 33 = .ok (.tableswitch 1003 0 27 #[127, 202, 245, 278, 321, 354, 397, 430, 443, 456, 499, 532, 575, 608, 641, 664, 697, 740, 763, 796, 819, 842, 875, 908, 941, 954, 967, 980], 127) by decide +kernel) (by decide) (by decide) rfl rfl
  rw [if_neg h6]
  by_cases h7 : a = 7
  · subst h7; rw [if_pos rfl]; exact g_tsI (show decode cL_law 33 = .ok (.tableswitch 1003 0 27 #[127, 202, 245, 278, 321, 354, 397, 430, 443, 456, 499, 532, 575, 608, 641, 664, 697, 740, 763, 796, 819, 842, 875, 908, 941, 954, 967, 980], 127) by decide +kernel) (by decide) (by decide) rfl rfl
  rw [if_neg h7]
  by_cases h8 : a = 8
  · subst h8; rw [if_pos rfl]; exact g_tsI (show decode cL_law 33 = .ok (.tableswitch 1003 0 27 #[127, 202, 245, 278, 321, 354, 397, 430, 443, 456, 499, 532, 575, 608, 641, 664, 697, 740, 763, 796, 819, 842, 875, 908, 941, 954, 967, 980], 127) by decide +kernel) (by decide) (by decide) rfl rfl
  rw [if_neg h8]
  by_cases h9 : a = 9
  · subst h9; rw [if_pos rfl]; exact g_tsI (show decode cL_law 33 = .ok (.tableswitch 1003 0 27 #[127, 202, 245, 278, 321, 354, 397, 430, 443, 456, 499, 532, 575, 608, 641, 664, 697, 740, 763, 796, 819, 842, 875, 908, 941, 954, 967, 980], 127) by decide +kernel) (by decide) (by decide) rfl rfl
  rw [if_neg h9]
  by_cases h10 : a = 10
  · subst h10; rw [if_pos rfl]; exact g_tsI (show decode cL_law 33 = .ok (.tableswitch 1003 0 27 #[127, 202, 245, 278, 321, 354, 397, 430, 443, 456, 499, 532, 575, 608, 641, 664, 697, 740, 763, 796, 819, 842, 875, 908, 941, 954, 967, 980], 127) by decide +kernel) (by decide) (by decide) rfl rfl
  rw [if_neg h10]
  by_cases h11 : a = 11
  · subst h11; rw [if_pos rfl]; exact g_tsI (show decode cL_law 33 = .ok (.tableswitch 1003 0 27 #[127, 202, 245, 278, 321, 354, 397, 430, 443, 456, 499, 532, 575, 608, 641, 664, 697, 740, 763, 796, 819, 842, 875, 908, 941, 954, 967, 980], 127) by decide +kernel) (by decide) (by decide) rfl rfl
  rw [if_neg h11]
  by_cases h12 : a = 12
  · subst h12; rw [if_pos rfl]; exact g_tsI (show decode cL_law 33 = .ok (.tableswitch 1003 0 27 #[127, 202, 245, 278, 321, 354, 397, 430, 443, 456, 499, 532, 575, 608, 641, 664, 697, 740, 763, 796, 819, 842, 875, 908, 941, 954, 967, 980], 127) by decide +kernel) (by decide) (by decide) rfl rfl
  rw [if_neg h12]
  by_cases h13 : a = 13
  · subst h13; rw [if_pos rfl]; exact g_tsI (show decode cL_law 33 = .ok (.tableswitch 1003 0 27 #[127, 202, 245, 278, 321, 354, 397, 430, 443, 456, 499, 532, 575, 608, 641, 664, 697, 740, 763, 796, 819, 842, 875, 908, 941, 954, 967, 980], 127) by decide +kernel) (by decide) (by decide) rfl rfl
  rw [if_neg h13]
  by_cases h14 : a = 14
  · subst h14; rw [if_pos rfl]; exact g_tsI (show decode cL_law 33 = .ok (.tableswitch 1003 0 27 #[127, 202, 245, 278, 321, 354, 397, 430, 443, 456, 499, 532, 575, 608, 641, 664, 697, 740, 763, 796, 819, 842, 875, 908, 941, 954, 967, 980], 127) by decide +kernel) (by decide) (by decide) rfl rfl
  rw [if_neg h14]
  by_cases h15 : a = 15
  · subst h15; rw [if_pos rfl]; exact g_tsI (show decode cL_law 33 = .ok (.tableswitch 1003 0 27 #[127, 202, 245, 278, 321, 354, 397, 430, 443, 456, 499, 532, 575, 608, 641, 664, 697, 740, 763, 796, 819, 842, 875, 908, 941, 954, 967, 980], 127) by decide +kernel) (by decide) (by decide) rfl rfl
  rw [if_neg h15]
  by_cases h16 : a = 16
  · subst h16; rw [if_pos rfl]; exact g_tsI (show decode cL_law 33 = .ok (.tableswitch 1003 0 27 #[127, 202, 245, 278, 321, 354, 397, 430, 443, 456, 499, 532, 575, 608, 641, 664, 697, 740, 763, 796, 819, 842, 875, 908, 941, 954, 967, 980], 127) by decide +kernel) (by decide) (by decide) rfl rfl
  rw [if_neg h16]
  by_cases h17 : a = 17
  · subst h17; rw [if_pos rfl]; exact g_tsI (show decode cL_law 33 = .ok (.tableswitch 1003 0 27 #[127, 202, 245, 278, 321, 354, 397, 430, 443, 456, 499, 532, 575, 608, 641, 664, 697, 740, 763, 796, 819, 842, 875, 908, 941, 954, 967, 980], 127) by decide +kernel) (by decide) (by decide) rfl rfl
  rw [if_neg h17]
  by_cases h18 : a = 18
  · subst h18; rw [if_pos rfl]; exact g_tsI (show decode cL_law 33 = .ok (.tableswitch 1003 0 27 #[127, 202, 245, 278, 321, 354, 397, 430, 443, 456, 499, 532, 575, 608, 641, 664, 697, 740, 763, 796, 819, 842, 875, 908, 941, 954, 967, 980], 127) by decide +kernel) (by decide) (by decide) rfl rfl
  rw [if_neg h18]
  by_cases h19 : a = 19
  · subst h19; rw [if_pos rfl]; exact g_tsI (show decode cL_law 33 = .ok (.tableswitch 1003 0 27 #[127, 202, 245, 278, 321, 354, 397, 430, 443, 456, 499, 532, 575, 608, 641, 664, 697, 740, 763, 796, 819, 842, 875, 908, 941, 954, 967, 980], 127) by decide +kernel) (by decide) (by decide) rfl rfl
  rw [if_neg h19]
  by_cases h20 : a = 20
  · subst h20; rw [if_pos rfl]; exact g_tsI (show decode cL_law 33 = .ok (.tableswitch 1003 0 27 #[127, 202, 245, 278, 321, 354, 397, 430, 443, 456, 499, 532, 575, 608, 641, 664, 697, 740, 763, 796, 819, 842, 875, 908, 941, 954, 967, 980], 127) by decide +kernel) (by decide) (by decide) rfl rfl
  rw [if_neg h20]
  by_cases h21 : a = 21
  · subst h21; rw [if_pos rfl]; exact g_tsI (show decode cL_law 33 = .ok (.tableswitch 1003 0 27 #[127, 202, 245, 278, 321, 354, 397, 430, 443, 456, 499, 532, 575, 608, 641, 664, 697, 740, 763, 796, 819, 842, 875, 908, 941, 954, 967, 980], 127) by decide +kernel) (by decide) (by decide) rfl rfl
  rw [if_neg h21]
  by_cases h22 : a = 22
  · subst h22; rw [if_pos rfl]; exact g_tsI (show decode cL_law 33 = .ok (.tableswitch 1003 0 27 #[127, 202, 245, 278, 321, 354, 397, 430, 443, 456, 499, 532, 575, 608, 641, 664, 697, 740, 763, 796, 819, 842, 875, 908, 941, 954, 967, 980], 127) by decide +kernel) (by decide) (by decide) rfl rfl
  rw [if_neg h22]
  by_cases h23 : a = 23
  · subst h23; rw [if_pos rfl]; exact g_tsI (show decode cL_law 33 = .ok (.tableswitch 1003 0 27 #[127, 202, 245, 278, 321, 354, 397, 430, 443, 456, 499, 532, 575, 608, 641, 664, 697, 740, 763, 796, 819, 842, 875, 908, 941, 954, 967, 980], 127) by decide +kernel) (by decide) (by decide) rfl rfl
  rw [if_neg h23]
  by_cases h24 : a = 24
  · subst h24; rw [if_pos rfl]; exact g_tsI (show decode cL_law 33 = .ok (.tableswitch 1003 0 27 #[127, 202, 245, 278, 321, 354, 397, 430, 443, 456, 499, 532, 575, 608, 641, 664, 697, 740, 763, 796, 819, 842, 875, 908, 941, 954, 967, 980], 127) by decide +kernel) (by decide) (by decide) rfl rfl
  rw [if_neg h24]
  by_cases h25 : a = 25
  · subst h25; rw [if_pos rfl]; exact g_tsI (show decode cL_law 33 = .ok (.tableswitch 1003 0 27 #[127, 202, 245, 278, 321, 354, 397, 430, 443, 456, 499, 532, 575, 608, 641, 664, 697, 740, 763, 796, 819, 842, 875, 908, 941, 954, 967, 980], 127) by decide +kernel) (by decide) (by decide) rfl rfl
  rw [if_neg h25]
  by_cases h26 : a = 26
  · subst h26; rw [if_pos rfl]; exact g_tsI (show decode cL_law 33 = .ok (.tableswitch 1003 0 27 #[127, 202, 245, 278, 321, 354, 397, 430, 443, 456, 499, 532, 575, 608, 641, 664, 697, 740, 763, 796, 819, 842, 875, 908, 941, 954, 967, 980], 127) by decide +kernel) (by decide) (by decide) rfl rfl
  rw [if_neg h26]
  by_cases h27 : a = 27
  · subst h27; rw [if_pos rfl]; exact g_tsI (show decode cL_law 33 = .ok (.tableswitch 1003 0 27 #[127, 202, 245, 278, 321, 354, 397, 430, 443, 456, 499, 532, 575, 608, 641, 664, 697, 740, 763, 796, 819, 842, 875, 908, 941, 954, 967, 980], 127) by decide +kernel) (by decide) (by decide) rfl rfl
  rw [if_neg h27]
  exact g_tsO (show decode cL_law 33 = .ok (.tableswitch 1003 0 27 #[127, 202, 245, 278, 321, 354, 397, 430, 443, 456, 499, 532, 575, 608, 641, 664, 697, 740, 763, 796, 819, 842, 875, 908, 941, 954, 967, 980], 127) by decide +kernel) ⟨ha1, ha2⟩ (by omega) rfl
set_option maxRecDepth 20000 in
theorem kL_law_160 {C : QC} {x : QP} {M : QM} {st : List CV} {L : QL} {l0 l1 l2 l3 : Option CV} {r : Option Nat} : Rr C mL_law (160, [l0, some (.inr (.inr r)), l2, l3], st, M) x = Rr C mL_law (161, [l0, some (.inr (.inr r)), l2, l3], .inr (.inr r) :: st, M) x := g_pl (show decode cL_law 160 = .ok (.aload_n 1, 1) by decide +kernel) rfl
set_option maxRecDepth 20000 in
theorem kL_law_161 {C : QC} {x : QP} {M : QM} {st : List CV} {L : QL} {l0 l1 l2 l3 : Option CV} {r : Option Nat} : Rr C mL_law (161, [some (.inr (.inr r)), l1, l2, l3], st, M) x = Rr C mL_law (162, [some (.inr (.inr r)), l1, l2, l3], .inr (.inr r) :: st, M) x := g_pl (show decode cL_law 161 = .ok (.aload_n 0, 1) by decide +kernel) rfl
set_option maxRecDepth 20000 in
theorem kL_law_162 {C : QC} {x : QP} {M : QM} {st : List CV} {L : QL} {l0 l1 l2 l3 : Option CV} {z : Int} : Rr C mL_law (162, [l0, l1, l2, some (qi z)], st, M) x = Rr C mL_law (163, [l0, l1, l2, some (qi z)], qi z :: st, M) x := g_pl (show decode cL_law 162 = .ok (.iload_n 3, 1) by decide +kernel) rfl
set_option maxRecDepth 20000 in
theorem kL_law_163 {C : QC} {x : QP} {M : QM} {st : List CV} {L : QL} : Rr C mL_law (163, L, st, M) x = Rr C mL_law (164, L, qi 1 :: st, M) x := g_pl (show decode cL_law 163 = .ok (.iconst 1, 1) by decide +kernel) rfl
set_option maxRecDepth 20000 in
theorem kL_law_164 {C : QC} {x : QP} {M : QM} {st : List CV} {L : QL} {a b : Int} : Rr C mL_law (164, L, qi b :: qi a :: st, M) x = Rr C mL_law (165, L, qi (a + b) :: st, M) x := g_pl (show decode cL_law 164 = .ok (.iadd, 1) by decide +kernel) rfl
set_option maxRecDepth 20000 in
theorem kL_law_165 {C : QC} {x : QP} {M : QM} {st : List CV} {L : QL} {a : Nat} {j : Int} (hk : (q_kd M a).1 = 7) (h0 : 0 ≤ j) (h1 : j < ((q_kd M a).2 : Int)) : Rr C mL_law (165, L, qi j :: qr a :: st, M) x = Rr C mL_law (166, L, q_fv M a j.toNat :: st, M) x := g_iald7 (show decode cL_law 165 = .ok (.iaload, 1) by decide +kernel) hk h0 h1
set_option maxRecDepth 20000 in
theorem kL_law_166 {C : QC} {x : QP} {M : QM} {st : List CV} {L : QL} {l0 l1 l2 l3 : Option CV} {r : Option Nat} : Rr C mL_law (166, [some (.inr (.inr r)), l1, l2, l3], st, M) x = Rr C mL_law (167, [some (.inr (.inr r)), l1, l2, l3], .inr (.inr r) :: st, M) x := g_pl (show decode cL_law 166 = .ok (.aload_n 0, 1) by decide +kernel) rfl
set_option maxRecDepth 20000 in
theorem kL_law_167 {C : QC} {x : QP} {M : QM} {st : List CV} {L : QL} {l0 l1 l2 l3 : Option CV} {z : Int} : Rr C mL_law (167, [l0, l1, l2, some (qi z)], st, M) x = Rr C mL_law (168, [l0, l1, l2, some (qi z)], qi z :: st, M) x := g_pl (show decode cL_law 167 = .ok (.iload_n 3, 1) by decide +kernel) rfl
set_option maxRecDepth 20000 in
theorem kL_law_168 {C : QC} {x : QP} {M : QM} {st : List CV} {L : QL} : Rr C mL_law (168, L, st, M) x = Rr C mL_law (169, L, qi 2 :: st, M) x := g_pl (show decode cL_law 168 = .ok (.iconst 2, 1) by decide +kernel) rfl
set_option maxRecDepth 20000 in
theorem kL_law_169 {C : QC} {x : QP} {M : QM} {st : List CV} {L : QL} {a b : Int} : Rr C mL_law (169, L, qi b :: qi a :: st, M) x = Rr C mL_law (170, L, qi (a + b) :: st, M) x := g_pl (show decode cL_law 169 = .ok (.iadd, 1) by decide +kernel) rfl
set_option maxRecDepth 20000 in
theorem kL_law_170 {C : QC} {x : QP} {M : QM} {st : List CV} {L : QL} {a : Nat} {j : Int} (hk : (q_kd M a).1 = 7) (h0 : 0 ≤ j) (h1 : j < ((q_kd M a).2 : Int)) : Rr C mL_law (170, L, qi j :: qr a :: st, M) x = Rr C mL_law (171, L, q_fv M a j.toNat :: st, M) x := g_iald7 (show decode cL_law 170 = .ok (.iaload, 1) by decide +kernel) hk h0 h1
set_option maxRecDepth 20000 in
theorem kL_law_171 {C : QC} {x : QP} {M : QM} {st : List CV} {L : QL} {l0 l1 l2 l3 : Option CV} {r : Option Nat} : Rr C mL_law (171, [some (.inr (.inr r)), l1, l2, l3], st, M) x = Rr C mL_law (172, [some (.inr (.inr r)), l1, l2, l3], .inr (.inr r) :: st, M) x := g_pl (show decode cL_law 171 = .ok (.aload_n 0, 1) by decide +kernel) rfl
set_option maxRecDepth 20000 in
theorem kL_law_172 {C : QC} {x : QP} {M : QM} {st : List CV} {L : QL} {l0 l1 l2 l3 : Option CV} {z : Int} : Rr C mL_law (172, [l0, l1, l2, some (qi z)], st, M) x = Rr C mL_law (173, [l0, l1, l2, some (qi z)], qi z :: st, M) x := g_pl (show decode cL_law 172 = .ok (.iload_n 3, 1) by decide +kernel) rfl
set_option maxRecDepth 20000 in
theorem kL_law_173 {C : QC} {x : QP} {M : QM} {st : List CV} {L : QL} : Rr C mL_law (173, L, st, M) x = Rr C mL_law (174, L, qi 3 :: st, M) x := g_pl (show decode cL_law 173 = .ok (.iconst 3, 1) by decide +kernel) rfl
set_option maxRecDepth 20000 in
theorem kL_law_174 {C : QC} {x : QP} {M : QM} {st : List CV} {L : QL} {a b : Int} : Rr C mL_law (174, L, qi b :: qi a :: st, M) x = Rr C mL_law (175, L, qi (a + b) :: st, M) x := g_pl (show decode cL_law 174 = .ok (.iadd, 1) by decide +kernel) rfl
set_option maxRecDepth 20000 in
theorem kL_law_175 {C : QC} {x : QP} {M : QM} {st : List CV} {L : QL} {a : Nat} {j : Int} (hk : (q_kd M a).1 = 7) (h0 : 0 ≤ j) (h1 : j < ((q_kd M a).2 : Int)) : Rr C mL_law (175, L, qi j :: qr a :: st, M) x = Rr C mL_law (176, L, q_fv M a j.toNat :: st, M) x := g_iald7 (show decode cL_law 175 = .ok (.iaload, 1) by decide +kernel) hk h0 h1
set_option maxRecDepth 20000 in
theorem kL_law_176 {C : QC} {x : QP} {M : QM} {st : List CV} {L : QL} {l0 l1 l2 l3 : Option CV} {r : Option Nat} : Rr C mL_law (176, [some (.inr (.inr r)), l1, l2, l3], st, M) x = Rr C mL_law (177, [some (.inr (.inr r)), l1, l2, l3], .inr (.inr r) :: st, M) x := g_pl (show decode cL_law 176 = .ok (.aload_n 0, 1) by decide +kernel) rfl
set_option maxRecDepth 20000 in
theorem kL_law_177 {C : QC} {x : QP} {M : QM} {st : List CV} {L : QL} {l0 l1 l2 l3 : Option CV} {z : Int} : Rr C mL_law (177, [l0, l1, l2, some (qi z)], st, M) x = Rr C mL_law (178, [l0, l1, l2, some (qi z)], qi z :: st, M) x := g_pl (show decode cL_law 177 = .ok (.iload_n 3, 1) by decide +kernel) rfl
set_option maxRecDepth 20000 in
theorem kL_law_178 {C : QC} {x : QP} {M : QM} {st : List CV} {L : QL} : Rr C mL_law (178, L, st, M) x = Rr C mL_law (179, L, qi 4 :: st, M) x := g_pl (show decode cL_law 178 = .ok (.iconst 4, 1) by decide +kernel) rfl
set_option maxRecDepth 20000 in
theorem kL_law_179 {C : QC} {x : QP} {M : QM} {st : List CV} {L : QL} {a b : Int} : Rr C mL_law (179, L, qi b :: qi a :: st, M) x = Rr C mL_law (180, L, qi (a + b) :: st, M) x := g_pl (show decode cL_law 179 = .ok (.iadd, 1) by decide +kernel) rfl
set_option maxRecDepth 20000 in
theorem kL_law_180 {C : QC} {x : QP} {M : QM} {st : List CV} {L : QL} {a : Nat} {j : Int} (hk : (q_kd M a).1 = 7) (h0 : 0 ≤ j) (h1 : j < ((q_kd M a).2 : Int)) : Rr C mL_law (180, L, qi j :: qr a :: st, M) x = Rr C mL_law (181, L, q_fv M a j.toNat :: st, M) x := g_iald7 (show decode cL_law 180 = .ok (.iaload, 1) by decide +kernel) hk h0 h1
set_option maxRecDepth 20000 in
theorem kL_law_181 {C : QC} {x : QP} {M : QM} {st : List CV} {L : QL} {l0 l1 l2 l3 : Option CV} {r : Option Nat} : Rr C mL_law (181, [some (.inr (.inr r)), l1, l2, l3], st, M) x = Rr C mL_law (182, [some (.inr (.inr r)), l1, l2, l3], .inr (.inr r) :: st, M) x := g_pl (show decode cL_law 181 = .ok (.aload_n 0, 1) by decide +kernel) rfl
set_option maxRecDepth 20000 in
theorem kL_law_182 {C : QC} {x : QP} {M : QM} {st : List CV} {L : QL} {l0 l1 l2 l3 : Option CV} {z : Int} : Rr C mL_law (182, [l0, l1, l2, some (qi z)], st, M) x = Rr C mL_law (183, [l0, l1, l2, some (qi z)], qi z :: st, M) x := g_pl (show decode cL_law 182 = .ok (.iload_n 3, 1) by decide +kernel) rfl
set_option maxRecDepth 20000 in
theorem kL_law_183 {C : QC} {x : QP} {M : QM} {st : List CV} {L : QL} : Rr C mL_law (183, L, st, M) x = Rr C mL_law (184, L, qi 5 :: st, M) x := g_pl (show decode cL_law 183 = .ok (.iconst 5, 1) by decide +kernel) rfl
set_option maxRecDepth 20000 in
theorem kL_law_184 {C : QC} {x : QP} {M : QM} {st : List CV} {L : QL} {a b : Int} : Rr C mL_law (184, L, qi b :: qi a :: st, M) x = Rr C mL_law (185, L, qi (a + b) :: st, M) x := g_pl (show decode cL_law 184 = .ok (.iadd, 1) by decide +kernel) rfl
set_option maxRecDepth 20000 in
theorem kL_law_185 {C : QC} {x : QP} {M : QM} {st : List CV} {L : QL} {a : Nat} {j : Int} (hk : (q_kd M a).1 = 7) (h0 : 0 ≤ j) (h1 : j < ((q_kd M a).2 : Int)) : Rr C mL_law (185, L, qi j :: qr a :: st, M) x = Rr C mL_law (186, L, q_fv M a j.toNat :: st, M) x := g_iald7 (show decode cL_law 185 = .ok (.iaload, 1) by decide +kernel) hk h0 h1
set_option maxRecDepth 20000 in
theorem kL_law_186 {C : QC} {x : QP} {M : QM} {st : List CV} {L : QL} {l0 l1 l2 l3 : Option CV} {r : Option Nat} : Rr C mL_law (186, [some (.inr (.inr r)), l1, l2, l3], st, M) x = Rr C mL_law (187, [some (.inr (.inr r)), l1, l2, l3], .inr (.inr r) :: st, M) x := g_pl (show decode cL_law 186 = .ok (.aload_n 0, 1) by decide +kernel) rfl
set_option maxRecDepth 20000 in
theorem kL_law_187 {C : QC} {x : QP} {M : QM} {st : List CV} {L : QL} {l0 l1 l2 l3 : Option CV} {z : Int} : Rr C mL_law (187, [l0, l1, l2, some (qi z)], st, M) x = Rr C mL_law (188, [l0, l1, l2, some (qi z)], qi z :: st, M) x := g_pl (show decode cL_law 187 = .ok (.iload_n 3, 1) by decide +kernel) rfl
set_option maxRecDepth 20000 in
theorem kL_law_188 {C : QC} {x : QP} {M : QM} {st : List CV} {L : QL} : Rr C mL_law (188, L, st, M) x = Rr C mL_law (190, L, qi 6 :: st, M) x := g_pl (show decode cL_law 188 = .ok (.bipush 6, 2) by decide +kernel) rfl
set_option maxRecDepth 20000 in
theorem kL_law_190 {C : QC} {x : QP} {M : QM} {st : List CV} {L : QL} {a b : Int} : Rr C mL_law (190, L, qi b :: qi a :: st, M) x = Rr C mL_law (191, L, qi (a + b) :: st, M) x := g_pl (show decode cL_law 190 = .ok (.iadd, 1) by decide +kernel) rfl
set_option maxRecDepth 20000 in
theorem kL_law_191 {C : QC} {x : QP} {M : QM} {st : List CV} {L : QL} {a : Nat} {j : Int} (hk : (q_kd M a).1 = 7) (h0 : 0 ≤ j) (h1 : j < ((q_kd M a).2 : Int)) : Rr C mL_law (191, L, qi j :: qr a :: st, M) x = Rr C mL_law (192, L, q_fv M a j.toNat :: st, M) x := g_iald7 (show decode cL_law 191 = .ok (.iaload, 1) by decide +kernel) hk h0 h1
set_option maxRecDepth 20000 in
theorem kL_law_192 {C : QC} {x : QP} {M : QM} {L : QL} {rest : List CV} {a0 a1 a2 a3 a4 a5 : CV} {v : CV} {M1 : QM} {b : Nat} (hb : q_kd M b = (1, 12)) (hC : C iX12_feed [qr b, a0, a1, a2, a3, a4, a5] M (some v) M1) (hw : (rest.map q_wd).sum ≤ 8) (k : Rr C mL_law (195, L, v :: rest, M1) x) : Rr C mL_law (192, L, a5 :: a4 :: a3 :: a2 :: a1 :: a0 :: qr b :: rest, M) x := g_cv (ow := 16) (e := (0, 15, 12, [422, 423, 424, 77])) (as := [a0, a1, a2, a3, a4, a5]) (show decode cL_law 192 = .ok (.invokevirtual 13, 3) by decide +kernel) rfl rfl rfl (Or.inl rfl) rfl hb hC hw k
set_option maxRecDepth 20000 in
theorem kL_law_195 {C : QC} {x : QP} {M : QM} {st : List CV} {L : QL} {l0 l1 l2 l3 : Option CV} {r : Option Nat} : Rr C mL_law (195, [l0, l1, some (.inr (.inr r)), l3], st, M) x = Rr C mL_law (196, [l0, l1, some (.inr (.inr r)), l3], .inr (.inr r) :: st, M) x := g_pl (show decode cL_law 195 = .ok (.aload_n 2, 1) by decide +kernel) rfl
set_option maxRecDepth 20000 in
theorem kL_law_196 {C : QC} {x : QP} {M : QM} {st : List CV} {L : QL} {l0 l1 l2 l3 : Option CV} {r : Option Nat} : Rr C mL_law (196, [some (.inr (.inr r)), l1, l2, l3], st, M) x = Rr C mL_law (197, [some (.inr (.inr r)), l1, l2, l3], .inr (.inr r) :: st, M) x := g_pl (show decode cL_law 196 = .ok (.aload_n 0, 1) by decide +kernel) rfl
set_option maxRecDepth 20000 in
theorem kL_law_197 {C : QC} {x : QP} {M : QM} {st : List CV} {L : QL} {l0 l1 l2 l3 : Option CV} {z : Int} : Rr C mL_law (197, [l0, l1, l2, some (qi z)], st, M) x = Rr C mL_law (198, [l0, l1, l2, some (qi z)], qi z :: st, M) x := g_pl (show decode cL_law 197 = .ok (.iload_n 3, 1) by decide +kernel) rfl
set_option maxRecDepth 20000 in
theorem kL_law_198 {C : QC} {x : QP} {M : QM} {st : List CV} {L : QL} : Rr C mL_law (198, L, st, M) x = Rr C mL_law (199, L, qi 1 :: st, M) x := g_pl (show decode cL_law 198 = .ok (.iconst 1, 1) by decide +kernel) rfl
set_option maxRecDepth 20000 in
theorem kL_law_199 {C : QC} {x : QP} {M : QM} {st : List CV} {L : QL} {a b : Int} : Rr C mL_law (199, L, qi b :: qi a :: st, M) x = Rr C mL_law (200, L, qi (a + b) :: st, M) x := g_pl (show decode cL_law 199 = .ok (.iadd, 1) by decide +kernel) rfl
set_option maxRecDepth 20000 in
theorem kL_law_200 {C : QC} {x : QP} {M : QM} {st : List CV} {L : QL} {a : Nat} {j : Int} (hk : (q_kd M a).1 = 7) (h0 : 0 ≤ j) (h1 : j < ((q_kd M a).2 : Int)) : Rr C mL_law (200, L, qi j :: qr a :: st, M) x = Rr C mL_law (201, L, q_fv M a j.toNat :: st, M) x := g_iald7 (show decode cL_law 200 = .ok (.iaload, 1) by decide +kernel) hk h0 h1
set_option maxRecDepth 20000 in
theorem kL_law_201 {C : QC} {x : QP} {M : QM} {st : List CV} {L : QL} {l0 l1 l2 l3 : Option CV} {r : Option Nat} : Rr C mL_law (201, [some (.inr (.inr r)), l1, l2, l3], st, M) x = Rr C mL_law (202, [some (.inr (.inr r)), l1, l2, l3], .inr (.inr r) :: st, M) x := g_pl (show decode cL_law 201 = .ok (.aload_n 0, 1) by decide +kernel) rfl
set_option maxRecDepth 20000 in
theorem kL_law_202 {C : QC} {x : QP} {M : QM} {st : List CV} {L : QL} {l0 l1 l2 l3 : Option CV} {z : Int} : Rr C mL_law (202, [l0, l1, l2, some (qi z)], st, M) x = Rr C mL_law (203, [l0, l1, l2, some (qi z)], qi z :: st, M) x := g_pl (show decode cL_law 202 = .ok (.iload_n 3, 1) by decide +kernel) rfl
set_option maxRecDepth 20000 in
theorem kL_law_203 {C : QC} {x : QP} {M : QM} {st : List CV} {L : QL} : Rr C mL_law (203, L, st, M) x = Rr C mL_law (204, L, qi 2 :: st, M) x := g_pl (show decode cL_law 203 = .ok (.iconst 2, 1) by decide +kernel) rfl
set_option maxRecDepth 20000 in
theorem kL_law_204 {C : QC} {x : QP} {M : QM} {st : List CV} {L : QL} {a b : Int} : Rr C mL_law (204, L, qi b :: qi a :: st, M) x = Rr C mL_law (205, L, qi (a + b) :: st, M) x := g_pl (show decode cL_law 204 = .ok (.iadd, 1) by decide +kernel) rfl
set_option maxRecDepth 20000 in
theorem kL_law_205 {C : QC} {x : QP} {M : QM} {st : List CV} {L : QL} {a : Nat} {j : Int} (hk : (q_kd M a).1 = 7) (h0 : 0 ≤ j) (h1 : j < ((q_kd M a).2 : Int)) : Rr C mL_law (205, L, qi j :: qr a :: st, M) x = Rr C mL_law (206, L, q_fv M a j.toNat :: st, M) x := g_iald7 (show decode cL_law 205 = .ok (.iaload, 1) by decide +kernel) hk h0 h1
set_option maxRecDepth 20000 in
theorem kL_law_206 {C : QC} {x : QP} {M : QM} {st : List CV} {L : QL} {l0 l1 l2 l3 : Option CV} {r : Option Nat} : Rr C mL_law (206, [some (.inr (.inr r)), l1, l2, l3], st, M) x = Rr C mL_law (207, [some (.inr (.inr r)), l1, l2, l3], .inr (.inr r) :: st, M) x := g_pl (show decode cL_law 206 = .ok (.aload_n 0, 1) by decide +kernel) rfl
set_option maxRecDepth 20000 in
theorem kL_law_207 {C : QC} {x : QP} {M : QM} {st : List CV} {L : QL} {l0 l1 l2 l3 : Option CV} {z : Int} : Rr C mL_law (207, [l0, l1, l2, some (qi z)], st, M) x = Rr C mL_law (208, [l0, l1, l2, some (qi z)], qi z :: st, M) x := g_pl (show decode cL_law 207 = .ok (.iload_n 3, 1) by decide +kernel) rfl
set_option maxRecDepth 20000 in
theorem kL_law_208 {C : QC} {x : QP} {M : QM} {st : List CV} {L : QL} : Rr C mL_law (208, L, st, M) x = Rr C mL_law (209, L, qi 3 :: st, M) x := g_pl (show decode cL_law 208 = .ok (.iconst 3, 1) by decide +kernel) rfl
set_option maxRecDepth 20000 in
theorem kL_law_209 {C : QC} {x : QP} {M : QM} {st : List CV} {L : QL} {a b : Int} : Rr C mL_law (209, L, qi b :: qi a :: st, M) x = Rr C mL_law (210, L, qi (a + b) :: st, M) x := g_pl (show decode cL_law 209 = .ok (.iadd, 1) by decide +kernel) rfl
set_option maxRecDepth 20000 in
theorem kL_law_210 {C : QC} {x : QP} {M : QM} {st : List CV} {L : QL} {a : Nat} {j : Int} (hk : (q_kd M a).1 = 7) (h0 : 0 ≤ j) (h1 : j < ((q_kd M a).2 : Int)) : Rr C mL_law (210, L, qi j :: qr a :: st, M) x = Rr C mL_law (211, L, q_fv M a j.toNat :: st, M) x := g_iald7 (show decode cL_law 210 = .ok (.iaload, 1) by decide +kernel) hk h0 h1
set_option maxRecDepth 20000 in
theorem kL_law_211 {C : QC} {x : QP} {M : QM} {st : List CV} {L : QL} {l0 l1 l2 l3 : Option CV} {r : Option Nat} : Rr C mL_law (211, [some (.inr (.inr r)), l1, l2, l3], st, M) x = Rr C mL_law (212, [some (.inr (.inr r)), l1, l2, l3], .inr (.inr r) :: st, M) x := g_pl (show decode cL_law 211 = .ok (.aload_n 0, 1) by decide +kernel) rfl
set_option maxRecDepth 20000 in
theorem kL_law_212 {C : QC} {x : QP} {M : QM} {st : List CV} {L : QL} {l0 l1 l2 l3 : Option CV} {z : Int} : Rr C mL_law (212, [l0, l1, l2, some (qi z)], st, M) x = Rr C mL_law (213, [l0, l1, l2, some (qi z)], qi z :: st, M) x := g_pl (show decode cL_law 212 = .ok (.iload_n 3, 1) by decide +kernel) rfl
set_option maxRecDepth 20000 in
theorem kL_law_213 {C : QC} {x : QP} {M : QM} {st : List CV} {L : QL} : Rr C mL_law (213, L, st, M) x = Rr C mL_law (214, L, qi 4 :: st, M) x := g_pl (show decode cL_law 213 = .ok (.iconst 4, 1) by decide +kernel) rfl
set_option maxRecDepth 20000 in
theorem kL_law_214 {C : QC} {x : QP} {M : QM} {st : List CV} {L : QL} {a b : Int} : Rr C mL_law (214, L, qi b :: qi a :: st, M) x = Rr C mL_law (215, L, qi (a + b) :: st, M) x := g_pl (show decode cL_law 214 = .ok (.iadd, 1) by decide +kernel) rfl
set_option maxRecDepth 20000 in
theorem kL_law_215 {C : QC} {x : QP} {M : QM} {st : List CV} {L : QL} {a : Nat} {j : Int} (hk : (q_kd M a).1 = 7) (h0 : 0 ≤ j) (h1 : j < ((q_kd M a).2 : Int)) : Rr C mL_law (215, L, qi j :: qr a :: st, M) x = Rr C mL_law (216, L, q_fv M a j.toNat :: st, M) x := g_iald7 (show decode cL_law 215 = .ok (.iaload, 1) by decide +kernel) hk h0 h1
set_option maxRecDepth 20000 in
theorem kL_law_216 {C : QC} {x : QP} {M : QM} {st : List CV} {L : QL} {l0 l1 l2 l3 : Option CV} {r : Option Nat} : Rr C mL_law (216, [some (.inr (.inr r)), l1, l2, l3], st, M) x = Rr C mL_law (217, [some (.inr (.inr r)), l1, l2, l3], .inr (.inr r) :: st, M) x := g_pl (show decode cL_law 216 = .ok (.aload_n 0, 1) by decide +kernel) rfl
set_option maxRecDepth 20000 in
theorem kL_law_217 {C : QC} {x : QP} {M : QM} {st : List CV} {L : QL} {l0 l1 l2 l3 : Option CV} {z : Int} : Rr C mL_law (217, [l0, l1, l2, some (qi z)], st, M) x = Rr C mL_law (218, [l0, l1, l2, some (qi z)], qi z :: st, M) x := g_pl (show decode cL_law 217 = .ok (.iload_n 3, 1) by decide +kernel) rfl
set_option maxRecDepth 20000 in
theorem kL_law_218 {C : QC} {x : QP} {M : QM} {st : List CV} {L : QL} : Rr C mL_law (218, L, st, M) x = Rr C mL_law (219, L, qi 5 :: st, M) x := g_pl (show decode cL_law 218 = .ok (.iconst 5, 1) by decide +kernel) rfl
set_option maxRecDepth 20000 in
theorem kL_law_219 {C : QC} {x : QP} {M : QM} {st : List CV} {L : QL} {a b : Int} : Rr C mL_law (219, L, qi b :: qi a :: st, M) x = Rr C mL_law (220, L, qi (a + b) :: st, M) x := g_pl (show decode cL_law 219 = .ok (.iadd, 1) by decide +kernel) rfl
set_option maxRecDepth 20000 in
theorem kL_law_220 {C : QC} {x : QP} {M : QM} {st : List CV} {L : QL} {a : Nat} {j : Int} (hk : (q_kd M a).1 = 7) (h0 : 0 ≤ j) (h1 : j < ((q_kd M a).2 : Int)) : Rr C mL_law (220, L, qi j :: qr a :: st, M) x = Rr C mL_law (221, L, q_fv M a j.toNat :: st, M) x := g_iald7 (show decode cL_law 220 = .ok (.iaload, 1) by decide +kernel) hk h0 h1
set_option maxRecDepth 20000 in
theorem kL_law_221 {C : QC} {x : QP} {M : QM} {st : List CV} {L : QL} {l0 l1 l2 l3 : Option CV} {r : Option Nat} : Rr C mL_law (221, [some (.inr (.inr r)), l1, l2, l3], st, M) x = Rr C mL_law (222, [some (.inr (.inr r)), l1, l2, l3], .inr (.inr r) :: st, M) x := g_pl (show decode cL_law 221 = .ok (.aload_n 0, 1) by decide +kernel) rfl
set_option maxRecDepth 20000 in
theorem kL_law_222 {C : QC} {x : QP} {M : QM} {st : List CV} {L : QL} {l0 l1 l2 l3 : Option CV} {z : Int} : Rr C mL_law (222, [l0, l1, l2, some (qi z)], st, M) x = Rr C mL_law (223, [l0, l1, l2, some (qi z)], qi z :: st, M) x := g_pl (show decode cL_law 222 = .ok (.iload_n 3, 1) by decide +kernel) rfl
set_option maxRecDepth 20000 in
theorem kL_law_223 {C : QC} {x : QP} {M : QM} {st : List CV} {L : QL} : Rr C mL_law (223, L, st, M) x = Rr C mL_law (225, L, qi 6 :: st, M) x := g_pl (show decode cL_law 223 = .ok (.bipush 6, 2) by decide +kernel) rfl
set_option maxRecDepth 20000 in
theorem kL_law_225 {C : QC} {x : QP} {M : QM} {st : List CV} {L : QL} {a b : Int} : Rr C mL_law (225, L, qi b :: qi a :: st, M) x = Rr C mL_law (226, L, qi (a + b) :: st, M) x := g_pl (show decode cL_law 225 = .ok (.iadd, 1) by decide +kernel) rfl
set_option maxRecDepth 20000 in
theorem kL_law_226 {C : QC} {x : QP} {M : QM} {st : List CV} {L : QL} {a : Nat} {j : Int} (hk : (q_kd M a).1 = 7) (h0 : 0 ≤ j) (h1 : j < ((q_kd M a).2 : Int)) : Rr C mL_law (226, L, qi j :: qr a :: st, M) x = Rr C mL_law (227, L, q_fv M a j.toNat :: st, M) x := g_iald7 (show decode cL_law 226 = .ok (.iaload, 1) by decide +kernel) hk h0 h1
set_option maxRecDepth 20000 in
theorem kL_law_227 {C : QC} {x : QP} {M : QM} {L : QL} {rest : List CV} {a0 a1 a2 a3 a4 a5 : CV} {v : CV} {M1 : QM} {b : Nat} (hb : q_kd M b = (1, 13)) (hC : C iX13_feed [qr b, a0, a1, a2, a3, a4, a5] M (some v) M1) (hw : (rest.map q_wd).sum ≤ 8) (k : Rr C mL_law (230, L, v :: rest, M1) x) : Rr C mL_law (227, L, a5 :: a4 :: a3 :: a2 :: a1 :: a0 :: qr b :: rest, M) x := g_cv (ow := 16) (e := (0, 197, 13, [1353, 1354, 1355, 94])) (as := [a0, a1, a2, a3, a4, a5]) (show decode cL_law 227 = .ok (.invokevirtual 17, 3) by decide +kernel) rfl rfl rfl (Or.inl rfl) rfl hb hC hw k
set_option maxRecDepth 20000 in
theorem kL_law_230 {C : QC} {x : QP} {M : QM} {st : List CV} {L : QL} {a b : Int} (ha1 : -2147483648 ≤ a) (ha2 : a < 2147483648) (hb1 : -2147483648 ≤ b) (hb2 : b < 2147483648) : Rr C mL_law (230, L, qi b :: qi a :: st, M) x = (if a = b then Rr C mL_law (1036, L, st, M) x else Rr C mL_law (233, L, st, M) x) := (g_icmp (show decode cL_law 230 = .ok (.if_icmp .eq 806, 3) by decide +kernel) rfl ha1 ha2 hb1 hb2).trans (g_ite c_eq)
set_option maxRecDepth 20000 in
theorem kL_law_233 {C : QC} {x : QP} {M : QM} {st : List CV} {L : QL} : Rr C mL_law (233, L, st, M) x = Rr C mL_law (234, L, qi 0 :: st, M) x := g_pl (show decode cL_law 233 = .ok (.iconst 0, 1) by decide +kernel) rfl
set_option maxRecDepth 20000 in
theorem kL_law_234 {C : QC} {x : QP} {M : QM} {st : List CV} {L : QL} {z : Int} (hz : z = 0 ∨ z = 1) : Rr C mL_law (234, L, [qi z], M) x = x (some (qi z)) M := g_iret (show decode cL_law 234 = .ok (.ireturn, 1) by decide +kernel) (by rcases hz with rfl | rfl <;> rfl)
set_option maxRecDepth 20000 in
theorem kL_law_235 {C : QC} {x : QP} {M : QM} {st : List CV} {L : QL} {l0 l1 l2 l3 : Option CV} {r : Option Nat} : Rr C mL_law (235, [l0, some (.inr (.inr r)), l2, l3], st, M) x = Rr C mL_law (236, [l0, some (.inr (.inr r)), l2, l3], .inr (.inr r) :: st, M) x := g_pl (show decode cL_law 235 = .ok (.aload_n 1, 1) by decide +kernel) rfl
set_option maxRecDepth 20000 in
theorem kL_law_236 {C : QC} {x : QP} {M : QM} {st : List CV} {L : QL} {l0 l1 l2 l3 : Option CV} {r : Option Nat} : Rr C mL_law (236, [some (.inr (.inr r)), l1, l2, l3], st, M) x = Rr C mL_law (237, [some (.inr (.inr r)), l1, l2, l3], .inr (.inr r) :: st, M) x := g_pl (show decode cL_law 236 = .ok (.aload_n 0, 1) by decide +kernel) rfl
set_option maxRecDepth 20000 in
theorem kL_law_237 {C : QC} {x : QP} {M : QM} {st : List CV} {L : QL} {l0 l1 l2 l3 : Option CV} {z : Int} : Rr C mL_law (237, [l0, l1, l2, some (qi z)], st, M) x = Rr C mL_law (238, [l0, l1, l2, some (qi z)], qi z :: st, M) x := g_pl (show decode cL_law 237 = .ok (.iload_n 3, 1) by decide +kernel) rfl
set_option maxRecDepth 20000 in
theorem kL_law_238 {C : QC} {x : QP} {M : QM} {st : List CV} {L : QL} : Rr C mL_law (238, L, st, M) x = Rr C mL_law (239, L, qi 1 :: st, M) x := g_pl (show decode cL_law 238 = .ok (.iconst 1, 1) by decide +kernel) rfl
set_option maxRecDepth 20000 in
theorem kL_law_239 {C : QC} {x : QP} {M : QM} {st : List CV} {L : QL} {a b : Int} : Rr C mL_law (239, L, qi b :: qi a :: st, M) x = Rr C mL_law (240, L, qi (a + b) :: st, M) x := g_pl (show decode cL_law 239 = .ok (.iadd, 1) by decide +kernel) rfl
set_option maxRecDepth 20000 in
theorem kL_law_240 {C : QC} {x : QP} {M : QM} {st : List CV} {L : QL} {a : Nat} {j : Int} (hk : (q_kd M a).1 = 7) (h0 : 0 ≤ j) (h1 : j < ((q_kd M a).2 : Int)) : Rr C mL_law (240, L, qi j :: qr a :: st, M) x = Rr C mL_law (241, L, q_fv M a j.toNat :: st, M) x := g_iald7 (show decode cL_law 240 = .ok (.iaload, 1) by decide +kernel) hk h0 h1
set_option maxRecDepth 20000 in
theorem kL_law_241 {C : QC} {x : QP} {M : QM} {st : List CV} {L : QL} {l0 l1 l2 l3 : Option CV} {r : Option Nat} : Rr C mL_law (241, [some (.inr (.inr r)), l1, l2, l3], st, M) x = Rr C mL_law (242, [some (.inr (.inr r)), l1, l2, l3], .inr (.inr r) :: st, M) x := g_pl (show decode cL_law 241 = .ok (.aload_n 0, 1) by decide +kernel) rfl
set_option maxRecDepth 20000 in
theorem kL_law_242 {C : QC} {x : QP} {M : QM} {st : List CV} {L : QL} {l0 l1 l2 l3 : Option CV} {z : Int} : Rr C mL_law (242, [l0, l1, l2, some (qi z)], st, M) x = Rr C mL_law (243, [l0, l1, l2, some (qi z)], qi z :: st, M) x := g_pl (show decode cL_law 242 = .ok (.iload_n 3, 1) by decide +kernel) rfl
set_option maxRecDepth 20000 in
theorem kL_law_243 {C : QC} {x : QP} {M : QM} {st : List CV} {L : QL} : Rr C mL_law (243, L, st, M) x = Rr C mL_law (244, L, qi 2 :: st, M) x := g_pl (show decode cL_law 243 = .ok (.iconst 2, 1) by decide +kernel) rfl
set_option maxRecDepth 20000 in
theorem kL_law_244 {C : QC} {x : QP} {M : QM} {st : List CV} {L : QL} {a b : Int} : Rr C mL_law (244, L, qi b :: qi a :: st, M) x = Rr C mL_law (245, L, qi (a + b) :: st, M) x := g_pl (show decode cL_law 244 = .ok (.iadd, 1) by decide +kernel) rfl
set_option maxRecDepth 20000 in
theorem kL_law_245 {C : QC} {x : QP} {M : QM} {st : List CV} {L : QL} {a : Nat} {j : Int} (hk : (q_kd M a).1 = 7) (h0 : 0 ≤ j) (h1 : j < ((q_kd M a).2 : Int)) : Rr C mL_law (245, L, qi j :: qr a :: st, M) x = Rr C mL_law (246, L, q_fv M a j.toNat :: st, M) x := g_iald7 (show decode cL_law 245 = .ok (.iaload, 1) by decide +kernel) hk h0 h1
set_option maxRecDepth 20000 in
theorem kL_law_246 {C : QC} {x : QP} {M : QM} {st : List CV} {L : QL} {l0 l1 l2 l3 : Option CV} {r : Option Nat} : Rr C mL_law (246, [some (.inr (.inr r)), l1, l2, l3], st, M) x = Rr C mL_law (247, [some (.inr (.inr r)), l1, l2, l3], .inr (.inr r) :: st, M) x := g_pl (show decode cL_law 246 = .ok (.aload_n 0, 1) by decide +kernel) rfl
set_option maxRecDepth 20000 in
theorem kL_law_247 {C : QC} {x : QP} {M : QM} {st : List CV} {L : QL} {l0 l1 l2 l3 : Option CV} {z : Int} : Rr C mL_law (247, [l0, l1, l2, some (qi z)], st, M) x = Rr C mL_law (248, [l0, l1, l2, some (qi z)], qi z :: st, M) x := g_pl (show decode cL_law 247 = .ok (.iload_n 3, 1) by decide +kernel) rfl
set_option maxRecDepth 20000 in
theorem kL_law_248 {C : QC} {x : QP} {M : QM} {st : List CV} {L : QL} : Rr C mL_law (248, L, st, M) x = Rr C mL_law (249, L, qi 3 :: st, M) x := g_pl (show decode cL_law 248 = .ok (.iconst 3, 1) by decide +kernel) rfl
set_option maxRecDepth 20000 in
theorem kL_law_249 {C : QC} {x : QP} {M : QM} {st : List CV} {L : QL} {a b : Int} : Rr C mL_law (249, L, qi b :: qi a :: st, M) x = Rr C mL_law (250, L, qi (a + b) :: st, M) x := g_pl (show decode cL_law 249 = .ok (.iadd, 1) by decide +kernel) rfl
set_option maxRecDepth 20000 in
theorem kL_law_250 {C : QC} {x : QP} {M : QM} {st : List CV} {L : QL} {a : Nat} {j : Int} (hk : (q_kd M a).1 = 7) (h0 : 0 ≤ j) (h1 : j < ((q_kd M a).2 : Int)) : Rr C mL_law (250, L, qi j :: qr a :: st, M) x = Rr C mL_law (251, L, q_fv M a j.toNat :: st, M) x := g_iald7 (show decode cL_law 250 = .ok (.iaload, 1) by decide +kernel) hk h0 h1
set_option maxRecDepth 20000 in
theorem kL_law_251 {C : QC} {x : QP} {M : QM} {L : QL} {rest : List CV} {a0 a1 a2 : CV} {v : CV} {M1 : QM} {b : Nat} (hb : q_kd M b = (1, 12)) (hC : C iX12_found [qr b, a0, a1, a2] M (some v) M1) (hw : (rest.map q_wd).sum ≤ 8) (k : Rr C mL_law (254, L, v :: rest, M1) x) : Rr C mL_law (251, L, a2 :: a1 :: a0 :: qr b :: rest, M) x := g_cv (ow := 16) (e := (0, 19, 12, [437, 438, 439, 77])) (as := [a0, a1, a2]) (show decode cL_law 251 = .ok (.invokevirtual 18, 3) by decide +kernel) rfl rfl rfl (Or.inl rfl) rfl hb hC hw k
set_option maxRecDepth 20000 in
theorem kL_law_254 {C : QC} {x : QP} {M : QM} {st : List CV} {L : QL} {l0 l1 l2 l3 : Option CV} {r : Option Nat} : Rr C mL_law (254, [l0, l1, some (.inr (.inr r)), l3], st, M) x = Rr C mL_law (255, [l0, l1, some (.inr (.inr r)), l3], .inr (.inr r) :: st, M) x := g_pl (show decode cL_law 254 = .ok (.aload_n 2, 1) by decide +kernel) rfl
set_option maxRecDepth 20000 in
theorem kL_law_255 {C : QC} {x : QP} {M : QM} {st : List CV} {L : QL} {l0 l1 l2 l3 : Option CV} {r : Option Nat} : Rr C mL_law (255, [some (.inr (.inr r)), l1, l2, l3], st, M) x = Rr C mL_law (256, [some (.inr (.inr r)), l1, l2, l3], .inr (.inr r) :: st, M) x := g_pl (show decode cL_law 255 = .ok (.aload_n 0, 1) by decide +kernel) rfl
set_option maxRecDepth 20000 in
theorem kL_law_256 {C : QC} {x : QP} {M : QM} {st : List CV} {L : QL} {l0 l1 l2 l3 : Option CV} {z : Int} : Rr C mL_law (256, [l0, l1, l2, some (qi z)], st, M) x = Rr C mL_law (257, [l0, l1, l2, some (qi z)], qi z :: st, M) x := g_pl (show decode cL_law 256 = .ok (.iload_n 3, 1) by decide +kernel) rfl
set_option maxRecDepth 20000 in
theorem kL_law_257 {C : QC} {x : QP} {M : QM} {st : List CV} {L : QL} : Rr C mL_law (257, L, st, M) x = Rr C mL_law (258, L, qi 1 :: st, M) x := g_pl (show decode cL_law 257 = .ok (.iconst 1, 1) by decide +kernel) rfl
set_option maxRecDepth 20000 in
theorem kL_law_258 {C : QC} {x : QP} {M : QM} {st : List CV} {L : QL} {a b : Int} : Rr C mL_law (258, L, qi b :: qi a :: st, M) x = Rr C mL_law (259, L, qi (a + b) :: st, M) x := g_pl (show decode cL_law 258 = .ok (.iadd, 1) by decide +kernel) rfl
set_option maxRecDepth 20000 in
theorem kL_law_259 {C : QC} {x : QP} {M : QM} {st : List CV} {L : QL} {a : Nat} {j : Int} (hk : (q_kd M a).1 = 7) (h0 : 0 ≤ j) (h1 : j < ((q_kd M a).2 : Int)) : Rr C mL_law (259, L, qi j :: qr a :: st, M) x = Rr C mL_law (260, L, q_fv M a j.toNat :: st, M) x := g_iald7 (show decode cL_law 259 = .ok (.iaload, 1) by decide +kernel) hk h0 h1
set_option maxRecDepth 20000 in
theorem kL_law_260 {C : QC} {x : QP} {M : QM} {st : List CV} {L : QL} {l0 l1 l2 l3 : Option CV} {r : Option Nat} : Rr C mL_law (260, [some (.inr (.inr r)), l1, l2, l3], st, M) x = Rr C mL_law (261, [some (.inr (.inr r)), l1, l2, l3], .inr (.inr r) :: st, M) x := g_pl (show decode cL_law 260 = .ok (.aload_n 0, 1) by decide +kernel) rfl
set_option maxRecDepth 20000 in
theorem kL_law_261 {C : QC} {x : QP} {M : QM} {st : List CV} {L : QL} {l0 l1 l2 l3 : Option CV} {z : Int} : Rr C mL_law (261, [l0, l1, l2, some (qi z)], st, M) x = Rr C mL_law (262, [l0, l1, l2, some (qi z)], qi z :: st, M) x := g_pl (show decode cL_law 261 = .ok (.iload_n 3, 1) by decide +kernel) rfl
set_option maxRecDepth 20000 in
theorem kL_law_262 {C : QC} {x : QP} {M : QM} {st : List CV} {L : QL} : Rr C mL_law (262, L, st, M) x = Rr C mL_law (263, L, qi 2 :: st, M) x := g_pl (show decode cL_law 262 = .ok (.iconst 2, 1) by decide +kernel) rfl
set_option maxRecDepth 20000 in
theorem kL_law_263 {C : QC} {x : QP} {M : QM} {st : List CV} {L : QL} {a b : Int} : Rr C mL_law (263, L, qi b :: qi a :: st, M) x = Rr C mL_law (264, L, qi (a + b) :: st, M) x := g_pl (show decode cL_law 263 = .ok (.iadd, 1) by decide +kernel) rfl
set_option maxRecDepth 20000 in
theorem kL_law_264 {C : QC} {x : QP} {M : QM} {st : List CV} {L : QL} {a : Nat} {j : Int} (hk : (q_kd M a).1 = 7) (h0 : 0 ≤ j) (h1 : j < ((q_kd M a).2 : Int)) : Rr C mL_law (264, L, qi j :: qr a :: st, M) x = Rr C mL_law (265, L, q_fv M a j.toNat :: st, M) x := g_iald7 (show decode cL_law 264 = .ok (.iaload, 1) by decide +kernel) hk h0 h1
set_option maxRecDepth 20000 in
theorem kL_law_265 {C : QC} {x : QP} {M : QM} {st : List CV} {L : QL} {l0 l1 l2 l3 : Option CV} {r : Option Nat} : Rr C mL_law (265, [some (.inr (.inr r)), l1, l2, l3], st, M) x = Rr C mL_law (266, [some (.inr (.inr r)), l1, l2, l3], .inr (.inr r) :: st, M) x := g_pl (show decode cL_law 265 = .ok (.aload_n 0, 1) by decide +kernel) rfl
set_option maxRecDepth 20000 in
theorem kL_law_266 {C : QC} {x : QP} {M : QM} {st : List CV} {L : QL} {l0 l1 l2 l3 : Option CV} {z : Int} : Rr C mL_law (266, [l0, l1, l2, some (qi z)], st, M) x = Rr C mL_law (267, [l0, l1, l2, some (qi z)], qi z :: st, M) x := g_pl (show decode cL_law 266 = .ok (.iload_n 3, 1) by decide +kernel) rfl
set_option maxRecDepth 20000 in
theorem kL_law_267 {C : QC} {x : QP} {M : QM} {st : List CV} {L : QL} : Rr C mL_law (267, L, st, M) x = Rr C mL_law (268, L, qi 3 :: st, M) x := g_pl (show decode cL_law 267 = .ok (.iconst 3, 1) by decide +kernel) rfl
set_option maxRecDepth 20000 in
theorem kL_law_268 {C : QC} {x : QP} {M : QM} {st : List CV} {L : QL} {a b : Int} : Rr C mL_law (268, L, qi b :: qi a :: st, M) x = Rr C mL_law (269, L, qi (a + b) :: st, M) x := g_pl (show decode cL_law 268 = .ok (.iadd, 1) by decide +kernel) rfl
set_option maxRecDepth 20000 in
theorem kL_law_269 {C : QC} {x : QP} {M : QM} {st : List CV} {L : QL} {a : Nat} {j : Int} (hk : (q_kd M a).1 = 7) (h0 : 0 ≤ j) (h1 : j < ((q_kd M a).2 : Int)) : Rr C mL_law (269, L, qi j :: qr a :: st, M) x = Rr C mL_law (270, L, q_fv M a j.toNat :: st, M) x := g_iald7 (show decode cL_law 269 = .ok (.iaload, 1) by decide +kernel) hk h0 h1
set_option maxRecDepth 20000 in
theorem kL_law_270 {C : QC} {x : QP} {M : QM} {L : QL} {rest : List CV} {a0 a1 a2 : CV} {v : CV} {M1 : QM} {b : Nat} (hb : q_kd M b = (1, 13)) (hC : C iX13_found [qr b, a0, a1, a2] M (some v) M1) (hw : (rest.map q_wd).sum ≤ 8) (k : Rr C mL_law (273, L, v :: rest, M1) x) : Rr C mL_law (270, L, a2 :: a1 :: a0 :: qr b :: rest, M) x := g_cv (ow := 16) (e := (0, 199, 13, [1360, 1361, 1362, 94])) (as := [a0, a1, a2]) (show decode cL_law 270 = .ok (.invokevirtual 22, 3) by decide +kernel) rfl rfl rfl (Or.inl rfl) rfl hb hC hw k
set_option maxRecDepth 20000 in
theorem kL_law_273 {C : QC} {x : QP} {M : QM} {st : List CV} {L : QL} {a b : Int} (ha1 : -2147483648 ≤ a) (ha2 : a < 2147483648) (hb1 : -2147483648 ≤ b) (hb2 : b < 2147483648) : Rr C mL_law (273, L, qi b :: qi a :: st, M) x = (if a = b then Rr C mL_law (1036, L, st, M) x else Rr C mL_law (276, L, st, M) x) := (g_icmp (show decode cL_law 273 = .ok (.if_icmp .eq 763, 3) by decide +kernel) rfl ha1 ha2 hb1 hb2).trans (g_ite c_eq)
set_option maxRecDepth 20000 in
theorem kL_law_276 {C : QC} {x : QP} {M : QM} {st : List CV} {L : QL} : Rr C mL_law (276, L, st, M) x = Rr C mL_law (277, L, qi 0 :: st, M) x := g_pl (show decode cL_law 276 = .ok (.iconst 0, 1) by decide +kernel) rfl
set_option maxRecDepth 20000 in
theorem kL_law_277 {C : QC} {x : QP} {M : QM} {st : List CV} {L : QL} {z : Int} (hz : z = 0 ∨ z = 1) : Rr C mL_law (277, L, [qi z], M) x = x (some (qi z)) M := g_iret (show decode cL_law 277 = .ok (.ireturn, 1) by decide +kernel) (by rcases hz with rfl | rfl <;> rfl)
set_option maxRecDepth 20000 in
theorem kL_law_278 {C : QC} {x : QP} {M : QM} {st : List CV} {L : QL} {l0 l1 l2 l3 : Option CV} {r : Option Nat} : Rr C mL_law (278, [l0, some (.inr (.inr r)), l2, l3], st, M) x = Rr C mL_law (279, [l0, some (.inr (.inr r)), l2, l3], .inr (.inr r) :: st, M) x := g_pl (show decode cL_law 278 = .ok (.aload_n 1, 1) by decide +kernel) rfl
set_option maxRecDepth 20000 in
theorem kL_law_279 {C : QC} {x : QP} {M : QM} {st : List CV} {L : QL} {l0 l1 l2 l3 : Option CV} {r : Option Nat} : Rr C mL_law (279, [some (.inr (.inr r)), l1, l2, l3], st, M) x = Rr C mL_law (280, [some (.inr (.inr r)), l1, l2, l3], .inr (.inr r) :: st, M) x := g_pl (show decode cL_law 279 = .ok (.aload_n 0, 1) by decide +kernel) rfl
set_option maxRecDepth 20000 in
theorem kL_law_280 {C : QC} {x : QP} {M : QM} {st : List CV} {L : QL} {l0 l1 l2 l3 : Option CV} {z : Int} : Rr C mL_law (280, [l0, l1, l2, some (qi z)], st, M) x = Rr C mL_law (281, [l0, l1, l2, some (qi z)], qi z :: st, M) x := g_pl (show decode cL_law 280 = .ok (.iload_n 3, 1) by decide +kernel) rfl
set_option maxRecDepth 20000 in
theorem kL_law_281 {C : QC} {x : QP} {M : QM} {st : List CV} {L : QL} : Rr C mL_law (281, L, st, M) x = Rr C mL_law (282, L, qi 1 :: st, M) x := g_pl (show decode cL_law 281 = .ok (.iconst 1, 1) by decide +kernel) rfl
set_option maxRecDepth 20000 in
theorem kL_law_282 {C : QC} {x : QP} {M : QM} {st : List CV} {L : QL} {a b : Int} : Rr C mL_law (282, L, qi b :: qi a :: st, M) x = Rr C mL_law (283, L, qi (a + b) :: st, M) x := g_pl (show decode cL_law 282 = .ok (.iadd, 1) by decide +kernel) rfl
set_option maxRecDepth 20000 in
theorem kL_law_283 {C : QC} {x : QP} {M : QM} {st : List CV} {L : QL} {a : Nat} {j : Int} (hk : (q_kd M a).1 = 7) (h0 : 0 ≤ j) (h1 : j < ((q_kd M a).2 : Int)) : Rr C mL_law (283, L, qi j :: qr a :: st, M) x = Rr C mL_law (284, L, q_fv M a j.toNat :: st, M) x := g_iald7 (show decode cL_law 283 = .ok (.iaload, 1) by decide +kernel) hk h0 h1
set_option maxRecDepth 20000 in
theorem kL_law_284 {C : QC} {x : QP} {M : QM} {st : List CV} {L : QL} {l0 l1 l2 l3 : Option CV} {r : Option Nat} : Rr C mL_law (284, [some (.inr (.inr r)), l1, l2, l3], st, M) x = Rr C mL_law (285, [some (.inr (.inr r)), l1, l2, l3], .inr (.inr r) :: st, M) x := g_pl (show decode cL_law 284 = .ok (.aload_n 0, 1) by decide +kernel) rfl
set_option maxRecDepth 20000 in
theorem kL_law_285 {C : QC} {x : QP} {M : QM} {st : List CV} {L : QL} {l0 l1 l2 l3 : Option CV} {z : Int} : Rr C mL_law (285, [l0, l1, l2, some (qi z)], st, M) x = Rr C mL_law (286, [l0, l1, l2, some (qi z)], qi z :: st, M) x := g_pl (show decode cL_law 285 = .ok (.iload_n 3, 1) by decide +kernel) rfl
set_option maxRecDepth 20000 in
theorem kL_law_286 {C : QC} {x : QP} {M : QM} {st : List CV} {L : QL} : Rr C mL_law (286, L, st, M) x = Rr C mL_law (287, L, qi 2 :: st, M) x := g_pl (show decode cL_law 286 = .ok (.iconst 2, 1) by decide +kernel) rfl
set_option maxRecDepth 20000 in
theorem kL_law_287 {C : QC} {x : QP} {M : QM} {st : List CV} {L : QL} {a b : Int} : Rr C mL_law (287, L, qi b :: qi a :: st, M) x = Rr C mL_law (288, L, qi (a + b) :: st, M) x := g_pl (show decode cL_law 287 = .ok (.iadd, 1) by decide +kernel) rfl
set_option maxRecDepth 20000 in
theorem kL_law_288 {C : QC} {x : QP} {M : QM} {st : List CV} {L : QL} {a : Nat} {j : Int} (hk : (q_kd M a).1 = 7) (h0 : 0 ≤ j) (h1 : j < ((q_kd M a).2 : Int)) : Rr C mL_law (288, L, qi j :: qr a :: st, M) x = Rr C mL_law (289, L, q_fv M a j.toNat :: st, M) x := g_iald7 (show decode cL_law 288 = .ok (.iaload, 1) by decide +kernel) hk h0 h1
set_option maxRecDepth 20000 in
theorem kL_law_289 {C : QC} {x : QP} {M : QM} {L : QL} {rest : List CV} {a0 a1 : CV} {v : CV} {M1 : QM} {b : Nat} (hb : q_kd M b = (1, 12)) (hC : C iX12_rename [qr b, a0, a1] M (some v) M1) (hw : (rest.map q_wd).sum ≤ 8) (k : Rr C mL_law (292, L, v :: rest, M1) x) : Rr C mL_law (289, L, a1 :: a0 :: qr b :: rest, M) x := g_cv (ow := 16) (e := (0, 79, 12, [741, 742, 743, 77])) (as := [a0, a1]) (show decode cL_law 289 = .ok (.invokevirtual 23, 3) by decide +kernel) rfl rfl rfl (Or.inl rfl) rfl hb hC hw k
set_option maxRecDepth 20000 in
theorem kL_law_292 {C : QC} {x : QP} {M : QM} {st : List CV} {L : QL} {l0 l1 l2 l3 : Option CV} {r : Option Nat} : Rr C mL_law (292, [l0, l1, some (.inr (.inr r)), l3], st, M) x = Rr C mL_law (293, [l0, l1, some (.inr (.inr r)), l3], .inr (.inr r) :: st, M) x := g_pl (show decode cL_law 292 = .ok (.aload_n 2, 1) by decide +kernel) rfl
set_option maxRecDepth 20000 in
theorem kL_law_293 {C : QC} {x : QP} {M : QM} {st : List CV} {L : QL} {l0 l1 l2 l3 : Option CV} {r : Option Nat} : Rr C mL_law (293, [some (.inr (.inr r)), l1, l2, l3], st, M) x = Rr C mL_law (294, [some (.inr (.inr r)), l1, l2, l3], .inr (.inr r) :: st, M) x := g_pl (show decode cL_law 293 = .ok (.aload_n 0, 1) by decide +kernel) rfl
set_option maxRecDepth 20000 in
theorem kL_law_294 {C : QC} {x : QP} {M : QM} {st : List CV} {L : QL} {l0 l1 l2 l3 : Option CV} {z : Int} : Rr C mL_law (294, [l0, l1, l2, some (qi z)], st, M) x = Rr C mL_law (295, [l0, l1, l2, some (qi z)], qi z :: st, M) x := g_pl (show decode cL_law 294 = .ok (.iload_n 3, 1) by decide +kernel) rfl
set_option maxRecDepth 20000 in
theorem kL_law_295 {C : QC} {x : QP} {M : QM} {st : List CV} {L : QL} : Rr C mL_law (295, L, st, M) x = Rr C mL_law (296, L, qi 1 :: st, M) x := g_pl (show decode cL_law 295 = .ok (.iconst 1, 1) by decide +kernel) rfl
set_option maxRecDepth 20000 in
theorem kL_law_296 {C : QC} {x : QP} {M : QM} {st : List CV} {L : QL} {a b : Int} : Rr C mL_law (296, L, qi b :: qi a :: st, M) x = Rr C mL_law (297, L, qi (a + b) :: st, M) x := g_pl (show decode cL_law 296 = .ok (.iadd, 1) by decide +kernel) rfl
set_option maxRecDepth 20000 in
theorem kL_law_297 {C : QC} {x : QP} {M : QM} {st : List CV} {L : QL} {a : Nat} {j : Int} (hk : (q_kd M a).1 = 7) (h0 : 0 ≤ j) (h1 : j < ((q_kd M a).2 : Int)) : Rr C mL_law (297, L, qi j :: qr a :: st, M) x = Rr C mL_law (298, L, q_fv M a j.toNat :: st, M) x := g_iald7 (show decode cL_law 297 = .ok (.iaload, 1) by decide +kernel) hk h0 h1
set_option maxRecDepth 20000 in
theorem kL_law_298 {C : QC} {x : QP} {M : QM} {st : List CV} {L : QL} {l0 l1 l2 l3 : Option CV} {r : Option Nat} : Rr C mL_law (298, [some (.inr (.inr r)), l1, l2, l3], st, M) x = Rr C mL_law (299, [some (.inr (.inr r)), l1, l2, l3], .inr (.inr r) :: st, M) x := g_pl (show decode cL_law 298 = .ok (.aload_n 0, 1) by decide +kernel) rfl
set_option maxRecDepth 20000 in
theorem kL_law_299 {C : QC} {x : QP} {M : QM} {st : List CV} {L : QL} {l0 l1 l2 l3 : Option CV} {z : Int} : Rr C mL_law (299, [l0, l1, l2, some (qi z)], st, M) x = Rr C mL_law (300, [l0, l1, l2, some (qi z)], qi z :: st, M) x := g_pl (show decode cL_law 299 = .ok (.iload_n 3, 1) by decide +kernel) rfl
set_option maxRecDepth 20000 in
theorem kL_law_300 {C : QC} {x : QP} {M : QM} {st : List CV} {L : QL} : Rr C mL_law (300, L, st, M) x = Rr C mL_law (301, L, qi 2 :: st, M) x := g_pl (show decode cL_law 300 = .ok (.iconst 2, 1) by decide +kernel) rfl
set_option maxRecDepth 20000 in
theorem kL_law_301 {C : QC} {x : QP} {M : QM} {st : List CV} {L : QL} {a b : Int} : Rr C mL_law (301, L, qi b :: qi a :: st, M) x = Rr C mL_law (302, L, qi (a + b) :: st, M) x := g_pl (show decode cL_law 301 = .ok (.iadd, 1) by decide +kernel) rfl
set_option maxRecDepth 20000 in
theorem kL_law_302 {C : QC} {x : QP} {M : QM} {st : List CV} {L : QL} {a : Nat} {j : Int} (hk : (q_kd M a).1 = 7) (h0 : 0 ≤ j) (h1 : j < ((q_kd M a).2 : Int)) : Rr C mL_law (302, L, qi j :: qr a :: st, M) x = Rr C mL_law (303, L, q_fv M a j.toNat :: st, M) x := g_iald7 (show decode cL_law 302 = .ok (.iaload, 1) by decide +kernel) hk h0 h1
set_option maxRecDepth 20000 in
theorem kL_law_303 {C : QC} {x : QP} {M : QM} {L : QL} {rest : List CV} {a0 a1 : CV} {v : CV} {M1 : QM} {b : Nat} (hb : q_kd M b = (1, 13)) (hC : C iX13_rename [qr b, a0, a1] M (some v) M1) (hw : (rest.map q_wd).sum ≤ 8) (k : Rr C mL_law (306, L, v :: rest, M1) x) : Rr C mL_law (303, L, a1 :: a0 :: qr b :: rest, M) x := g_cv (ow := 16) (e := (0, 218, 13, [1435, 1436, 1437, 94])) (as := [a0, a1]) (show decode cL_law 303 = .ok (.invokevirtual 27, 3) by decide +kernel) rfl rfl rfl (Or.inl rfl) rfl hb hC hw k
set_option maxRecDepth 20000 in
theorem kL_law_306 {C : QC} {x : QP} {M : QM} {st : List CV} {L : QL} {a b : Int} (ha1 : -2147483648 ≤ a) (ha2 : a < 2147483648) (hb1 : -2147483648 ≤ b) (hb2 : b < 2147483648) : Rr C mL_law (306, L, qi b :: qi a :: st, M) x = (if a = b then Rr C mL_law (1036, L, st, M) x else Rr C mL_law (309, L, st, M) x) := (g_icmp (show decode cL_law 306 = .ok (.if_icmp .eq 730, 3) by decide +kernel) rfl ha1 ha2 hb1 hb2).trans (g_ite c_eq)
set_option maxRecDepth 20000 in
theorem kL_law_309 {C : QC} {x : QP} {M : QM} {st : List CV} {L : QL} : Rr C mL_law (309, L, st, M) x = Rr C mL_law (310, L, qi 0 :: st, M) x := g_pl (show decode cL_law 309 = .ok (.iconst 0, 1) by decide +kernel) rfl
set_option maxRecDepth 20000 in
theorem kL_law_310 {C : QC} {x : QP} {M : QM} {st : List CV} {L : QL} {z : Int} (hz : z = 0 ∨ z = 1) : Rr C mL_law (310, L, [qi z], M) x = x (some (qi z)) M := g_iret (show decode cL_law 310 = .ok (.ireturn, 1) by decide +kernel) (by rcases hz with rfl | rfl <;> rfl)
set_option maxRecDepth 20000 in
theorem kL_law_311 {C : QC} {x : QP} {M : QM} {st : List CV} {L : QL} {l0 l1 l2 l3 : Option CV} {r : Option Nat} : Rr C mL_law (311, [l0, some (.inr (.inr r)), l2, l3], st, M) x = Rr C mL_law (312, [l0, some (.inr (.inr r)), l2, l3], .inr (.inr r) :: st, M) x := g_pl (show decode cL_law 311 = .ok (.aload_n 1, 1) by decide +kernel) rfl
set_option maxRecDepth 20000 in
theorem kL_law_312 {C : QC} {x : QP} {M : QM} {st : List CV} {L : QL} {l0 l1 l2 l3 : Option CV} {r : Option Nat} : Rr C mL_law (312, [some (.inr (.inr r)), l1, l2, l3], st, M) x = Rr C mL_law (313, [some (.inr (.inr r)), l1, l2, l3], .inr (.inr r) :: st, M) x := g_pl (show decode cL_law 312 = .ok (.aload_n 0, 1) by decide +kernel) rfl
set_option maxRecDepth 20000 in
theorem kL_law_313 {C : QC} {x : QP} {M : QM} {st : List CV} {L : QL} {l0 l1 l2 l3 : Option CV} {z : Int} : Rr C mL_law (313, [l0, l1, l2, some (qi z)], st, M) x = Rr C mL_law (314, [l0, l1, l2, some (qi z)], qi z :: st, M) x := g_pl (show decode cL_law 313 = .ok (.iload_n 3, 1) by decide +kernel) rfl
set_option maxRecDepth 20000 in
theorem kL_law_314 {C : QC} {x : QP} {M : QM} {st : List CV} {L : QL} : Rr C mL_law (314, L, st, M) x = Rr C mL_law (315, L, qi 1 :: st, M) x := g_pl (show decode cL_law 314 = .ok (.iconst 1, 1) by decide +kernel) rfl
set_option maxRecDepth 20000 in
theorem kL_law_315 {C : QC} {x : QP} {M : QM} {st : List CV} {L : QL} {a b : Int} : Rr C mL_law (315, L, qi b :: qi a :: st, M) x = Rr C mL_law (316, L, qi (a + b) :: st, M) x := g_pl (show decode cL_law 315 = .ok (.iadd, 1) by decide +kernel) rfl
set_option maxRecDepth 20000 in
theorem kL_law_316 {C : QC} {x : QP} {M : QM} {st : List CV} {L : QL} {a : Nat} {j : Int} (hk : (q_kd M a).1 = 7) (h0 : 0 ≤ j) (h1 : j < ((q_kd M a).2 : Int)) : Rr C mL_law (316, L, qi j :: qr a :: st, M) x = Rr C mL_law (317, L, q_fv M a j.toNat :: st, M) x := g_iald7 (show decode cL_law 316 = .ok (.iaload, 1) by decide +kernel) hk h0 h1
set_option maxRecDepth 20000 in
theorem kL_law_317 {C : QC} {x : QP} {M : QM} {st : List CV} {L : QL} {l0 l1 l2 l3 : Option CV} {r : Option Nat} : Rr C mL_law (317, [some (.inr (.inr r)), l1, l2, l3], st, M) x = Rr C mL_law (318, [some (.inr (.inr r)), l1, l2, l3], .inr (.inr r) :: st, M) x := g_pl (show decode cL_law 317 = .ok (.aload_n 0, 1) by decide +kernel) rfl
set_option maxRecDepth 20000 in
theorem kL_law_318 {C : QC} {x : QP} {M : QM} {st : List CV} {L : QL} {l0 l1 l2 l3 : Option CV} {z : Int} : Rr C mL_law (318, [l0, l1, l2, some (qi z)], st, M) x = Rr C mL_law (319, [l0, l1, l2, some (qi z)], qi z :: st, M) x := g_pl (show decode cL_law 318 = .ok (.iload_n 3, 1) by decide +kernel) rfl
set_option maxRecDepth 20000 in
theorem kL_law_319 {C : QC} {x : QP} {M : QM} {st : List CV} {L : QL} : Rr C mL_law (319, L, st, M) x = Rr C mL_law (320, L, qi 2 :: st, M) x := g_pl (show decode cL_law 319 = .ok (.iconst 2, 1) by decide +kernel) rfl
set_option maxRecDepth 20000 in
theorem kL_law_320 {C : QC} {x : QP} {M : QM} {st : List CV} {L : QL} {a b : Int} : Rr C mL_law (320, L, qi b :: qi a :: st, M) x = Rr C mL_law (321, L, qi (a + b) :: st, M) x := g_pl (show decode cL_law 320 = .ok (.iadd, 1) by decide +kernel) rfl
set_option maxRecDepth 20000 in
theorem kL_law_321 {C : QC} {x : QP} {M : QM} {st : List CV} {L : QL} {a : Nat} {j : Int} (hk : (q_kd M a).1 = 7) (h0 : 0 ≤ j) (h1 : j < ((q_kd M a).2 : Int)) : Rr C mL_law (321, L, qi j :: qr a :: st, M) x = Rr C mL_law (322, L, q_fv M a j.toNat :: st, M) x := g_iald7 (show decode cL_law 321 = .ok (.iaload, 1) by decide +kernel) hk h0 h1
set_option maxRecDepth 20000 in
theorem kL_law_322 {C : QC} {x : QP} {M : QM} {st : List CV} {L : QL} {l0 l1 l2 l3 : Option CV} {r : Option Nat} : Rr C mL_law (322, [some (.inr (.inr r)), l1, l2, l3], st, M) x = Rr C mL_law (323, [some (.inr (.inr r)), l1, l2, l3], .inr (.inr r) :: st, M) x := g_pl (show decode cL_law 322 = .ok (.aload_n 0, 1) by decide +kernel) rfl
set_option maxRecDepth 20000 in
theorem kL_law_323 {C : QC} {x : QP} {M : QM} {st : List CV} {L : QL} {l0 l1 l2 l3 : Option CV} {z : Int} : Rr C mL_law (323, [l0, l1, l2, some (qi z)], st, M) x = Rr C mL_law (324, [l0, l1, l2, some (qi z)], qi z :: st, M) x := g_pl (show decode cL_law 323 = .ok (.iload_n 3, 1) by decide +kernel) rfl
set_option maxRecDepth 20000 in
theorem kL_law_324 {C : QC} {x : QP} {M : QM} {st : List CV} {L : QL} : Rr C mL_law (324, L, st, M) x = Rr C mL_law (325, L, qi 3 :: st, M) x := g_pl (show decode cL_law 324 = .ok (.iconst 3, 1) by decide +kernel) rfl
set_option maxRecDepth 20000 in
theorem kL_law_325 {C : QC} {x : QP} {M : QM} {st : List CV} {L : QL} {a b : Int} : Rr C mL_law (325, L, qi b :: qi a :: st, M) x = Rr C mL_law (326, L, qi (a + b) :: st, M) x := g_pl (show decode cL_law 325 = .ok (.iadd, 1) by decide +kernel) rfl
set_option maxRecDepth 20000 in
theorem kL_law_326 {C : QC} {x : QP} {M : QM} {st : List CV} {L : QL} {a : Nat} {j : Int} (hk : (q_kd M a).1 = 7) (h0 : 0 ≤ j) (h1 : j < ((q_kd M a).2 : Int)) : Rr C mL_law (326, L, qi j :: qr a :: st, M) x = Rr C mL_law (327, L, q_fv M a j.toNat :: st, M) x := g_iald7 (show decode cL_law 326 = .ok (.iaload, 1) by decide +kernel) hk h0 h1
set_option maxRecDepth 20000 in
theorem kL_law_327 {C : QC} {x : QP} {M : QM} {L : QL} {rest : List CV} {a0 a1 a2 : CV} {v : CV} {M1 : QM} {b : Nat} (hb : q_kd M b = (1, 12)) (hC : C iX12_move [qr b, a0, a1, a2] M (some v) M1) (hw : (rest.map q_wd).sum ≤ 8) (k : Rr C mL_law (330, L, v :: rest, M1) x) : Rr C mL_law (327, L, a2 :: a1 :: a0 :: qr b :: rest, M) x := g_cv (ow := 16) (e := (0, 80, 12, [745, 746, 747, 77])) (as := [a0, a1, a2]) (show decode cL_law 327 = .ok (.invokevirtual 28, 3) by decide +kernel) rfl rfl rfl (Or.inl rfl) rfl hb hC hw k
set_option maxRecDepth 20000 in
theorem kL_law_330 {C : QC} {x : QP} {M : QM} {st : List CV} {L : QL} {l0 l1 l2 l3 : Option CV} {r : Option Nat} : Rr C mL_law (330, [l0, l1, some (.inr (.inr r)), l3], st, M) x = Rr C mL_law (331, [l0, l1, some (.inr (.inr r)), l3], .inr (.inr r) :: st, M) x := g_pl (show decode cL_law 330 = .ok (.aload_n 2, 1) by decide +kernel) rfl
set_option maxRecDepth 20000 in
theorem kL_law_331 {C : QC} {x : QP} {M : QM} {st : List CV} {L : QL} {l0 l1 l2 l3 : Option CV} {r : Option Nat} : Rr C mL_law (331, [some (.inr (.inr r)), l1, l2, l3], st, M) x = Rr C mL_law (332, [some (.inr (.inr r)), l1, l2, l3], .inr (.inr r) :: st, M) x := g_pl (show decode cL_law 331 = .ok (.aload_n 0, 1) by decide +kernel) rfl
set_option maxRecDepth 20000 in
theorem kL_law_332 {C : QC} {x : QP} {M : QM} {st : List CV} {L : QL} {l0 l1 l2 l3 : Option CV} {z : Int} : Rr C mL_law (332, [l0, l1, l2, some (qi z)], st, M) x = Rr C mL_law (333, [l0, l1, l2, some (qi z)], qi z :: st, M) x := g_pl (show decode cL_law 332 = .ok (.iload_n 3, 1) by decide +kernel) rfl
set_option maxRecDepth 20000 in
theorem kL_law_333 {C : QC} {x : QP} {M : QM} {st : List CV} {L : QL} : Rr C mL_law (333, L, st, M) x = Rr C mL_law (334, L, qi 1 :: st, M) x := g_pl (show decode cL_law 333 = .ok (.iconst 1, 1) by decide +kernel) rfl
set_option maxRecDepth 20000 in
theorem kL_law_334 {C : QC} {x : QP} {M : QM} {st : List CV} {L : QL} {a b : Int} : Rr C mL_law (334, L, qi b :: qi a :: st, M) x = Rr C mL_law (335, L, qi (a + b) :: st, M) x := g_pl (show decode cL_law 334 = .ok (.iadd, 1) by decide +kernel) rfl
set_option maxRecDepth 20000 in
theorem kL_law_335 {C : QC} {x : QP} {M : QM} {st : List CV} {L : QL} {a : Nat} {j : Int} (hk : (q_kd M a).1 = 7) (h0 : 0 ≤ j) (h1 : j < ((q_kd M a).2 : Int)) : Rr C mL_law (335, L, qi j :: qr a :: st, M) x = Rr C mL_law (336, L, q_fv M a j.toNat :: st, M) x := g_iald7 (show decode cL_law 335 = .ok (.iaload, 1) by decide +kernel) hk h0 h1
set_option maxRecDepth 20000 in
theorem kL_law_336 {C : QC} {x : QP} {M : QM} {st : List CV} {L : QL} {l0 l1 l2 l3 : Option CV} {r : Option Nat} : Rr C mL_law (336, [some (.inr (.inr r)), l1, l2, l3], st, M) x = Rr C mL_law (337, [some (.inr (.inr r)), l1, l2, l3], .inr (.inr r) :: st, M) x := g_pl (show decode cL_law 336 = .ok (.aload_n 0, 1) by decide +kernel) rfl
set_option maxRecDepth 20000 in
theorem kL_law_337 {C : QC} {x : QP} {M : QM} {st : List CV} {L : QL} {l0 l1 l2 l3 : Option CV} {z : Int} : Rr C mL_law (337, [l0, l1, l2, some (qi z)], st, M) x = Rr C mL_law (338, [l0, l1, l2, some (qi z)], qi z :: st, M) x := g_pl (show decode cL_law 337 = .ok (.iload_n 3, 1) by decide +kernel) rfl
set_option maxRecDepth 20000 in
theorem kL_law_338 {C : QC} {x : QP} {M : QM} {st : List CV} {L : QL} : Rr C mL_law (338, L, st, M) x = Rr C mL_law (339, L, qi 2 :: st, M) x := g_pl (show decode cL_law 338 = .ok (.iconst 2, 1) by decide +kernel) rfl
set_option maxRecDepth 20000 in
theorem kL_law_339 {C : QC} {x : QP} {M : QM} {st : List CV} {L : QL} {a b : Int} : Rr C mL_law (339, L, qi b :: qi a :: st, M) x = Rr C mL_law (340, L, qi (a + b) :: st, M) x := g_pl (show decode cL_law 339 = .ok (.iadd, 1) by decide +kernel) rfl
set_option maxRecDepth 20000 in
theorem kL_law_340 {C : QC} {x : QP} {M : QM} {st : List CV} {L : QL} {a : Nat} {j : Int} (hk : (q_kd M a).1 = 7) (h0 : 0 ≤ j) (h1 : j < ((q_kd M a).2 : Int)) : Rr C mL_law (340, L, qi j :: qr a :: st, M) x = Rr C mL_law (341, L, q_fv M a j.toNat :: st, M) x := g_iald7 (show decode cL_law 340 = .ok (.iaload, 1) by decide +kernel) hk h0 h1
set_option maxRecDepth 20000 in
theorem kL_law_341 {C : QC} {x : QP} {M : QM} {st : List CV} {L : QL} {l0 l1 l2 l3 : Option CV} {r : Option Nat} : Rr C mL_law (341, [some (.inr (.inr r)), l1, l2, l3], st, M) x = Rr C mL_law (342, [some (.inr (.inr r)), l1, l2, l3], .inr (.inr r) :: st, M) x := g_pl (show decode cL_law 341 = .ok (.aload_n 0, 1) by decide +kernel) rfl
set_option maxRecDepth 20000 in
theorem kL_law_342 {C : QC} {x : QP} {M : QM} {st : List CV} {L : QL} {l0 l1 l2 l3 : Option CV} {z : Int} : Rr C mL_law (342, [l0, l1, l2, some (qi z)], st, M) x = Rr C mL_law (343, [l0, l1, l2, some (qi z)], qi z :: st, M) x := g_pl (show decode cL_law 342 = .ok (.iload_n 3, 1) by decide +kernel) rfl
set_option maxRecDepth 20000 in
theorem kL_law_343 {C : QC} {x : QP} {M : QM} {st : List CV} {L : QL} : Rr C mL_law (343, L, st, M) x = Rr C mL_law (344, L, qi 3 :: st, M) x := g_pl (show decode cL_law 343 = .ok (.iconst 3, 1) by decide +kernel) rfl
set_option maxRecDepth 20000 in
theorem kL_law_344 {C : QC} {x : QP} {M : QM} {st : List CV} {L : QL} {a b : Int} : Rr C mL_law (344, L, qi b :: qi a :: st, M) x = Rr C mL_law (345, L, qi (a + b) :: st, M) x := g_pl (show decode cL_law 344 = .ok (.iadd, 1) by decide +kernel) rfl
set_option maxRecDepth 20000 in
theorem kL_law_345 {C : QC} {x : QP} {M : QM} {st : List CV} {L : QL} {a : Nat} {j : Int} (hk : (q_kd M a).1 = 7) (h0 : 0 ≤ j) (h1 : j < ((q_kd M a).2 : Int)) : Rr C mL_law (345, L, qi j :: qr a :: st, M) x = Rr C mL_law (346, L, q_fv M a j.toNat :: st, M) x := g_iald7 (show decode cL_law 345 = .ok (.iaload, 1) by decide +kernel) hk h0 h1
set_option maxRecDepth 20000 in
theorem kL_law_346 {C : QC} {x : QP} {M : QM} {L : QL} {rest : List CV} {a0 a1 a2 : CV} {v : CV} {M1 : QM} {b : Nat} (hb : q_kd M b = (1, 13)) (hC : C iX13_move [qr b, a0, a1, a2] M (some v) M1) (hw : (rest.map q_wd).sum ≤ 8) (k : Rr C mL_law (349, L, v :: rest, M1) x) : Rr C mL_law (346, L, a2 :: a1 :: a0 :: qr b :: rest, M) x := g_cv (ow := 16) (e := (0, 224, 13, [1459, 1460, 1461, 94])) (as := [a0, a1, a2]) (show decode cL_law 346 = .ok (.invokevirtual 31, 3) by decide +kernel) rfl rfl rfl (Or.inl rfl) rfl hb hC hw k
set_option maxRecDepth 20000 in
theorem kL_law_349 {C : QC} {x : QP} {M : QM} {st : List CV} {L : QL} {a b : Int} (ha1 : -2147483648 ≤ a) (ha2 : a < 2147483648) (hb1 : -2147483648 ≤ b) (hb2 : b < 2147483648) : Rr C mL_law (349, L, qi b :: qi a :: st, M) x = (if a = b then Rr C mL_law (1036, L, st, M) x else Rr C mL_law (352, L, st, M) x) := (g_icmp (show decode cL_law 349 = .ok (.if_icmp .eq 687, 3) by decide +kernel) rfl ha1 ha2 hb1 hb2).trans (g_ite c_eq)
set_option maxRecDepth 20000 in
theorem kL_law_352 {C : QC} {x : QP} {M : QM} {st : List CV} {L : QL} : Rr C mL_law (352, L, st, M) x = Rr C mL_law (353, L, qi 0 :: st, M) x := g_pl (show decode cL_law 352 = .ok (.iconst 0, 1) by decide +kernel) rfl
set_option maxRecDepth 20000 in
theorem kL_law_353 {C : QC} {x : QP} {M : QM} {st : List CV} {L : QL} {z : Int} (hz : z = 0 ∨ z = 1) : Rr C mL_law (353, L, [qi z], M) x = x (some (qi z)) M := g_iret (show decode cL_law 353 = .ok (.ireturn, 1) by decide +kernel) (by rcases hz with rfl | rfl <;> rfl)
set_option maxRecDepth 20000 in
theorem kL_law_354 {C : QC} {x : QP} {M : QM} {st : List CV} {L : QL} {l0 l1 l2 l3 : Option CV} {r : Option Nat} : Rr C mL_law (354, [l0, some (.inr (.inr r)), l2, l3], st, M) x = Rr C mL_law (355, [l0, some (.inr (.inr r)), l2, l3], .inr (.inr r) :: st, M) x := g_pl (show decode cL_law 354 = .ok (.aload_n 1, 1) by decide +kernel) rfl
set_option maxRecDepth 20000 in
theorem kL_law_355 {C : QC} {x : QP} {M : QM} {st : List CV} {L : QL} {l0 l1 l2 l3 : Option CV} {r : Option Nat} : Rr C mL_law (355, [some (.inr (.inr r)), l1, l2, l3], st, M) x = Rr C mL_law (356, [some (.inr (.inr r)), l1, l2, l3], .inr (.inr r) :: st, M) x := g_pl (show decode cL_law 355 = .ok (.aload_n 0, 1) by decide +kernel) rfl
set_option maxRecDepth 20000 in
theorem kL_law_356 {C : QC} {x : QP} {M : QM} {st : List CV} {L : QL} {l0 l1 l2 l3 : Option CV} {z : Int} : Rr C mL_law (356, [l0, l1, l2, some (qi z)], st, M) x = Rr C mL_law (357, [l0, l1, l2, some (qi z)], qi z :: st, M) x := g_pl (show decode cL_law 356 = .ok (.iload_n 3, 1) by decide +kernel) rfl
set_option maxRecDepth 20000 in
theorem kL_law_357 {C : QC} {x : QP} {M : QM} {st : List CV} {L : QL} : Rr C mL_law (357, L, st, M) x = Rr C mL_law (358, L, qi 1 :: st, M) x := g_pl (show decode cL_law 357 = .ok (.iconst 1, 1) by decide +kernel) rfl
set_option maxRecDepth 20000 in
theorem kL_law_358 {C : QC} {x : QP} {M : QM} {st : List CV} {L : QL} {a b : Int} : Rr C mL_law (358, L, qi b :: qi a :: st, M) x = Rr C mL_law (359, L, qi (a + b) :: st, M) x := g_pl (show decode cL_law 358 = .ok (.iadd, 1) by decide +kernel) rfl
set_option maxRecDepth 20000 in
theorem kL_law_359 {C : QC} {x : QP} {M : QM} {st : List CV} {L : QL} {a : Nat} {j : Int} (hk : (q_kd M a).1 = 7) (h0 : 0 ≤ j) (h1 : j < ((q_kd M a).2 : Int)) : Rr C mL_law (359, L, qi j :: qr a :: st, M) x = Rr C mL_law (360, L, q_fv M a j.toNat :: st, M) x := g_iald7 (show decode cL_law 359 = .ok (.iaload, 1) by decide +kernel) hk h0 h1
set_option maxRecDepth 20000 in
theorem kL_law_360 {C : QC} {x : QP} {M : QM} {st : List CV} {L : QL} {l0 l1 l2 l3 : Option CV} {r : Option Nat} : Rr C mL_law (360, [some (.inr (.inr r)), l1, l2, l3], st, M) x = Rr C mL_law (361, [some (.inr (.inr r)), l1, l2, l3], .inr (.inr r) :: st, M) x := g_pl (show decode cL_law 360 = .ok (.aload_n 0, 1) by decide +kernel) rfl
set_option maxRecDepth 20000 in
theorem kL_law_361 {C : QC} {x : QP} {M : QM} {st : List CV} {L : QL} {l0 l1 l2 l3 : Option CV} {z : Int} : Rr C mL_law (361, [l0, l1, l2, some (qi z)], st, M) x = Rr C mL_law (362, [l0, l1, l2, some (qi z)], qi z :: st, M) x := g_pl (show decode cL_law 361 = .ok (.iload_n 3, 1) by decide +kernel) rfl
set_option maxRecDepth 20000 in
theorem kL_law_362 {C : QC} {x : QP} {M : QM} {st : List CV} {L : QL} : Rr C mL_law (362, L, st, M) x = Rr C mL_law (363, L, qi 2 :: st, M) x := g_pl (show decode cL_law 362 = .ok (.iconst 2, 1) by decide +kernel) rfl
set_option maxRecDepth 20000 in
theorem kL_law_363 {C : QC} {x : QP} {M : QM} {st : List CV} {L : QL} {a b : Int} : Rr C mL_law (363, L, qi b :: qi a :: st, M) x = Rr C mL_law (364, L, qi (a + b) :: st, M) x := g_pl (show decode cL_law 363 = .ok (.iadd, 1) by decide +kernel) rfl
set_option maxRecDepth 20000 in
theorem kL_law_364 {C : QC} {x : QP} {M : QM} {st : List CV} {L : QL} {a : Nat} {j : Int} (hk : (q_kd M a).1 = 7) (h0 : 0 ≤ j) (h1 : j < ((q_kd M a).2 : Int)) : Rr C mL_law (364, L, qi j :: qr a :: st, M) x = Rr C mL_law (365, L, q_fv M a j.toNat :: st, M) x := g_iald7 (show decode cL_law 364 = .ok (.iaload, 1) by decide +kernel) hk h0 h1
set_option maxRecDepth 20000 in
theorem kL_law_365 {C : QC} {x : QP} {M : QM} {L : QL} {rest : List CV} {a0 a1 : CV} {v : CV} {M1 : QM} {b : Nat} (hb : q_kd M b = (1, 12)) (hC : C iX12_split [qr b, a0, a1] M (some v) M1) (hw : (rest.map q_wd).sum ≤ 8) (k : Rr C mL_law (368, L, v :: rest, M1) x) : Rr C mL_law (365, L, a1 :: a0 :: qr b :: rest, M) x := g_cv (ow := 16) (e := (0, 81, 12, [749, 750, 751, 77])) (as := [a0, a1]) (show decode cL_law 365 = .ok (.invokevirtual 32, 3) by decide +kernel) rfl rfl rfl (Or.inl rfl) rfl hb hC hw k
set_option maxRecDepth 20000 in
theorem kL_law_368 {C : QC} {x : QP} {M : QM} {st : List CV} {L : QL} {l0 l1 l2 l3 : Option CV} {r : Option Nat} : Rr C mL_law (368, [l0, l1, some (.inr (.inr r)), l3], st, M) x = Rr C mL_law (369, [l0, l1, some (.inr (.inr r)), l3], .inr (.inr r) :: st, M) x := g_pl (show decode cL_law 368 = .ok (.aload_n 2, 1) by decide +kernel) rfl
set_option maxRecDepth 20000 in
theorem kL_law_369 {C : QC} {x : QP} {M : QM} {st : List CV} {L : QL} {l0 l1 l2 l3 : Option CV} {r : Option Nat} : Rr C mL_law (369, [some (.inr (.inr r)), l1, l2, l3], st, M) x = Rr C mL_law (370, [some (.inr (.inr r)), l1, l2, l3], .inr (.inr r) :: st, M) x := g_pl (show decode cL_law 369 = .ok (.aload_n 0, 1) by decide +kernel) rfl
set_option maxRecDepth 20000 in
theorem kL_law_370 {C : QC} {x : QP} {M : QM} {st : List CV} {L : QL} {l0 l1 l2 l3 : Option CV} {z : Int} : Rr C mL_law (370, [l0, l1, l2, some (qi z)], st, M) x = Rr C mL_law (371, [l0, l1, l2, some (qi z)], qi z :: st, M) x := g_pl (show decode cL_law 370 = .ok (.iload_n 3, 1) by decide +kernel) rfl
set_option maxRecDepth 20000 in
theorem kL_law_371 {C : QC} {x : QP} {M : QM} {st : List CV} {L : QL} : Rr C mL_law (371, L, st, M) x = Rr C mL_law (372, L, qi 1 :: st, M) x := g_pl (show decode cL_law 371 = .ok (.iconst 1, 1) by decide +kernel) rfl
set_option maxRecDepth 20000 in
theorem kL_law_372 {C : QC} {x : QP} {M : QM} {st : List CV} {L : QL} {a b : Int} : Rr C mL_law (372, L, qi b :: qi a :: st, M) x = Rr C mL_law (373, L, qi (a + b) :: st, M) x := g_pl (show decode cL_law 372 = .ok (.iadd, 1) by decide +kernel) rfl
set_option maxRecDepth 20000 in
theorem kL_law_373 {C : QC} {x : QP} {M : QM} {st : List CV} {L : QL} {a : Nat} {j : Int} (hk : (q_kd M a).1 = 7) (h0 : 0 ≤ j) (h1 : j < ((q_kd M a).2 : Int)) : Rr C mL_law (373, L, qi j :: qr a :: st, M) x = Rr C mL_law (374, L, q_fv M a j.toNat :: st, M) x := g_iald7 (show decode cL_law 373 = .ok (.iaload, 1) by decide +kernel) hk h0 h1
set_option maxRecDepth 20000 in
theorem kL_law_374 {C : QC} {x : QP} {M : QM} {st : List CV} {L : QL} {l0 l1 l2 l3 : Option CV} {r : Option Nat} : Rr C mL_law (374, [some (.inr (.inr r)), l1, l2, l3], st, M) x = Rr C mL_law (375, [some (.inr (.inr r)), l1, l2, l3], .inr (.inr r) :: st, M) x := g_pl (show decode cL_law 374 = .ok (.aload_n 0, 1) by decide +kernel) rfl
set_option maxRecDepth 20000 in
theorem kL_law_375 {C : QC} {x : QP} {M : QM} {st : List CV} {L : QL} {l0 l1 l2 l3 : Option CV} {z : Int} : Rr C mL_law (375, [l0, l1, l2, some (qi z)], st, M) x = Rr C mL_law (376, [l0, l1, l2, some (qi z)], qi z :: st, M) x := g_pl (show decode cL_law 375 = .ok (.iload_n 3, 1) by decide +kernel) rfl
set_option maxRecDepth 20000 in
theorem kL_law_376 {C : QC} {x : QP} {M : QM} {st : List CV} {L : QL} : Rr C mL_law (376, L, st, M) x = Rr C mL_law (377, L, qi 2 :: st, M) x := g_pl (show decode cL_law 376 = .ok (.iconst 2, 1) by decide +kernel) rfl
set_option maxRecDepth 20000 in
theorem kL_law_377 {C : QC} {x : QP} {M : QM} {st : List CV} {L : QL} {a b : Int} : Rr C mL_law (377, L, qi b :: qi a :: st, M) x = Rr C mL_law (378, L, qi (a + b) :: st, M) x := g_pl (show decode cL_law 377 = .ok (.iadd, 1) by decide +kernel) rfl
set_option maxRecDepth 20000 in
theorem kL_law_378 {C : QC} {x : QP} {M : QM} {st : List CV} {L : QL} {a : Nat} {j : Int} (hk : (q_kd M a).1 = 7) (h0 : 0 ≤ j) (h1 : j < ((q_kd M a).2 : Int)) : Rr C mL_law (378, L, qi j :: qr a :: st, M) x = Rr C mL_law (379, L, q_fv M a j.toNat :: st, M) x := g_iald7 (show decode cL_law 378 = .ok (.iaload, 1) by decide +kernel) hk h0 h1
set_option maxRecDepth 20000 in
theorem kL_law_379 {C : QC} {x : QP} {M : QM} {L : QL} {rest : List CV} {a0 a1 : CV} {v : CV} {M1 : QM} {b : Nat} (hb : q_kd M b = (1, 13)) (hC : C iX13_split [qr b, a0, a1] M (some v) M1) (hw : (rest.map q_wd).sum ≤ 8) (k : Rr C mL_law (382, L, v :: rest, M1) x) : Rr C mL_law (379, L, a1 :: a0 :: qr b :: rest, M) x := g_cv (ow := 16) (e := (0, 228, 13, [1475, 1476, 1477, 94])) (as := [a0, a1]) (show decode cL_law 379 = .ok (.invokevirtual 35, 3) by decide +kernel) rfl rfl rfl (Or.inl rfl) rfl hb hC hw k
set_option maxRecDepth 20000 in
theorem kL_law_382 {C : QC} {x : QP} {M : QM} {st : List CV} {L : QL} {a b : Int} (ha1 : -2147483648 ≤ a) (ha2 : a < 2147483648) (hb1 : -2147483648 ≤ b) (hb2 : b < 2147483648) : Rr C mL_law (382, L, qi b :: qi a :: st, M) x = (if a = b then Rr C mL_law (1036, L, st, M) x else Rr C mL_law (385, L, st, M) x) := (g_icmp (show decode cL_law 382 = .ok (.if_icmp .eq 654, 3) by decide +kernel) rfl ha1 ha2 hb1 hb2).trans (g_ite c_eq)
set_option maxRecDepth 20000 in
theorem kL_law_385 {C : QC} {x : QP} {M : QM} {st : List CV} {L : QL} : Rr C mL_law (385, L, st, M) x = Rr C mL_law (386, L, qi 0 :: st, M) x := g_pl (show decode cL_law 385 = .ok (.iconst 0, 1) by decide +kernel) rfl
set_option maxRecDepth 20000 in
theorem kL_law_386 {C : QC} {x : QP} {M : QM} {st : List CV} {L : QL} {z : Int} (hz : z = 0 ∨ z = 1) : Rr C mL_law (386, L, [qi z], M) x = x (some (qi z)) M := g_iret (show decode cL_law 386 = .ok (.ireturn, 1) by decide +kernel) (by rcases hz with rfl | rfl <;> rfl)
set_option maxRecDepth 20000 in
theorem kL_law_387 {C : QC} {x : QP} {M : QM} {st : List CV} {L : QL} {l0 l1 l2 l3 : Option CV} {r : Option Nat} : Rr C mL_law (387, [l0, some (.inr (.inr r)), l2, l3], st, M) x = Rr C mL_law (388, [l0, some (.inr (.inr r)), l2, l3], .inr (.inr r) :: st, M) x := g_pl (show decode cL_law 387 = .ok (.aload_n 1, 1) by decide +kernel) rfl
set_option maxRecDepth 20000 in
theorem kL_law_388 {C : QC} {x : QP} {M : QM} {st : List CV} {L : QL} {l0 l1 l2 l3 : Option CV} {r : Option Nat} : Rr C mL_law (388, [some (.inr (.inr r)), l1, l2, l3], st, M) x = Rr C mL_law (389, [some (.inr (.inr r)), l1, l2, l3], .inr (.inr r) :: st, M) x := g_pl (show decode cL_law 388 = .ok (.aload_n 0, 1) by decide +kernel) rfl
set_option maxRecDepth 20000 in
theorem kL_law_389 {C : QC} {x : QP} {M : QM} {st : List CV} {L : QL} {l0 l1 l2 l3 : Option CV} {z : Int} : Rr C mL_law (389, [l0, l1, l2, some (qi z)], st, M) x = Rr C mL_law (390, [l0, l1, l2, some (qi z)], qi z :: st, M) x := g_pl (show decode cL_law 389 = .ok (.iload_n 3, 1) by decide +kernel) rfl
set_option maxRecDepth 20000 in
theorem kL_law_390 {C : QC} {x : QP} {M : QM} {st : List CV} {L : QL} : Rr C mL_law (390, L, st, M) x = Rr C mL_law (391, L, qi 1 :: st, M) x := g_pl (show decode cL_law 390 = .ok (.iconst 1, 1) by decide +kernel) rfl
set_option maxRecDepth 20000 in
theorem kL_law_391 {C : QC} {x : QP} {M : QM} {st : List CV} {L : QL} {a b : Int} : Rr C mL_law (391, L, qi b :: qi a :: st, M) x = Rr C mL_law (392, L, qi (a + b) :: st, M) x := g_pl (show decode cL_law 391 = .ok (.iadd, 1) by decide +kernel) rfl
set_option maxRecDepth 20000 in
theorem kL_law_392 {C : QC} {x : QP} {M : QM} {st : List CV} {L : QL} {a : Nat} {j : Int} (hk : (q_kd M a).1 = 7) (h0 : 0 ≤ j) (h1 : j < ((q_kd M a).2 : Int)) : Rr C mL_law (392, L, qi j :: qr a :: st, M) x = Rr C mL_law (393, L, q_fv M a j.toNat :: st, M) x := g_iald7 (show decode cL_law 392 = .ok (.iaload, 1) by decide +kernel) hk h0 h1
set_option maxRecDepth 20000 in
theorem kL_law_393 {C : QC} {x : QP} {M : QM} {st : List CV} {L : QL} {l0 l1 l2 l3 : Option CV} {r : Option Nat} : Rr C mL_law (393, [some (.inr (.inr r)), l1, l2, l3], st, M) x = Rr C mL_law (394, [some (.inr (.inr r)), l1, l2, l3], .inr (.inr r) :: st, M) x := g_pl (show decode cL_law 393 = .ok (.aload_n 0, 1) by decide +kernel) rfl
set_option maxRecDepth 20000 in
theorem kL_law_394 {C : QC} {x : QP} {M : QM} {st : List CV} {L : QL} {l0 l1 l2 l3 : Option CV} {z : Int} : Rr C mL_law (394, [l0, l1, l2, some (qi z)], st, M) x = Rr C mL_law (395, [l0, l1, l2, some (qi z)], qi z :: st, M) x := g_pl (show decode cL_law 394 = .ok (.iload_n 3, 1) by decide +kernel) rfl
set_option maxRecDepth 20000 in
theorem kL_law_395 {C : QC} {x : QP} {M : QM} {st : List CV} {L : QL} : Rr C mL_law (395, L, st, M) x = Rr C mL_law (396, L, qi 2 :: st, M) x := g_pl (show decode cL_law 395 = .ok (.iconst 2, 1) by decide +kernel) rfl
set_option maxRecDepth 20000 in
theorem kL_law_396 {C : QC} {x : QP} {M : QM} {st : List CV} {L : QL} {a b : Int} : Rr C mL_law (396, L, qi b :: qi a :: st, M) x = Rr C mL_law (397, L, qi (a + b) :: st, M) x := g_pl (show decode cL_law 396 = .ok (.iadd, 1) by decide +kernel) rfl
set_option maxRecDepth 20000 in
theorem kL_law_397 {C : QC} {x : QP} {M : QM} {st : List CV} {L : QL} {a : Nat} {j : Int} (hk : (q_kd M a).1 = 7) (h0 : 0 ≤ j) (h1 : j < ((q_kd M a).2 : Int)) : Rr C mL_law (397, L, qi j :: qr a :: st, M) x = Rr C mL_law (398, L, q_fv M a j.toNat :: st, M) x := g_iald7 (show decode cL_law 397 = .ok (.iaload, 1) by decide +kernel) hk h0 h1
set_option maxRecDepth 20000 in
theorem kL_law_398 {C : QC} {x : QP} {M : QM} {st : List CV} {L : QL} {l0 l1 l2 l3 : Option CV} {r : Option Nat} : Rr C mL_law (398, [some (.inr (.inr r)), l1, l2, l3], st, M) x = Rr C mL_law (399, [some (.inr (.inr r)), l1, l2, l3], .inr (.inr r) :: st, M) x := g_pl (show decode cL_law 398 = .ok (.aload_n 0, 1) by decide +kernel) rfl
set_option maxRecDepth 20000 in
theorem kL_law_399 {C : QC} {x : QP} {M : QM} {st : List CV} {L : QL} {l0 l1 l2 l3 : Option CV} {z : Int} : Rr C mL_law (399, [l0, l1, l2, some (qi z)], st, M) x = Rr C mL_law (400, [l0, l1, l2, some (qi z)], qi z :: st, M) x := g_pl (show decode cL_law 399 = .ok (.iload_n 3, 1) by decide +kernel) rfl
set_option maxRecDepth 20000 in
theorem kL_law_400 {C : QC} {x : QP} {M : QM} {st : List CV} {L : QL} : Rr C mL_law (400, L, st, M) x = Rr C mL_law (401, L, qi 3 :: st, M) x := g_pl (show decode cL_law 400 = .ok (.iconst 3, 1) by decide +kernel) rfl
set_option maxRecDepth 20000 in
theorem kL_law_401 {C : QC} {x : QP} {M : QM} {st : List CV} {L : QL} {a b : Int} : Rr C mL_law (401, L, qi b :: qi a :: st, M) x = Rr C mL_law (402, L, qi (a + b) :: st, M) x := g_pl (show decode cL_law 401 = .ok (.iadd, 1) by decide +kernel) rfl
set_option maxRecDepth 20000 in
theorem kL_law_402 {C : QC} {x : QP} {M : QM} {st : List CV} {L : QL} {a : Nat} {j : Int} (hk : (q_kd M a).1 = 7) (h0 : 0 ≤ j) (h1 : j < ((q_kd M a).2 : Int)) : Rr C mL_law (402, L, qi j :: qr a :: st, M) x = Rr C mL_law (403, L, q_fv M a j.toNat :: st, M) x := g_iald7 (show decode cL_law 402 = .ok (.iaload, 1) by decide +kernel) hk h0 h1
set_option maxRecDepth 20000 in
theorem kL_law_403 {C : QC} {x : QP} {M : QM} {L : QL} {rest : List CV} {a0 a1 a2 : CV} {v : CV} {M1 : QM} {b : Nat} (hb : q_kd M b = (1, 12)) (hC : C iX12_merge [qr b, a0, a1, a2] M (some v) M1) (hw : (rest.map q_wd).sum ≤ 8) (k : Rr C mL_law (406, L, v :: rest, M1) x) : Rr C mL_law (403, L, a2 :: a1 :: a0 :: qr b :: rest, M) x := g_cv (ow := 16) (e := (0, 82, 12, [753, 754, 755, 77])) (as := [a0, a1, a2]) (show decode cL_law 403 = .ok (.invokevirtual 36, 3) by decide +kernel) rfl rfl rfl (Or.inl rfl) rfl hb hC hw k
set_option maxRecDepth 20000 in
theorem kL_law_406 {C : QC} {x : QP} {M : QM} {st : List CV} {L : QL} {l0 l1 l2 l3 : Option CV} {r : Option Nat} : Rr C mL_law (406, [l0, l1, some (.inr (.inr r)), l3], st, M) x = Rr C mL_law (407, [l0, l1, some (.inr (.inr r)), l3], .inr (.inr r) :: st, M) x := g_pl (show decode cL_law 406 = .ok (.aload_n 2, 1) by decide +kernel) rfl
set_option maxRecDepth 20000 in
theorem kL_law_407 {C : QC} {x : QP} {M : QM} {st : List CV} {L : QL} {l0 l1 l2 l3 : Option CV} {r : Option Nat} : Rr C mL_law (407, [some (.inr (.inr r)), l1, l2, l3], st, M) x = Rr C mL_law (408, [some (.inr (.inr r)), l1, l2, l3], .inr (.inr r) :: st, M) x := g_pl (show decode cL_law 407 = .ok (.aload_n 0, 1) by decide +kernel) rfl
set_option maxRecDepth 20000 in
theorem kL_law_408 {C : QC} {x : QP} {M : QM} {st : List CV} {L : QL} {l0 l1 l2 l3 : Option CV} {z : Int} : Rr C mL_law (408, [l0, l1, l2, some (qi z)], st, M) x = Rr C mL_law (409, [l0, l1, l2, some (qi z)], qi z :: st, M) x := g_pl (show decode cL_law 408 = .ok (.iload_n 3, 1) by decide +kernel) rfl
set_option maxRecDepth 20000 in
theorem kL_law_409 {C : QC} {x : QP} {M : QM} {st : List CV} {L : QL} : Rr C mL_law (409, L, st, M) x = Rr C mL_law (410, L, qi 1 :: st, M) x := g_pl (show decode cL_law 409 = .ok (.iconst 1, 1) by decide +kernel) rfl
set_option maxRecDepth 20000 in
theorem kL_law_410 {C : QC} {x : QP} {M : QM} {st : List CV} {L : QL} {a b : Int} : Rr C mL_law (410, L, qi b :: qi a :: st, M) x = Rr C mL_law (411, L, qi (a + b) :: st, M) x := g_pl (show decode cL_law 410 = .ok (.iadd, 1) by decide +kernel) rfl
set_option maxRecDepth 20000 in
theorem kL_law_411 {C : QC} {x : QP} {M : QM} {st : List CV} {L : QL} {a : Nat} {j : Int} (hk : (q_kd M a).1 = 7) (h0 : 0 ≤ j) (h1 : j < ((q_kd M a).2 : Int)) : Rr C mL_law (411, L, qi j :: qr a :: st, M) x = Rr C mL_law (412, L, q_fv M a j.toNat :: st, M) x := g_iald7 (show decode cL_law 411 = .ok (.iaload, 1) by decide +kernel) hk h0 h1
set_option maxRecDepth 20000 in
theorem kL_law_412 {C : QC} {x : QP} {M : QM} {st : List CV} {L : QL} {l0 l1 l2 l3 : Option CV} {r : Option Nat} : Rr C mL_law (412, [some (.inr (.inr r)), l1, l2, l3], st, M) x = Rr C mL_law (413, [some (.inr (.inr r)), l1, l2, l3], .inr (.inr r) :: st, M) x := g_pl (show decode cL_law 412 = .ok (.aload_n 0, 1) by decide +kernel) rfl
set_option maxRecDepth 20000 in
theorem kL_law_413 {C : QC} {x : QP} {M : QM} {st : List CV} {L : QL} {l0 l1 l2 l3 : Option CV} {z : Int} : Rr C mL_law (413, [l0, l1, l2, some (qi z)], st, M) x = Rr C mL_law (414, [l0, l1, l2, some (qi z)], qi z :: st, M) x := g_pl (show decode cL_law 413 = .ok (.iload_n 3, 1) by decide +kernel) rfl
set_option maxRecDepth 20000 in
theorem kL_law_414 {C : QC} {x : QP} {M : QM} {st : List CV} {L : QL} : Rr C mL_law (414, L, st, M) x = Rr C mL_law (415, L, qi 2 :: st, M) x := g_pl (show decode cL_law 414 = .ok (.iconst 2, 1) by decide +kernel) rfl
set_option maxRecDepth 20000 in
theorem kL_law_415 {C : QC} {x : QP} {M : QM} {st : List CV} {L : QL} {a b : Int} : Rr C mL_law (415, L, qi b :: qi a :: st, M) x = Rr C mL_law (416, L, qi (a + b) :: st, M) x := g_pl (show decode cL_law 415 = .ok (.iadd, 1) by decide +kernel) rfl
set_option maxRecDepth 20000 in
theorem kL_law_416 {C : QC} {x : QP} {M : QM} {st : List CV} {L : QL} {a : Nat} {j : Int} (hk : (q_kd M a).1 = 7) (h0 : 0 ≤ j) (h1 : j < ((q_kd M a).2 : Int)) : Rr C mL_law (416, L, qi j :: qr a :: st, M) x = Rr C mL_law (417, L, q_fv M a j.toNat :: st, M) x := g_iald7 (show decode cL_law 416 = .ok (.iaload, 1) by decide +kernel) hk h0 h1
set_option maxRecDepth 20000 in
theorem kL_law_417 {C : QC} {x : QP} {M : QM} {st : List CV} {L : QL} {l0 l1 l2 l3 : Option CV} {r : Option Nat} : Rr C mL_law (417, [some (.inr (.inr r)), l1, l2, l3], st, M) x = Rr C mL_law (418, [some (.inr (.inr r)), l1, l2, l3], .inr (.inr r) :: st, M) x := g_pl (show decode cL_law 417 = .ok (.aload_n 0, 1) by decide +kernel) rfl
set_option maxRecDepth 20000 in
theorem kL_law_418 {C : QC} {x : QP} {M : QM} {st : List CV} {L : QL} {l0 l1 l2 l3 : Option CV} {z : Int} : Rr C mL_law (418, [l0, l1, l2, some (qi z)], st, M) x = Rr C mL_law (419, [l0, l1, l2, some (qi z)], qi z :: st, M) x := g_pl (show decode cL_law 418 = .ok (.iload_n 3, 1) by decide +kernel) rfl
set_option maxRecDepth 20000 in
theorem kL_law_419 {C : QC} {x : QP} {M : QM} {st : List CV} {L : QL} : Rr C mL_law (419, L, st, M) x = Rr C mL_law (420, L, qi 3 :: st, M) x := g_pl (show decode cL_law 419 = .ok (.iconst 3, 1) by decide +kernel) rfl
set_option maxRecDepth 20000 in
theorem kL_law_420 {C : QC} {x : QP} {M : QM} {st : List CV} {L : QL} {a b : Int} : Rr C mL_law (420, L, qi b :: qi a :: st, M) x = Rr C mL_law (421, L, qi (a + b) :: st, M) x := g_pl (show decode cL_law 420 = .ok (.iadd, 1) by decide +kernel) rfl
set_option maxRecDepth 20000 in
theorem kL_law_421 {C : QC} {x : QP} {M : QM} {st : List CV} {L : QL} {a : Nat} {j : Int} (hk : (q_kd M a).1 = 7) (h0 : 0 ≤ j) (h1 : j < ((q_kd M a).2 : Int)) : Rr C mL_law (421, L, qi j :: qr a :: st, M) x = Rr C mL_law (422, L, q_fv M a j.toNat :: st, M) x := g_iald7 (show decode cL_law 421 = .ok (.iaload, 1) by decide +kernel) hk h0 h1
set_option maxRecDepth 20000 in
theorem kL_law_422 {C : QC} {x : QP} {M : QM} {L : QL} {rest : List CV} {a0 a1 a2 : CV} {v : CV} {M1 : QM} {b : Nat} (hb : q_kd M b = (1, 13)) (hC : C iX13_merge [qr b, a0, a1, a2] M (some v) M1) (hw : (rest.map q_wd).sum ≤ 8) (k : Rr C mL_law (425, L, v :: rest, M1) x) : Rr C mL_law (422, L, a2 :: a1 :: a0 :: qr b :: rest, M) x := g_cv (ow := 16) (e := (0, 231, 13, [1487, 1488, 1489, 94])) (as := [a0, a1, a2]) (show decode cL_law 422 = .ok (.invokevirtual 39, 3) by decide +kernel) rfl rfl rfl (Or.inl rfl) rfl hb hC hw k
set_option maxRecDepth 20000 in
theorem kL_law_425 {C : QC} {x : QP} {M : QM} {st : List CV} {L : QL} {a b : Int} (ha1 : -2147483648 ≤ a) (ha2 : a < 2147483648) (hb1 : -2147483648 ≤ b) (hb2 : b < 2147483648) : Rr C mL_law (425, L, qi b :: qi a :: st, M) x = (if a = b then Rr C mL_law (1036, L, st, M) x else Rr C mL_law (428, L, st, M) x) := (g_icmp (show decode cL_law 425 = .ok (.if_icmp .eq 611, 3) by decide +kernel) rfl ha1 ha2 hb1 hb2).trans (g_ite c_eq)
set_option maxRecDepth 20000 in
theorem kL_law_428 {C : QC} {x : QP} {M : QM} {st : List CV} {L : QL} : Rr C mL_law (428, L, st, M) x = Rr C mL_law (429, L, qi 0 :: st, M) x := g_pl (show decode cL_law 428 = .ok (.iconst 0, 1) by decide +kernel) rfl
set_option maxRecDepth 20000 in
theorem kL_law_429 {C : QC} {x : QP} {M : QM} {st : List CV} {L : QL} {z : Int} (hz : z = 0 ∨ z = 1) : Rr C mL_law (429, L, [qi z], M) x = x (some (qi z)) M := g_iret (show decode cL_law 429 = .ok (.ireturn, 1) by decide +kernel) (by rcases hz with rfl | rfl <;> rfl)
set_option maxRecDepth 20000 in
theorem kL_law_430 {C : QC} {x : QP} {M : QM} {st : List CV} {L : QL} {l0 l1 l2 l3 : Option CV} {r : Option Nat} : Rr C mL_law (430, [l0, some (.inr (.inr r)), l2, l3], st, M) x = Rr C mL_law (431, [l0, some (.inr (.inr r)), l2, l3], .inr (.inr r) :: st, M) x := g_pl (show decode cL_law 430 = .ok (.aload_n 1, 1) by decide +kernel) rfl
set_option maxRecDepth 20000 in
theorem kL_law_431 {C : QC} {x : QP} {M : QM} {st : List CV} {L : QL} {l0 l1 l2 l3 : Option CV} {r : Option Nat} : Rr C mL_law (431, [some (.inr (.inr r)), l1, l2, l3], st, M) x = Rr C mL_law (432, [some (.inr (.inr r)), l1, l2, l3], .inr (.inr r) :: st, M) x := g_pl (show decode cL_law 431 = .ok (.aload_n 0, 1) by decide +kernel) rfl
set_option maxRecDepth 20000 in
theorem kL_law_432 {C : QC} {x : QP} {M : QM} {st : List CV} {L : QL} {l0 l1 l2 l3 : Option CV} {z : Int} : Rr C mL_law (432, [l0, l1, l2, some (qi z)], st, M) x = Rr C mL_law (433, [l0, l1, l2, some (qi z)], qi z :: st, M) x := g_pl (show decode cL_law 432 = .ok (.iload_n 3, 1) by decide +kernel) rfl
set_option maxRecDepth 20000 in
theorem kL_law_433 {C : QC} {x : QP} {M : QM} {st : List CV} {L : QL} : Rr C mL_law (433, L, st, M) x = Rr C mL_law (434, L, qi 1 :: st, M) x := g_pl (show decode cL_law 433 = .ok (.iconst 1, 1) by decide +kernel) rfl
set_option maxRecDepth 20000 in
theorem kL_law_434 {C : QC} {x : QP} {M : QM} {st : List CV} {L : QL} {a b : Int} : Rr C mL_law (434, L, qi b :: qi a :: st, M) x = Rr C mL_law (435, L, qi (a + b) :: st, M) x := g_pl (show decode cL_law 434 = .ok (.iadd, 1) by decide +kernel) rfl
set_option maxRecDepth 20000 in
theorem kL_law_435 {C : QC} {x : QP} {M : QM} {st : List CV} {L : QL} {a : Nat} {j : Int} (hk : (q_kd M a).1 = 7) (h0 : 0 ≤ j) (h1 : j < ((q_kd M a).2 : Int)) : Rr C mL_law (435, L, qi j :: qr a :: st, M) x = Rr C mL_law (436, L, q_fv M a j.toNat :: st, M) x := g_iald7 (show decode cL_law 435 = .ok (.iaload, 1) by decide +kernel) hk h0 h1
set_option maxRecDepth 20000 in
theorem kL_law_436 {C : QC} {x : QP} {M : QM} {st : List CV} {L : QL} {l0 l1 l2 l3 : Option CV} {r : Option Nat} : Rr C mL_law (436, [some (.inr (.inr r)), l1, l2, l3], st, M) x = Rr C mL_law (437, [some (.inr (.inr r)), l1, l2, l3], .inr (.inr r) :: st, M) x := g_pl (show decode cL_law 436 = .ok (.aload_n 0, 1) by decide +kernel) rfl
set_option maxRecDepth 20000 in
theorem kL_law_437 {C : QC} {x : QP} {M : QM} {st : List CV} {L : QL} {l0 l1 l2 l3 : Option CV} {z : Int} : Rr C mL_law (437, [l0, l1, l2, some (qi z)], st, M) x = Rr C mL_law (438, [l0, l1, l2, some (qi z)], qi z :: st, M) x := g_pl (show decode cL_law 437 = .ok (.iload_n 3, 1) by decide +kernel) rfl
set_option maxRecDepth 20000 in
theorem kL_law_438 {C : QC} {x : QP} {M : QM} {st : List CV} {L : QL} : Rr C mL_law (438, L, st, M) x = Rr C mL_law (439, L, qi 2 :: st, M) x := g_pl (show decode cL_law 438 = .ok (.iconst 2, 1) by decide +kernel) rfl
set_option maxRecDepth 20000 in
theorem kL_law_439 {C : QC} {x : QP} {M : QM} {st : List CV} {L : QL} {a b : Int} : Rr C mL_law (439, L, qi b :: qi a :: st, M) x = Rr C mL_law (440, L, qi (a + b) :: st, M) x := g_pl (show decode cL_law 439 = .ok (.iadd, 1) by decide +kernel) rfl
set_option maxRecDepth 20000 in
theorem kL_law_440 {C : QC} {x : QP} {M : QM} {st : List CV} {L : QL} {a : Nat} {j : Int} (hk : (q_kd M a).1 = 7) (h0 : 0 ≤ j) (h1 : j < ((q_kd M a).2 : Int)) : Rr C mL_law (440, L, qi j :: qr a :: st, M) x = Rr C mL_law (441, L, q_fv M a j.toNat :: st, M) x := g_iald7 (show decode cL_law 440 = .ok (.iaload, 1) by decide +kernel) hk h0 h1
set_option maxRecDepth 20000 in
theorem kL_law_441 {C : QC} {x : QP} {M : QM} {L : QL} {rest : List CV} {a0 a1 : CV} {v : CV} {M1 : QM} {b : Nat} (hb : q_kd M b = (1, 12)) (hC : C iX12_close [qr b, a0, a1] M (some v) M1) (hw : (rest.map q_wd).sum ≤ 8) (k : Rr C mL_law (444, L, v :: rest, M1) x) : Rr C mL_law (441, L, a1 :: a0 :: qr b :: rest, M) x := g_cv (ow := 16) (e := (0, 83, 12, [757, 758, 759, 77])) (as := [a0, a1]) (show decode cL_law 441 = .ok (.invokevirtual 40, 3) by decide +kernel) rfl rfl rfl (Or.inl rfl) rfl hb hC hw k
set_option maxRecDepth 20000 in
theorem kL_law_444 {C : QC} {x : QP} {M : QM} {st : List CV} {L : QL} {l0 l1 l2 l3 : Option CV} {r : Option Nat} : Rr C mL_law (444, [l0, l1, some (.inr (.inr r)), l3], st, M) x = Rr C mL_law (445, [l0, l1, some (.inr (.inr r)), l3], .inr (.inr r) :: st, M) x := g_pl (show decode cL_law 444 = .ok (.aload_n 2, 1) by decide +kernel) rfl
set_option maxRecDepth 20000 in
theorem kL_law_445 {C : QC} {x : QP} {M : QM} {st : List CV} {L : QL} {l0 l1 l2 l3 : Option CV} {r : Option Nat} : Rr C mL_law (445, [some (.inr (.inr r)), l1, l2, l3], st, M) x = Rr C mL_law (446, [some (.inr (.inr r)), l1, l2, l3], .inr (.inr r) :: st, M) x := g_pl (show decode cL_law 445 = .ok (.aload_n 0, 1) by decide +kernel) rfl
set_option maxRecDepth 20000 in
theorem kL_law_446 {C : QC} {x : QP} {M : QM} {st : List CV} {L : QL} {l0 l1 l2 l3 : Option CV} {z : Int} : Rr C mL_law (446, [l0, l1, l2, some (qi z)], st, M) x = Rr C mL_law (447, [l0, l1, l2, some (qi z)], qi z :: st, M) x := g_pl (show decode cL_law 446 = .ok (.iload_n 3, 1) by decide +kernel) rfl
set_option maxRecDepth 20000 in
theorem kL_law_447 {C : QC} {x : QP} {M : QM} {st : List CV} {L : QL} : Rr C mL_law (447, L, st, M) x = Rr C mL_law (448, L, qi 1 :: st, M) x := g_pl (show decode cL_law 447 = .ok (.iconst 1, 1) by decide +kernel) rfl
set_option maxRecDepth 20000 in
theorem kL_law_448 {C : QC} {x : QP} {M : QM} {st : List CV} {L : QL} {a b : Int} : Rr C mL_law (448, L, qi b :: qi a :: st, M) x = Rr C mL_law (449, L, qi (a + b) :: st, M) x := g_pl (show decode cL_law 448 = .ok (.iadd, 1) by decide +kernel) rfl
set_option maxRecDepth 20000 in
theorem kL_law_449 {C : QC} {x : QP} {M : QM} {st : List CV} {L : QL} {a : Nat} {j : Int} (hk : (q_kd M a).1 = 7) (h0 : 0 ≤ j) (h1 : j < ((q_kd M a).2 : Int)) : Rr C mL_law (449, L, qi j :: qr a :: st, M) x = Rr C mL_law (450, L, q_fv M a j.toNat :: st, M) x := g_iald7 (show decode cL_law 449 = .ok (.iaload, 1) by decide +kernel) hk h0 h1
set_option maxRecDepth 20000 in
theorem kL_law_450 {C : QC} {x : QP} {M : QM} {st : List CV} {L : QL} {l0 l1 l2 l3 : Option CV} {r : Option Nat} : Rr C mL_law (450, [some (.inr (.inr r)), l1, l2, l3], st, M) x = Rr C mL_law (451, [some (.inr (.inr r)), l1, l2, l3], .inr (.inr r) :: st, M) x := g_pl (show decode cL_law 450 = .ok (.aload_n 0, 1) by decide +kernel) rfl
set_option maxRecDepth 20000 in
theorem kL_law_451 {C : QC} {x : QP} {M : QM} {st : List CV} {L : QL} {l0 l1 l2 l3 : Option CV} {z : Int} : Rr C mL_law (451, [l0, l1, l2, some (qi z)], st, M) x = Rr C mL_law (452, [l0, l1, l2, some (qi z)], qi z :: st, M) x := g_pl (show decode cL_law 451 = .ok (.iload_n 3, 1) by decide +kernel) rfl
set_option maxRecDepth 20000 in
theorem kL_law_452 {C : QC} {x : QP} {M : QM} {st : List CV} {L : QL} : Rr C mL_law (452, L, st, M) x = Rr C mL_law (453, L, qi 2 :: st, M) x := g_pl (show decode cL_law 452 = .ok (.iconst 2, 1) by decide +kernel) rfl
set_option maxRecDepth 20000 in
theorem kL_law_453 {C : QC} {x : QP} {M : QM} {st : List CV} {L : QL} {a b : Int} : Rr C mL_law (453, L, qi b :: qi a :: st, M) x = Rr C mL_law (454, L, qi (a + b) :: st, M) x := g_pl (show decode cL_law 453 = .ok (.iadd, 1) by decide +kernel) rfl
set_option maxRecDepth 20000 in
theorem kL_law_454 {C : QC} {x : QP} {M : QM} {st : List CV} {L : QL} {a : Nat} {j : Int} (hk : (q_kd M a).1 = 7) (h0 : 0 ≤ j) (h1 : j < ((q_kd M a).2 : Int)) : Rr C mL_law (454, L, qi j :: qr a :: st, M) x = Rr C mL_law (455, L, q_fv M a j.toNat :: st, M) x := g_iald7 (show decode cL_law 454 = .ok (.iaload, 1) by decide +kernel) hk h0 h1
set_option maxRecDepth 20000 in
theorem kL_law_455 {C : QC} {x : QP} {M : QM} {L : QL} {rest : List CV} {a0 a1 : CV} {v : CV} {M1 : QM} {b : Nat} (hb : q_kd M b = (1, 13)) (hC : C iX13_close [qr b, a0, a1] M (some v) M1) (hw : (rest.map q_wd).sum ≤ 8) (k : Rr C mL_law (458, L, v :: rest, M1) x) : Rr C mL_law (455, L, a1 :: a0 :: qr b :: rest, M) x := g_cv (ow := 16) (e := (0, 236, 13, [1507, 1508, 1509, 94])) (as := [a0, a1]) (show decode cL_law 455 = .ok (.invokevirtual 43, 3) by decide +kernel) rfl rfl rfl (Or.inl rfl) rfl hb hC hw k
set_option maxRecDepth 20000 in
theorem kL_law_458 {C : QC} {x : QP} {M : QM} {st : List CV} {L : QL} {a b : Int} (ha1 : -2147483648 ≤ a) (ha2 : a < 2147483648) (hb1 : -2147483648 ≤ b) (hb2 : b < 2147483648) : Rr C mL_law (458, L, qi b :: qi a :: st, M) x = (if a = b then Rr C mL_law (1036, L, st, M) x else Rr C mL_law (461, L, st, M) x) := (g_icmp (show decode cL_law 458 = .ok (.if_icmp .eq 578, 3) by decide +kernel) rfl ha1 ha2 hb1 hb2).trans (g_ite c_eq)
set_option maxRecDepth 20000 in
theorem kL_law_461 {C : QC} {x : QP} {M : QM} {st : List CV} {L : QL} : Rr C mL_law (461, L, st, M) x = Rr C mL_law (462, L, qi 0 :: st, M) x := g_pl (show decode cL_law 461 = .ok (.iconst 0, 1) by decide +kernel) rfl
set_option maxRecDepth 20000 in
theorem kL_law_462 {C : QC} {x : QP} {M : QM} {st : List CV} {L : QL} {z : Int} (hz : z = 0 ∨ z = 1) : Rr C mL_law (462, L, [qi z], M) x = x (some (qi z)) M := g_iret (show decode cL_law 462 = .ok (.ireturn, 1) by decide +kernel) (by rcases hz with rfl | rfl <;> rfl)
set_option maxRecDepth 20000 in
theorem kL_law_463 {C : QC} {x : QP} {M : QM} {st : List CV} {L : QL} {l0 l1 l2 l3 : Option CV} {r : Option Nat} : Rr C mL_law (463, [l0, some (.inr (.inr r)), l2, l3], st, M) x = Rr C mL_law (464, [l0, some (.inr (.inr r)), l2, l3], .inr (.inr r) :: st, M) x := g_pl (show decode cL_law 463 = .ok (.aload_n 1, 1) by decide +kernel) rfl
set_option maxRecDepth 20000 in
theorem kL_law_464 {C : QC} {x : QP} {M : QM} {L : QL} {rest : List CV} {v : CV} {M1 : QM} {b : Nat} (hb : q_kd M b = (1, 12)) (hC : C iX12_run [qr b] M (some v) M1) (hw : (rest.map q_wd).sum ≤ 8) (k : Rr C mL_law (467, L, v :: rest, M1) x) : Rr C mL_law (464, L, qr b :: rest, M) x := g_cv (ow := 16) (e := (0, 84, 12, [761, 762, 763, 77])) (as := []) (show decode cL_law 464 = .ok (.invokevirtual 44, 3) by decide +kernel) rfl rfl rfl (Or.inl rfl) rfl hb hC hw k
set_option maxRecDepth 20000 in
theorem kL_law_467 {C : QC} {x : QP} {M : QM} {st : List CV} {L : QL} {l0 l1 l2 l3 : Option CV} {r : Option Nat} : Rr C mL_law (467, [l0, l1, some (.inr (.inr r)), l3], st, M) x = Rr C mL_law (468, [l0, l1, some (.inr (.inr r)), l3], .inr (.inr r) :: st, M) x := g_pl (show decode cL_law 467 = .ok (.aload_n 2, 1) by decide +kernel) rfl
set_option maxRecDepth 20000 in
theorem kL_law_468 {C : QC} {x : QP} {M : QM} {L : QL} {rest : List CV} {v : CV} {M1 : QM} {b : Nat} (hb : q_kd M b = (1, 13)) (hC : C iX13_run [qr b] M (some v) M1) (hw : (rest.map q_wd).sum ≤ 8) (k : Rr C mL_law (471, L, v :: rest, M1) x) : Rr C mL_law (468, L, qr b :: rest, M) x := g_cv (ow := 16) (e := (0, 239, 13, [1519, 1520, 1521, 94])) (as := []) (show decode cL_law 468 = .ok (.invokevirtual 48, 3) by decide +kernel) rfl rfl rfl (Or.inl rfl) rfl hb hC hw k
set_option maxRecDepth 20000 in
theorem kL_law_471 {C : QC} {x : QP} {M : QM} {st : List CV} {L : QL} {a b : Int} (ha1 : -2147483648 ≤ a) (ha2 : a < 2147483648) (hb1 : -2147483648 ≤ b) (hb2 : b < 2147483648) : Rr C mL_law (471, L, qi b :: qi a :: st, M) x = (if a = b then Rr C mL_law (1036, L, st, M) x else Rr C mL_law (474, L, st, M) x) := (g_icmp (show decode cL_law 471 = .ok (.if_icmp .eq 565, 3) by decide +kernel) rfl ha1 ha2 hb1 hb2).trans (g_ite c_eq)
set_option maxRecDepth 20000 in
theorem kL_law_474 {C : QC} {x : QP} {M : QM} {st : List CV} {L : QL} : Rr C mL_law (474, L, st, M) x = Rr C mL_law (475, L, qi 0 :: st, M) x := g_pl (show decode cL_law 474 = .ok (.iconst 0, 1) by decide +kernel) rfl
set_option maxRecDepth 20000 in
theorem kL_law_475 {C : QC} {x : QP} {M : QM} {st : List CV} {L : QL} {z : Int} (hz : z = 0 ∨ z = 1) : Rr C mL_law (475, L, [qi z], M) x = x (some (qi z)) M := g_iret (show decode cL_law 475 = .ok (.ireturn, 1) by decide +kernel) (by rcases hz with rfl | rfl <;> rfl)
set_option maxRecDepth 20000 in
theorem kL_law_476 {C : QC} {x : QP} {M : QM} {st : List CV} {L : QL} {l0 l1 l2 l3 : Option CV} {r : Option Nat} : Rr C mL_law (476, [l0, some (.inr (.inr r)), l2, l3], st, M) x = Rr C mL_law (477, [l0, some (.inr (.inr r)), l2, l3], .inr (.inr r) :: st, M) x := g_pl (show decode cL_law 476 = .ok (.aload_n 1, 1) by decide +kernel) rfl
set_option maxRecDepth 20000 in
theorem kL_law_477 {C : QC} {x : QP} {M : QM} {L : QL} {rest : List CV} {v : CV} {M1 : QM} {b : Nat} (hb : q_kd M b = (1, 12)) (hC : C iX12_reason [qr b] M (some v) M1) (hw : (rest.map q_wd).sum ≤ 8) (k : Rr C mL_law (480, L, v :: rest, M1) x) : Rr C mL_law (477, L, qr b :: rest, M) x := g_cv (ow := 16) (e := (0, 107, 12, [859, 860, 861, 77])) (as := []) (show decode cL_law 477 = .ok (.invokevirtual 49, 3) by decide +kernel) rfl rfl rfl (Or.inl rfl) rfl hb hC hw k
set_option maxRecDepth 20000 in
theorem kL_law_480 {C : QC} {x : QP} {M : QM} {st : List CV} {L : QL} {l0 l1 l2 l3 : Option CV} {r : Option Nat} : Rr C mL_law (480, [l0, l1, some (.inr (.inr r)), l3], st, M) x = Rr C mL_law (481, [l0, l1, some (.inr (.inr r)), l3], .inr (.inr r) :: st, M) x := g_pl (show decode cL_law 480 = .ok (.aload_n 2, 1) by decide +kernel) rfl
set_option maxRecDepth 20000 in
theorem kL_law_481 {C : QC} {x : QP} {M : QM} {L : QL} {rest : List CV} {v : CV} {M1 : QM} {b : Nat} (hb : q_kd M b = (1, 13)) (hC : C iX13_reason [qr b] M (some v) M1) (hw : (rest.map q_wd).sum ≤ 8) (k : Rr C mL_law (484, L, v :: rest, M1) x) : Rr C mL_law (481, L, qr b :: rest, M) x := g_cv (ow := 16) (e := (0, 245, 13, [1543, 1544, 1545, 94])) (as := []) (show decode cL_law 481 = .ok (.invokevirtual 52, 3) by decide +kernel) rfl rfl rfl (Or.inl rfl) rfl hb hC hw k
set_option maxRecDepth 20000 in
theorem kL_law_484 {C : QC} {x : QP} {M : QM} {st : List CV} {L : QL} {a b : Int} (ha1 : -2147483648 ≤ a) (ha2 : a < 2147483648) (hb1 : -2147483648 ≤ b) (hb2 : b < 2147483648) : Rr C mL_law (484, L, qi b :: qi a :: st, M) x = (if a = b then Rr C mL_law (1036, L, st, M) x else Rr C mL_law (487, L, st, M) x) := (g_icmp (show decode cL_law 484 = .ok (.if_icmp .eq 552, 3) by decide +kernel) rfl ha1 ha2 hb1 hb2).trans (g_ite c_eq)
set_option maxRecDepth 20000 in
theorem kL_law_487 {C : QC} {x : QP} {M : QM} {st : List CV} {L : QL} : Rr C mL_law (487, L, st, M) x = Rr C mL_law (488, L, qi 0 :: st, M) x := g_pl (show decode cL_law 487 = .ok (.iconst 0, 1) by decide +kernel) rfl
set_option maxRecDepth 20000 in
theorem kL_law_488 {C : QC} {x : QP} {M : QM} {st : List CV} {L : QL} {z : Int} (hz : z = 0 ∨ z = 1) : Rr C mL_law (488, L, [qi z], M) x = x (some (qi z)) M := g_iret (show decode cL_law 488 = .ok (.ireturn, 1) by decide +kernel) (by rcases hz with rfl | rfl <;> rfl)
set_option maxRecDepth 20000 in
theorem kL_law_489 {C : QC} {x : QP} {M : QM} {st : List CV} {L : QL} {l0 l1 l2 l3 : Option CV} {r : Option Nat} : Rr C mL_law (489, [l0, some (.inr (.inr r)), l2, l3], st, M) x = Rr C mL_law (490, [l0, some (.inr (.inr r)), l2, l3], .inr (.inr r) :: st, M) x := g_pl (show decode cL_law 489 = .ok (.aload_n 1, 1) by decide +kernel) rfl
set_option maxRecDepth 20000 in
theorem kL_law_490 {C : QC} {x : QP} {M : QM} {st : List CV} {L : QL} {l0 l1 l2 l3 : Option CV} {r : Option Nat} : Rr C mL_law (490, [some (.inr (.inr r)), l1, l2, l3], st, M) x = Rr C mL_law (491, [some (.inr (.inr r)), l1, l2, l3], .inr (.inr r) :: st, M) x := g_pl (show decode cL_law 490 = .ok (.aload_n 0, 1) by decide +kernel) rfl
set_option maxRecDepth 20000 in
theorem kL_law_491 {C : QC} {x : QP} {M : QM} {st : List CV} {L : QL} {l0 l1 l2 l3 : Option CV} {z : Int} : Rr C mL_law (491, [l0, l1, l2, some (qi z)], st, M) x = Rr C mL_law (492, [l0, l1, l2, some (qi z)], qi z :: st, M) x := g_pl (show decode cL_law 491 = .ok (.iload_n 3, 1) by decide +kernel) rfl
set_option maxRecDepth 20000 in
theorem kL_law_492 {C : QC} {x : QP} {M : QM} {st : List CV} {L : QL} : Rr C mL_law (492, L, st, M) x = Rr C mL_law (493, L, qi 1 :: st, M) x := g_pl (show decode cL_law 492 = .ok (.iconst 1, 1) by decide +kernel) rfl
set_option maxRecDepth 20000 in
theorem kL_law_493 {C : QC} {x : QP} {M : QM} {st : List CV} {L : QL} {a b : Int} : Rr C mL_law (493, L, qi b :: qi a :: st, M) x = Rr C mL_law (494, L, qi (a + b) :: st, M) x := g_pl (show decode cL_law 493 = .ok (.iadd, 1) by decide +kernel) rfl
set_option maxRecDepth 20000 in
theorem kL_law_494 {C : QC} {x : QP} {M : QM} {st : List CV} {L : QL} {a : Nat} {j : Int} (hk : (q_kd M a).1 = 7) (h0 : 0 ≤ j) (h1 : j < ((q_kd M a).2 : Int)) : Rr C mL_law (494, L, qi j :: qr a :: st, M) x = Rr C mL_law (495, L, q_fv M a j.toNat :: st, M) x := g_iald7 (show decode cL_law 494 = .ok (.iaload, 1) by decide +kernel) hk h0 h1
set_option maxRecDepth 20000 in
theorem kL_law_495 {C : QC} {x : QP} {M : QM} {st : List CV} {L : QL} {l0 l1 l2 l3 : Option CV} {r : Option Nat} : Rr C mL_law (495, [some (.inr (.inr r)), l1, l2, l3], st, M) x = Rr C mL_law (496, [some (.inr (.inr r)), l1, l2, l3], .inr (.inr r) :: st, M) x := g_pl (show decode cL_law 495 = .ok (.aload_n 0, 1) by decide +kernel) rfl
set_option maxRecDepth 20000 in
theorem kL_law_496 {C : QC} {x : QP} {M : QM} {st : List CV} {L : QL} {l0 l1 l2 l3 : Option CV} {z : Int} : Rr C mL_law (496, [l0, l1, l2, some (qi z)], st, M) x = Rr C mL_law (497, [l0, l1, l2, some (qi z)], qi z :: st, M) x := g_pl (show decode cL_law 496 = .ok (.iload_n 3, 1) by decide +kernel) rfl
set_option maxRecDepth 20000 in
theorem kL_law_497 {C : QC} {x : QP} {M : QM} {st : List CV} {L : QL} : Rr C mL_law (497, L, st, M) x = Rr C mL_law (498, L, qi 2 :: st, M) x := g_pl (show decode cL_law 497 = .ok (.iconst 2, 1) by decide +kernel) rfl
set_option maxRecDepth 20000 in
theorem kL_law_498 {C : QC} {x : QP} {M : QM} {st : List CV} {L : QL} {a b : Int} : Rr C mL_law (498, L, qi b :: qi a :: st, M) x = Rr C mL_law (499, L, qi (a + b) :: st, M) x := g_pl (show decode cL_law 498 = .ok (.iadd, 1) by decide +kernel) rfl
set_option maxRecDepth 20000 in
theorem kL_law_499 {C : QC} {x : QP} {M : QM} {st : List CV} {L : QL} {a : Nat} {j : Int} (hk : (q_kd M a).1 = 7) (h0 : 0 ≤ j) (h1 : j < ((q_kd M a).2 : Int)) : Rr C mL_law (499, L, qi j :: qr a :: st, M) x = Rr C mL_law (500, L, q_fv M a j.toNat :: st, M) x := g_iald7 (show decode cL_law 499 = .ok (.iaload, 1) by decide +kernel) hk h0 h1
set_option maxRecDepth 20000 in
theorem kL_law_500 {C : QC} {x : QP} {M : QM} {st : List CV} {L : QL} {l0 l1 l2 l3 : Option CV} {r : Option Nat} : Rr C mL_law (500, [some (.inr (.inr r)), l1, l2, l3], st, M) x = Rr C mL_law (501, [some (.inr (.inr r)), l1, l2, l3], .inr (.inr r) :: st, M) x := g_pl (show decode cL_law 500 = .ok (.aload_n 0, 1) by decide +kernel) rfl
set_option maxRecDepth 20000 in
theorem kL_law_501 {C : QC} {x : QP} {M : QM} {st : List CV} {L : QL} {l0 l1 l2 l3 : Option CV} {z : Int} : Rr C mL_law (501, [l0, l1, l2, some (qi z)], st, M) x = Rr C mL_law (502, [l0, l1, l2, some (qi z)], qi z :: st, M) x := g_pl (show decode cL_law 501 = .ok (.iload_n 3, 1) by decide +kernel) rfl
set_option maxRecDepth 20000 in
theorem kL_law_502 {C : QC} {x : QP} {M : QM} {st : List CV} {L : QL} : Rr C mL_law (502, L, st, M) x = Rr C mL_law (503, L, qi 3 :: st, M) x := g_pl (show decode cL_law 502 = .ok (.iconst 3, 1) by decide +kernel) rfl
set_option maxRecDepth 20000 in
theorem kL_law_503 {C : QC} {x : QP} {M : QM} {st : List CV} {L : QL} {a b : Int} : Rr C mL_law (503, L, qi b :: qi a :: st, M) x = Rr C mL_law (504, L, qi (a + b) :: st, M) x := g_pl (show decode cL_law 503 = .ok (.iadd, 1) by decide +kernel) rfl
set_option maxRecDepth 20000 in
theorem kL_law_504 {C : QC} {x : QP} {M : QM} {st : List CV} {L : QL} {a : Nat} {j : Int} (hk : (q_kd M a).1 = 7) (h0 : 0 ≤ j) (h1 : j < ((q_kd M a).2 : Int)) : Rr C mL_law (504, L, qi j :: qr a :: st, M) x = Rr C mL_law (505, L, q_fv M a j.toNat :: st, M) x := g_iald7 (show decode cL_law 504 = .ok (.iaload, 1) by decide +kernel) hk h0 h1
set_option maxRecDepth 20000 in
theorem kL_law_505 {C : QC} {x : QP} {M : QM} {L : QL} {rest : List CV} {a0 a1 a2 : CV} {v : CV} {M1 : QM} {b : Nat} (hb : q_kd M b = (1, 12)) (hC : C iX12_on [qr b, a0, a1, a2] M (some v) M1) (hw : (rest.map q_wd).sum ≤ 8) (k : Rr C mL_law (508, L, v :: rest, M1) x) : Rr C mL_law (505, L, a2 :: a1 :: a0 :: qr b :: rest, M) x := g_cv (ow := 16) (e := (0, 108, 12, [863, 864, 865, 77])) (as := [a0, a1, a2]) (show decode cL_law 505 = .ok (.invokevirtual 53, 3) by decide +kernel) rfl rfl rfl (Or.inl rfl) rfl hb hC hw k
set_option maxRecDepth 20000 in
theorem kL_law_508 {C : QC} {x : QP} {M : QM} {st : List CV} {L : QL} {l0 l1 l2 l3 : Option CV} {r : Option Nat} : Rr C mL_law (508, [l0, l1, some (.inr (.inr r)), l3], st, M) x = Rr C mL_law (509, [l0, l1, some (.inr (.inr r)), l3], .inr (.inr r) :: st, M) x := g_pl (show decode cL_law 508 = .ok (.aload_n 2, 1) by decide +kernel) rfl
set_option maxRecDepth 20000 in
theorem kL_law_509 {C : QC} {x : QP} {M : QM} {st : List CV} {L : QL} {l0 l1 l2 l3 : Option CV} {r : Option Nat} : Rr C mL_law (509, [some (.inr (.inr r)), l1, l2, l3], st, M) x = Rr C mL_law (510, [some (.inr (.inr r)), l1, l2, l3], .inr (.inr r) :: st, M) x := g_pl (show decode cL_law 509 = .ok (.aload_n 0, 1) by decide +kernel) rfl
set_option maxRecDepth 20000 in
theorem kL_law_510 {C : QC} {x : QP} {M : QM} {st : List CV} {L : QL} {l0 l1 l2 l3 : Option CV} {z : Int} : Rr C mL_law (510, [l0, l1, l2, some (qi z)], st, M) x = Rr C mL_law (511, [l0, l1, l2, some (qi z)], qi z :: st, M) x := g_pl (show decode cL_law 510 = .ok (.iload_n 3, 1) by decide +kernel) rfl
set_option maxRecDepth 20000 in
theorem kL_law_511 {C : QC} {x : QP} {M : QM} {st : List CV} {L : QL} : Rr C mL_law (511, L, st, M) x = Rr C mL_law (512, L, qi 1 :: st, M) x := g_pl (show decode cL_law 511 = .ok (.iconst 1, 1) by decide +kernel) rfl
set_option maxRecDepth 20000 in
theorem kL_law_512 {C : QC} {x : QP} {M : QM} {st : List CV} {L : QL} {a b : Int} : Rr C mL_law (512, L, qi b :: qi a :: st, M) x = Rr C mL_law (513, L, qi (a + b) :: st, M) x := g_pl (show decode cL_law 512 = .ok (.iadd, 1) by decide +kernel) rfl
set_option maxRecDepth 20000 in
theorem kL_law_513 {C : QC} {x : QP} {M : QM} {st : List CV} {L : QL} {a : Nat} {j : Int} (hk : (q_kd M a).1 = 7) (h0 : 0 ≤ j) (h1 : j < ((q_kd M a).2 : Int)) : Rr C mL_law (513, L, qi j :: qr a :: st, M) x = Rr C mL_law (514, L, q_fv M a j.toNat :: st, M) x := g_iald7 (show decode cL_law 513 = .ok (.iaload, 1) by decide +kernel) hk h0 h1
set_option maxRecDepth 20000 in
theorem kL_law_514 {C : QC} {x : QP} {M : QM} {st : List CV} {L : QL} {l0 l1 l2 l3 : Option CV} {r : Option Nat} : Rr C mL_law (514, [some (.inr (.inr r)), l1, l2, l3], st, M) x = Rr C mL_law (515, [some (.inr (.inr r)), l1, l2, l3], .inr (.inr r) :: st, M) x := g_pl (show decode cL_law 514 = .ok (.aload_n 0, 1) by decide +kernel) rfl
set_option maxRecDepth 20000 in
theorem kL_law_515 {C : QC} {x : QP} {M : QM} {st : List CV} {L : QL} {l0 l1 l2 l3 : Option CV} {z : Int} : Rr C mL_law (515, [l0, l1, l2, some (qi z)], st, M) x = Rr C mL_law (516, [l0, l1, l2, some (qi z)], qi z :: st, M) x := g_pl (show decode cL_law 515 = .ok (.iload_n 3, 1) by decide +kernel) rfl
set_option maxRecDepth 20000 in
theorem kL_law_516 {C : QC} {x : QP} {M : QM} {st : List CV} {L : QL} : Rr C mL_law (516, L, st, M) x = Rr C mL_law (517, L, qi 2 :: st, M) x := g_pl (show decode cL_law 516 = .ok (.iconst 2, 1) by decide +kernel) rfl
set_option maxRecDepth 20000 in
theorem kL_law_517 {C : QC} {x : QP} {M : QM} {st : List CV} {L : QL} {a b : Int} : Rr C mL_law (517, L, qi b :: qi a :: st, M) x = Rr C mL_law (518, L, qi (a + b) :: st, M) x := g_pl (show decode cL_law 517 = .ok (.iadd, 1) by decide +kernel) rfl
set_option maxRecDepth 20000 in
theorem kL_law_518 {C : QC} {x : QP} {M : QM} {st : List CV} {L : QL} {a : Nat} {j : Int} (hk : (q_kd M a).1 = 7) (h0 : 0 ≤ j) (h1 : j < ((q_kd M a).2 : Int)) : Rr C mL_law (518, L, qi j :: qr a :: st, M) x = Rr C mL_law (519, L, q_fv M a j.toNat :: st, M) x := g_iald7 (show decode cL_law 518 = .ok (.iaload, 1) by decide +kernel) hk h0 h1
set_option maxRecDepth 20000 in
theorem kL_law_519 {C : QC} {x : QP} {M : QM} {st : List CV} {L : QL} {l0 l1 l2 l3 : Option CV} {r : Option Nat} : Rr C mL_law (519, [some (.inr (.inr r)), l1, l2, l3], st, M) x = Rr C mL_law (520, [some (.inr (.inr r)), l1, l2, l3], .inr (.inr r) :: st, M) x := g_pl (show decode cL_law 519 = .ok (.aload_n 0, 1) by decide +kernel) rfl
set_option maxRecDepth 20000 in
theorem kL_law_520 {C : QC} {x : QP} {M : QM} {st : List CV} {L : QL} {l0 l1 l2 l3 : Option CV} {z : Int} : Rr C mL_law (520, [l0, l1, l2, some (qi z)], st, M) x = Rr C mL_law (521, [l0, l1, l2, some (qi z)], qi z :: st, M) x := g_pl (show decode cL_law 520 = .ok (.iload_n 3, 1) by decide +kernel) rfl
set_option maxRecDepth 20000 in
theorem kL_law_521 {C : QC} {x : QP} {M : QM} {st : List CV} {L : QL} : Rr C mL_law (521, L, st, M) x = Rr C mL_law (522, L, qi 3 :: st, M) x := g_pl (show decode cL_law 521 = .ok (.iconst 3, 1) by decide +kernel) rfl
set_option maxRecDepth 20000 in
theorem kL_law_522 {C : QC} {x : QP} {M : QM} {st : List CV} {L : QL} {a b : Int} : Rr C mL_law (522, L, qi b :: qi a :: st, M) x = Rr C mL_law (523, L, qi (a + b) :: st, M) x := g_pl (show decode cL_law 522 = .ok (.iadd, 1) by decide +kernel) rfl
set_option maxRecDepth 20000 in
theorem kL_law_523 {C : QC} {x : QP} {M : QM} {st : List CV} {L : QL} {a : Nat} {j : Int} (hk : (q_kd M a).1 = 7) (h0 : 0 ≤ j) (h1 : j < ((q_kd M a).2 : Int)) : Rr C mL_law (523, L, qi j :: qr a :: st, M) x = Rr C mL_law (524, L, q_fv M a j.toNat :: st, M) x := g_iald7 (show decode cL_law 523 = .ok (.iaload, 1) by decide +kernel) hk h0 h1
set_option maxRecDepth 20000 in
theorem kL_law_524 {C : QC} {x : QP} {M : QM} {L : QL} {rest : List CV} {a0 a1 a2 : CV} {v : CV} {M1 : QM} {b : Nat} (hb : q_kd M b = (1, 13)) (hC : C iX13_on [qr b, a0, a1, a2] M (some v) M1) (hw : (rest.map q_wd).sum ≤ 8) (k : Rr C mL_law (527, L, v :: rest, M1) x) : Rr C mL_law (524, L, a2 :: a1 :: a0 :: qr b :: rest, M) x := g_cv (ow := 16) (e := (0, 246, 13, [1547, 1548, 1549, 94])) (as := [a0, a1, a2]) (show decode cL_law 524 = .ok (.invokevirtual 56, 3) by decide +kernel) rfl rfl rfl (Or.inl rfl) rfl hb hC hw k
set_option maxRecDepth 20000 in
theorem kL_law_527 {C : QC} {x : QP} {M : QM} {st : List CV} {L : QL} {a b : Int} (ha1 : -2147483648 ≤ a) (ha2 : a < 2147483648) (hb1 : -2147483648 ≤ b) (hb2 : b < 2147483648) : Rr C mL_law (527, L, qi b :: qi a :: st, M) x = (if a = b then Rr C mL_law (1036, L, st, M) x else Rr C mL_law (530, L, st, M) x) := (g_icmp (show decode cL_law 527 = .ok (.if_icmp .eq 509, 3) by decide +kernel) rfl ha1 ha2 hb1 hb2).trans (g_ite c_eq)
set_option maxRecDepth 20000 in
theorem kL_law_530 {C : QC} {x : QP} {M : QM} {st : List CV} {L : QL} : Rr C mL_law (530, L, st, M) x = Rr C mL_law (531, L, qi 0 :: st, M) x := g_pl (show decode cL_law 530 = .ok (.iconst 0, 1) by decide +kernel) rfl
set_option maxRecDepth 20000 in
theorem kL_law_531 {C : QC} {x : QP} {M : QM} {st : List CV} {L : QL} {z : Int} (hz : z = 0 ∨ z = 1) : Rr C mL_law (531, L, [qi z], M) x = x (some (qi z)) M := g_iret (show decode cL_law 531 = .ok (.ireturn, 1) by decide +kernel) (by rcases hz with rfl | rfl <;> rfl)
set_option maxRecDepth 20000 in
theorem kL_law_532 {C : QC} {x : QP} {M : QM} {st : List CV} {L : QL} {l0 l1 l2 l3 : Option CV} {r : Option Nat} : Rr C mL_law (532, [l0, some (.inr (.inr r)), l2, l3], st, M) x = Rr C mL_law (533, [l0, some (.inr (.inr r)), l2, l3], .inr (.inr r) :: st, M) x := g_pl (show decode cL_law 532 = .ok (.aload_n 1, 1) by decide +kernel) rfl
set_option maxRecDepth 20000 in
theorem kL_law_533 {C : QC} {x : QP} {M : QM} {st : List CV} {L : QL} {l0 l1 l2 l3 : Option CV} {r : Option Nat} : Rr C mL_law (533, [some (.inr (.inr r)), l1, l2, l3], st, M) x = Rr C mL_law (534, [some (.inr (.inr r)), l1, l2, l3], .inr (.inr r) :: st, M) x := g_pl (show decode cL_law 533 = .ok (.aload_n 0, 1) by decide +kernel) rfl
set_option maxRecDepth 20000 in
theorem kL_law_534 {C : QC} {x : QP} {M : QM} {st : List CV} {L : QL} {l0 l1 l2 l3 : Option CV} {z : Int} : Rr C mL_law (534, [l0, l1, l2, some (qi z)], st, M) x = Rr C mL_law (535, [l0, l1, l2, some (qi z)], qi z :: st, M) x := g_pl (show decode cL_law 534 = .ok (.iload_n 3, 1) by decide +kernel) rfl
set_option maxRecDepth 20000 in
theorem kL_law_535 {C : QC} {x : QP} {M : QM} {st : List CV} {L : QL} : Rr C mL_law (535, L, st, M) x = Rr C mL_law (536, L, qi 1 :: st, M) x := g_pl (show decode cL_law 535 = .ok (.iconst 1, 1) by decide +kernel) rfl
set_option maxRecDepth 20000 in
theorem kL_law_536 {C : QC} {x : QP} {M : QM} {st : List CV} {L : QL} {a b : Int} : Rr C mL_law (536, L, qi b :: qi a :: st, M) x = Rr C mL_law (537, L, qi (a + b) :: st, M) x := g_pl (show decode cL_law 536 = .ok (.iadd, 1) by decide +kernel) rfl
set_option maxRecDepth 20000 in
theorem kL_law_537 {C : QC} {x : QP} {M : QM} {st : List CV} {L : QL} {a : Nat} {j : Int} (hk : (q_kd M a).1 = 7) (h0 : 0 ≤ j) (h1 : j < ((q_kd M a).2 : Int)) : Rr C mL_law (537, L, qi j :: qr a :: st, M) x = Rr C mL_law (538, L, q_fv M a j.toNat :: st, M) x := g_iald7 (show decode cL_law 537 = .ok (.iaload, 1) by decide +kernel) hk h0 h1
set_option maxRecDepth 20000 in
theorem kL_law_538 {C : QC} {x : QP} {M : QM} {st : List CV} {L : QL} {l0 l1 l2 l3 : Option CV} {r : Option Nat} : Rr C mL_law (538, [some (.inr (.inr r)), l1, l2, l3], st, M) x = Rr C mL_law (539, [some (.inr (.inr r)), l1, l2, l3], .inr (.inr r) :: st, M) x := g_pl (show decode cL_law 538 = .ok (.aload_n 0, 1) by decide +kernel) rfl
set_option maxRecDepth 20000 in
theorem kL_law_539 {C : QC} {x : QP} {M : QM} {st : List CV} {L : QL} {l0 l1 l2 l3 : Option CV} {z : Int} : Rr C mL_law (539, [l0, l1, l2, some (qi z)], st, M) x = Rr C mL_law (540, [l0, l1, l2, some (qi z)], qi z :: st, M) x := g_pl (show decode cL_law 539 = .ok (.iload_n 3, 1) by decide +kernel) rfl
set_option maxRecDepth 20000 in
theorem kL_law_540 {C : QC} {x : QP} {M : QM} {st : List CV} {L : QL} : Rr C mL_law (540, L, st, M) x = Rr C mL_law (541, L, qi 2 :: st, M) x := g_pl (show decode cL_law 540 = .ok (.iconst 2, 1) by decide +kernel) rfl
set_option maxRecDepth 20000 in
theorem kL_law_541 {C : QC} {x : QP} {M : QM} {st : List CV} {L : QL} {a b : Int} : Rr C mL_law (541, L, qi b :: qi a :: st, M) x = Rr C mL_law (542, L, qi (a + b) :: st, M) x := g_pl (show decode cL_law 541 = .ok (.iadd, 1) by decide +kernel) rfl
set_option maxRecDepth 20000 in
theorem kL_law_542 {C : QC} {x : QP} {M : QM} {st : List CV} {L : QL} {a : Nat} {j : Int} (hk : (q_kd M a).1 = 7) (h0 : 0 ≤ j) (h1 : j < ((q_kd M a).2 : Int)) : Rr C mL_law (542, L, qi j :: qr a :: st, M) x = Rr C mL_law (543, L, q_fv M a j.toNat :: st, M) x := g_iald7 (show decode cL_law 542 = .ok (.iaload, 1) by decide +kernel) hk h0 h1
set_option maxRecDepth 20000 in
theorem kL_law_543 {C : QC} {x : QP} {M : QM} {L : QL} {rest : List CV} {a0 a1 : CV} {v : CV} {M1 : QM} {b : Nat} (hb : q_kd M b = (1, 12)) (hC : C iX12_of [qr b, a0, a1] M (some v) M1) (hw : (rest.map q_wd).sum ≤ 8) (k : Rr C mL_law (546, L, v :: rest, M1) x) : Rr C mL_law (543, L, a1 :: a0 :: qr b :: rest, M) x := g_cv (ow := 16) (e := (0, 118, 12, [913, 914, 915, 77])) (as := [a0, a1]) (show decode cL_law 543 = .ok (.invokevirtual 57, 3) by decide +kernel) rfl rfl rfl (Or.inl rfl) rfl hb hC hw k
set_option maxRecDepth 20000 in
theorem kL_law_546 {C : QC} {x : QP} {M : QM} {st : List CV} {L : QL} {l0 l1 l2 l3 : Option CV} {r : Option Nat} : Rr C mL_law (546, [l0, l1, some (.inr (.inr r)), l3], st, M) x = Rr C mL_law (547, [l0, l1, some (.inr (.inr r)), l3], .inr (.inr r) :: st, M) x := g_pl (show decode cL_law 546 = .ok (.aload_n 2, 1) by decide +kernel) rfl
set_option maxRecDepth 20000 in
theorem kL_law_547 {C : QC} {x : QP} {M : QM} {st : List CV} {L : QL} {l0 l1 l2 l3 : Option CV} {r : Option Nat} : Rr C mL_law (547, [some (.inr (.inr r)), l1, l2, l3], st, M) x = Rr C mL_law (548, [some (.inr (.inr r)), l1, l2, l3], .inr (.inr r) :: st, M) x := g_pl (show decode cL_law 547 = .ok (.aload_n 0, 1) by decide +kernel) rfl
set_option maxRecDepth 20000 in
theorem kL_law_548 {C : QC} {x : QP} {M : QM} {st : List CV} {L : QL} {l0 l1 l2 l3 : Option CV} {z : Int} : Rr C mL_law (548, [l0, l1, l2, some (qi z)], st, M) x = Rr C mL_law (549, [l0, l1, l2, some (qi z)], qi z :: st, M) x := g_pl (show decode cL_law 548 = .ok (.iload_n 3, 1) by decide +kernel) rfl
set_option maxRecDepth 20000 in
theorem kL_law_549 {C : QC} {x : QP} {M : QM} {st : List CV} {L : QL} : Rr C mL_law (549, L, st, M) x = Rr C mL_law (550, L, qi 1 :: st, M) x := g_pl (show decode cL_law 549 = .ok (.iconst 1, 1) by decide +kernel) rfl
set_option maxRecDepth 20000 in
theorem kL_law_550 {C : QC} {x : QP} {M : QM} {st : List CV} {L : QL} {a b : Int} : Rr C mL_law (550, L, qi b :: qi a :: st, M) x = Rr C mL_law (551, L, qi (a + b) :: st, M) x := g_pl (show decode cL_law 550 = .ok (.iadd, 1) by decide +kernel) rfl
set_option maxRecDepth 20000 in
theorem kL_law_551 {C : QC} {x : QP} {M : QM} {st : List CV} {L : QL} {a : Nat} {j : Int} (hk : (q_kd M a).1 = 7) (h0 : 0 ≤ j) (h1 : j < ((q_kd M a).2 : Int)) : Rr C mL_law (551, L, qi j :: qr a :: st, M) x = Rr C mL_law (552, L, q_fv M a j.toNat :: st, M) x := g_iald7 (show decode cL_law 551 = .ok (.iaload, 1) by decide +kernel) hk h0 h1
set_option maxRecDepth 20000 in
theorem kL_law_552 {C : QC} {x : QP} {M : QM} {st : List CV} {L : QL} {l0 l1 l2 l3 : Option CV} {r : Option Nat} : Rr C mL_law (552, [some (.inr (.inr r)), l1, l2, l3], st, M) x = Rr C mL_law (553, [some (.inr (.inr r)), l1, l2, l3], .inr (.inr r) :: st, M) x := g_pl (show decode cL_law 552 = .ok (.aload_n 0, 1) by decide +kernel) rfl
set_option maxRecDepth 20000 in
theorem kL_law_553 {C : QC} {x : QP} {M : QM} {st : List CV} {L : QL} {l0 l1 l2 l3 : Option CV} {z : Int} : Rr C mL_law (553, [l0, l1, l2, some (qi z)], st, M) x = Rr C mL_law (554, [l0, l1, l2, some (qi z)], qi z :: st, M) x := g_pl (show decode cL_law 553 = .ok (.iload_n 3, 1) by decide +kernel) rfl
set_option maxRecDepth 20000 in
theorem kL_law_554 {C : QC} {x : QP} {M : QM} {st : List CV} {L : QL} : Rr C mL_law (554, L, st, M) x = Rr C mL_law (555, L, qi 2 :: st, M) x := g_pl (show decode cL_law 554 = .ok (.iconst 2, 1) by decide +kernel) rfl
set_option maxRecDepth 20000 in
theorem kL_law_555 {C : QC} {x : QP} {M : QM} {st : List CV} {L : QL} {a b : Int} : Rr C mL_law (555, L, qi b :: qi a :: st, M) x = Rr C mL_law (556, L, qi (a + b) :: st, M) x := g_pl (show decode cL_law 555 = .ok (.iadd, 1) by decide +kernel) rfl
set_option maxRecDepth 20000 in
theorem kL_law_556 {C : QC} {x : QP} {M : QM} {st : List CV} {L : QL} {a : Nat} {j : Int} (hk : (q_kd M a).1 = 7) (h0 : 0 ≤ j) (h1 : j < ((q_kd M a).2 : Int)) : Rr C mL_law (556, L, qi j :: qr a :: st, M) x = Rr C mL_law (557, L, q_fv M a j.toNat :: st, M) x := g_iald7 (show decode cL_law 556 = .ok (.iaload, 1) by decide +kernel) hk h0 h1
set_option maxRecDepth 20000 in
theorem kL_law_557 {C : QC} {x : QP} {M : QM} {L : QL} {rest : List CV} {a0 a1 : CV} {v : CV} {M1 : QM} {b : Nat} (hb : q_kd M b = (1, 13)) (hC : C iX13_of [qr b, a0, a1] M (some v) M1) (hw : (rest.map q_wd).sum ≤ 8) (k : Rr C mL_law (560, L, v :: rest, M1) x) : Rr C mL_law (557, L, a1 :: a0 :: qr b :: rest, M) x := g_cv (ow := 16) (e := (0, 250, 13, [1563, 1564, 1565, 94])) (as := [a0, a1]) (show decode cL_law 557 = .ok (.invokevirtual 60, 3) by decide +kernel) rfl rfl rfl (Or.inl rfl) rfl hb hC hw k
set_option maxRecDepth 20000 in
theorem kL_law_560 {C : QC} {x : QP} {M : QM} {st : List CV} {L : QL} {a b : Int} (ha1 : -2147483648 ≤ a) (ha2 : a < 2147483648) (hb1 : -2147483648 ≤ b) (hb2 : b < 2147483648) : Rr C mL_law (560, L, qi b :: qi a :: st, M) x = (if a = b then Rr C mL_law (1036, L, st, M) x else Rr C mL_law (563, L, st, M) x) := (g_icmp (show decode cL_law 560 = .ok (.if_icmp .eq 476, 3) by decide +kernel) rfl ha1 ha2 hb1 hb2).trans (g_ite c_eq)
set_option maxRecDepth 20000 in
theorem kL_law_563 {C : QC} {x : QP} {M : QM} {st : List CV} {L : QL} : Rr C mL_law (563, L, st, M) x = Rr C mL_law (564, L, qi 0 :: st, M) x := g_pl (show decode cL_law 563 = .ok (.iconst 0, 1) by decide +kernel) rfl
set_option maxRecDepth 20000 in
theorem kL_law_564 {C : QC} {x : QP} {M : QM} {st : List CV} {L : QL} {z : Int} (hz : z = 0 ∨ z = 1) : Rr C mL_law (564, L, [qi z], M) x = x (some (qi z)) M := g_iret (show decode cL_law 564 = .ok (.ireturn, 1) by decide +kernel) (by rcases hz with rfl | rfl <;> rfl)
set_option maxRecDepth 20000 in
theorem kL_law_565 {C : QC} {x : QP} {M : QM} {st : List CV} {L : QL} {l0 l1 l2 l3 : Option CV} {r : Option Nat} : Rr C mL_law (565, [l0, some (.inr (.inr r)), l2, l3], st, M) x = Rr C mL_law (566, [l0, some (.inr (.inr r)), l2, l3], .inr (.inr r) :: st, M) x := g_pl (show decode cL_law 565 = .ok (.aload_n 1, 1) by decide +kernel) rfl
set_option maxRecDepth 20000 in
theorem kL_law_566 {C : QC} {x : QP} {M : QM} {st : List CV} {L : QL} {l0 l1 l2 l3 : Option CV} {r : Option Nat} : Rr C mL_law (566, [some (.inr (.inr r)), l1, l2, l3], st, M) x = Rr C mL_law (567, [some (.inr (.inr r)), l1, l2, l3], .inr (.inr r) :: st, M) x := g_pl (show decode cL_law 566 = .ok (.aload_n 0, 1) by decide +kernel) rfl
set_option maxRecDepth 20000 in
theorem kL_law_567 {C : QC} {x : QP} {M : QM} {st : List CV} {L : QL} {l0 l1 l2 l3 : Option CV} {z : Int} : Rr C mL_law (567, [l0, l1, l2, some (qi z)], st, M) x = Rr C mL_law (568, [l0, l1, l2, some (qi z)], qi z :: st, M) x := g_pl (show decode cL_law 567 = .ok (.iload_n 3, 1) by decide +kernel) rfl
set_option maxRecDepth 20000 in
theorem kL_law_568 {C : QC} {x : QP} {M : QM} {st : List CV} {L : QL} : Rr C mL_law (568, L, st, M) x = Rr C mL_law (569, L, qi 1 :: st, M) x := g_pl (show decode cL_law 568 = .ok (.iconst 1, 1) by decide +kernel) rfl
set_option maxRecDepth 20000 in
theorem kL_law_569 {C : QC} {x : QP} {M : QM} {st : List CV} {L : QL} {a b : Int} : Rr C mL_law (569, L, qi b :: qi a :: st, M) x = Rr C mL_law (570, L, qi (a + b) :: st, M) x := g_pl (show decode cL_law 569 = .ok (.iadd, 1) by decide +kernel) rfl
set_option maxRecDepth 20000 in
theorem kL_law_570 {C : QC} {x : QP} {M : QM} {st : List CV} {L : QL} {a : Nat} {j : Int} (hk : (q_kd M a).1 = 7) (h0 : 0 ≤ j) (h1 : j < ((q_kd M a).2 : Int)) : Rr C mL_law (570, L, qi j :: qr a :: st, M) x = Rr C mL_law (571, L, q_fv M a j.toNat :: st, M) x := g_iald7 (show decode cL_law 570 = .ok (.iaload, 1) by decide +kernel) hk h0 h1
set_option maxRecDepth 20000 in
theorem kL_law_571 {C : QC} {x : QP} {M : QM} {st : List CV} {L : QL} {l0 l1 l2 l3 : Option CV} {r : Option Nat} : Rr C mL_law (571, [some (.inr (.inr r)), l1, l2, l3], st, M) x = Rr C mL_law (572, [some (.inr (.inr r)), l1, l2, l3], .inr (.inr r) :: st, M) x := g_pl (show decode cL_law 571 = .ok (.aload_n 0, 1) by decide +kernel) rfl
set_option maxRecDepth 20000 in
theorem kL_law_572 {C : QC} {x : QP} {M : QM} {st : List CV} {L : QL} {l0 l1 l2 l3 : Option CV} {z : Int} : Rr C mL_law (572, [l0, l1, l2, some (qi z)], st, M) x = Rr C mL_law (573, [l0, l1, l2, some (qi z)], qi z :: st, M) x := g_pl (show decode cL_law 572 = .ok (.iload_n 3, 1) by decide +kernel) rfl
set_option maxRecDepth 20000 in
theorem kL_law_573 {C : QC} {x : QP} {M : QM} {st : List CV} {L : QL} : Rr C mL_law (573, L, st, M) x = Rr C mL_law (574, L, qi 2 :: st, M) x := g_pl (show decode cL_law 573 = .ok (.iconst 2, 1) by decide +kernel) rfl
set_option maxRecDepth 20000 in
theorem kL_law_574 {C : QC} {x : QP} {M : QM} {st : List CV} {L : QL} {a b : Int} : Rr C mL_law (574, L, qi b :: qi a :: st, M) x = Rr C mL_law (575, L, qi (a + b) :: st, M) x := g_pl (show decode cL_law 574 = .ok (.iadd, 1) by decide +kernel) rfl
set_option maxRecDepth 20000 in
theorem kL_law_575 {C : QC} {x : QP} {M : QM} {st : List CV} {L : QL} {a : Nat} {j : Int} (hk : (q_kd M a).1 = 7) (h0 : 0 ≤ j) (h1 : j < ((q_kd M a).2 : Int)) : Rr C mL_law (575, L, qi j :: qr a :: st, M) x = Rr C mL_law (576, L, q_fv M a j.toNat :: st, M) x := g_iald7 (show decode cL_law 575 = .ok (.iaload, 1) by decide +kernel) hk h0 h1
set_option maxRecDepth 20000 in
theorem kL_law_576 {C : QC} {x : QP} {M : QM} {st : List CV} {L : QL} {l0 l1 l2 l3 : Option CV} {r : Option Nat} : Rr C mL_law (576, [some (.inr (.inr r)), l1, l2, l3], st, M) x = Rr C mL_law (577, [some (.inr (.inr r)), l1, l2, l3], .inr (.inr r) :: st, M) x := g_pl (show decode cL_law 576 = .ok (.aload_n 0, 1) by decide +kernel) rfl
set_option maxRecDepth 20000 in
theorem kL_law_577 {C : QC} {x : QP} {M : QM} {st : List CV} {L : QL} {l0 l1 l2 l3 : Option CV} {z : Int} : Rr C mL_law (577, [l0, l1, l2, some (qi z)], st, M) x = Rr C mL_law (578, [l0, l1, l2, some (qi z)], qi z :: st, M) x := g_pl (show decode cL_law 577 = .ok (.iload_n 3, 1) by decide +kernel) rfl
set_option maxRecDepth 20000 in
theorem kL_law_578 {C : QC} {x : QP} {M : QM} {st : List CV} {L : QL} : Rr C mL_law (578, L, st, M) x = Rr C mL_law (579, L, qi 3 :: st, M) x := g_pl (show decode cL_law 578 = .ok (.iconst 3, 1) by decide +kernel) rfl
set_option maxRecDepth 20000 in
theorem kL_law_579 {C : QC} {x : QP} {M : QM} {st : List CV} {L : QL} {a b : Int} : Rr C mL_law (579, L, qi b :: qi a :: st, M) x = Rr C mL_law (580, L, qi (a + b) :: st, M) x := g_pl (show decode cL_law 579 = .ok (.iadd, 1) by decide +kernel) rfl
set_option maxRecDepth 20000 in
theorem kL_law_580 {C : QC} {x : QP} {M : QM} {st : List CV} {L : QL} {a : Nat} {j : Int} (hk : (q_kd M a).1 = 7) (h0 : 0 ≤ j) (h1 : j < ((q_kd M a).2 : Int)) : Rr C mL_law (580, L, qi j :: qr a :: st, M) x = Rr C mL_law (581, L, q_fv M a j.toNat :: st, M) x := g_iald7 (show decode cL_law 580 = .ok (.iaload, 1) by decide +kernel) hk h0 h1
set_option maxRecDepth 20000 in
theorem kL_law_581 {C : QC} {x : QP} {M : QM} {L : QL} {rest : List CV} {a0 a1 a2 : CV} {v : CV} {M1 : QM} {b : Nat} (hb : q_kd M b = (1, 12)) (hC : C iX12_event [qr b, a0, a1, a2] M (some v) M1) (hw : (rest.map q_wd).sum ≤ 8) (k : Rr C mL_law (584, L, v :: rest, M1) x) : Rr C mL_law (581, L, a2 :: a1 :: a0 :: qr b :: rest, M) x := g_cv (ow := 16) (e := (0, 121, 12, [925, 926, 927, 77])) (as := [a0, a1, a2]) (show decode cL_law 581 = .ok (.invokevirtual 61, 3) by decide +kernel) rfl rfl rfl (Or.inl rfl) rfl hb hC hw k
set_option maxRecDepth 20000 in
theorem kL_law_584 {C : QC} {x : QP} {M : QM} {st : List CV} {L : QL} {l0 l1 l2 l3 : Option CV} {r : Option Nat} : Rr C mL_law (584, [l0, l1, some (.inr (.inr r)), l3], st, M) x = Rr C mL_law (585, [l0, l1, some (.inr (.inr r)), l3], .inr (.inr r) :: st, M) x := g_pl (show decode cL_law 584 = .ok (.aload_n 2, 1) by decide +kernel) rfl
set_option maxRecDepth 20000 in
theorem kL_law_585 {C : QC} {x : QP} {M : QM} {st : List CV} {L : QL} {l0 l1 l2 l3 : Option CV} {r : Option Nat} : Rr C mL_law (585, [some (.inr (.inr r)), l1, l2, l3], st, M) x = Rr C mL_law (586, [some (.inr (.inr r)), l1, l2, l3], .inr (.inr r) :: st, M) x := g_pl (show decode cL_law 585 = .ok (.aload_n 0, 1) by decide +kernel) rfl
set_option maxRecDepth 20000 in
theorem kL_law_586 {C : QC} {x : QP} {M : QM} {st : List CV} {L : QL} {l0 l1 l2 l3 : Option CV} {z : Int} : Rr C mL_law (586, [l0, l1, l2, some (qi z)], st, M) x = Rr C mL_law (587, [l0, l1, l2, some (qi z)], qi z :: st, M) x := g_pl (show decode cL_law 586 = .ok (.iload_n 3, 1) by decide +kernel) rfl
set_option maxRecDepth 20000 in
theorem kL_law_587 {C : QC} {x : QP} {M : QM} {st : List CV} {L : QL} : Rr C mL_law (587, L, st, M) x = Rr C mL_law (588, L, qi 1 :: st, M) x := g_pl (show decode cL_law 587 = .ok (.iconst 1, 1) by decide +kernel) rfl
set_option maxRecDepth 20000 in
theorem kL_law_588 {C : QC} {x : QP} {M : QM} {st : List CV} {L : QL} {a b : Int} : Rr C mL_law (588, L, qi b :: qi a :: st, M) x = Rr C mL_law (589, L, qi (a + b) :: st, M) x := g_pl (show decode cL_law 588 = .ok (.iadd, 1) by decide +kernel) rfl
set_option maxRecDepth 20000 in
theorem kL_law_589 {C : QC} {x : QP} {M : QM} {st : List CV} {L : QL} {a : Nat} {j : Int} (hk : (q_kd M a).1 = 7) (h0 : 0 ≤ j) (h1 : j < ((q_kd M a).2 : Int)) : Rr C mL_law (589, L, qi j :: qr a :: st, M) x = Rr C mL_law (590, L, q_fv M a j.toNat :: st, M) x := g_iald7 (show decode cL_law 589 = .ok (.iaload, 1) by decide +kernel) hk h0 h1
set_option maxRecDepth 20000 in
theorem kL_law_590 {C : QC} {x : QP} {M : QM} {st : List CV} {L : QL} {l0 l1 l2 l3 : Option CV} {r : Option Nat} : Rr C mL_law (590, [some (.inr (.inr r)), l1, l2, l3], st, M) x = Rr C mL_law (591, [some (.inr (.inr r)), l1, l2, l3], .inr (.inr r) :: st, M) x := g_pl (show decode cL_law 590 = .ok (.aload_n 0, 1) by decide +kernel) rfl
set_option maxRecDepth 20000 in
theorem kL_law_591 {C : QC} {x : QP} {M : QM} {st : List CV} {L : QL} {l0 l1 l2 l3 : Option CV} {z : Int} : Rr C mL_law (591, [l0, l1, l2, some (qi z)], st, M) x = Rr C mL_law (592, [l0, l1, l2, some (qi z)], qi z :: st, M) x := g_pl (show decode cL_law 591 = .ok (.iload_n 3, 1) by decide +kernel) rfl
set_option maxRecDepth 20000 in
theorem kL_law_592 {C : QC} {x : QP} {M : QM} {st : List CV} {L : QL} : Rr C mL_law (592, L, st, M) x = Rr C mL_law (593, L, qi 2 :: st, M) x := g_pl (show decode cL_law 592 = .ok (.iconst 2, 1) by decide +kernel) rfl
set_option maxRecDepth 20000 in
theorem kL_law_593 {C : QC} {x : QP} {M : QM} {st : List CV} {L : QL} {a b : Int} : Rr C mL_law (593, L, qi b :: qi a :: st, M) x = Rr C mL_law (594, L, qi (a + b) :: st, M) x := g_pl (show decode cL_law 593 = .ok (.iadd, 1) by decide +kernel) rfl
set_option maxRecDepth 20000 in
theorem kL_law_594 {C : QC} {x : QP} {M : QM} {st : List CV} {L : QL} {a : Nat} {j : Int} (hk : (q_kd M a).1 = 7) (h0 : 0 ≤ j) (h1 : j < ((q_kd M a).2 : Int)) : Rr C mL_law (594, L, qi j :: qr a :: st, M) x = Rr C mL_law (595, L, q_fv M a j.toNat :: st, M) x := g_iald7 (show decode cL_law 594 = .ok (.iaload, 1) by decide +kernel) hk h0 h1
set_option maxRecDepth 20000 in
theorem kL_law_595 {C : QC} {x : QP} {M : QM} {st : List CV} {L : QL} {l0 l1 l2 l3 : Option CV} {r : Option Nat} : Rr C mL_law (595, [some (.inr (.inr r)), l1, l2, l3], st, M) x = Rr C mL_law (596, [some (.inr (.inr r)), l1, l2, l3], .inr (.inr r) :: st, M) x := g_pl (show decode cL_law 595 = .ok (.aload_n 0, 1) by decide +kernel) rfl
set_option maxRecDepth 20000 in
theorem kL_law_596 {C : QC} {x : QP} {M : QM} {st : List CV} {L : QL} {l0 l1 l2 l3 : Option CV} {z : Int} : Rr C mL_law (596, [l0, l1, l2, some (qi z)], st, M) x = Rr C mL_law (597, [l0, l1, l2, some (qi z)], qi z :: st, M) x := g_pl (show decode cL_law 596 = .ok (.iload_n 3, 1) by decide +kernel) rfl
set_option maxRecDepth 20000 in
theorem kL_law_597 {C : QC} {x : QP} {M : QM} {st : List CV} {L : QL} : Rr C mL_law (597, L, st, M) x = Rr C mL_law (598, L, qi 3 :: st, M) x := g_pl (show decode cL_law 597 = .ok (.iconst 3, 1) by decide +kernel) rfl
set_option maxRecDepth 20000 in
theorem kL_law_598 {C : QC} {x : QP} {M : QM} {st : List CV} {L : QL} {a b : Int} : Rr C mL_law (598, L, qi b :: qi a :: st, M) x = Rr C mL_law (599, L, qi (a + b) :: st, M) x := g_pl (show decode cL_law 598 = .ok (.iadd, 1) by decide +kernel) rfl
set_option maxRecDepth 20000 in
theorem kL_law_599 {C : QC} {x : QP} {M : QM} {st : List CV} {L : QL} {a : Nat} {j : Int} (hk : (q_kd M a).1 = 7) (h0 : 0 ≤ j) (h1 : j < ((q_kd M a).2 : Int)) : Rr C mL_law (599, L, qi j :: qr a :: st, M) x = Rr C mL_law (600, L, q_fv M a j.toNat :: st, M) x := g_iald7 (show decode cL_law 599 = .ok (.iaload, 1) by decide +kernel) hk h0 h1
set_option maxRecDepth 20000 in
theorem kL_law_600 {C : QC} {x : QP} {M : QM} {L : QL} {rest : List CV} {a0 a1 a2 : CV} {v : CV} {M1 : QM} {b : Nat} (hb : q_kd M b = (1, 13)) (hC : C iX13_event [qr b, a0, a1, a2] M (some v) M1) (hw : (rest.map q_wd).sum ≤ 8) (k : Rr C mL_law (603, L, v :: rest, M1) x) : Rr C mL_law (600, L, a2 :: a1 :: a0 :: qr b :: rest, M) x := g_cv (ow := 16) (e := (0, 252, 13, [1571, 1572, 1573, 94])) (as := [a0, a1, a2]) (show decode cL_law 600 = .ok (.invokevirtual 64, 3) by decide +kernel) rfl rfl rfl (Or.inl rfl) rfl hb hC hw k
set_option maxRecDepth 20000 in
theorem kL_law_603 {C : QC} {x : QP} {M : QM} {st : List CV} {L : QL} {a b : Int} (ha1 : -2147483648 ≤ a) (ha2 : a < 2147483648) (hb1 : -2147483648 ≤ b) (hb2 : b < 2147483648) : Rr C mL_law (603, L, qi b :: qi a :: st, M) x = (if a = b then Rr C mL_law (1036, L, st, M) x else Rr C mL_law (606, L, st, M) x) := (g_icmp (show decode cL_law 603 = .ok (.if_icmp .eq 433, 3) by decide +kernel) rfl ha1 ha2 hb1 hb2).trans (g_ite c_eq)
set_option maxRecDepth 20000 in
theorem kL_law_606 {C : QC} {x : QP} {M : QM} {st : List CV} {L : QL} : Rr C mL_law (606, L, st, M) x = Rr C mL_law (607, L, qi 0 :: st, M) x := g_pl (show decode cL_law 606 = .ok (.iconst 0, 1) by decide +kernel) rfl
set_option maxRecDepth 20000 in
theorem kL_law_607 {C : QC} {x : QP} {M : QM} {st : List CV} {L : QL} {z : Int} (hz : z = 0 ∨ z = 1) : Rr C mL_law (607, L, [qi z], M) x = x (some (qi z)) M := g_iret (show decode cL_law 607 = .ok (.ireturn, 1) by decide +kernel) (by rcases hz with rfl | rfl <;> rfl)
set_option maxRecDepth 20000 in
theorem kL_law_608 {C : QC} {x : QP} {M : QM} {st : List CV} {L : QL} {l0 l1 l2 l3 : Option CV} {r : Option Nat} : Rr C mL_law (608, [l0, some (.inr (.inr r)), l2, l3], st, M) x = Rr C mL_law (609, [l0, some (.inr (.inr r)), l2, l3], .inr (.inr r) :: st, M) x := g_pl (show decode cL_law 608 = .ok (.aload_n 1, 1) by decide +kernel) rfl
set_option maxRecDepth 20000 in
theorem kL_law_609 {C : QC} {x : QP} {M : QM} {st : List CV} {L : QL} {l0 l1 l2 l3 : Option CV} {r : Option Nat} : Rr C mL_law (609, [some (.inr (.inr r)), l1, l2, l3], st, M) x = Rr C mL_law (610, [some (.inr (.inr r)), l1, l2, l3], .inr (.inr r) :: st, M) x := g_pl (show decode cL_law 609 = .ok (.aload_n 0, 1) by decide +kernel) rfl
set_option maxRecDepth 20000 in
theorem kL_law_610 {C : QC} {x : QP} {M : QM} {st : List CV} {L : QL} {l0 l1 l2 l3 : Option CV} {z : Int} : Rr C mL_law (610, [l0, l1, l2, some (qi z)], st, M) x = Rr C mL_law (611, [l0, l1, l2, some (qi z)], qi z :: st, M) x := g_pl (show decode cL_law 610 = .ok (.iload_n 3, 1) by decide +kernel) rfl
set_option maxRecDepth 20000 in
theorem kL_law_611 {C : QC} {x : QP} {M : QM} {st : List CV} {L : QL} : Rr C mL_law (611, L, st, M) x = Rr C mL_law (612, L, qi 1 :: st, M) x := g_pl (show decode cL_law 611 = .ok (.iconst 1, 1) by decide +kernel) rfl
set_option maxRecDepth 20000 in
theorem kL_law_612 {C : QC} {x : QP} {M : QM} {st : List CV} {L : QL} {a b : Int} : Rr C mL_law (612, L, qi b :: qi a :: st, M) x = Rr C mL_law (613, L, qi (a + b) :: st, M) x := g_pl (show decode cL_law 612 = .ok (.iadd, 1) by decide +kernel) rfl
set_option maxRecDepth 20000 in
theorem kL_law_613 {C : QC} {x : QP} {M : QM} {st : List CV} {L : QL} {a : Nat} {j : Int} (hk : (q_kd M a).1 = 7) (h0 : 0 ≤ j) (h1 : j < ((q_kd M a).2 : Int)) : Rr C mL_law (613, L, qi j :: qr a :: st, M) x = Rr C mL_law (614, L, q_fv M a j.toNat :: st, M) x := g_iald7 (show decode cL_law 613 = .ok (.iaload, 1) by decide +kernel) hk h0 h1
set_option maxRecDepth 20000 in
theorem kL_law_614 {C : QC} {x : QP} {M : QM} {st : List CV} {L : QL} {l0 l1 l2 l3 : Option CV} {r : Option Nat} : Rr C mL_law (614, [some (.inr (.inr r)), l1, l2, l3], st, M) x = Rr C mL_law (615, [some (.inr (.inr r)), l1, l2, l3], .inr (.inr r) :: st, M) x := g_pl (show decode cL_law 614 = .ok (.aload_n 0, 1) by decide +kernel) rfl
set_option maxRecDepth 20000 in
theorem kL_law_615 {C : QC} {x : QP} {M : QM} {st : List CV} {L : QL} {l0 l1 l2 l3 : Option CV} {z : Int} : Rr C mL_law (615, [l0, l1, l2, some (qi z)], st, M) x = Rr C mL_law (616, [l0, l1, l2, some (qi z)], qi z :: st, M) x := g_pl (show decode cL_law 615 = .ok (.iload_n 3, 1) by decide +kernel) rfl
set_option maxRecDepth 20000 in
theorem kL_law_616 {C : QC} {x : QP} {M : QM} {st : List CV} {L : QL} : Rr C mL_law (616, L, st, M) x = Rr C mL_law (617, L, qi 2 :: st, M) x := g_pl (show decode cL_law 616 = .ok (.iconst 2, 1) by decide +kernel) rfl
set_option maxRecDepth 20000 in
theorem kL_law_617 {C : QC} {x : QP} {M : QM} {st : List CV} {L : QL} {a b : Int} : Rr C mL_law (617, L, qi b :: qi a :: st, M) x = Rr C mL_law (618, L, qi (a + b) :: st, M) x := g_pl (show decode cL_law 617 = .ok (.iadd, 1) by decide +kernel) rfl
set_option maxRecDepth 20000 in
theorem kL_law_618 {C : QC} {x : QP} {M : QM} {st : List CV} {L : QL} {a : Nat} {j : Int} (hk : (q_kd M a).1 = 7) (h0 : 0 ≤ j) (h1 : j < ((q_kd M a).2 : Int)) : Rr C mL_law (618, L, qi j :: qr a :: st, M) x = Rr C mL_law (619, L, q_fv M a j.toNat :: st, M) x := g_iald7 (show decode cL_law 618 = .ok (.iaload, 1) by decide +kernel) hk h0 h1
set_option maxRecDepth 20000 in
theorem kL_law_619 {C : QC} {x : QP} {M : QM} {L : QL} {rest : List CV} {a0 a1 : CV} {v : CV} {M1 : QM} {b : Nat} (hb : q_kd M b = (1, 12)) (hC : C iX12_again [qr b, a0, a1] M (some v) M1) (hw : (rest.map q_wd).sum ≤ 8) (k : Rr C mL_law (622, L, v :: rest, M1) x) : Rr C mL_law (619, L, a1 :: a0 :: qr b :: rest, M) x := g_cv (ow := 16) (e := (0, 126, 12, [947, 948, 949, 77])) (as := [a0, a1]) (show decode cL_law 619 = .ok (.invokevirtual 65, 3) by decide +kernel) rfl rfl rfl (Or.inl rfl) rfl hb hC hw k
set_option maxRecDepth 20000 in
theorem kL_law_622 {C : QC} {x : QP} {M : QM} {st : List CV} {L : QL} {l0 l1 l2 l3 : Option CV} {r : Option Nat} : Rr C mL_law (622, [l0, l1, some (.inr (.inr r)), l3], st, M) x = Rr C mL_law (623, [l0, l1, some (.inr (.inr r)), l3], .inr (.inr r) :: st, M) x := g_pl (show decode cL_law 622 = .ok (.aload_n 2, 1) by decide +kernel) rfl
set_option maxRecDepth 20000 in
theorem kL_law_623 {C : QC} {x : QP} {M : QM} {st : List CV} {L : QL} {l0 l1 l2 l3 : Option CV} {r : Option Nat} : Rr C mL_law (623, [some (.inr (.inr r)), l1, l2, l3], st, M) x = Rr C mL_law (624, [some (.inr (.inr r)), l1, l2, l3], .inr (.inr r) :: st, M) x := g_pl (show decode cL_law 623 = .ok (.aload_n 0, 1) by decide +kernel) rfl
set_option maxRecDepth 20000 in
theorem kL_law_624 {C : QC} {x : QP} {M : QM} {st : List CV} {L : QL} {l0 l1 l2 l3 : Option CV} {z : Int} : Rr C mL_law (624, [l0, l1, l2, some (qi z)], st, M) x = Rr C mL_law (625, [l0, l1, l2, some (qi z)], qi z :: st, M) x := g_pl (show decode cL_law 624 = .ok (.iload_n 3, 1) by decide +kernel) rfl
set_option maxRecDepth 20000 in
theorem kL_law_625 {C : QC} {x : QP} {M : QM} {st : List CV} {L : QL} : Rr C mL_law (625, L, st, M) x = Rr C mL_law (626, L, qi 1 :: st, M) x := g_pl (show decode cL_law 625 = .ok (.iconst 1, 1) by decide +kernel) rfl
set_option maxRecDepth 20000 in
theorem kL_law_626 {C : QC} {x : QP} {M : QM} {st : List CV} {L : QL} {a b : Int} : Rr C mL_law (626, L, qi b :: qi a :: st, M) x = Rr C mL_law (627, L, qi (a + b) :: st, M) x := g_pl (show decode cL_law 626 = .ok (.iadd, 1) by decide +kernel) rfl
set_option maxRecDepth 20000 in
theorem kL_law_627 {C : QC} {x : QP} {M : QM} {st : List CV} {L : QL} {a : Nat} {j : Int} (hk : (q_kd M a).1 = 7) (h0 : 0 ≤ j) (h1 : j < ((q_kd M a).2 : Int)) : Rr C mL_law (627, L, qi j :: qr a :: st, M) x = Rr C mL_law (628, L, q_fv M a j.toNat :: st, M) x := g_iald7 (show decode cL_law 627 = .ok (.iaload, 1) by decide +kernel) hk h0 h1
set_option maxRecDepth 20000 in
theorem kL_law_628 {C : QC} {x : QP} {M : QM} {st : List CV} {L : QL} {l0 l1 l2 l3 : Option CV} {r : Option Nat} : Rr C mL_law (628, [some (.inr (.inr r)), l1, l2, l3], st, M) x = Rr C mL_law (629, [some (.inr (.inr r)), l1, l2, l3], .inr (.inr r) :: st, M) x := g_pl (show decode cL_law 628 = .ok (.aload_n 0, 1) by decide +kernel) rfl
set_option maxRecDepth 20000 in
theorem kL_law_629 {C : QC} {x : QP} {M : QM} {st : List CV} {L : QL} {l0 l1 l2 l3 : Option CV} {z : Int} : Rr C mL_law (629, [l0, l1, l2, some (qi z)], st, M) x = Rr C mL_law (630, [l0, l1, l2, some (qi z)], qi z :: st, M) x := g_pl (show decode cL_law 629 = .ok (.iload_n 3, 1) by decide +kernel) rfl
set_option maxRecDepth 20000 in
theorem kL_law_630 {C : QC} {x : QP} {M : QM} {st : List CV} {L : QL} : Rr C mL_law (630, L, st, M) x = Rr C mL_law (631, L, qi 2 :: st, M) x := g_pl (show decode cL_law 630 = .ok (.iconst 2, 1) by decide +kernel) rfl
set_option maxRecDepth 20000 in
theorem kL_law_631 {C : QC} {x : QP} {M : QM} {st : List CV} {L : QL} {a b : Int} : Rr C mL_law (631, L, qi b :: qi a :: st, M) x = Rr C mL_law (632, L, qi (a + b) :: st, M) x := g_pl (show decode cL_law 631 = .ok (.iadd, 1) by decide +kernel) rfl
set_option maxRecDepth 20000 in
theorem kL_law_632 {C : QC} {x : QP} {M : QM} {st : List CV} {L : QL} {a : Nat} {j : Int} (hk : (q_kd M a).1 = 7) (h0 : 0 ≤ j) (h1 : j < ((q_kd M a).2 : Int)) : Rr C mL_law (632, L, qi j :: qr a :: st, M) x = Rr C mL_law (633, L, q_fv M a j.toNat :: st, M) x := g_iald7 (show decode cL_law 632 = .ok (.iaload, 1) by decide +kernel) hk h0 h1
set_option maxRecDepth 20000 in
theorem kL_law_633 {C : QC} {x : QP} {M : QM} {L : QL} {rest : List CV} {a0 a1 : CV} {v : CV} {M1 : QM} {b : Nat} (hb : q_kd M b = (1, 13)) (hC : C iX13_again [qr b, a0, a1] M (some v) M1) (hw : (rest.map q_wd).sum ≤ 8) (k : Rr C mL_law (636, L, v :: rest, M1) x) : Rr C mL_law (633, L, a1 :: a0 :: qr b :: rest, M) x := g_cv (ow := 16) (e := (0, 253, 13, [1575, 1576, 1577, 94])) (as := [a0, a1]) (show decode cL_law 633 = .ok (.invokevirtual 68, 3) by decide +kernel) rfl rfl rfl (Or.inl rfl) rfl hb hC hw k
set_option maxRecDepth 20000 in
theorem kL_law_636 {C : QC} {x : QP} {M : QM} {st : List CV} {L : QL} {a b : Int} (ha1 : -2147483648 ≤ a) (ha2 : a < 2147483648) (hb1 : -2147483648 ≤ b) (hb2 : b < 2147483648) : Rr C mL_law (636, L, qi b :: qi a :: st, M) x = (if a = b then Rr C mL_law (1036, L, st, M) x else Rr C mL_law (639, L, st, M) x) := (g_icmp (show decode cL_law 636 = .ok (.if_icmp .eq 400, 3) by decide +kernel) rfl ha1 ha2 hb1 hb2).trans (g_ite c_eq)
set_option maxRecDepth 20000 in
theorem kL_law_639 {C : QC} {x : QP} {M : QM} {st : List CV} {L : QL} : Rr C mL_law (639, L, st, M) x = Rr C mL_law (640, L, qi 0 :: st, M) x := g_pl (show decode cL_law 639 = .ok (.iconst 0, 1) by decide +kernel) rfl
set_option maxRecDepth 20000 in
theorem kL_law_640 {C : QC} {x : QP} {M : QM} {st : List CV} {L : QL} {z : Int} (hz : z = 0 ∨ z = 1) : Rr C mL_law (640, L, [qi z], M) x = x (some (qi z)) M := g_iret (show decode cL_law 640 = .ok (.ireturn, 1) by decide +kernel) (by rcases hz with rfl | rfl <;> rfl)
set_option maxRecDepth 20000 in
theorem kL_law_641 {C : QC} {x : QP} {M : QM} {st : List CV} {L : QL} {l0 l1 l2 l3 : Option CV} {r : Option Nat} : Rr C mL_law (641, [l0, some (.inr (.inr r)), l2, l3], st, M) x = Rr C mL_law (642, [l0, some (.inr (.inr r)), l2, l3], .inr (.inr r) :: st, M) x := g_pl (show decode cL_law 641 = .ok (.aload_n 1, 1) by decide +kernel) rfl
set_option maxRecDepth 20000 in
theorem kL_law_642 {C : QC} {x : QP} {M : QM} {st : List CV} {L : QL} {l0 l1 l2 l3 : Option CV} {r : Option Nat} : Rr C mL_law (642, [some (.inr (.inr r)), l1, l2, l3], st, M) x = Rr C mL_law (643, [some (.inr (.inr r)), l1, l2, l3], .inr (.inr r) :: st, M) x := g_pl (show decode cL_law 642 = .ok (.aload_n 0, 1) by decide +kernel) rfl
set_option maxRecDepth 20000 in
theorem kL_law_643 {C : QC} {x : QP} {M : QM} {st : List CV} {L : QL} {l0 l1 l2 l3 : Option CV} {z : Int} : Rr C mL_law (643, [l0, l1, l2, some (qi z)], st, M) x = Rr C mL_law (644, [l0, l1, l2, some (qi z)], qi z :: st, M) x := g_pl (show decode cL_law 643 = .ok (.iload_n 3, 1) by decide +kernel) rfl
set_option maxRecDepth 20000 in
theorem kL_law_644 {C : QC} {x : QP} {M : QM} {st : List CV} {L : QL} : Rr C mL_law (644, L, st, M) x = Rr C mL_law (645, L, qi 1 :: st, M) x := g_pl (show decode cL_law 644 = .ok (.iconst 1, 1) by decide +kernel) rfl
set_option maxRecDepth 20000 in
theorem kL_law_645 {C : QC} {x : QP} {M : QM} {st : List CV} {L : QL} {a b : Int} : Rr C mL_law (645, L, qi b :: qi a :: st, M) x = Rr C mL_law (646, L, qi (a + b) :: st, M) x := g_pl (show decode cL_law 645 = .ok (.iadd, 1) by decide +kernel) rfl
set_option maxRecDepth 20000 in
theorem kL_law_646 {C : QC} {x : QP} {M : QM} {st : List CV} {L : QL} {a : Nat} {j : Int} (hk : (q_kd M a).1 = 7) (h0 : 0 ≤ j) (h1 : j < ((q_kd M a).2 : Int)) : Rr C mL_law (646, L, qi j :: qr a :: st, M) x = Rr C mL_law (647, L, q_fv M a j.toNat :: st, M) x := g_iald7 (show decode cL_law 646 = .ok (.iaload, 1) by decide +kernel) hk h0 h1
set_option maxRecDepth 20000 in
theorem kL_law_647 {C : QC} {x : QP} {M : QM} {st : List CV} {L : QL} {l0 l1 l2 l3 : Option CV} {r : Option Nat} : Rr C mL_law (647, [some (.inr (.inr r)), l1, l2, l3], st, M) x = Rr C mL_law (648, [some (.inr (.inr r)), l1, l2, l3], .inr (.inr r) :: st, M) x := g_pl (show decode cL_law 647 = .ok (.aload_n 0, 1) by decide +kernel) rfl
set_option maxRecDepth 20000 in
theorem kL_law_648 {C : QC} {x : QP} {M : QM} {st : List CV} {L : QL} {l0 l1 l2 l3 : Option CV} {z : Int} : Rr C mL_law (648, [l0, l1, l2, some (qi z)], st, M) x = Rr C mL_law (649, [l0, l1, l2, some (qi z)], qi z :: st, M) x := g_pl (show decode cL_law 648 = .ok (.iload_n 3, 1) by decide +kernel) rfl
set_option maxRecDepth 20000 in
theorem kL_law_649 {C : QC} {x : QP} {M : QM} {st : List CV} {L : QL} : Rr C mL_law (649, L, st, M) x = Rr C mL_law (650, L, qi 2 :: st, M) x := g_pl (show decode cL_law 649 = .ok (.iconst 2, 1) by decide +kernel) rfl
set_option maxRecDepth 20000 in
theorem kL_law_650 {C : QC} {x : QP} {M : QM} {st : List CV} {L : QL} {a b : Int} : Rr C mL_law (650, L, qi b :: qi a :: st, M) x = Rr C mL_law (651, L, qi (a + b) :: st, M) x := g_pl (show decode cL_law 650 = .ok (.iadd, 1) by decide +kernel) rfl
set_option maxRecDepth 20000 in
theorem kL_law_651 {C : QC} {x : QP} {M : QM} {st : List CV} {L : QL} {a : Nat} {j : Int} (hk : (q_kd M a).1 = 7) (h0 : 0 ≤ j) (h1 : j < ((q_kd M a).2 : Int)) : Rr C mL_law (651, L, qi j :: qr a :: st, M) x = Rr C mL_law (652, L, q_fv M a j.toNat :: st, M) x := g_iald7 (show decode cL_law 651 = .ok (.iaload, 1) by decide +kernel) hk h0 h1
set_option maxRecDepth 20000 in
theorem kL_law_652 {C : QC} {x : QP} {M : QM} {L : QL} {rest : List CV} {a0 a1 : CV} {v : CV} {M1 : QM} {b : Nat} (hb : q_kd M b = (1, 12)) (hC : C iX12_lookup [qr b, a0, a1] M (some v) M1) (hw : (rest.map q_wd).sum ≤ 8) (k : Rr C mL_law (655, L, v :: rest, M1) x) : Rr C mL_law (652, L, a1 :: a0 :: qr b :: rest, M) x := g_cv (ow := 16) (e := (0, 128, 12, [959, 960, 961, 77])) (as := [a0, a1]) (show decode cL_law 652 = .ok (.invokevirtual 69, 3) by decide +kernel) rfl rfl rfl (Or.inl rfl) rfl hb hC hw k
set_option maxRecDepth 20000 in
theorem kL_law_655 {C : QC} {x : QP} {M : QM} {st : List CV} {L : QL} {l0 l1 l2 l3 : Option CV} {r : Option Nat} : Rr C mL_law (655, [l0, l1, some (.inr (.inr r)), l3], st, M) x = Rr C mL_law (656, [l0, l1, some (.inr (.inr r)), l3], .inr (.inr r) :: st, M) x := g_pl (show decode cL_law 655 = .ok (.aload_n 2, 1) by decide +kernel) rfl
set_option maxRecDepth 20000 in
theorem kL_law_656 {C : QC} {x : QP} {M : QM} {st : List CV} {L : QL} {l0 l1 l2 l3 : Option CV} {r : Option Nat} : Rr C mL_law (656, [some (.inr (.inr r)), l1, l2, l3], st, M) x = Rr C mL_law (657, [some (.inr (.inr r)), l1, l2, l3], .inr (.inr r) :: st, M) x := g_pl (show decode cL_law 656 = .ok (.aload_n 0, 1) by decide +kernel) rfl
set_option maxRecDepth 20000 in
theorem kL_law_657 {C : QC} {x : QP} {M : QM} {st : List CV} {L : QL} {l0 l1 l2 l3 : Option CV} {z : Int} : Rr C mL_law (657, [l0, l1, l2, some (qi z)], st, M) x = Rr C mL_law (658, [l0, l1, l2, some (qi z)], qi z :: st, M) x := g_pl (show decode cL_law 657 = .ok (.iload_n 3, 1) by decide +kernel) rfl
set_option maxRecDepth 20000 in
theorem kL_law_658 {C : QC} {x : QP} {M : QM} {st : List CV} {L : QL} : Rr C mL_law (658, L, st, M) x = Rr C mL_law (659, L, qi 1 :: st, M) x := g_pl (show decode cL_law 658 = .ok (.iconst 1, 1) by decide +kernel) rfl
set_option maxRecDepth 20000 in
theorem kL_law_659 {C : QC} {x : QP} {M : QM} {st : List CV} {L : QL} {a b : Int} : Rr C mL_law (659, L, qi b :: qi a :: st, M) x = Rr C mL_law (660, L, qi (a + b) :: st, M) x := g_pl (show decode cL_law 659 = .ok (.iadd, 1) by decide +kernel) rfl
set_option maxRecDepth 20000 in
theorem kL_law_660 {C : QC} {x : QP} {M : QM} {st : List CV} {L : QL} {a : Nat} {j : Int} (hk : (q_kd M a).1 = 7) (h0 : 0 ≤ j) (h1 : j < ((q_kd M a).2 : Int)) : Rr C mL_law (660, L, qi j :: qr a :: st, M) x = Rr C mL_law (661, L, q_fv M a j.toNat :: st, M) x := g_iald7 (show decode cL_law 660 = .ok (.iaload, 1) by decide +kernel) hk h0 h1
set_option maxRecDepth 20000 in
theorem kL_law_661 {C : QC} {x : QP} {M : QM} {st : List CV} {L : QL} {l0 l1 l2 l3 : Option CV} {r : Option Nat} : Rr C mL_law (661, [some (.inr (.inr r)), l1, l2, l3], st, M) x = Rr C mL_law (662, [some (.inr (.inr r)), l1, l2, l3], .inr (.inr r) :: st, M) x := g_pl (show decode cL_law 661 = .ok (.aload_n 0, 1) by decide +kernel) rfl
set_option maxRecDepth 20000 in
theorem kL_law_662 {C : QC} {x : QP} {M : QM} {st : List CV} {L : QL} {l0 l1 l2 l3 : Option CV} {z : Int} : Rr C mL_law (662, [l0, l1, l2, some (qi z)], st, M) x = Rr C mL_law (663, [l0, l1, l2, some (qi z)], qi z :: st, M) x := g_pl (show decode cL_law 662 = .ok (.iload_n 3, 1) by decide +kernel) rfl
set_option maxRecDepth 20000 in
theorem kL_law_663 {C : QC} {x : QP} {M : QM} {st : List CV} {L : QL} : Rr C mL_law (663, L, st, M) x = Rr C mL_law (664, L, qi 2 :: st, M) x := g_pl (show decode cL_law 663 = .ok (.iconst 2, 1) by decide +kernel) rfl
set_option maxRecDepth 20000 in
theorem kL_law_664 {C : QC} {x : QP} {M : QM} {st : List CV} {L : QL} {a b : Int} : Rr C mL_law (664, L, qi b :: qi a :: st, M) x = Rr C mL_law (665, L, qi (a + b) :: st, M) x := g_pl (show decode cL_law 664 = .ok (.iadd, 1) by decide +kernel) rfl
set_option maxRecDepth 20000 in
theorem kL_law_665 {C : QC} {x : QP} {M : QM} {st : List CV} {L : QL} {a : Nat} {j : Int} (hk : (q_kd M a).1 = 7) (h0 : 0 ≤ j) (h1 : j < ((q_kd M a).2 : Int)) : Rr C mL_law (665, L, qi j :: qr a :: st, M) x = Rr C mL_law (666, L, q_fv M a j.toNat :: st, M) x := g_iald7 (show decode cL_law 665 = .ok (.iaload, 1) by decide +kernel) hk h0 h1
set_option maxRecDepth 20000 in
theorem kL_law_666 {C : QC} {x : QP} {M : QM} {L : QL} {rest : List CV} {a0 a1 : CV} {v : CV} {M1 : QM} {b : Nat} (hb : q_kd M b = (1, 13)) (hC : C iX13_lookup [qr b, a0, a1] M (some v) M1) (hw : (rest.map q_wd).sum ≤ 8) (k : Rr C mL_law (669, L, v :: rest, M1) x) : Rr C mL_law (666, L, a1 :: a0 :: qr b :: rest, M) x := g_cv (ow := 16) (e := (0, 254, 13, [1579, 1580, 1581, 94])) (as := [a0, a1]) (show decode cL_law 666 = .ok (.invokevirtual 72, 3) by decide +kernel) rfl rfl rfl (Or.inl rfl) rfl hb hC hw k
set_option maxRecDepth 20000 in
theorem kL_law_669 {C : QC} {x : QP} {M : QM} {st : List CV} {L : QL} {a b : Int} (ha1 : -2147483648 ≤ a) (ha2 : a < 2147483648) (hb1 : -2147483648 ≤ b) (hb2 : b < 2147483648) : Rr C mL_law (669, L, qi b :: qi a :: st, M) x = (if a = b then Rr C mL_law (1036, L, st, M) x else Rr C mL_law (672, L, st, M) x) := (g_icmp (show decode cL_law 669 = .ok (.if_icmp .eq 367, 3) by decide +kernel) rfl ha1 ha2 hb1 hb2).trans (g_ite c_eq)
set_option maxRecDepth 20000 in
theorem kL_law_672 {C : QC} {x : QP} {M : QM} {st : List CV} {L : QL} : Rr C mL_law (672, L, st, M) x = Rr C mL_law (673, L, qi 0 :: st, M) x := g_pl (show decode cL_law 672 = .ok (.iconst 0, 1) by decide +kernel) rfl
set_option maxRecDepth 20000 in
theorem kL_law_673 {C : QC} {x : QP} {M : QM} {st : List CV} {L : QL} {z : Int} (hz : z = 0 ∨ z = 1) : Rr C mL_law (673, L, [qi z], M) x = x (some (qi z)) M := g_iret (show decode cL_law 673 = .ok (.ireturn, 1) by decide +kernel) (by rcases hz with rfl | rfl <;> rfl)
set_option maxRecDepth 20000 in
theorem kL_law_674 {C : QC} {x : QP} {M : QM} {st : List CV} {L : QL} {l0 l1 l2 l3 : Option CV} {r : Option Nat} : Rr C mL_law (674, [l0, some (.inr (.inr r)), l2, l3], st, M) x = Rr C mL_law (675, [l0, some (.inr (.inr r)), l2, l3], .inr (.inr r) :: st, M) x := g_pl (show decode cL_law 674 = .ok (.aload_n 1, 1) by decide +kernel) rfl
set_option maxRecDepth 20000 in
theorem kL_law_675 {C : QC} {x : QP} {M : QM} {st : List CV} {L : QL} {l0 l1 l2 l3 : Option CV} {r : Option Nat} : Rr C mL_law (675, [some (.inr (.inr r)), l1, l2, l3], st, M) x = Rr C mL_law (676, [some (.inr (.inr r)), l1, l2, l3], .inr (.inr r) :: st, M) x := g_pl (show decode cL_law 675 = .ok (.aload_n 0, 1) by decide +kernel) rfl
set_option maxRecDepth 20000 in
theorem kL_law_676 {C : QC} {x : QP} {M : QM} {st : List CV} {L : QL} {l0 l1 l2 l3 : Option CV} {z : Int} : Rr C mL_law (676, [l0, l1, l2, some (qi z)], st, M) x = Rr C mL_law (677, [l0, l1, l2, some (qi z)], qi z :: st, M) x := g_pl (show decode cL_law 676 = .ok (.iload_n 3, 1) by decide +kernel) rfl
set_option maxRecDepth 20000 in
theorem kL_law_677 {C : QC} {x : QP} {M : QM} {st : List CV} {L : QL} : Rr C mL_law (677, L, st, M) x = Rr C mL_law (678, L, qi 1 :: st, M) x := g_pl (show decode cL_law 677 = .ok (.iconst 1, 1) by decide +kernel) rfl
set_option maxRecDepth 20000 in
theorem kL_law_678 {C : QC} {x : QP} {M : QM} {st : List CV} {L : QL} {a b : Int} : Rr C mL_law (678, L, qi b :: qi a :: st, M) x = Rr C mL_law (679, L, qi (a + b) :: st, M) x := g_pl (show decode cL_law 678 = .ok (.iadd, 1) by decide +kernel) rfl
set_option maxRecDepth 20000 in
theorem kL_law_679 {C : QC} {x : QP} {M : QM} {st : List CV} {L : QL} {a : Nat} {j : Int} (hk : (q_kd M a).1 = 7) (h0 : 0 ≤ j) (h1 : j < ((q_kd M a).2 : Int)) : Rr C mL_law (679, L, qi j :: qr a :: st, M) x = Rr C mL_law (680, L, q_fv M a j.toNat :: st, M) x := g_iald7 (show decode cL_law 679 = .ok (.iaload, 1) by decide +kernel) hk h0 h1
set_option maxRecDepth 20000 in
theorem kL_law_680 {C : QC} {x : QP} {M : QM} {L : QL} {rest : List CV} {a0 : CV} {v : CV} {M1 : QM} {b : Nat} (hb : q_kd M b = (1, 12)) (hC : C iX12_sought [qr b, a0] M (some v) M1) (hw : (rest.map q_wd).sum ≤ 8) (k : Rr C mL_law (683, L, v :: rest, M1) x) : Rr C mL_law (680, L, a0 :: qr b :: rest, M) x := g_cv (ow := 16) (e := (0, 133, 12, [982, 983, 984, 77])) (as := [a0]) (show decode cL_law 680 = .ok (.invokevirtual 73, 3) by decide +kernel) rfl rfl rfl (Or.inl rfl) rfl hb hC hw k
set_option maxRecDepth 20000 in
theorem kL_law_683 {C : QC} {x : QP} {M : QM} {st : List CV} {L : QL} {l0 l1 l2 l3 : Option CV} {r : Option Nat} : Rr C mL_law (683, [l0, l1, some (.inr (.inr r)), l3], st, M) x = Rr C mL_law (684, [l0, l1, some (.inr (.inr r)), l3], .inr (.inr r) :: st, M) x := g_pl (show decode cL_law 683 = .ok (.aload_n 2, 1) by decide +kernel) rfl
set_option maxRecDepth 20000 in
theorem kL_law_684 {C : QC} {x : QP} {M : QM} {st : List CV} {L : QL} {l0 l1 l2 l3 : Option CV} {r : Option Nat} : Rr C mL_law (684, [some (.inr (.inr r)), l1, l2, l3], st, M) x = Rr C mL_law (685, [some (.inr (.inr r)), l1, l2, l3], .inr (.inr r) :: st, M) x := g_pl (show decode cL_law 684 = .ok (.aload_n 0, 1) by decide +kernel) rfl
set_option maxRecDepth 20000 in
theorem kL_law_685 {C : QC} {x : QP} {M : QM} {st : List CV} {L : QL} {l0 l1 l2 l3 : Option CV} {z : Int} : Rr C mL_law (685, [l0, l1, l2, some (qi z)], st, M) x = Rr C mL_law (686, [l0, l1, l2, some (qi z)], qi z :: st, M) x := g_pl (show decode cL_law 685 = .ok (.iload_n 3, 1) by decide +kernel) rfl
set_option maxRecDepth 20000 in
theorem kL_law_686 {C : QC} {x : QP} {M : QM} {st : List CV} {L : QL} : Rr C mL_law (686, L, st, M) x = Rr C mL_law (687, L, qi 1 :: st, M) x := g_pl (show decode cL_law 686 = .ok (.iconst 1, 1) by decide +kernel) rfl
set_option maxRecDepth 20000 in
theorem kL_law_687 {C : QC} {x : QP} {M : QM} {st : List CV} {L : QL} {a b : Int} : Rr C mL_law (687, L, qi b :: qi a :: st, M) x = Rr C mL_law (688, L, qi (a + b) :: st, M) x := g_pl (show decode cL_law 687 = .ok (.iadd, 1) by decide +kernel) rfl
set_option maxRecDepth 20000 in
theorem kL_law_688 {C : QC} {x : QP} {M : QM} {st : List CV} {L : QL} {a : Nat} {j : Int} (hk : (q_kd M a).1 = 7) (h0 : 0 ≤ j) (h1 : j < ((q_kd M a).2 : Int)) : Rr C mL_law (688, L, qi j :: qr a :: st, M) x = Rr C mL_law (689, L, q_fv M a j.toNat :: st, M) x := g_iald7 (show decode cL_law 688 = .ok (.iaload, 1) by decide +kernel) hk h0 h1
set_option maxRecDepth 20000 in
theorem kL_law_689 {C : QC} {x : QP} {M : QM} {L : QL} {rest : List CV} {a0 : CV} {v : CV} {M1 : QM} {b : Nat} (hb : q_kd M b = (1, 13)) (hC : C iX13_sought [qr b, a0] M (some v) M1) (hw : (rest.map q_wd).sum ≤ 8) (k : Rr C mL_law (692, L, v :: rest, M1) x) : Rr C mL_law (689, L, a0 :: qr b :: rest, M) x := g_cv (ow := 16) (e := (0, 256, 13, [1587, 1588, 1589, 94])) (as := [a0]) (show decode cL_law 689 = .ok (.invokevirtual 77, 3) by decide +kernel) rfl rfl rfl (Or.inl rfl) rfl hb hC hw k
set_option maxRecDepth 20000 in
theorem kL_law_692 {C : QC} {x : QP} {M : QM} {st : List CV} {L : QL} {a b : Int} (ha1 : -2147483648 ≤ a) (ha2 : a < 2147483648) (hb1 : -2147483648 ≤ b) (hb2 : b < 2147483648) : Rr C mL_law (692, L, qi b :: qi a :: st, M) x = (if a = b then Rr C mL_law (1036, L, st, M) x else Rr C mL_law (695, L, st, M) x) := (g_icmp (show decode cL_law 692 = .ok (.if_icmp .eq 344, 3) by decide +kernel) rfl ha1 ha2 hb1 hb2).trans (g_ite c_eq)
set_option maxRecDepth 20000 in
theorem kL_law_695 {C : QC} {x : QP} {M : QM} {st : List CV} {L : QL} : Rr C mL_law (695, L, st, M) x = Rr C mL_law (696, L, qi 0 :: st, M) x := g_pl (show decode cL_law 695 = .ok (.iconst 0, 1) by decide +kernel) rfl
set_option maxRecDepth 20000 in
theorem kL_law_696 {C : QC} {x : QP} {M : QM} {st : List CV} {L : QL} {z : Int} (hz : z = 0 ∨ z = 1) : Rr C mL_law (696, L, [qi z], M) x = x (some (qi z)) M := g_iret (show decode cL_law 696 = .ok (.ireturn, 1) by decide +kernel) (by rcases hz with rfl | rfl <;> rfl)
set_option maxRecDepth 20000 in
theorem kL_law_697 {C : QC} {x : QP} {M : QM} {st : List CV} {L : QL} {l0 l1 l2 l3 : Option CV} {r : Option Nat} : Rr C mL_law (697, [l0, some (.inr (.inr r)), l2, l3], st, M) x = Rr C mL_law (698, [l0, some (.inr (.inr r)), l2, l3], .inr (.inr r) :: st, M) x := g_pl (show decode cL_law 697 = .ok (.aload_n 1, 1) by decide +kernel) rfl
set_option maxRecDepth 20000 in
theorem kL_law_698 {C : QC} {x : QP} {M : QM} {st : List CV} {L : QL} {l0 l1 l2 l3 : Option CV} {r : Option Nat} : Rr C mL_law (698, [some (.inr (.inr r)), l1, l2, l3], st, M) x = Rr C mL_law (699, [some (.inr (.inr r)), l1, l2, l3], .inr (.inr r) :: st, M) x := g_pl (show decode cL_law 698 = .ok (.aload_n 0, 1) by decide +kernel) rfl
set_option maxRecDepth 20000 in
theorem kL_law_699 {C : QC} {x : QP} {M : QM} {st : List CV} {L : QL} {l0 l1 l2 l3 : Option CV} {z : Int} : Rr C mL_law (699, [l0, l1, l2, some (qi z)], st, M) x = Rr C mL_law (700, [l0, l1, l2, some (qi z)], qi z :: st, M) x := g_pl (show decode cL_law 699 = .ok (.iload_n 3, 1) by decide +kernel) rfl
set_option maxRecDepth 20000 in
theorem kL_law_700 {C : QC} {x : QP} {M : QM} {st : List CV} {L : QL} : Rr C mL_law (700, L, st, M) x = Rr C mL_law (701, L, qi 1 :: st, M) x := g_pl (show decode cL_law 700 = .ok (.iconst 1, 1) by decide +kernel) rfl
set_option maxRecDepth 20000 in
theorem kL_law_701 {C : QC} {x : QP} {M : QM} {st : List CV} {L : QL} {a b : Int} : Rr C mL_law (701, L, qi b :: qi a :: st, M) x = Rr C mL_law (702, L, qi (a + b) :: st, M) x := g_pl (show decode cL_law 701 = .ok (.iadd, 1) by decide +kernel) rfl
set_option maxRecDepth 20000 in
theorem kL_law_702 {C : QC} {x : QP} {M : QM} {st : List CV} {L : QL} {a : Nat} {j : Int} (hk : (q_kd M a).1 = 7) (h0 : 0 ≤ j) (h1 : j < ((q_kd M a).2 : Int)) : Rr C mL_law (702, L, qi j :: qr a :: st, M) x = Rr C mL_law (703, L, q_fv M a j.toNat :: st, M) x := g_iald7 (show decode cL_law 702 = .ok (.iaload, 1) by decide +kernel) hk h0 h1
set_option maxRecDepth 20000 in
theorem kL_law_703 {C : QC} {x : QP} {M : QM} {st : List CV} {L : QL} {l0 l1 l2 l3 : Option CV} {r : Option Nat} : Rr C mL_law (703, [some (.inr (.inr r)), l1, l2, l3], st, M) x = Rr C mL_law (704, [some (.inr (.inr r)), l1, l2, l3], .inr (.inr r) :: st, M) x := g_pl (show decode cL_law 703 = .ok (.aload_n 0, 1) by decide +kernel) rfl
set_option maxRecDepth 20000 in
theorem kL_law_704 {C : QC} {x : QP} {M : QM} {st : List CV} {L : QL} {l0 l1 l2 l3 : Option CV} {z : Int} : Rr C mL_law (704, [l0, l1, l2, some (qi z)], st, M) x = Rr C mL_law (705, [l0, l1, l2, some (qi z)], qi z :: st, M) x := g_pl (show decode cL_law 704 = .ok (.iload_n 3, 1) by decide +kernel) rfl
set_option maxRecDepth 20000 in
theorem kL_law_705 {C : QC} {x : QP} {M : QM} {st : List CV} {L : QL} : Rr C mL_law (705, L, st, M) x = Rr C mL_law (706, L, qi 2 :: st, M) x := g_pl (show decode cL_law 705 = .ok (.iconst 2, 1) by decide +kernel) rfl
set_option maxRecDepth 20000 in
theorem kL_law_706 {C : QC} {x : QP} {M : QM} {st : List CV} {L : QL} {a b : Int} : Rr C mL_law (706, L, qi b :: qi a :: st, M) x = Rr C mL_law (707, L, qi (a + b) :: st, M) x := g_pl (show decode cL_law 706 = .ok (.iadd, 1) by decide +kernel) rfl
set_option maxRecDepth 20000 in
theorem kL_law_707 {C : QC} {x : QP} {M : QM} {st : List CV} {L : QL} {a : Nat} {j : Int} (hk : (q_kd M a).1 = 7) (h0 : 0 ≤ j) (h1 : j < ((q_kd M a).2 : Int)) : Rr C mL_law (707, L, qi j :: qr a :: st, M) x = Rr C mL_law (708, L, q_fv M a j.toNat :: st, M) x := g_iald7 (show decode cL_law 707 = .ok (.iaload, 1) by decide +kernel) hk h0 h1
set_option maxRecDepth 20000 in
theorem kL_law_708 {C : QC} {x : QP} {M : QM} {L : QL} {rest : List CV} {a0 a1 : CV} {v : CV} {M1 : QM} {b : Nat} (hb : q_kd M b = (1, 12)) (hC : C iX12_filter [qr b, a0, a1] M (some v) M1) (hw : (rest.map q_wd).sum ≤ 8) (k : Rr C mL_law (711, L, v :: rest, M1) x) : Rr C mL_law (708, L, a1 :: a0 :: qr b :: rest, M) x := g_cv (ow := 16) (e := (0, 134, 12, [986, 987, 988, 77])) (as := [a0, a1]) (show decode cL_law 708 = .ok (.invokevirtual 78, 3) by decide +kernel) rfl rfl rfl (Or.inl rfl) rfl hb hC hw k
set_option maxRecDepth 20000 in
theorem kL_law_711 {C : QC} {x : QP} {M : QM} {st : List CV} {L : QL} {l0 l1 l2 l3 : Option CV} {r : Option Nat} : Rr C mL_law (711, [l0, l1, some (.inr (.inr r)), l3], st, M) x = Rr C mL_law (712, [l0, l1, some (.inr (.inr r)), l3], .inr (.inr r) :: st, M) x := g_pl (show decode cL_law 711 = .ok (.aload_n 2, 1) by decide +kernel) rfl
set_option maxRecDepth 20000 in
theorem kL_law_712 {C : QC} {x : QP} {M : QM} {st : List CV} {L : QL} {l0 l1 l2 l3 : Option CV} {r : Option Nat} : Rr C mL_law (712, [some (.inr (.inr r)), l1, l2, l3], st, M) x = Rr C mL_law (713, [some (.inr (.inr r)), l1, l2, l3], .inr (.inr r) :: st, M) x := g_pl (show decode cL_law 712 = .ok (.aload_n 0, 1) by decide +kernel) rfl
set_option maxRecDepth 20000 in
theorem kL_law_713 {C : QC} {x : QP} {M : QM} {st : List CV} {L : QL} {l0 l1 l2 l3 : Option CV} {z : Int} : Rr C mL_law (713, [l0, l1, l2, some (qi z)], st, M) x = Rr C mL_law (714, [l0, l1, l2, some (qi z)], qi z :: st, M) x := g_pl (show decode cL_law 713 = .ok (.iload_n 3, 1) by decide +kernel) rfl
set_option maxRecDepth 20000 in
theorem kL_law_714 {C : QC} {x : QP} {M : QM} {st : List CV} {L : QL} : Rr C mL_law (714, L, st, M) x = Rr C mL_law (715, L, qi 1 :: st, M) x := g_pl (show decode cL_law 714 = .ok (.iconst 1, 1) by decide +kernel) rfl
set_option maxRecDepth 20000 in
theorem kL_law_715 {C : QC} {x : QP} {M : QM} {st : List CV} {L : QL} {a b : Int} : Rr C mL_law (715, L, qi b :: qi a :: st, M) x = Rr C mL_law (716, L, qi (a + b) :: st, M) x := g_pl (show decode cL_law 715 = .ok (.iadd, 1) by decide +kernel) rfl
set_option maxRecDepth 20000 in
theorem kL_law_716 {C : QC} {x : QP} {M : QM} {st : List CV} {L : QL} {a : Nat} {j : Int} (hk : (q_kd M a).1 = 7) (h0 : 0 ≤ j) (h1 : j < ((q_kd M a).2 : Int)) : Rr C mL_law (716, L, qi j :: qr a :: st, M) x = Rr C mL_law (717, L, q_fv M a j.toNat :: st, M) x := g_iald7 (show decode cL_law 716 = .ok (.iaload, 1) by decide +kernel) hk h0 h1
set_option maxRecDepth 20000 in
theorem kL_law_717 {C : QC} {x : QP} {M : QM} {st : List CV} {L : QL} {l0 l1 l2 l3 : Option CV} {r : Option Nat} : Rr C mL_law (717, [some (.inr (.inr r)), l1, l2, l3], st, M) x = Rr C mL_law (718, [some (.inr (.inr r)), l1, l2, l3], .inr (.inr r) :: st, M) x := g_pl (show decode cL_law 717 = .ok (.aload_n 0, 1) by decide +kernel) rfl
set_option maxRecDepth 20000 in
theorem kL_law_718 {C : QC} {x : QP} {M : QM} {st : List CV} {L : QL} {l0 l1 l2 l3 : Option CV} {z : Int} : Rr C mL_law (718, [l0, l1, l2, some (qi z)], st, M) x = Rr C mL_law (719, [l0, l1, l2, some (qi z)], qi z :: st, M) x := g_pl (show decode cL_law 718 = .ok (.iload_n 3, 1) by decide +kernel) rfl
set_option maxRecDepth 20000 in
theorem kL_law_719 {C : QC} {x : QP} {M : QM} {st : List CV} {L : QL} : Rr C mL_law (719, L, st, M) x = Rr C mL_law (720, L, qi 2 :: st, M) x := g_pl (show decode cL_law 719 = .ok (.iconst 2, 1) by decide +kernel) rfl
set_option maxRecDepth 20000 in
theorem kL_law_720 {C : QC} {x : QP} {M : QM} {st : List CV} {L : QL} {a b : Int} : Rr C mL_law (720, L, qi b :: qi a :: st, M) x = Rr C mL_law (721, L, qi (a + b) :: st, M) x := g_pl (show decode cL_law 720 = .ok (.iadd, 1) by decide +kernel) rfl
set_option maxRecDepth 20000 in
theorem kL_law_721 {C : QC} {x : QP} {M : QM} {st : List CV} {L : QL} {a : Nat} {j : Int} (hk : (q_kd M a).1 = 7) (h0 : 0 ≤ j) (h1 : j < ((q_kd M a).2 : Int)) : Rr C mL_law (721, L, qi j :: qr a :: st, M) x = Rr C mL_law (722, L, q_fv M a j.toNat :: st, M) x := g_iald7 (show decode cL_law 721 = .ok (.iaload, 1) by decide +kernel) hk h0 h1
set_option maxRecDepth 20000 in
theorem kL_law_722 {C : QC} {x : QP} {M : QM} {L : QL} {rest : List CV} {a0 a1 : CV} {v : CV} {M1 : QM} {b : Nat} (hb : q_kd M b = (1, 13)) (hC : C iX13_filter [qr b, a0, a1] M (some v) M1) (hw : (rest.map q_wd).sum ≤ 8) (k : Rr C mL_law (725, L, v :: rest, M1) x) : Rr C mL_law (722, L, a1 :: a0 :: qr b :: rest, M) x := g_cv (ow := 16) (e := (0, 257, 13, [1591, 1592, 1593, 94])) (as := [a0, a1]) (show decode cL_law 722 = .ok (.invokevirtual 81, 3) by decide +kernel) rfl rfl rfl (Or.inl rfl) rfl hb hC hw k
set_option maxRecDepth 20000 in
theorem kL_law_725 {C : QC} {x : QP} {M : QM} {st : List CV} {L : QL} {a b : Int} (ha1 : -2147483648 ≤ a) (ha2 : a < 2147483648) (hb1 : -2147483648 ≤ b) (hb2 : b < 2147483648) : Rr C mL_law (725, L, qi b :: qi a :: st, M) x = (if a = b then Rr C mL_law (1036, L, st, M) x else Rr C mL_law (728, L, st, M) x) := (g_icmp (show decode cL_law 725 = .ok (.if_icmp .eq 311, 3) by decide +kernel) rfl ha1 ha2 hb1 hb2).trans (g_ite c_eq)
set_option maxRecDepth 20000 in
theorem kL_law_728 {C : QC} {x : QP} {M : QM} {st : List CV} {L : QL} : Rr C mL_law (728, L, st, M) x = Rr C mL_law (729, L, qi 0 :: st, M) x := g_pl (show decode cL_law 728 = .ok (.iconst 0, 1) by decide +kernel) rfl
set_option maxRecDepth 20000 in
theorem kL_law_729 {C : QC} {x : QP} {M : QM} {st : List CV} {L : QL} {z : Int} (hz : z = 0 ∨ z = 1) : Rr C mL_law (729, L, [qi z], M) x = x (some (qi z)) M := g_iret (show decode cL_law 729 = .ok (.ireturn, 1) by decide +kernel) (by rcases hz with rfl | rfl <;> rfl)
set_option maxRecDepth 20000 in
theorem kL_law_730 {C : QC} {x : QP} {M : QM} {st : List CV} {L : QL} {l0 l1 l2 l3 : Option CV} {r : Option Nat} : Rr C mL_law (730, [l0, some (.inr (.inr r)), l2, l3], st, M) x = Rr C mL_law (731, [l0, some (.inr (.inr r)), l2, l3], .inr (.inr r) :: st, M) x := g_pl (show decode cL_law 730 = .ok (.aload_n 1, 1) by decide +kernel) rfl
set_option maxRecDepth 20000 in
theorem kL_law_731 {C : QC} {x : QP} {M : QM} {st : List CV} {L : QL} {l0 l1 l2 l3 : Option CV} {r : Option Nat} : Rr C mL_law (731, [some (.inr (.inr r)), l1, l2, l3], st, M) x = Rr C mL_law (732, [some (.inr (.inr r)), l1, l2, l3], .inr (.inr r) :: st, M) x := g_pl (show decode cL_law 731 = .ok (.aload_n 0, 1) by decide +kernel) rfl
set_option maxRecDepth 20000 in
theorem kL_law_732 {C : QC} {x : QP} {M : QM} {st : List CV} {L : QL} {l0 l1 l2 l3 : Option CV} {z : Int} : Rr C mL_law (732, [l0, l1, l2, some (qi z)], st, M) x = Rr C mL_law (733, [l0, l1, l2, some (qi z)], qi z :: st, M) x := g_pl (show decode cL_law 732 = .ok (.iload_n 3, 1) by decide +kernel) rfl
set_option maxRecDepth 20000 in
theorem kL_law_733 {C : QC} {x : QP} {M : QM} {st : List CV} {L : QL} : Rr C mL_law (733, L, st, M) x = Rr C mL_law (734, L, qi 1 :: st, M) x := g_pl (show decode cL_law 733 = .ok (.iconst 1, 1) by decide +kernel) rfl
set_option maxRecDepth 20000 in
theorem kL_law_734 {C : QC} {x : QP} {M : QM} {st : List CV} {L : QL} {a b : Int} : Rr C mL_law (734, L, qi b :: qi a :: st, M) x = Rr C mL_law (735, L, qi (a + b) :: st, M) x := g_pl (show decode cL_law 734 = .ok (.iadd, 1) by decide +kernel) rfl
set_option maxRecDepth 20000 in
theorem kL_law_735 {C : QC} {x : QP} {M : QM} {st : List CV} {L : QL} {a : Nat} {j : Int} (hk : (q_kd M a).1 = 7) (h0 : 0 ≤ j) (h1 : j < ((q_kd M a).2 : Int)) : Rr C mL_law (735, L, qi j :: qr a :: st, M) x = Rr C mL_law (736, L, q_fv M a j.toNat :: st, M) x := g_iald7 (show decode cL_law 735 = .ok (.iaload, 1) by decide +kernel) hk h0 h1
set_option maxRecDepth 20000 in
theorem kL_law_736 {C : QC} {x : QP} {M : QM} {st : List CV} {L : QL} {l0 l1 l2 l3 : Option CV} {r : Option Nat} : Rr C mL_law (736, [some (.inr (.inr r)), l1, l2, l3], st, M) x = Rr C mL_law (737, [some (.inr (.inr r)), l1, l2, l3], .inr (.inr r) :: st, M) x := g_pl (show decode cL_law 736 = .ok (.aload_n 0, 1) by decide +kernel) rfl
set_option maxRecDepth 20000 in
theorem kL_law_737 {C : QC} {x : QP} {M : QM} {st : List CV} {L : QL} {l0 l1 l2 l3 : Option CV} {z : Int} : Rr C mL_law (737, [l0, l1, l2, some (qi z)], st, M) x = Rr C mL_law (738, [l0, l1, l2, some (qi z)], qi z :: st, M) x := g_pl (show decode cL_law 737 = .ok (.iload_n 3, 1) by decide +kernel) rfl
set_option maxRecDepth 20000 in
theorem kL_law_738 {C : QC} {x : QP} {M : QM} {st : List CV} {L : QL} : Rr C mL_law (738, L, st, M) x = Rr C mL_law (739, L, qi 2 :: st, M) x := g_pl (show decode cL_law 738 = .ok (.iconst 2, 1) by decide +kernel) rfl
set_option maxRecDepth 20000 in
theorem kL_law_739 {C : QC} {x : QP} {M : QM} {st : List CV} {L : QL} {a b : Int} : Rr C mL_law (739, L, qi b :: qi a :: st, M) x = Rr C mL_law (740, L, qi (a + b) :: st, M) x := g_pl (show decode cL_law 739 = .ok (.iadd, 1) by decide +kernel) rfl
set_option maxRecDepth 20000 in
theorem kL_law_740 {C : QC} {x : QP} {M : QM} {st : List CV} {L : QL} {a : Nat} {j : Int} (hk : (q_kd M a).1 = 7) (h0 : 0 ≤ j) (h1 : j < ((q_kd M a).2 : Int)) : Rr C mL_law (740, L, qi j :: qr a :: st, M) x = Rr C mL_law (741, L, q_fv M a j.toNat :: st, M) x := g_iald7 (show decode cL_law 740 = .ok (.iaload, 1) by decide +kernel) hk h0 h1
set_option maxRecDepth 20000 in
theorem kL_law_741 {C : QC} {x : QP} {M : QM} {st : List CV} {L : QL} {l0 l1 l2 l3 : Option CV} {r : Option Nat} : Rr C mL_law (741, [some (.inr (.inr r)), l1, l2, l3], st, M) x = Rr C mL_law (742, [some (.inr (.inr r)), l1, l2, l3], .inr (.inr r) :: st, M) x := g_pl (show decode cL_law 741 = .ok (.aload_n 0, 1) by decide +kernel) rfl
set_option maxRecDepth 20000 in
theorem kL_law_742 {C : QC} {x : QP} {M : QM} {st : List CV} {L : QL} {l0 l1 l2 l3 : Option CV} {z : Int} : Rr C mL_law (742, [l0, l1, l2, some (qi z)], st, M) x = Rr C mL_law (743, [l0, l1, l2, some (qi z)], qi z :: st, M) x := g_pl (show decode cL_law 742 = .ok (.iload_n 3, 1) by decide +kernel) rfl
set_option maxRecDepth 20000 in
theorem kL_law_743 {C : QC} {x : QP} {M : QM} {st : List CV} {L : QL} : Rr C mL_law (743, L, st, M) x = Rr C mL_law (744, L, qi 3 :: st, M) x := g_pl (show decode cL_law 743 = .ok (.iconst 3, 1) by decide +kernel) rfl
set_option maxRecDepth 20000 in
theorem kL_law_744 {C : QC} {x : QP} {M : QM} {st : List CV} {L : QL} {a b : Int} : Rr C mL_law (744, L, qi b :: qi a :: st, M) x = Rr C mL_law (745, L, qi (a + b) :: st, M) x := g_pl (show decode cL_law 744 = .ok (.iadd, 1) by decide +kernel) rfl
set_option maxRecDepth 20000 in
theorem kL_law_745 {C : QC} {x : QP} {M : QM} {st : List CV} {L : QL} {a : Nat} {j : Int} (hk : (q_kd M a).1 = 7) (h0 : 0 ≤ j) (h1 : j < ((q_kd M a).2 : Int)) : Rr C mL_law (745, L, qi j :: qr a :: st, M) x = Rr C mL_law (746, L, q_fv M a j.toNat :: st, M) x := g_iald7 (show decode cL_law 745 = .ok (.iaload, 1) by decide +kernel) hk h0 h1
set_option maxRecDepth 20000 in
theorem kL_law_746 {C : QC} {x : QP} {M : QM} {L : QL} {rest : List CV} {a0 a1 a2 : CV} {v : CV} {M1 : QM} {b : Nat} (hb : q_kd M b = (1, 12)) (hC : C iX12_join [qr b, a0, a1, a2] M (some v) M1) (hw : (rest.map q_wd).sum ≤ 8) (k : Rr C mL_law (749, L, v :: rest, M1) x) : Rr C mL_law (746, L, a2 :: a1 :: a0 :: qr b :: rest, M) x := g_cv (ow := 16) (e := (0, 136, 12, [994, 995, 996, 77])) (as := [a0, a1, a2]) (show decode cL_law 746 = .ok (.invokevirtual 82, 3) by decide +kernel) rfl rfl rfl (Or.inl rfl) rfl hb hC hw k
set_option maxRecDepth 20000 in
theorem kL_law_749 {C : QC} {x : QP} {M : QM} {st : List CV} {L : QL} {l0 l1 l2 l3 : Option CV} {r : Option Nat} : Rr C mL_law (749, [l0, l1, some (.inr (.inr r)), l3], st, M) x = Rr C mL_law (750, [l0, l1, some (.inr (.inr r)), l3], .inr (.inr r) :: st, M) x := g_pl (show decode cL_law 749 = .ok (.aload_n 2, 1) by decide +kernel) rfl
set_option maxRecDepth 20000 in
theorem kL_law_750 {C : QC} {x : QP} {M : QM} {st : List CV} {L : QL} {l0 l1 l2 l3 : Option CV} {r : Option Nat} : Rr C mL_law (750, [some (.inr (.inr r)), l1, l2, l3], st, M) x = Rr C mL_law (751, [some (.inr (.inr r)), l1, l2, l3], .inr (.inr r) :: st, M) x := g_pl (show decode cL_law 750 = .ok (.aload_n 0, 1) by decide +kernel) rfl
set_option maxRecDepth 20000 in
theorem kL_law_751 {C : QC} {x : QP} {M : QM} {st : List CV} {L : QL} {l0 l1 l2 l3 : Option CV} {z : Int} : Rr C mL_law (751, [l0, l1, l2, some (qi z)], st, M) x = Rr C mL_law (752, [l0, l1, l2, some (qi z)], qi z :: st, M) x := g_pl (show decode cL_law 751 = .ok (.iload_n 3, 1) by decide +kernel) rfl
set_option maxRecDepth 20000 in
theorem kL_law_752 {C : QC} {x : QP} {M : QM} {st : List CV} {L : QL} : Rr C mL_law (752, L, st, M) x = Rr C mL_law (753, L, qi 1 :: st, M) x := g_pl (show decode cL_law 752 = .ok (.iconst 1, 1) by decide +kernel) rfl
set_option maxRecDepth 20000 in
theorem kL_law_753 {C : QC} {x : QP} {M : QM} {st : List CV} {L : QL} {a b : Int} : Rr C mL_law (753, L, qi b :: qi a :: st, M) x = Rr C mL_law (754, L, qi (a + b) :: st, M) x := g_pl (show decode cL_law 753 = .ok (.iadd, 1) by decide +kernel) rfl
set_option maxRecDepth 20000 in
theorem kL_law_754 {C : QC} {x : QP} {M : QM} {st : List CV} {L : QL} {a : Nat} {j : Int} (hk : (q_kd M a).1 = 7) (h0 : 0 ≤ j) (h1 : j < ((q_kd M a).2 : Int)) : Rr C mL_law (754, L, qi j :: qr a :: st, M) x = Rr C mL_law (755, L, q_fv M a j.toNat :: st, M) x := g_iald7 (show decode cL_law 754 = .ok (.iaload, 1) by decide +kernel) hk h0 h1
set_option maxRecDepth 20000 in
theorem kL_law_755 {C : QC} {x : QP} {M : QM} {st : List CV} {L : QL} {l0 l1 l2 l3 : Option CV} {r : Option Nat} : Rr C mL_law (755, [some (.inr (.inr r)), l1, l2, l3], st, M) x = Rr C mL_law (756, [some (.inr (.inr r)), l1, l2, l3], .inr (.inr r) :: st, M) x := g_pl (show decode cL_law 755 = .ok (.aload_n 0, 1) by decide +kernel) rfl
set_option maxRecDepth 20000 in
theorem kL_law_756 {C : QC} {x : QP} {M : QM} {st : List CV} {L : QL} {l0 l1 l2 l3 : Option CV} {z : Int} : Rr C mL_law (756, [l0, l1, l2, some (qi z)], st, M) x = Rr C mL_law (757, [l0, l1, l2, some (qi z)], qi z :: st, M) x := g_pl (show decode cL_law 756 = .ok (.iload_n 3, 1) by decide +kernel) rfl
set_option maxRecDepth 20000 in
theorem kL_law_757 {C : QC} {x : QP} {M : QM} {st : List CV} {L : QL} : Rr C mL_law (757, L, st, M) x = Rr C mL_law (758, L, qi 2 :: st, M) x := g_pl (show decode cL_law 757 = .ok (.iconst 2, 1) by decide +kernel) rfl
set_option maxRecDepth 20000 in
theorem kL_law_758 {C : QC} {x : QP} {M : QM} {st : List CV} {L : QL} {a b : Int} : Rr C mL_law (758, L, qi b :: qi a :: st, M) x = Rr C mL_law (759, L, qi (a + b) :: st, M) x := g_pl (show decode cL_law 758 = .ok (.iadd, 1) by decide +kernel) rfl
set_option maxRecDepth 20000 in
theorem kL_law_759 {C : QC} {x : QP} {M : QM} {st : List CV} {L : QL} {a : Nat} {j : Int} (hk : (q_kd M a).1 = 7) (h0 : 0 ≤ j) (h1 : j < ((q_kd M a).2 : Int)) : Rr C mL_law (759, L, qi j :: qr a :: st, M) x = Rr C mL_law (760, L, q_fv M a j.toNat :: st, M) x := g_iald7 (show decode cL_law 759 = .ok (.iaload, 1) by decide +kernel) hk h0 h1
set_option maxRecDepth 20000 in
theorem kL_law_760 {C : QC} {x : QP} {M : QM} {st : List CV} {L : QL} {l0 l1 l2 l3 : Option CV} {r : Option Nat} : Rr C mL_law (760, [some (.inr (.inr r)), l1, l2, l3], st, M) x = Rr C mL_law (761, [some (.inr (.inr r)), l1, l2, l3], .inr (.inr r) :: st, M) x := g_pl (show decode cL_law 760 = .ok (.aload_n 0, 1) by decide +kernel) rfl
set_option maxRecDepth 20000 in
theorem kL_law_761 {C : QC} {x : QP} {M : QM} {st : List CV} {L : QL} {l0 l1 l2 l3 : Option CV} {z : Int} : Rr C mL_law (761, [l0, l1, l2, some (qi z)], st, M) x = Rr C mL_law (762, [l0, l1, l2, some (qi z)], qi z :: st, M) x := g_pl (show decode cL_law 761 = .ok (.iload_n 3, 1) by decide +kernel) rfl
set_option maxRecDepth 20000 in
theorem kL_law_762 {C : QC} {x : QP} {M : QM} {st : List CV} {L : QL} : Rr C mL_law (762, L, st, M) x = Rr C mL_law (763, L, qi 3 :: st, M) x := g_pl (show decode cL_law 762 = .ok (.iconst 3, 1) by decide +kernel) rfl
set_option maxRecDepth 20000 in
theorem kL_law_763 {C : QC} {x : QP} {M : QM} {st : List CV} {L : QL} {a b : Int} : Rr C mL_law (763, L, qi b :: qi a :: st, M) x = Rr C mL_law (764, L, qi (a + b) :: st, M) x := g_pl (show decode cL_law 763 = .ok (.iadd, 1) by decide +kernel) rfl
set_option maxRecDepth 20000 in
theorem kL_law_764 {C : QC} {x : QP} {M : QM} {st : List CV} {L : QL} {a : Nat} {j : Int} (hk : (q_kd M a).1 = 7) (h0 : 0 ≤ j) (h1 : j < ((q_kd M a).2 : Int)) : Rr C mL_law (764, L, qi j :: qr a :: st, M) x = Rr C mL_law (765, L, q_fv M a j.toNat :: st, M) x := g_iald7 (show decode cL_law 764 = .ok (.iaload, 1) by decide +kernel) hk h0 h1
set_option maxRecDepth 20000 in
theorem kL_law_765 {C : QC} {x : QP} {M : QM} {L : QL} {rest : List CV} {a0 a1 a2 : CV} {v : CV} {M1 : QM} {b : Nat} (hb : q_kd M b = (1, 13)) (hC : C iX13_join [qr b, a0, a1, a2] M (some v) M1) (hw : (rest.map q_wd).sum ≤ 8) (k : Rr C mL_law (768, L, v :: rest, M1) x) : Rr C mL_law (765, L, a2 :: a1 :: a0 :: qr b :: rest, M) x := g_cv (ow := 16) (e := (0, 259, 13, [1599, 1600, 1601, 94])) (as := [a0, a1, a2]) (show decode cL_law 765 = .ok (.invokevirtual 85, 3) by decide +kernel) rfl rfl rfl (Or.inl rfl) rfl hb hC hw k
set_option maxRecDepth 20000 in
theorem kL_law_768 {C : QC} {x : QP} {M : QM} {st : List CV} {L : QL} {a b : Int} (ha1 : -2147483648 ≤ a) (ha2 : a < 2147483648) (hb1 : -2147483648 ≤ b) (hb2 : b < 2147483648) : Rr C mL_law (768, L, qi b :: qi a :: st, M) x = (if a = b then Rr C mL_law (1036, L, st, M) x else Rr C mL_law (771, L, st, M) x) := (g_icmp (show decode cL_law 768 = .ok (.if_icmp .eq 268, 3) by decide +kernel) rfl ha1 ha2 hb1 hb2).trans (g_ite c_eq)
set_option maxRecDepth 20000 in
theorem kL_law_771 {C : QC} {x : QP} {M : QM} {st : List CV} {L : QL} : Rr C mL_law (771, L, st, M) x = Rr C mL_law (772, L, qi 0 :: st, M) x := g_pl (show decode cL_law 771 = .ok (.iconst 0, 1) by decide +kernel) rfl
set_option maxRecDepth 20000 in
theorem kL_law_772 {C : QC} {x : QP} {M : QM} {st : List CV} {L : QL} {z : Int} (hz : z = 0 ∨ z = 1) : Rr C mL_law (772, L, [qi z], M) x = x (some (qi z)) M := g_iret (show decode cL_law 772 = .ok (.ireturn, 1) by decide +kernel) (by rcases hz with rfl | rfl <;> rfl)
set_option maxRecDepth 20000 in
theorem kL_law_773 {C : QC} {x : QP} {M : QM} {st : List CV} {L : QL} {l0 l1 l2 l3 : Option CV} {r : Option Nat} : Rr C mL_law (773, [l0, some (.inr (.inr r)), l2, l3], st, M) x = Rr C mL_law (774, [l0, some (.inr (.inr r)), l2, l3], .inr (.inr r) :: st, M) x := g_pl (show decode cL_law 773 = .ok (.aload_n 1, 1) by decide +kernel) rfl
set_option maxRecDepth 20000 in
theorem kL_law_774 {C : QC} {x : QP} {M : QM} {st : List CV} {L : QL} {l0 l1 l2 l3 : Option CV} {r : Option Nat} : Rr C mL_law (774, [some (.inr (.inr r)), l1, l2, l3], st, M) x = Rr C mL_law (775, [some (.inr (.inr r)), l1, l2, l3], .inr (.inr r) :: st, M) x := g_pl (show decode cL_law 774 = .ok (.aload_n 0, 1) by decide +kernel) rfl
set_option maxRecDepth 20000 in
theorem kL_law_775 {C : QC} {x : QP} {M : QM} {st : List CV} {L : QL} {l0 l1 l2 l3 : Option CV} {z : Int} : Rr C mL_law (775, [l0, l1, l2, some (qi z)], st, M) x = Rr C mL_law (776, [l0, l1, l2, some (qi z)], qi z :: st, M) x := g_pl (show decode cL_law 775 = .ok (.iload_n 3, 1) by decide +kernel) rfl
set_option maxRecDepth 20000 in
theorem kL_law_776 {C : QC} {x : QP} {M : QM} {st : List CV} {L : QL} : Rr C mL_law (776, L, st, M) x = Rr C mL_law (777, L, qi 1 :: st, M) x := g_pl (show decode cL_law 776 = .ok (.iconst 1, 1) by decide +kernel) rfl
set_option maxRecDepth 20000 in
theorem kL_law_777 {C : QC} {x : QP} {M : QM} {st : List CV} {L : QL} {a b : Int} : Rr C mL_law (777, L, qi b :: qi a :: st, M) x = Rr C mL_law (778, L, qi (a + b) :: st, M) x := g_pl (show decode cL_law 777 = .ok (.iadd, 1) by decide +kernel) rfl
set_option maxRecDepth 20000 in
theorem kL_law_778 {C : QC} {x : QP} {M : QM} {st : List CV} {L : QL} {a : Nat} {j : Int} (hk : (q_kd M a).1 = 7) (h0 : 0 ≤ j) (h1 : j < ((q_kd M a).2 : Int)) : Rr C mL_law (778, L, qi j :: qr a :: st, M) x = Rr C mL_law (779, L, q_fv M a j.toNat :: st, M) x := g_iald7 (show decode cL_law 778 = .ok (.iaload, 1) by decide +kernel) hk h0 h1
set_option maxRecDepth 20000 in
theorem kL_law_779 {C : QC} {x : QP} {M : QM} {L : QL} {rest : List CV} {a0 : CV} {v : CV} {M1 : QM} {b : Nat} (hb : q_kd M b = (1, 12)) (hC : C iX12_drop [qr b, a0] M (some v) M1) (hw : (rest.map q_wd).sum ≤ 8) (k : Rr C mL_law (782, L, v :: rest, M1) x) : Rr C mL_law (779, L, a0 :: qr b :: rest, M) x := g_cv (ow := 16) (e := (0, 137, 12, [999, 1000, 1001, 77])) (as := [a0]) (show decode cL_law 779 = .ok (.invokevirtual 86, 3) by decide +kernel) rfl rfl rfl (Or.inl rfl) rfl hb hC hw k
set_option maxRecDepth 20000 in
theorem kL_law_782 {C : QC} {x : QP} {M : QM} {st : List CV} {L : QL} {l0 l1 l2 l3 : Option CV} {r : Option Nat} : Rr C mL_law (782, [l0, l1, some (.inr (.inr r)), l3], st, M) x = Rr C mL_law (783, [l0, l1, some (.inr (.inr r)), l3], .inr (.inr r) :: st, M) x := g_pl (show decode cL_law 782 = .ok (.aload_n 2, 1) by decide +kernel) rfl
set_option maxRecDepth 20000 in
theorem kL_law_783 {C : QC} {x : QP} {M : QM} {st : List CV} {L : QL} {l0 l1 l2 l3 : Option CV} {r : Option Nat} : Rr C mL_law (783, [some (.inr (.inr r)), l1, l2, l3], st, M) x = Rr C mL_law (784, [some (.inr (.inr r)), l1, l2, l3], .inr (.inr r) :: st, M) x := g_pl (show decode cL_law 783 = .ok (.aload_n 0, 1) by decide +kernel) rfl
set_option maxRecDepth 20000 in
theorem kL_law_784 {C : QC} {x : QP} {M : QM} {st : List CV} {L : QL} {l0 l1 l2 l3 : Option CV} {z : Int} : Rr C mL_law (784, [l0, l1, l2, some (qi z)], st, M) x = Rr C mL_law (785, [l0, l1, l2, some (qi z)], qi z :: st, M) x := g_pl (show decode cL_law 784 = .ok (.iload_n 3, 1) by decide +kernel) rfl
set_option maxRecDepth 20000 in
theorem kL_law_785 {C : QC} {x : QP} {M : QM} {st : List CV} {L : QL} : Rr C mL_law (785, L, st, M) x = Rr C mL_law (786, L, qi 1 :: st, M) x := g_pl (show decode cL_law 785 = .ok (.iconst 1, 1) by decide +kernel) rfl
set_option maxRecDepth 20000 in
theorem kL_law_786 {C : QC} {x : QP} {M : QM} {st : List CV} {L : QL} {a b : Int} : Rr C mL_law (786, L, qi b :: qi a :: st, M) x = Rr C mL_law (787, L, qi (a + b) :: st, M) x := g_pl (show decode cL_law 786 = .ok (.iadd, 1) by decide +kernel) rfl
set_option maxRecDepth 20000 in
theorem kL_law_787 {C : QC} {x : QP} {M : QM} {st : List CV} {L : QL} {a : Nat} {j : Int} (hk : (q_kd M a).1 = 7) (h0 : 0 ≤ j) (h1 : j < ((q_kd M a).2 : Int)) : Rr C mL_law (787, L, qi j :: qr a :: st, M) x = Rr C mL_law (788, L, q_fv M a j.toNat :: st, M) x := g_iald7 (show decode cL_law 787 = .ok (.iaload, 1) by decide +kernel) hk h0 h1
set_option maxRecDepth 20000 in
theorem kL_law_788 {C : QC} {x : QP} {M : QM} {L : QL} {rest : List CV} {a0 : CV} {v : CV} {M1 : QM} {b : Nat} (hb : q_kd M b = (1, 13)) (hC : C iX13_drop [qr b, a0] M (some v) M1) (hw : (rest.map q_wd).sum ≤ 8) (k : Rr C mL_law (791, L, v :: rest, M1) x) : Rr C mL_law (788, L, a0 :: qr b :: rest, M) x := g_cv (ow := 16) (e := (0, 261, 13, [1607, 1608, 1609, 94])) (as := [a0]) (show decode cL_law 788 = .ok (.invokevirtual 89, 3) by decide +kernel) rfl rfl rfl (Or.inl rfl) rfl hb hC hw k
set_option maxRecDepth 20000 in
theorem kL_law_791 {C : QC} {x : QP} {M : QM} {st : List CV} {L : QL} {a b : Int} (ha1 : -2147483648 ≤ a) (ha2 : a < 2147483648) (hb1 : -2147483648 ≤ b) (hb2 : b < 2147483648) : Rr C mL_law (791, L, qi b :: qi a :: st, M) x = (if a = b then Rr C mL_law (1036, L, st, M) x else Rr C mL_law (794, L, st, M) x) := (g_icmp (show decode cL_law 791 = .ok (.if_icmp .eq 245, 3) by decide +kernel) rfl ha1 ha2 hb1 hb2).trans (g_ite c_eq)
set_option maxRecDepth 20000 in
theorem kL_law_794 {C : QC} {x : QP} {M : QM} {st : List CV} {L : QL} : Rr C mL_law (794, L, st, M) x = Rr C mL_law (795, L, qi 0 :: st, M) x := g_pl (show decode cL_law 794 = .ok (.iconst 0, 1) by decide +kernel) rfl
set_option maxRecDepth 20000 in
theorem kL_law_795 {C : QC} {x : QP} {M : QM} {st : List CV} {L : QL} {z : Int} (hz : z = 0 ∨ z = 1) : Rr C mL_law (795, L, [qi z], M) x = x (some (qi z)) M := g_iret (show decode cL_law 795 = .ok (.ireturn, 1) by decide +kernel) (by rcases hz with rfl | rfl <;> rfl)
set_option maxRecDepth 20000 in
theorem kL_law_796 {C : QC} {x : QP} {M : QM} {st : List CV} {L : QL} {l0 l1 l2 l3 : Option CV} {r : Option Nat} : Rr C mL_law (796, [l0, some (.inr (.inr r)), l2, l3], st, M) x = Rr C mL_law (797, [l0, some (.inr (.inr r)), l2, l3], .inr (.inr r) :: st, M) x := g_pl (show decode cL_law 796 = .ok (.aload_n 1, 1) by decide +kernel) rfl
set_option maxRecDepth 20000 in
theorem kL_law_797 {C : QC} {x : QP} {M : QM} {st : List CV} {L : QL} {l0 l1 l2 l3 : Option CV} {r : Option Nat} : Rr C mL_law (797, [some (.inr (.inr r)), l1, l2, l3], st, M) x = Rr C mL_law (798, [some (.inr (.inr r)), l1, l2, l3], .inr (.inr r) :: st, M) x := g_pl (show decode cL_law 797 = .ok (.aload_n 0, 1) by decide +kernel) rfl
set_option maxRecDepth 20000 in
theorem kL_law_798 {C : QC} {x : QP} {M : QM} {st : List CV} {L : QL} {l0 l1 l2 l3 : Option CV} {z : Int} : Rr C mL_law (798, [l0, l1, l2, some (qi z)], st, M) x = Rr C mL_law (799, [l0, l1, l2, some (qi z)], qi z :: st, M) x := g_pl (show decode cL_law 798 = .ok (.iload_n 3, 1) by decide +kernel) rfl
set_option maxRecDepth 20000 in
theorem kL_law_799 {C : QC} {x : QP} {M : QM} {st : List CV} {L : QL} : Rr C mL_law (799, L, st, M) x = Rr C mL_law (800, L, qi 1 :: st, M) x := g_pl (show decode cL_law 799 = .ok (.iconst 1, 1) by decide +kernel) rfl
set_option maxRecDepth 20000 in
theorem kL_law_800 {C : QC} {x : QP} {M : QM} {st : List CV} {L : QL} {a b : Int} : Rr C mL_law (800, L, qi b :: qi a :: st, M) x = Rr C mL_law (801, L, qi (a + b) :: st, M) x := g_pl (show decode cL_law 800 = .ok (.iadd, 1) by decide +kernel) rfl
set_option maxRecDepth 20000 in
theorem kL_law_801 {C : QC} {x : QP} {M : QM} {st : List CV} {L : QL} {a : Nat} {j : Int} (hk : (q_kd M a).1 = 7) (h0 : 0 ≤ j) (h1 : j < ((q_kd M a).2 : Int)) : Rr C mL_law (801, L, qi j :: qr a :: st, M) x = Rr C mL_law (802, L, q_fv M a j.toNat :: st, M) x := g_iald7 (show decode cL_law 801 = .ok (.iaload, 1) by decide +kernel) hk h0 h1
set_option maxRecDepth 20000 in
theorem kL_law_802 {C : QC} {x : QP} {M : QM} {st : List CV} {L : QL} {l0 l1 l2 l3 : Option CV} {r : Option Nat} : Rr C mL_law (802, [some (.inr (.inr r)), l1, l2, l3], st, M) x = Rr C mL_law (803, [some (.inr (.inr r)), l1, l2, l3], .inr (.inr r) :: st, M) x := g_pl (show decode cL_law 802 = .ok (.aload_n 0, 1) by decide +kernel) rfl
set_option maxRecDepth 20000 in
theorem kL_law_803 {C : QC} {x : QP} {M : QM} {st : List CV} {L : QL} {l0 l1 l2 l3 : Option CV} {z : Int} : Rr C mL_law (803, [l0, l1, l2, some (qi z)], st, M) x = Rr C mL_law (804, [l0, l1, l2, some (qi z)], qi z :: st, M) x := g_pl (show decode cL_law 803 = .ok (.iload_n 3, 1) by decide +kernel) rfl
set_option maxRecDepth 20000 in
theorem kL_law_804 {C : QC} {x : QP} {M : QM} {st : List CV} {L : QL} : Rr C mL_law (804, L, st, M) x = Rr C mL_law (805, L, qi 2 :: st, M) x := g_pl (show decode cL_law 804 = .ok (.iconst 2, 1) by decide +kernel) rfl
set_option maxRecDepth 20000 in
theorem kL_law_805 {C : QC} {x : QP} {M : QM} {st : List CV} {L : QL} {a b : Int} : Rr C mL_law (805, L, qi b :: qi a :: st, M) x = Rr C mL_law (806, L, qi (a + b) :: st, M) x := g_pl (show decode cL_law 805 = .ok (.iadd, 1) by decide +kernel) rfl
set_option maxRecDepth 20000 in
theorem kL_law_806 {C : QC} {x : QP} {M : QM} {st : List CV} {L : QL} {a : Nat} {j : Int} (hk : (q_kd M a).1 = 7) (h0 : 0 ≤ j) (h1 : j < ((q_kd M a).2 : Int)) : Rr C mL_law (806, L, qi j :: qr a :: st, M) x = Rr C mL_law (807, L, q_fv M a j.toNat :: st, M) x := g_iald7 (show decode cL_law 806 = .ok (.iaload, 1) by decide +kernel) hk h0 h1
set_option maxRecDepth 20000 in
theorem kL_law_807 {C : QC} {x : QP} {M : QM} {L : QL} {rest : List CV} {a0 a1 : CV} {v : CV} {M1 : QM} {b : Nat} (hb : q_kd M b = (1, 12)) (hC : C iX12_fits [qr b, a0, a1] M (some v) M1) (hw : (rest.map q_wd).sum ≤ 8) (k : Rr C mL_law (810, L, v :: rest, M1) x) : Rr C mL_law (807, L, a1 :: a0 :: qr b :: rest, M) x := g_cv (ow := 16) (e := (0, 138, 12, [1003, 1004, 1005, 77])) (as := [a0, a1]) (show decode cL_law 807 = .ok (.invokevirtual 90, 3) by decide +kernel) rfl rfl rfl (Or.inl rfl) rfl hb hC hw k
set_option maxRecDepth 20000 in
theorem kL_law_810 {C : QC} {x : QP} {M : QM} {st : List CV} {L : QL} {l0 l1 l2 l3 : Option CV} {r : Option Nat} : Rr C mL_law (810, [l0, l1, some (.inr (.inr r)), l3], st, M) x = Rr C mL_law (811, [l0, l1, some (.inr (.inr r)), l3], .inr (.inr r) :: st, M) x := g_pl (show decode cL_law 810 = .ok (.aload_n 2, 1) by decide +kernel) rfl
set_option maxRecDepth 20000 in
theorem kL_law_811 {C : QC} {x : QP} {M : QM} {st : List CV} {L : QL} {l0 l1 l2 l3 : Option CV} {r : Option Nat} : Rr C mL_law (811, [some (.inr (.inr r)), l1, l2, l3], st, M) x = Rr C mL_law (812, [some (.inr (.inr r)), l1, l2, l3], .inr (.inr r) :: st, M) x := g_pl (show decode cL_law 811 = .ok (.aload_n 0, 1) by decide +kernel) rfl
set_option maxRecDepth 20000 in
theorem kL_law_812 {C : QC} {x : QP} {M : QM} {st : List CV} {L : QL} {l0 l1 l2 l3 : Option CV} {z : Int} : Rr C mL_law (812, [l0, l1, l2, some (qi z)], st, M) x = Rr C mL_law (813, [l0, l1, l2, some (qi z)], qi z :: st, M) x := g_pl (show decode cL_law 812 = .ok (.iload_n 3, 1) by decide +kernel) rfl
set_option maxRecDepth 20000 in
theorem kL_law_813 {C : QC} {x : QP} {M : QM} {st : List CV} {L : QL} : Rr C mL_law (813, L, st, M) x = Rr C mL_law (814, L, qi 1 :: st, M) x := g_pl (show decode cL_law 813 = .ok (.iconst 1, 1) by decide +kernel) rfl
set_option maxRecDepth 20000 in
theorem kL_law_814 {C : QC} {x : QP} {M : QM} {st : List CV} {L : QL} {a b : Int} : Rr C mL_law (814, L, qi b :: qi a :: st, M) x = Rr C mL_law (815, L, qi (a + b) :: st, M) x := g_pl (show decode cL_law 814 = .ok (.iadd, 1) by decide +kernel) rfl
set_option maxRecDepth 20000 in
theorem kL_law_815 {C : QC} {x : QP} {M : QM} {st : List CV} {L : QL} {a : Nat} {j : Int} (hk : (q_kd M a).1 = 7) (h0 : 0 ≤ j) (h1 : j < ((q_kd M a).2 : Int)) : Rr C mL_law (815, L, qi j :: qr a :: st, M) x = Rr C mL_law (816, L, q_fv M a j.toNat :: st, M) x := g_iald7 (show decode cL_law 815 = .ok (.iaload, 1) by decide +kernel) hk h0 h1
set_option maxRecDepth 20000 in
theorem kL_law_816 {C : QC} {x : QP} {M : QM} {st : List CV} {L : QL} {l0 l1 l2 l3 : Option CV} {r : Option Nat} : Rr C mL_law (816, [some (.inr (.inr r)), l1, l2, l3], st, M) x = Rr C mL_law (817, [some (.inr (.inr r)), l1, l2, l3], .inr (.inr r) :: st, M) x := g_pl (show decode cL_law 816 = .ok (.aload_n 0, 1) by decide +kernel) rfl
set_option maxRecDepth 20000 in
theorem kL_law_817 {C : QC} {x : QP} {M : QM} {st : List CV} {L : QL} {l0 l1 l2 l3 : Option CV} {z : Int} : Rr C mL_law (817, [l0, l1, l2, some (qi z)], st, M) x = Rr C mL_law (818, [l0, l1, l2, some (qi z)], qi z :: st, M) x := g_pl (show decode cL_law 817 = .ok (.iload_n 3, 1) by decide +kernel) rfl
set_option maxRecDepth 20000 in
theorem kL_law_818 {C : QC} {x : QP} {M : QM} {st : List CV} {L : QL} : Rr C mL_law (818, L, st, M) x = Rr C mL_law (819, L, qi 2 :: st, M) x := g_pl (show decode cL_law 818 = .ok (.iconst 2, 1) by decide +kernel) rfl
set_option maxRecDepth 20000 in
theorem kL_law_819 {C : QC} {x : QP} {M : QM} {st : List CV} {L : QL} {a b : Int} : Rr C mL_law (819, L, qi b :: qi a :: st, M) x = Rr C mL_law (820, L, qi (a + b) :: st, M) x := g_pl (show decode cL_law 819 = .ok (.iadd, 1) by decide +kernel) rfl
set_option maxRecDepth 20000 in
theorem kL_law_820 {C : QC} {x : QP} {M : QM} {st : List CV} {L : QL} {a : Nat} {j : Int} (hk : (q_kd M a).1 = 7) (h0 : 0 ≤ j) (h1 : j < ((q_kd M a).2 : Int)) : Rr C mL_law (820, L, qi j :: qr a :: st, M) x = Rr C mL_law (821, L, q_fv M a j.toNat :: st, M) x := g_iald7 (show decode cL_law 820 = .ok (.iaload, 1) by decide +kernel) hk h0 h1
set_option maxRecDepth 20000 in
theorem kL_law_821 {C : QC} {x : QP} {M : QM} {L : QL} {rest : List CV} {a0 a1 : CV} {v : CV} {M1 : QM} {b : Nat} (hb : q_kd M b = (1, 13)) (hC : C iX13_fits [qr b, a0, a1] M (some v) M1) (hw : (rest.map q_wd).sum ≤ 8) (k : Rr C mL_law (824, L, v :: rest, M1) x) : Rr C mL_law (821, L, a1 :: a0 :: qr b :: rest, M) x := g_cv (ow := 16) (e := (0, 262, 13, [1611, 1612, 1613, 94])) (as := [a0, a1]) (show decode cL_law 821 = .ok (.invokevirtual 93, 3) by decide +kernel) rfl rfl rfl (Or.inl rfl) rfl hb hC hw k
set_option maxRecDepth 20000 in
theorem kL_law_824 {C : QC} {x : QP} {M : QM} {st : List CV} {L : QL} {a b : Int} (ha1 : -2147483648 ≤ a) (ha2 : a < 2147483648) (hb1 : -2147483648 ≤ b) (hb2 : b < 2147483648) : Rr C mL_law (824, L, qi b :: qi a :: st, M) x = (if a = b then Rr C mL_law (1036, L, st, M) x else Rr C mL_law (827, L, st, M) x) := (g_icmp (show decode cL_law 824 = .ok (.if_icmp .eq 212, 3) by decide +kernel) rfl ha1 ha2 hb1 hb2).trans (g_ite c_eq)
set_option maxRecDepth 20000 in
theorem kL_law_827 {C : QC} {x : QP} {M : QM} {st : List CV} {L : QL} : Rr C mL_law (827, L, st, M) x = Rr C mL_law (828, L, qi 0 :: st, M) x := g_pl (show decode cL_law 827 = .ok (.iconst 0, 1) by decide +kernel) rfl
set_option maxRecDepth 20000 in
theorem kL_law_828 {C : QC} {x : QP} {M : QM} {st : List CV} {L : QL} {z : Int} (hz : z = 0 ∨ z = 1) : Rr C mL_law (828, L, [qi z], M) x = x (some (qi z)) M := g_iret (show decode cL_law 828 = .ok (.ireturn, 1) by decide +kernel) (by rcases hz with rfl | rfl <;> rfl)
set_option maxRecDepth 20000 in
theorem kL_law_829 {C : QC} {x : QP} {M : QM} {st : List CV} {L : QL} {l0 l1 l2 l3 : Option CV} {r : Option Nat} : Rr C mL_law (829, [l0, some (.inr (.inr r)), l2, l3], st, M) x = Rr C mL_law (830, [l0, some (.inr (.inr r)), l2, l3], .inr (.inr r) :: st, M) x := g_pl (show decode cL_law 829 = .ok (.aload_n 1, 1) by decide +kernel) rfl
set_option maxRecDepth 20000 in
theorem kL_law_830 {C : QC} {x : QP} {M : QM} {st : List CV} {L : QL} {l0 l1 l2 l3 : Option CV} {r : Option Nat} : Rr C mL_law (830, [some (.inr (.inr r)), l1, l2, l3], st, M) x = Rr C mL_law (831, [some (.inr (.inr r)), l1, l2, l3], .inr (.inr r) :: st, M) x := g_pl (show decode cL_law 830 = .ok (.aload_n 0, 1) by decide +kernel) rfl
set_option maxRecDepth 20000 in
theorem kL_law_831 {C : QC} {x : QP} {M : QM} {st : List CV} {L : QL} {l0 l1 l2 l3 : Option CV} {z : Int} : Rr C mL_law (831, [l0, l1, l2, some (qi z)], st, M) x = Rr C mL_law (832, [l0, l1, l2, some (qi z)], qi z :: st, M) x := g_pl (show decode cL_law 831 = .ok (.iload_n 3, 1) by decide +kernel) rfl
set_option maxRecDepth 20000 in
theorem kL_law_832 {C : QC} {x : QP} {M : QM} {st : List CV} {L : QL} : Rr C mL_law (832, L, st, M) x = Rr C mL_law (833, L, qi 1 :: st, M) x := g_pl (show decode cL_law 832 = .ok (.iconst 1, 1) by decide +kernel) rfl
set_option maxRecDepth 20000 in
theorem kL_law_833 {C : QC} {x : QP} {M : QM} {st : List CV} {L : QL} {a b : Int} : Rr C mL_law (833, L, qi b :: qi a :: st, M) x = Rr C mL_law (834, L, qi (a + b) :: st, M) x := g_pl (show decode cL_law 833 = .ok (.iadd, 1) by decide +kernel) rfl
set_option maxRecDepth 20000 in
theorem kL_law_834 {C : QC} {x : QP} {M : QM} {st : List CV} {L : QL} {a : Nat} {j : Int} (hk : (q_kd M a).1 = 7) (h0 : 0 ≤ j) (h1 : j < ((q_kd M a).2 : Int)) : Rr C mL_law (834, L, qi j :: qr a :: st, M) x = Rr C mL_law (835, L, q_fv M a j.toNat :: st, M) x := g_iald7 (show decode cL_law 834 = .ok (.iaload, 1) by decide +kernel) hk h0 h1
set_option maxRecDepth 20000 in
theorem kL_law_835 {C : QC} {x : QP} {M : QM} {L : QL} {rest : List CV} {a0 : CV} {v : CV} {M1 : QM} {b : Nat} (hb : q_kd M b = (1, 12)) (hC : C iX12_write [qr b, a0] M (some v) M1) (hw : (rest.map q_wd).sum ≤ 8) (k : Rr C mL_law (838, L, v :: rest, M1) x) : Rr C mL_law (835, L, a0 :: qr b :: rest, M) x := g_cv (ow := 16) (e := (0, 143, 12, [1024, 1025, 1026, 77])) (as := [a0]) (show decode cL_law 835 = .ok (.invokevirtual 94, 3) by decide +kernel) rfl rfl rfl (Or.inl rfl) rfl hb hC hw k
set_option maxRecDepth 20000 in
theorem kL_law_838 {C : QC} {x : QP} {M : QM} {st : List CV} {L : QL} {l0 l1 l2 l3 : Option CV} {r : Option Nat} : Rr C mL_law (838, [l0, l1, some (.inr (.inr r)), l3], st, M) x = Rr C mL_law (839, [l0, l1, some (.inr (.inr r)), l3], .inr (.inr r) :: st, M) x := g_pl (show decode cL_law 838 = .ok (.aload_n 2, 1) by decide +kernel) rfl
set_option maxRecDepth 20000 in
theorem kL_law_839 {C : QC} {x : QP} {M : QM} {st : List CV} {L : QL} {l0 l1 l2 l3 : Option CV} {r : Option Nat} : Rr C mL_law (839, [some (.inr (.inr r)), l1, l2, l3], st, M) x = Rr C mL_law (840, [some (.inr (.inr r)), l1, l2, l3], .inr (.inr r) :: st, M) x := g_pl (show decode cL_law 839 = .ok (.aload_n 0, 1) by decide +kernel) rfl
set_option maxRecDepth 20000 in
theorem kL_law_840 {C : QC} {x : QP} {M : QM} {st : List CV} {L : QL} {l0 l1 l2 l3 : Option CV} {z : Int} : Rr C mL_law (840, [l0, l1, l2, some (qi z)], st, M) x = Rr C mL_law (841, [l0, l1, l2, some (qi z)], qi z :: st, M) x := g_pl (show decode cL_law 840 = .ok (.iload_n 3, 1) by decide +kernel) rfl
set_option maxRecDepth 20000 in
theorem kL_law_841 {C : QC} {x : QP} {M : QM} {st : List CV} {L : QL} : Rr C mL_law (841, L, st, M) x = Rr C mL_law (842, L, qi 1 :: st, M) x := g_pl (show decode cL_law 841 = .ok (.iconst 1, 1) by decide +kernel) rfl
set_option maxRecDepth 20000 in
theorem kL_law_842 {C : QC} {x : QP} {M : QM} {st : List CV} {L : QL} {a b : Int} : Rr C mL_law (842, L, qi b :: qi a :: st, M) x = Rr C mL_law (843, L, qi (a + b) :: st, M) x := g_pl (show decode cL_law 842 = .ok (.iadd, 1) by decide +kernel) rfl
set_option maxRecDepth 20000 in
theorem kL_law_843 {C : QC} {x : QP} {M : QM} {st : List CV} {L : QL} {a : Nat} {j : Int} (hk : (q_kd M a).1 = 7) (h0 : 0 ≤ j) (h1 : j < ((q_kd M a).2 : Int)) : Rr C mL_law (843, L, qi j :: qr a :: st, M) x = Rr C mL_law (844, L, q_fv M a j.toNat :: st, M) x := g_iald7 (show decode cL_law 843 = .ok (.iaload, 1) by decide +kernel) hk h0 h1
set_option maxRecDepth 20000 in
theorem kL_law_844 {C : QC} {x : QP} {M : QM} {L : QL} {rest : List CV} {a0 : CV} {v : CV} {M1 : QM} {b : Nat} (hb : q_kd M b = (1, 13)) (hC : C iX13_write [qr b, a0] M (some v) M1) (hw : (rest.map q_wd).sum ≤ 8) (k : Rr C mL_law (847, L, v :: rest, M1) x) : Rr C mL_law (844, L, a0 :: qr b :: rest, M) x := g_cv (ow := 16) (e := (0, 265, 13, [1623, 1624, 1625, 94])) (as := [a0]) (show decode cL_law 844 = .ok (.invokevirtual 97, 3) by decide +kernel) rfl rfl rfl (Or.inl rfl) rfl hb hC hw k
set_option maxRecDepth 20000 in
theorem kL_law_847 {C : QC} {x : QP} {M : QM} {st : List CV} {L : QL} {a b : Int} (ha1 : -2147483648 ≤ a) (ha2 : a < 2147483648) (hb1 : -2147483648 ≤ b) (hb2 : b < 2147483648) : Rr C mL_law (847, L, qi b :: qi a :: st, M) x = (if a = b then Rr C mL_law (1036, L, st, M) x else Rr C mL_law (850, L, st, M) x) := (g_icmp (show decode cL_law 847 = .ok (.if_icmp .eq 189, 3) by decide +kernel) rfl ha1 ha2 hb1 hb2).trans (g_ite c_eq)
set_option maxRecDepth 20000 in
theorem kL_law_850 {C : QC} {x : QP} {M : QM} {st : List CV} {L : QL} : Rr C mL_law (850, L, st, M) x = Rr C mL_law (851, L, qi 0 :: st, M) x := g_pl (show decode cL_law 850 = .ok (.iconst 0, 1) by decide +kernel) rfl
set_option maxRecDepth 20000 in
theorem kL_law_851 {C : QC} {x : QP} {M : QM} {st : List CV} {L : QL} {z : Int} (hz : z = 0 ∨ z = 1) : Rr C mL_law (851, L, [qi z], M) x = x (some (qi z)) M := g_iret (show decode cL_law 851 = .ok (.ireturn, 1) by decide +kernel) (by rcases hz with rfl | rfl <;> rfl)
set_option maxRecDepth 20000 in
theorem kL_law_852 {C : QC} {x : QP} {M : QM} {st : List CV} {L : QL} {l0 l1 l2 l3 : Option CV} {r : Option Nat} : Rr C mL_law (852, [l0, some (.inr (.inr r)), l2, l3], st, M) x = Rr C mL_law (853, [l0, some (.inr (.inr r)), l2, l3], .inr (.inr r) :: st, M) x := g_pl (show decode cL_law 852 = .ok (.aload_n 1, 1) by decide +kernel) rfl
set_option maxRecDepth 20000 in
theorem kL_law_853 {C : QC} {x : QP} {M : QM} {st : List CV} {L : QL} {l0 l1 l2 l3 : Option CV} {r : Option Nat} : Rr C mL_law (853, [some (.inr (.inr r)), l1, l2, l3], st, M) x = Rr C mL_law (854, [some (.inr (.inr r)), l1, l2, l3], .inr (.inr r) :: st, M) x := g_pl (show decode cL_law 853 = .ok (.aload_n 0, 1) by decide +kernel) rfl
set_option maxRecDepth 20000 in
theorem kL_law_854 {C : QC} {x : QP} {M : QM} {st : List CV} {L : QL} {l0 l1 l2 l3 : Option CV} {z : Int} : Rr C mL_law (854, [l0, l1, l2, some (qi z)], st, M) x = Rr C mL_law (855, [l0, l1, l2, some (qi z)], qi z :: st, M) x := g_pl (show decode cL_law 854 = .ok (.iload_n 3, 1) by decide +kernel) rfl
set_option maxRecDepth 20000 in
theorem kL_law_855 {C : QC} {x : QP} {M : QM} {st : List CV} {L : QL} : Rr C mL_law (855, L, st, M) x = Rr C mL_law (856, L, qi 1 :: st, M) x := g_pl (show decode cL_law 855 = .ok (.iconst 1, 1) by decide +kernel) rfl
set_option maxRecDepth 20000 in
theorem kL_law_856 {C : QC} {x : QP} {M : QM} {st : List CV} {L : QL} {a b : Int} : Rr C mL_law (856, L, qi b :: qi a :: st, M) x = Rr C mL_law (857, L, qi (a + b) :: st, M) x := g_pl (show decode cL_law 856 = .ok (.iadd, 1) by decide +kernel) rfl
set_option maxRecDepth 20000 in
theorem kL_law_857 {C : QC} {x : QP} {M : QM} {st : List CV} {L : QL} {a : Nat} {j : Int} (hk : (q_kd M a).1 = 7) (h0 : 0 ≤ j) (h1 : j < ((q_kd M a).2 : Int)) : Rr C mL_law (857, L, qi j :: qr a :: st, M) x = Rr C mL_law (858, L, q_fv M a j.toNat :: st, M) x := g_iald7 (show decode cL_law 857 = .ok (.iaload, 1) by decide +kernel) hk h0 h1
set_option maxRecDepth 20000 in
theorem kL_law_858 {C : QC} {x : QP} {M : QM} {L : QL} {rest : List CV} {a0 : CV} {v : CV} {M1 : QM} {b : Nat} (hb : q_kd M b = (1, 12)) (hC : C iX12_paper [qr b, a0] M (some v) M1) (hw : (rest.map q_wd).sum ≤ 8) (k : Rr C mL_law (861, L, v :: rest, M1) x) : Rr C mL_law (858, L, a0 :: qr b :: rest, M) x := g_cv (ow := 16) (e := (0, 175, 12, [1197, 1198, 1199, 77])) (as := [a0]) (show decode cL_law 858 = .ok (.invokevirtual 98, 3) by decide +kernel) rfl rfl rfl (Or.inl rfl) rfl hb hC hw k
set_option maxRecDepth 20000 in
theorem kL_law_861 {C : QC} {x : QP} {M : QM} {st : List CV} {L : QL} {l0 l1 l2 l3 : Option CV} {r : Option Nat} : Rr C mL_law (861, [l0, l1, some (.inr (.inr r)), l3], st, M) x = Rr C mL_law (862, [l0, l1, some (.inr (.inr r)), l3], .inr (.inr r) :: st, M) x := g_pl (show decode cL_law 861 = .ok (.aload_n 2, 1) by decide +kernel) rfl
set_option maxRecDepth 20000 in
theorem kL_law_862 {C : QC} {x : QP} {M : QM} {st : List CV} {L : QL} {l0 l1 l2 l3 : Option CV} {r : Option Nat} : Rr C mL_law (862, [some (.inr (.inr r)), l1, l2, l3], st, M) x = Rr C mL_law (863, [some (.inr (.inr r)), l1, l2, l3], .inr (.inr r) :: st, M) x := g_pl (show decode cL_law 862 = .ok (.aload_n 0, 1) by decide +kernel) rfl
set_option maxRecDepth 20000 in
theorem kL_law_863 {C : QC} {x : QP} {M : QM} {st : List CV} {L : QL} {l0 l1 l2 l3 : Option CV} {z : Int} : Rr C mL_law (863, [l0, l1, l2, some (qi z)], st, M) x = Rr C mL_law (864, [l0, l1, l2, some (qi z)], qi z :: st, M) x := g_pl (show decode cL_law 863 = .ok (.iload_n 3, 1) by decide +kernel) rfl
set_option maxRecDepth 20000 in
theorem kL_law_864 {C : QC} {x : QP} {M : QM} {st : List CV} {L : QL} : Rr C mL_law (864, L, st, M) x = Rr C mL_law (865, L, qi 1 :: st, M) x := g_pl (show decode cL_law 864 = .ok (.iconst 1, 1) by decide +kernel) rfl
set_option maxRecDepth 20000 in
theorem kL_law_865 {C : QC} {x : QP} {M : QM} {st : List CV} {L : QL} {a b : Int} : Rr C mL_law (865, L, qi b :: qi a :: st, M) x = Rr C mL_law (866, L, qi (a + b) :: st, M) x := g_pl (show decode cL_law 865 = .ok (.iadd, 1) by decide +kernel) rfl
set_option maxRecDepth 20000 in
theorem kL_law_866 {C : QC} {x : QP} {M : QM} {st : List CV} {L : QL} {a : Nat} {j : Int} (hk : (q_kd M a).1 = 7) (h0 : 0 ≤ j) (h1 : j < ((q_kd M a).2 : Int)) : Rr C mL_law (866, L, qi j :: qr a :: st, M) x = Rr C mL_law (867, L, q_fv M a j.toNat :: st, M) x := g_iald7 (show decode cL_law 866 = .ok (.iaload, 1) by decide +kernel) hk h0 h1
set_option maxRecDepth 20000 in
theorem kL_law_867 {C : QC} {x : QP} {M : QM} {L : QL} {rest : List CV} {a0 : CV} {v : CV} {M1 : QM} {b : Nat} (hb : q_kd M b = (1, 13)) (hC : C iX13_paper [qr b, a0] M (some v) M1) (hw : (rest.map q_wd).sum ≤ 8) (k : Rr C mL_law (870, L, v :: rest, M1) x) : Rr C mL_law (867, L, a0 :: qr b :: rest, M) x := g_cv (ow := 16) (e := (0, 268, 13, [1634, 1635, 1636, 94])) (as := [a0]) (show decode cL_law 867 = .ok (.invokevirtual 101, 3) by decide +kernel) rfl rfl rfl (Or.inl rfl) rfl hb hC hw k
set_option maxRecDepth 20000 in
theorem kL_law_870 {C : QC} {x : QP} {M : QM} {st : List CV} {L : QL} {a b : Int} (ha1 : -2147483648 ≤ a) (ha2 : a < 2147483648) (hb1 : -2147483648 ≤ b) (hb2 : b < 2147483648) : Rr C mL_law (870, L, qi b :: qi a :: st, M) x = (if a = b then Rr C mL_law (1036, L, st, M) x else Rr C mL_law (873, L, st, M) x) := (g_icmp (show decode cL_law 870 = .ok (.if_icmp .eq 166, 3) by decide +kernel) rfl ha1 ha2 hb1 hb2).trans (g_ite c_eq)
set_option maxRecDepth 20000 in
theorem kL_law_873 {C : QC} {x : QP} {M : QM} {st : List CV} {L : QL} : Rr C mL_law (873, L, st, M) x = Rr C mL_law (874, L, qi 0 :: st, M) x := g_pl (show decode cL_law 873 = .ok (.iconst 0, 1) by decide +kernel) rfl
set_option maxRecDepth 20000 in
theorem kL_law_874 {C : QC} {x : QP} {M : QM} {st : List CV} {L : QL} {z : Int} (hz : z = 0 ∨ z = 1) : Rr C mL_law (874, L, [qi z], M) x = x (some (qi z)) M := g_iret (show decode cL_law 874 = .ok (.ireturn, 1) by decide +kernel) (by rcases hz with rfl | rfl <;> rfl)
set_option maxRecDepth 20000 in
theorem kL_law_875 {C : QC} {x : QP} {M : QM} {st : List CV} {L : QL} {l0 l1 l2 l3 : Option CV} {r : Option Nat} : Rr C mL_law (875, [l0, some (.inr (.inr r)), l2, l3], st, M) x = Rr C mL_law (876, [l0, some (.inr (.inr r)), l2, l3], .inr (.inr r) :: st, M) x := g_pl (show decode cL_law 875 = .ok (.aload_n 1, 1) by decide +kernel) rfl
set_option maxRecDepth 20000 in
theorem kL_law_876 {C : QC} {x : QP} {M : QM} {st : List CV} {L : QL} {l0 l1 l2 l3 : Option CV} {r : Option Nat} : Rr C mL_law (876, [some (.inr (.inr r)), l1, l2, l3], st, M) x = Rr C mL_law (877, [some (.inr (.inr r)), l1, l2, l3], .inr (.inr r) :: st, M) x := g_pl (show decode cL_law 876 = .ok (.aload_n 0, 1) by decide +kernel) rfl
set_option maxRecDepth 20000 in
theorem kL_law_877 {C : QC} {x : QP} {M : QM} {st : List CV} {L : QL} {l0 l1 l2 l3 : Option CV} {z : Int} : Rr C mL_law (877, [l0, l1, l2, some (qi z)], st, M) x = Rr C mL_law (878, [l0, l1, l2, some (qi z)], qi z :: st, M) x := g_pl (show decode cL_law 877 = .ok (.iload_n 3, 1) by decide +kernel) rfl
set_option maxRecDepth 20000 in
theorem kL_law_878 {C : QC} {x : QP} {M : QM} {st : List CV} {L : QL} : Rr C mL_law (878, L, st, M) x = Rr C mL_law (879, L, qi 1 :: st, M) x := g_pl (show decode cL_law 878 = .ok (.iconst 1, 1) by decide +kernel) rfl
set_option maxRecDepth 20000 in
theorem kL_law_879 {C : QC} {x : QP} {M : QM} {st : List CV} {L : QL} {a b : Int} : Rr C mL_law (879, L, qi b :: qi a :: st, M) x = Rr C mL_law (880, L, qi (a + b) :: st, M) x := g_pl (show decode cL_law 879 = .ok (.iadd, 1) by decide +kernel) rfl
set_option maxRecDepth 20000 in
theorem kL_law_880 {C : QC} {x : QP} {M : QM} {st : List CV} {L : QL} {a : Nat} {j : Int} (hk : (q_kd M a).1 = 7) (h0 : 0 ≤ j) (h1 : j < ((q_kd M a).2 : Int)) : Rr C mL_law (880, L, qi j :: qr a :: st, M) x = Rr C mL_law (881, L, q_fv M a j.toNat :: st, M) x := g_iald7 (show decode cL_law 880 = .ok (.iaload, 1) by decide +kernel) hk h0 h1
set_option maxRecDepth 20000 in
theorem kL_law_881 {C : QC} {x : QP} {M : QM} {st : List CV} {L : QL} {l0 l1 l2 l3 : Option CV} {r : Option Nat} : Rr C mL_law (881, [some (.inr (.inr r)), l1, l2, l3], st, M) x = Rr C mL_law (882, [some (.inr (.inr r)), l1, l2, l3], .inr (.inr r) :: st, M) x := g_pl (show decode cL_law 881 = .ok (.aload_n 0, 1) by decide +kernel) rfl
set_option maxRecDepth 20000 in
theorem kL_law_882 {C : QC} {x : QP} {M : QM} {st : List CV} {L : QL} {l0 l1 l2 l3 : Option CV} {z : Int} : Rr C mL_law (882, [l0, l1, l2, some (qi z)], st, M) x = Rr C mL_law (883, [l0, l1, l2, some (qi z)], qi z :: st, M) x := g_pl (show decode cL_law 882 = .ok (.iload_n 3, 1) by decide +kernel) rfl
set_option maxRecDepth 20000 in
theorem kL_law_883 {C : QC} {x : QP} {M : QM} {st : List CV} {L : QL} : Rr C mL_law (883, L, st, M) x = Rr C mL_law (884, L, qi 2 :: st, M) x := g_pl (show decode cL_law 883 = .ok (.iconst 2, 1) by decide +kernel) rfl
set_option maxRecDepth 20000 in
theorem kL_law_884 {C : QC} {x : QP} {M : QM} {st : List CV} {L : QL} {a b : Int} : Rr C mL_law (884, L, qi b :: qi a :: st, M) x = Rr C mL_law (885, L, qi (a + b) :: st, M) x := g_pl (show decode cL_law 884 = .ok (.iadd, 1) by decide +kernel) rfl
set_option maxRecDepth 20000 in
theorem kL_law_885 {C : QC} {x : QP} {M : QM} {st : List CV} {L : QL} {a : Nat} {j : Int} (hk : (q_kd M a).1 = 7) (h0 : 0 ≤ j) (h1 : j < ((q_kd M a).2 : Int)) : Rr C mL_law (885, L, qi j :: qr a :: st, M) x = Rr C mL_law (886, L, q_fv M a j.toNat :: st, M) x := g_iald7 (show decode cL_law 885 = .ok (.iaload, 1) by decide +kernel) hk h0 h1
set_option maxRecDepth 20000 in
theorem kL_law_886 {C : QC} {x : QP} {M : QM} {L : QL} {rest : List CV} {a0 a1 : CV} {v : CV} {M1 : QM} {b : Nat} (hb : q_kd M b = (1, 12)) (hC : C iX12_changed [qr b, a0, a1] M (some v) M1) (hw : (rest.map q_wd).sum ≤ 8) (k : Rr C mL_law (889, L, v :: rest, M1) x) : Rr C mL_law (886, L, a1 :: a0 :: qr b :: rest, M) x := g_cv (ow := 16) (e := (0, 178, 12, [1211, 1212, 1213, 77])) (as := [a0, a1]) (show decode cL_law 886 = .ok (.invokevirtual 102, 3) by decide +kernel) rfl rfl rfl (Or.inl rfl) rfl hb hC hw k
set_option maxRecDepth 20000 in
theorem kL_law_889 {C : QC} {x : QP} {M : QM} {st : List CV} {L : QL} {l0 l1 l2 l3 : Option CV} {r : Option Nat} : Rr C mL_law (889, [l0, l1, some (.inr (.inr r)), l3], st, M) x = Rr C mL_law (890, [l0, l1, some (.inr (.inr r)), l3], .inr (.inr r) :: st, M) x := g_pl (show decode cL_law 889 = .ok (.aload_n 2, 1) by decide +kernel) rfl
set_option maxRecDepth 20000 in
theorem kL_law_890 {C : QC} {x : QP} {M : QM} {st : List CV} {L : QL} {l0 l1 l2 l3 : Option CV} {r : Option Nat} : Rr C mL_law (890, [some (.inr (.inr r)), l1, l2, l3], st, M) x = Rr C mL_law (891, [some (.inr (.inr r)), l1, l2, l3], .inr (.inr r) :: st, M) x := g_pl (show decode cL_law 890 = .ok (.aload_n 0, 1) by decide +kernel) rfl
set_option maxRecDepth 20000 in
theorem kL_law_891 {C : QC} {x : QP} {M : QM} {st : List CV} {L : QL} {l0 l1 l2 l3 : Option CV} {z : Int} : Rr C mL_law (891, [l0, l1, l2, some (qi z)], st, M) x = Rr C mL_law (892, [l0, l1, l2, some (qi z)], qi z :: st, M) x := g_pl (show decode cL_law 891 = .ok (.iload_n 3, 1) by decide +kernel) rfl
set_option maxRecDepth 20000 in
theorem kL_law_892 {C : QC} {x : QP} {M : QM} {st : List CV} {L : QL} : Rr C mL_law (892, L, st, M) x = Rr C mL_law (893, L, qi 1 :: st, M) x := g_pl (show decode cL_law 892 = .ok (.iconst 1, 1) by decide +kernel) rfl
set_option maxRecDepth 20000 in
theorem kL_law_893 {C : QC} {x : QP} {M : QM} {st : List CV} {L : QL} {a b : Int} : Rr C mL_law (893, L, qi b :: qi a :: st, M) x = Rr C mL_law (894, L, qi (a + b) :: st, M) x := g_pl (show decode cL_law 893 = .ok (.iadd, 1) by decide +kernel) rfl
set_option maxRecDepth 20000 in
theorem kL_law_894 {C : QC} {x : QP} {M : QM} {st : List CV} {L : QL} {a : Nat} {j : Int} (hk : (q_kd M a).1 = 7) (h0 : 0 ≤ j) (h1 : j < ((q_kd M a).2 : Int)) : Rr C mL_law (894, L, qi j :: qr a :: st, M) x = Rr C mL_law (895, L, q_fv M a j.toNat :: st, M) x := g_iald7 (show decode cL_law 894 = .ok (.iaload, 1) by decide +kernel) hk h0 h1
set_option maxRecDepth 20000 in
theorem kL_law_895 {C : QC} {x : QP} {M : QM} {st : List CV} {L : QL} {l0 l1 l2 l3 : Option CV} {r : Option Nat} : Rr C mL_law (895, [some (.inr (.inr r)), l1, l2, l3], st, M) x = Rr C mL_law (896, [some (.inr (.inr r)), l1, l2, l3], .inr (.inr r) :: st, M) x := g_pl (show decode cL_law 895 = .ok (.aload_n 0, 1) by decide +kernel) rfl
set_option maxRecDepth 20000 in
theorem kL_law_896 {C : QC} {x : QP} {M : QM} {st : List CV} {L : QL} {l0 l1 l2 l3 : Option CV} {z : Int} : Rr C mL_law (896, [l0, l1, l2, some (qi z)], st, M) x = Rr C mL_law (897, [l0, l1, l2, some (qi z)], qi z :: st, M) x := g_pl (show decode cL_law 896 = .ok (.iload_n 3, 1) by decide +kernel) rfl
set_option maxRecDepth 20000 in
theorem kL_law_897 {C : QC} {x : QP} {M : QM} {st : List CV} {L : QL} : Rr C mL_law (897, L, st, M) x = Rr C mL_law (898, L, qi 2 :: st, M) x := g_pl (show decode cL_law 897 = .ok (.iconst 2, 1) by decide +kernel) rfl
set_option maxRecDepth 20000 in
theorem kL_law_898 {C : QC} {x : QP} {M : QM} {st : List CV} {L : QL} {a b : Int} : Rr C mL_law (898, L, qi b :: qi a :: st, M) x = Rr C mL_law (899, L, qi (a + b) :: st, M) x := g_pl (show decode cL_law 898 = .ok (.iadd, 1) by decide +kernel) rfl
set_option maxRecDepth 20000 in
theorem kL_law_899 {C : QC} {x : QP} {M : QM} {st : List CV} {L : QL} {a : Nat} {j : Int} (hk : (q_kd M a).1 = 7) (h0 : 0 ≤ j) (h1 : j < ((q_kd M a).2 : Int)) : Rr C mL_law (899, L, qi j :: qr a :: st, M) x = Rr C mL_law (900, L, q_fv M a j.toNat :: st, M) x := g_iald7 (show decode cL_law 899 = .ok (.iaload, 1) by decide +kernel) hk h0 h1
set_option maxRecDepth 20000 in
theorem kL_law_900 {C : QC} {x : QP} {M : QM} {L : QL} {rest : List CV} {a0 a1 : CV} {v : CV} {M1 : QM} {b : Nat} (hb : q_kd M b = (1, 13)) (hC : C iX13_changed [qr b, a0, a1] M (some v) M1) (hw : (rest.map q_wd).sum ≤ 8) (k : Rr C mL_law (903, L, v :: rest, M1) x) : Rr C mL_law (900, L, a1 :: a0 :: qr b :: rest, M) x := g_cv (ow := 16) (e := (0, 269, 13, [1638, 1639, 1640, 94])) (as := [a0, a1]) (show decode cL_law 900 = .ok (.invokevirtual 105, 3) by decide +kernel) rfl rfl rfl (Or.inl rfl) rfl hb hC hw k
set_option maxRecDepth 20000 in
theorem kL_law_903 {C : QC} {x : QP} {M : QM} {st : List CV} {L : QL} {a b : Int} (ha1 : -2147483648 ≤ a) (ha2 : a < 2147483648) (hb1 : -2147483648 ≤ b) (hb2 : b < 2147483648) : Rr C mL_law (903, L, qi b :: qi a :: st, M) x = (if a = b then Rr C mL_law (1036, L, st, M) x else Rr C mL_law (906, L, st, M) x) := (g_icmp (show decode cL_law 903 = .ok (.if_icmp .eq 133, 3) by decide +kernel) rfl ha1 ha2 hb1 hb2).trans (g_ite c_eq)
set_option maxRecDepth 20000 in
theorem kL_law_906 {C : QC} {x : QP} {M : QM} {st : List CV} {L : QL} : Rr C mL_law (906, L, st, M) x = Rr C mL_law (907, L, qi 0 :: st, M) x := g_pl (show decode cL_law 906 = .ok (.iconst 0, 1) by decide +kernel) rfl
set_option maxRecDepth 20000 in
theorem kL_law_907 {C : QC} {x : QP} {M : QM} {st : List CV} {L : QL} {z : Int} (hz : z = 0 ∨ z = 1) : Rr C mL_law (907, L, [qi z], M) x = x (some (qi z)) M := g_iret (show decode cL_law 907 = .ok (.ireturn, 1) by decide +kernel) (by rcases hz with rfl | rfl <;> rfl)
set_option maxRecDepth 20000 in
theorem kL_law_908 {C : QC} {x : QP} {M : QM} {st : List CV} {L : QL} {l0 l1 l2 l3 : Option CV} {r : Option Nat} : Rr C mL_law (908, [l0, some (.inr (.inr r)), l2, l3], st, M) x = Rr C mL_law (909, [l0, some (.inr (.inr r)), l2, l3], .inr (.inr r) :: st, M) x := g_pl (show decode cL_law 908 = .ok (.aload_n 1, 1) by decide +kernel) rfl
set_option maxRecDepth 20000 in
theorem kL_law_909 {C : QC} {x : QP} {M : QM} {st : List CV} {L : QL} {l0 l1 l2 l3 : Option CV} {r : Option Nat} : Rr C mL_law (909, [some (.inr (.inr r)), l1, l2, l3], st, M) x = Rr C mL_law (910, [some (.inr (.inr r)), l1, l2, l3], .inr (.inr r) :: st, M) x := g_pl (show decode cL_law 909 = .ok (.aload_n 0, 1) by decide +kernel) rfl
set_option maxRecDepth 20000 in
theorem kL_law_910 {C : QC} {x : QP} {M : QM} {st : List CV} {L : QL} {l0 l1 l2 l3 : Option CV} {z : Int} : Rr C mL_law (910, [l0, l1, l2, some (qi z)], st, M) x = Rr C mL_law (911, [l0, l1, l2, some (qi z)], qi z :: st, M) x := g_pl (show decode cL_law 910 = .ok (.iload_n 3, 1) by decide +kernel) rfl
set_option maxRecDepth 20000 in
theorem kL_law_911 {C : QC} {x : QP} {M : QM} {st : List CV} {L : QL} : Rr C mL_law (911, L, st, M) x = Rr C mL_law (912, L, qi 1 :: st, M) x := g_pl (show decode cL_law 911 = .ok (.iconst 1, 1) by decide +kernel) rfl
set_option maxRecDepth 20000 in
theorem kL_law_912 {C : QC} {x : QP} {M : QM} {st : List CV} {L : QL} {a b : Int} : Rr C mL_law (912, L, qi b :: qi a :: st, M) x = Rr C mL_law (913, L, qi (a + b) :: st, M) x := g_pl (show decode cL_law 912 = .ok (.iadd, 1) by decide +kernel) rfl
set_option maxRecDepth 20000 in
theorem kL_law_913 {C : QC} {x : QP} {M : QM} {st : List CV} {L : QL} {a : Nat} {j : Int} (hk : (q_kd M a).1 = 7) (h0 : 0 ≤ j) (h1 : j < ((q_kd M a).2 : Int)) : Rr C mL_law (913, L, qi j :: qr a :: st, M) x = Rr C mL_law (914, L, q_fv M a j.toNat :: st, M) x := g_iald7 (show decode cL_law 913 = .ok (.iaload, 1) by decide +kernel) hk h0 h1
set_option maxRecDepth 20000 in
theorem kL_law_914 {C : QC} {x : QP} {M : QM} {st : List CV} {L : QL} {l0 l1 l2 l3 : Option CV} {r : Option Nat} : Rr C mL_law (914, [some (.inr (.inr r)), l1, l2, l3], st, M) x = Rr C mL_law (915, [some (.inr (.inr r)), l1, l2, l3], .inr (.inr r) :: st, M) x := g_pl (show decode cL_law 914 = .ok (.aload_n 0, 1) by decide +kernel) rfl
set_option maxRecDepth 20000 in
theorem kL_law_915 {C : QC} {x : QP} {M : QM} {st : List CV} {L : QL} {l0 l1 l2 l3 : Option CV} {z : Int} : Rr C mL_law (915, [l0, l1, l2, some (qi z)], st, M) x = Rr C mL_law (916, [l0, l1, l2, some (qi z)], qi z :: st, M) x := g_pl (show decode cL_law 915 = .ok (.iload_n 3, 1) by decide +kernel) rfl
set_option maxRecDepth 20000 in
theorem kL_law_916 {C : QC} {x : QP} {M : QM} {st : List CV} {L : QL} : Rr C mL_law (916, L, st, M) x = Rr C mL_law (917, L, qi 2 :: st, M) x := g_pl (show decode cL_law 916 = .ok (.iconst 2, 1) by decide +kernel) rfl
set_option maxRecDepth 20000 in
theorem kL_law_917 {C : QC} {x : QP} {M : QM} {st : List CV} {L : QL} {a b : Int} : Rr C mL_law (917, L, qi b :: qi a :: st, M) x = Rr C mL_law (918, L, qi (a + b) :: st, M) x := g_pl (show decode cL_law 917 = .ok (.iadd, 1) by decide +kernel) rfl
set_option maxRecDepth 20000 in
theorem kL_law_918 {C : QC} {x : QP} {M : QM} {st : List CV} {L : QL} {a : Nat} {j : Int} (hk : (q_kd M a).1 = 7) (h0 : 0 ≤ j) (h1 : j < ((q_kd M a).2 : Int)) : Rr C mL_law (918, L, qi j :: qr a :: st, M) x = Rr C mL_law (919, L, q_fv M a j.toNat :: st, M) x := g_iald7 (show decode cL_law 918 = .ok (.iaload, 1) by decide +kernel) hk h0 h1
set_option maxRecDepth 20000 in
theorem kL_law_919 {C : QC} {x : QP} {M : QM} {L : QL} {rest : List CV} {a0 a1 : CV} {v : CV} {M1 : QM} {b : Nat} (hb : q_kd M b = (1, 12)) (hC : C iX12_longest [qr b, a0, a1] M (some v) M1) (hw : (rest.map q_wd).sum ≤ 8) (k : Rr C mL_law (922, L, v :: rest, M1) x) : Rr C mL_law (919, L, a1 :: a0 :: qr b :: rest, M) x := g_cv (ow := 16) (e := (0, 180, 12, [1222, 1223, 1224, 77])) (as := [a0, a1]) (show decode cL_law 919 = .ok (.invokevirtual 106, 3) by decide +kernel) rfl rfl rfl (Or.inl rfl) rfl hb hC hw k
set_option maxRecDepth 20000 in
theorem kL_law_922 {C : QC} {x : QP} {M : QM} {st : List CV} {L : QL} {l0 l1 l2 l3 : Option CV} {r : Option Nat} : Rr C mL_law (922, [l0, l1, some (.inr (.inr r)), l3], st, M) x = Rr C mL_law (923, [l0, l1, some (.inr (.inr r)), l3], .inr (.inr r) :: st, M) x := g_pl (show decode cL_law 922 = .ok (.aload_n 2, 1) by decide +kernel) rfl
set_option maxRecDepth 20000 in
theorem kL_law_923 {C : QC} {x : QP} {M : QM} {st : List CV} {L : QL} {l0 l1 l2 l3 : Option CV} {r : Option Nat} : Rr C mL_law (923, [some (.inr (.inr r)), l1, l2, l3], st, M) x = Rr C mL_law (924, [some (.inr (.inr r)), l1, l2, l3], .inr (.inr r) :: st, M) x := g_pl (show decode cL_law 923 = .ok (.aload_n 0, 1) by decide +kernel) rfl
set_option maxRecDepth 20000 in
theorem kL_law_924 {C : QC} {x : QP} {M : QM} {st : List CV} {L : QL} {l0 l1 l2 l3 : Option CV} {z : Int} : Rr C mL_law (924, [l0, l1, l2, some (qi z)], st, M) x = Rr C mL_law (925, [l0, l1, l2, some (qi z)], qi z :: st, M) x := g_pl (show decode cL_law 924 = .ok (.iload_n 3, 1) by decide +kernel) rfl
set_option maxRecDepth 20000 in
theorem kL_law_925 {C : QC} {x : QP} {M : QM} {st : List CV} {L : QL} : Rr C mL_law (925, L, st, M) x = Rr C mL_law (926, L, qi 1 :: st, M) x := g_pl (show decode cL_law 925 = .ok (.iconst 1, 1) by decide +kernel) rfl
set_option maxRecDepth 20000 in
theorem kL_law_926 {C : QC} {x : QP} {M : QM} {st : List CV} {L : QL} {a b : Int} : Rr C mL_law (926, L, qi b :: qi a :: st, M) x = Rr C mL_law (927, L, qi (a + b) :: st, M) x := g_pl (show decode cL_law 926 = .ok (.iadd, 1) by decide +kernel) rfl
set_option maxRecDepth 20000 in
theorem kL_law_927 {C : QC} {x : QP} {M : QM} {st : List CV} {L : QL} {a : Nat} {j : Int} (hk : (q_kd M a).1 = 7) (h0 : 0 ≤ j) (h1 : j < ((q_kd M a).2 : Int)) : Rr C mL_law (927, L, qi j :: qr a :: st, M) x = Rr C mL_law (928, L, q_fv M a j.toNat :: st, M) x := g_iald7 (show decode cL_law 927 = .ok (.iaload, 1) by decide +kernel) hk h0 h1
set_option maxRecDepth 20000 in
theorem kL_law_928 {C : QC} {x : QP} {M : QM} {st : List CV} {L : QL} {l0 l1 l2 l3 : Option CV} {r : Option Nat} : Rr C mL_law (928, [some (.inr (.inr r)), l1, l2, l3], st, M) x = Rr C mL_law (929, [some (.inr (.inr r)), l1, l2, l3], .inr (.inr r) :: st, M) x := g_pl (show decode cL_law 928 = .ok (.aload_n 0, 1) by decide +kernel) rfl
set_option maxRecDepth 20000 in
theorem kL_law_929 {C : QC} {x : QP} {M : QM} {st : List CV} {L : QL} {l0 l1 l2 l3 : Option CV} {z : Int} : Rr C mL_law (929, [l0, l1, l2, some (qi z)], st, M) x = Rr C mL_law (930, [l0, l1, l2, some (qi z)], qi z :: st, M) x := g_pl (show decode cL_law 929 = .ok (.iload_n 3, 1) by decide +kernel) rfl
set_option maxRecDepth 20000 in
theorem kL_law_930 {C : QC} {x : QP} {M : QM} {st : List CV} {L : QL} : Rr C mL_law (930, L, st, M) x = Rr C mL_law (931, L, qi 2 :: st, M) x := g_pl (show decode cL_law 930 = .ok (.iconst 2, 1) by decide +kernel) rfl
set_option maxRecDepth 20000 in
theorem kL_law_931 {C : QC} {x : QP} {M : QM} {st : List CV} {L : QL} {a b : Int} : Rr C mL_law (931, L, qi b :: qi a :: st, M) x = Rr C mL_law (932, L, qi (a + b) :: st, M) x := g_pl (show decode cL_law 931 = .ok (.iadd, 1) by decide +kernel) rfl
set_option maxRecDepth 20000 in
theorem kL_law_932 {C : QC} {x : QP} {M : QM} {st : List CV} {L : QL} {a : Nat} {j : Int} (hk : (q_kd M a).1 = 7) (h0 : 0 ≤ j) (h1 : j < ((q_kd M a).2 : Int)) : Rr C mL_law (932, L, qi j :: qr a :: st, M) x = Rr C mL_law (933, L, q_fv M a j.toNat :: st, M) x := g_iald7 (show decode cL_law 932 = .ok (.iaload, 1) by decide +kernel) hk h0 h1
set_option maxRecDepth 20000 in
theorem kL_law_933 {C : QC} {x : QP} {M : QM} {L : QL} {rest : List CV} {a0 a1 : CV} {v : CV} {M1 : QM} {b : Nat} (hb : q_kd M b = (1, 13)) (hC : C iX13_longest [qr b, a0, a1] M (some v) M1) (hw : (rest.map q_wd).sum ≤ 8) (k : Rr C mL_law (936, L, v :: rest, M1) x) : Rr C mL_law (933, L, a1 :: a0 :: qr b :: rest, M) x := g_cv (ow := 16) (e := (0, 271, 13, [1646, 1647, 1648, 94])) (as := [a0, a1]) (show decode cL_law 933 = .ok (.invokevirtual 109, 3) by decide +kernel) rfl rfl rfl (Or.inl rfl) rfl hb hC hw k
set_option maxRecDepth 20000 in
theorem kL_law_936 {C : QC} {x : QP} {M : QM} {st : List CV} {L : QL} {a b : Int} (ha1 : -2147483648 ≤ a) (ha2 : a < 2147483648) (hb1 : -2147483648 ≤ b) (hb2 : b < 2147483648) : Rr C mL_law (936, L, qi b :: qi a :: st, M) x = (if a = b then Rr C mL_law (1036, L, st, M) x else Rr C mL_law (939, L, st, M) x) := (g_icmp (show decode cL_law 936 = .ok (.if_icmp .eq 100, 3) by decide +kernel) rfl ha1 ha2 hb1 hb2).trans (g_ite c_eq)
set_option maxRecDepth 20000 in
theorem kL_law_939 {C : QC} {x : QP} {M : QM} {st : List CV} {L : QL} : Rr C mL_law (939, L, st, M) x = Rr C mL_law (940, L, qi 0 :: st, M) x := g_pl (show decode cL_law 939 = .ok (.iconst 0, 1) by decide +kernel) rfl
set_option maxRecDepth 20000 in
theorem kL_law_940 {C : QC} {x : QP} {M : QM} {st : List CV} {L : QL} {z : Int} (hz : z = 0 ∨ z = 1) : Rr C mL_law (940, L, [qi z], M) x = x (some (qi z)) M := g_iret (show decode cL_law 940 = .ok (.ireturn, 1) by decide +kernel) (by rcases hz with rfl | rfl <;> rfl)
set_option maxRecDepth 20000 in
theorem kL_law_941 {C : QC} {x : QP} {M : QM} {st : List CV} {L : QL} {l0 l1 l2 l3 : Option CV} {r : Option Nat} : Rr C mL_law (941, [l0, some (.inr (.inr r)), l2, l3], st, M) x = Rr C mL_law (942, [l0, some (.inr (.inr r)), l2, l3], .inr (.inr r) :: st, M) x := g_pl (show decode cL_law 941 = .ok (.aload_n 1, 1) by decide +kernel) rfl
set_option maxRecDepth 20000 in
theorem kL_law_942 {C : QC} {x : QP} {M : QM} {st : List CV} {L : QL} {l0 l1 l2 l3 : Option CV} {r : Option Nat} : Rr C mL_law (942, [some (.inr (.inr r)), l1, l2, l3], st, M) x = Rr C mL_law (943, [some (.inr (.inr r)), l1, l2, l3], .inr (.inr r) :: st, M) x := g_pl (show decode cL_law 942 = .ok (.aload_n 0, 1) by decide +kernel) rfl
set_option maxRecDepth 20000 in
theorem kL_law_943 {C : QC} {x : QP} {M : QM} {st : List CV} {L : QL} {l0 l1 l2 l3 : Option CV} {z : Int} : Rr C mL_law (943, [l0, l1, l2, some (qi z)], st, M) x = Rr C mL_law (944, [l0, l1, l2, some (qi z)], qi z :: st, M) x := g_pl (show decode cL_law 943 = .ok (.iload_n 3, 1) by decide +kernel) rfl
set_option maxRecDepth 20000 in
theorem kL_law_944 {C : QC} {x : QP} {M : QM} {st : List CV} {L : QL} : Rr C mL_law (944, L, st, M) x = Rr C mL_law (945, L, qi 1 :: st, M) x := g_pl (show decode cL_law 944 = .ok (.iconst 1, 1) by decide +kernel) rfl
set_option maxRecDepth 20000 in
theorem kL_law_945 {C : QC} {x : QP} {M : QM} {st : List CV} {L : QL} {a b : Int} : Rr C mL_law (945, L, qi b :: qi a :: st, M) x = Rr C mL_law (946, L, qi (a + b) :: st, M) x := g_pl (show decode cL_law 945 = .ok (.iadd, 1) by decide +kernel) rfl
set_option maxRecDepth 20000 in
theorem kL_law_946 {C : QC} {x : QP} {M : QM} {st : List CV} {L : QL} {a : Nat} {j : Int} (hk : (q_kd M a).1 = 7) (h0 : 0 ≤ j) (h1 : j < ((q_kd M a).2 : Int)) : Rr C mL_law (946, L, qi j :: qr a :: st, M) x = Rr C mL_law (947, L, q_fv M a j.toNat :: st, M) x := g_iald7 (show decode cL_law 946 = .ok (.iaload, 1) by decide +kernel) hk h0 h1
set_option maxRecDepth 20000 in
theorem kL_law_947 {C : QC} {x : QP} {M : QM} {st : List CV} {L : QL} {l0 l1 l2 l3 : Option CV} {r : Option Nat} : Rr C mL_law (947, [some (.inr (.inr r)), l1, l2, l3], st, M) x = Rr C mL_law (948, [some (.inr (.inr r)), l1, l2, l3], .inr (.inr r) :: st, M) x := g_pl (show decode cL_law 947 = .ok (.aload_n 0, 1) by decide +kernel) rfl
set_option maxRecDepth 20000 in
theorem kL_law_948 {C : QC} {x : QP} {M : QM} {st : List CV} {L : QL} {l0 l1 l2 l3 : Option CV} {z : Int} : Rr C mL_law (948, [l0, l1, l2, some (qi z)], st, M) x = Rr C mL_law (949, [l0, l1, l2, some (qi z)], qi z :: st, M) x := g_pl (show decode cL_law 948 = .ok (.iload_n 3, 1) by decide +kernel) rfl
set_option maxRecDepth 20000 in
theorem kL_law_949 {C : QC} {x : QP} {M : QM} {st : List CV} {L : QL} : Rr C mL_law (949, L, st, M) x = Rr C mL_law (950, L, qi 2 :: st, M) x := g_pl (show decode cL_law 949 = .ok (.iconst 2, 1) by decide +kernel) rfl
set_option maxRecDepth 20000 in
theorem kL_law_950 {C : QC} {x : QP} {M : QM} {st : List CV} {L : QL} {a b : Int} : Rr C mL_law (950, L, qi b :: qi a :: st, M) x = Rr C mL_law (951, L, qi (a + b) :: st, M) x := g_pl (show decode cL_law 950 = .ok (.iadd, 1) by decide +kernel) rfl
set_option maxRecDepth 20000 in
theorem kL_law_951 {C : QC} {x : QP} {M : QM} {st : List CV} {L : QL} {a : Nat} {j : Int} (hk : (q_kd M a).1 = 7) (h0 : 0 ≤ j) (h1 : j < ((q_kd M a).2 : Int)) : Rr C mL_law (951, L, qi j :: qr a :: st, M) x = Rr C mL_law (952, L, q_fv M a j.toNat :: st, M) x := g_iald7 (show decode cL_law 951 = .ok (.iaload, 1) by decide +kernel) hk h0 h1
set_option maxRecDepth 20000 in
theorem kL_law_952 {C : QC} {x : QP} {M : QM} {L : QL} {rest : List CV} {a0 a1 : CV} {v : CV} {M1 : QM} {b : Nat} (hb : q_kd M b = (1, 12)) (hC : C iX12_account [qr b, a0, a1] M (some v) M1) (hw : (rest.map q_wd).sum ≤ 8) (k : Rr C mL_law (955, L, v :: rest, M1) x) : Rr C mL_law (952, L, a1 :: a0 :: qr b :: rest, M) x := g_cv (ow := 16) (e := (0, 185, 12, [1245, 1246, 1247, 77])) (as := [a0, a1]) (show decode cL_law 952 = .ok (.invokevirtual 110, 3) by decide +kernel) rfl rfl rfl (Or.inl rfl) rfl hb hC hw k
set_option maxRecDepth 20000 in
theorem kL_law_955 {C : QC} {x : QP} {M : QM} {st : List CV} {L : QL} {l0 l1 l2 l3 : Option CV} {r : Option Nat} : Rr C mL_law (955, [l0, l1, some (.inr (.inr r)), l3], st, M) x = Rr C mL_law (956, [l0, l1, some (.inr (.inr r)), l3], .inr (.inr r) :: st, M) x := g_pl (show decode cL_law 955 = .ok (.aload_n 2, 1) by decide +kernel) rfl
set_option maxRecDepth 20000 in
theorem kL_law_956 {C : QC} {x : QP} {M : QM} {st : List CV} {L : QL} {l0 l1 l2 l3 : Option CV} {r : Option Nat} : Rr C mL_law (956, [some (.inr (.inr r)), l1, l2, l3], st, M) x = Rr C mL_law (957, [some (.inr (.inr r)), l1, l2, l3], .inr (.inr r) :: st, M) x := g_pl (show decode cL_law 956 = .ok (.aload_n 0, 1) by decide +kernel) rfl
set_option maxRecDepth 20000 in
theorem kL_law_957 {C : QC} {x : QP} {M : QM} {st : List CV} {L : QL} {l0 l1 l2 l3 : Option CV} {z : Int} : Rr C mL_law (957, [l0, l1, l2, some (qi z)], st, M) x = Rr C mL_law (958, [l0, l1, l2, some (qi z)], qi z :: st, M) x := g_pl (show decode cL_law 957 = .ok (.iload_n 3, 1) by decide +kernel) rfl
set_option maxRecDepth 20000 in
theorem kL_law_958 {C : QC} {x : QP} {M : QM} {st : List CV} {L : QL} : Rr C mL_law (958, L, st, M) x = Rr C mL_law (959, L, qi 1 :: st, M) x := g_pl (show decode cL_law 958 = .ok (.iconst 1, 1) by decide +kernel) rfl
set_option maxRecDepth 20000 in
theorem kL_law_959 {C : QC} {x : QP} {M : QM} {st : List CV} {L : QL} {a b : Int} : Rr C mL_law (959, L, qi b :: qi a :: st, M) x = Rr C mL_law (960, L, qi (a + b) :: st, M) x := g_pl (show decode cL_law 959 = .ok (.iadd, 1) by decide +kernel) rfl
set_option maxRecDepth 20000 in
theorem kL_law_960 {C : QC} {x : QP} {M : QM} {st : List CV} {L : QL} {a : Nat} {j : Int} (hk : (q_kd M a).1 = 7) (h0 : 0 ≤ j) (h1 : j < ((q_kd M a).2 : Int)) : Rr C mL_law (960, L, qi j :: qr a :: st, M) x = Rr C mL_law (961, L, q_fv M a j.toNat :: st, M) x := g_iald7 (show decode cL_law 960 = .ok (.iaload, 1) by decide +kernel) hk h0 h1
set_option maxRecDepth 20000 in
theorem kL_law_961 {C : QC} {x : QP} {M : QM} {st : List CV} {L : QL} {l0 l1 l2 l3 : Option CV} {r : Option Nat} : Rr C mL_law (961, [some (.inr (.inr r)), l1, l2, l3], st, M) x = Rr C mL_law (962, [some (.inr (.inr r)), l1, l2, l3], .inr (.inr r) :: st, M) x := g_pl (show decode cL_law 961 = .ok (.aload_n 0, 1) by decide +kernel) rfl
set_option maxRecDepth 20000 in
theorem kL_law_962 {C : QC} {x : QP} {M : QM} {st : List CV} {L : QL} {l0 l1 l2 l3 : Option CV} {z : Int} : Rr C mL_law (962, [l0, l1, l2, some (qi z)], st, M) x = Rr C mL_law (963, [l0, l1, l2, some (qi z)], qi z :: st, M) x := g_pl (show decode cL_law 962 = .ok (.iload_n 3, 1) by decide +kernel) rfl
set_option maxRecDepth 20000 in
theorem kL_law_963 {C : QC} {x : QP} {M : QM} {st : List CV} {L : QL} : Rr C mL_law (963, L, st, M) x = Rr C mL_law (964, L, qi 2 :: st, M) x := g_pl (show decode cL_law 963 = .ok (.iconst 2, 1) by decide +kernel) rfl
set_option maxRecDepth 20000 in
theorem kL_law_964 {C : QC} {x : QP} {M : QM} {st : List CV} {L : QL} {a b : Int} : Rr C mL_law (964, L, qi b :: qi a :: st, M) x = Rr C mL_law (965, L, qi (a + b) :: st, M) x := g_pl (show decode cL_law 964 = .ok (.iadd, 1) by decide +kernel) rfl
set_option maxRecDepth 20000 in
theorem kL_law_965 {C : QC} {x : QP} {M : QM} {st : List CV} {L : QL} {a : Nat} {j : Int} (hk : (q_kd M a).1 = 7) (h0 : 0 ≤ j) (h1 : j < ((q_kd M a).2 : Int)) : Rr C mL_law (965, L, qi j :: qr a :: st, M) x = Rr C mL_law (966, L, q_fv M a j.toNat :: st, M) x := g_iald7 (show decode cL_law 965 = .ok (.iaload, 1) by decide +kernel) hk h0 h1
set_option maxRecDepth 20000 in
theorem kL_law_966 {C : QC} {x : QP} {M : QM} {L : QL} {rest : List CV} {a0 a1 : CV} {v : CV} {M1 : QM} {b : Nat} (hb : q_kd M b = (1, 13)) (hC : C iX13_account [qr b, a0, a1] M (some v) M1) (hw : (rest.map q_wd).sum ≤ 8) (k : Rr C mL_law (969, L, v :: rest, M1) x) : Rr C mL_law (966, L, a1 :: a0 :: qr b :: rest, M) x := g_cv (ow := 16) (e := (0, 272, 13, [1650, 1651, 1652, 94])) (as := [a0, a1]) (show decode cL_law 966 = .ok (.invokevirtual 113, 3) by decide +kernel) rfl rfl rfl (Or.inl rfl) rfl hb hC hw k
set_option maxRecDepth 20000 in
theorem kL_law_969 {C : QC} {x : QP} {M : QM} {st : List CV} {L : QL} {a b : Int} (ha1 : -2147483648 ≤ a) (ha2 : a < 2147483648) (hb1 : -2147483648 ≤ b) (hb2 : b < 2147483648) : Rr C mL_law (969, L, qi b :: qi a :: st, M) x = (if a = b then Rr C mL_law (1036, L, st, M) x else Rr C mL_law (972, L, st, M) x) := (g_icmp (show decode cL_law 969 = .ok (.if_icmp .eq 67, 3) by decide +kernel) rfl ha1 ha2 hb1 hb2).trans (g_ite c_eq)
set_option maxRecDepth 20000 in
theorem kL_law_972 {C : QC} {x : QP} {M : QM} {st : List CV} {L : QL} : Rr C mL_law (972, L, st, M) x = Rr C mL_law (973, L, qi 0 :: st, M) x := g_pl (show decode cL_law 972 = .ok (.iconst 0, 1) by decide +kernel) rfl
set_option maxRecDepth 20000 in
theorem kL_law_973 {C : QC} {x : QP} {M : QM} {st : List CV} {L : QL} {z : Int} (hz : z = 0 ∨ z = 1) : Rr C mL_law (973, L, [qi z], M) x = x (some (qi z)) M := g_iret (show decode cL_law 973 = .ok (.ireturn, 1) by decide +kernel) (by rcases hz with rfl | rfl <;> rfl)
set_option maxRecDepth 20000 in
theorem kL_law_974 {C : QC} {x : QP} {M : QM} {st : List CV} {L : QL} {l0 l1 l2 l3 : Option CV} {r : Option Nat} : Rr C mL_law (974, [l0, some (.inr (.inr r)), l2, l3], st, M) x = Rr C mL_law (975, [l0, some (.inr (.inr r)), l2, l3], .inr (.inr r) :: st, M) x := g_pl (show decode cL_law 974 = .ok (.aload_n 1, 1) by decide +kernel) rfl
set_option maxRecDepth 20000 in
theorem kL_law_975 {C : QC} {x : QP} {M : QM} {L : QL} {rest : List CV} {v : CV} {M1 : QM} {b : Nat} (hb : q_kd M b = (1, 12)) (hC : C iX12_back [qr b] M (some v) M1) (hw : (rest.map q_wd).sum ≤ 8) (k : Rr C mL_law (978, L, v :: rest, M1) x) : Rr C mL_law (975, L, qr b :: rest, M) x := g_cv (ow := 16) (e := (0, 191, 12, [1274, 1275, 1276, 77])) (as := []) (show decode cL_law 975 = .ok (.invokevirtual 114, 3) by decide +kernel) rfl rfl rfl (Or.inl rfl) rfl hb hC hw k
set_option maxRecDepth 20000 in
theorem kL_law_978 {C : QC} {x : QP} {M : QM} {st : List CV} {L : QL} {l0 l1 l2 l3 : Option CV} {r : Option Nat} : Rr C mL_law (978, [l0, l1, some (.inr (.inr r)), l3], st, M) x = Rr C mL_law (979, [l0, l1, some (.inr (.inr r)), l3], .inr (.inr r) :: st, M) x := g_pl (show decode cL_law 978 = .ok (.aload_n 2, 1) by decide +kernel) rfl
set_option maxRecDepth 20000 in
theorem kL_law_979 {C : QC} {x : QP} {M : QM} {L : QL} {rest : List CV} {v : CV} {M1 : QM} {b : Nat} (hb : q_kd M b = (1, 13)) (hC : C iX13_back [qr b] M (some v) M1) (hw : (rest.map q_wd).sum ≤ 8) (k : Rr C mL_law (982, L, v :: rest, M1) x) : Rr C mL_law (979, L, qr b :: rest, M) x := g_cv (ow := 16) (e := (0, 274, 13, [1658, 1659, 1660, 94])) (as := []) (show decode cL_law 979 = .ok (.invokevirtual 117, 3) by decide +kernel) rfl rfl rfl (Or.inl rfl) rfl hb hC hw k
set_option maxRecDepth 20000 in
theorem kL_law_982 {C : QC} {x : QP} {M : QM} {st : List CV} {L : QL} {a b : Int} (ha1 : -2147483648 ≤ a) (ha2 : a < 2147483648) (hb1 : -2147483648 ≤ b) (hb2 : b < 2147483648) : Rr C mL_law (982, L, qi b :: qi a :: st, M) x = (if a = b then Rr C mL_law (1036, L, st, M) x else Rr C mL_law (985, L, st, M) x) := (g_icmp (show decode cL_law 982 = .ok (.if_icmp .eq 54, 3) by decide +kernel) rfl ha1 ha2 hb1 hb2).trans (g_ite c_eq)
set_option maxRecDepth 20000 in
theorem kL_law_985 {C : QC} {x : QP} {M : QM} {st : List CV} {L : QL} : Rr C mL_law (985, L, st, M) x = Rr C mL_law (986, L, qi 0 :: st, M) x := g_pl (show decode cL_law 985 = .ok (.iconst 0, 1) by decide +kernel) rfl
set_option maxRecDepth 20000 in
theorem kL_law_986 {C : QC} {x : QP} {M : QM} {st : List CV} {L : QL} {z : Int} (hz : z = 0 ∨ z = 1) : Rr C mL_law (986, L, [qi z], M) x = x (some (qi z)) M := g_iret (show decode cL_law 986 = .ok (.ireturn, 1) by decide +kernel) (by rcases hz with rfl | rfl <;> rfl)
set_option maxRecDepth 20000 in
theorem kL_law_987 {C : QC} {x : QP} {M : QM} {st : List CV} {L : QL} {l0 l1 l2 l3 : Option CV} {r : Option Nat} : Rr C mL_law (987, [l0, some (.inr (.inr r)), l2, l3], st, M) x = Rr C mL_law (988, [l0, some (.inr (.inr r)), l2, l3], .inr (.inr r) :: st, M) x := g_pl (show decode cL_law 987 = .ok (.aload_n 1, 1) by decide +kernel) rfl
set_option maxRecDepth 20000 in
theorem kL_law_988 {C : QC} {x : QP} {M : QM} {L : QL} {rest : List CV} {v : CV} {M1 : QM} {b : Nat} (hb : q_kd M b = (1, 12)) (hC : C iX12_image [qr b] M (some v) M1) (hw : (rest.map q_wd).sum ≤ 8) (k : Rr C mL_law (991, L, v :: rest, M1) x) : Rr C mL_law (988, L, qr b :: rest, M) x := g_cv (ow := 16) (e := (0, 192, 12, [1278, 1279, 1280, 77])) (as := []) (show decode cL_law 988 = .ok (.invokevirtual 118, 3) by decide +kernel) rfl rfl rfl (Or.inl rfl) rfl hb hC hw k
set_option maxRecDepth 20000 in
theorem kL_law_991 {C : QC} {x : QP} {M : QM} {st : List CV} {L : QL} {l0 l1 l2 l3 : Option CV} {r : Option Nat} : Rr C mL_law (991, [l0, l1, some (.inr (.inr r)), l3], st, M) x = Rr C mL_law (992, [l0, l1, some (.inr (.inr r)), l3], .inr (.inr r) :: st, M) x := g_pl (show decode cL_law 991 = .ok (.aload_n 2, 1) by decide +kernel) rfl
set_option maxRecDepth 20000 in
theorem kL_law_992 {C : QC} {x : QP} {M : QM} {L : QL} {rest : List CV} {v : CV} {M1 : QM} {b : Nat} (hb : q_kd M b = (1, 13)) (hC : C iX13_image [qr b] M (some v) M1) (hw : (rest.map q_wd).sum ≤ 8) (k : Rr C mL_law (995, L, v :: rest, M1) x) : Rr C mL_law (992, L, qr b :: rest, M) x := g_cv (ow := 16) (e := (0, 275, 13, [1662, 1663, 1664, 94])) (as := []) (show decode cL_law 992 = .ok (.invokevirtual 121, 3) by decide +kernel) rfl rfl rfl (Or.inl rfl) rfl hb hC hw k
set_option maxRecDepth 20000 in
theorem kL_law_995 {C : QC} {x : QP} {M : QM} {st : List CV} {L : QL} {a b : Int} (ha1 : -2147483648 ≤ a) (ha2 : a < 2147483648) (hb1 : -2147483648 ≤ b) (hb2 : b < 2147483648) : Rr C mL_law (995, L, qi b :: qi a :: st, M) x = (if a = b then Rr C mL_law (1036, L, st, M) x else Rr C mL_law (998, L, st, M) x) := (g_icmp (show decode cL_law 995 = .ok (.if_icmp .eq 41, 3) by decide +kernel) rfl ha1 ha2 hb1 hb2).trans (g_ite c_eq)
set_option maxRecDepth 20000 in
theorem kL_law_998 {C : QC} {x : QP} {M : QM} {st : List CV} {L : QL} : Rr C mL_law (998, L, st, M) x = Rr C mL_law (999, L, qi 0 :: st, M) x := g_pl (show decode cL_law 998 = .ok (.iconst 0, 1) by decide +kernel) rfl
set_option maxRecDepth 20000 in
theorem kL_law_999 {C : QC} {x : QP} {M : QM} {st : List CV} {L : QL} {z : Int} (hz : z = 0 ∨ z = 1) : Rr C mL_law (999, L, [qi z], M) x = x (some (qi z)) M := g_iret (show decode cL_law 999 = .ok (.ireturn, 1) by decide +kernel) (by rcases hz with rfl | rfl <;> rfl)
set_option maxRecDepth 20000 in
theorem kL_law_1000 {C : QC} {x : QP} {M : QM} {st : List CV} {L : QL} {l0 l1 l2 l3 : Option CV} {r : Option Nat} : Rr C mL_law (1000, [l0, some (.inr (.inr r)), l2, l3], st, M) x = Rr C mL_law (1001, [l0, some (.inr (.inr r)), l2, l3], .inr (.inr r) :: st, M) x := g_pl (show decode cL_law 1000 = .ok (.aload_n 1, 1) by decide +kernel) rfl
set_option maxRecDepth 20000 in
theorem kL_law_1001 {C : QC} {x : QP} {M : QM} {L : QL} {rest : List CV} {v : CV} {M1 : QM} {b : Nat} (hb : q_kd M b = (1, 12)) (hC : C iX12_undo [qr b] M (some v) M1) (hw : (rest.map q_wd).sum ≤ 8) (k : Rr C mL_law (1004, L, v :: rest, M1) x) : Rr C mL_law (1001, L, qr b :: rest, M) x := g_cv (ow := 16) (e := (0, 194, 12, [1286, 1287, 1288, 77])) (as := []) (show decode cL_law 1001 = .ok (.invokevirtual 122, 3) by decide +kernel) rfl rfl rfl (Or.inl rfl) rfl hb hC hw k
set_option maxRecDepth 20000 in
theorem kL_law_1004 {C : QC} {x : QP} {M : QM} {st : List CV} {L : QL} {l0 l1 l2 l3 : Option CV} {r : Option Nat} : Rr C mL_law (1004, [l0, l1, some (.inr (.inr r)), l3], st, M) x = Rr C mL_law (1005, [l0, l1, some (.inr (.inr r)), l3], .inr (.inr r) :: st, M) x := g_pl (show decode cL_law 1004 = .ok (.aload_n 2, 1) by decide +kernel) rfl
set_option maxRecDepth 20000 in
theorem kL_law_1005 {C : QC} {x : QP} {M : QM} {L : QL} {rest : List CV} {v : CV} {M1 : QM} {b : Nat} (hb : q_kd M b = (1, 13)) (hC : C iX13_undo [qr b] M (some v) M1) (hw : (rest.map q_wd).sum ≤ 8) (k : Rr C mL_law (1008, L, v :: rest, M1) x) : Rr C mL_law (1005, L, qr b :: rest, M) x := g_cv (ow := 16) (e := (0, 276, 13, [1666, 1667, 1668, 94])) (as := []) (show decode cL_law 1005 = .ok (.invokevirtual 125, 3) by decide +kernel) rfl rfl rfl (Or.inl rfl) rfl hb hC hw k
set_option maxRecDepth 20000 in
theorem kL_law_1008 {C : QC} {x : QP} {M : QM} {st : List CV} {L : QL} {a b : Int} (ha1 : -2147483648 ≤ a) (ha2 : a < 2147483648) (hb1 : -2147483648 ≤ b) (hb2 : b < 2147483648) : Rr C mL_law (1008, L, qi b :: qi a :: st, M) x = (if a = b then Rr C mL_law (1036, L, st, M) x else Rr C mL_law (1011, L, st, M) x) := (g_icmp (show decode cL_law 1008 = .ok (.if_icmp .eq 28, 3) by decide +kernel) rfl ha1 ha2 hb1 hb2).trans (g_ite c_eq)
set_option maxRecDepth 20000 in
theorem kL_law_1011 {C : QC} {x : QP} {M : QM} {st : List CV} {L : QL} : Rr C mL_law (1011, L, st, M) x = Rr C mL_law (1012, L, qi 0 :: st, M) x := g_pl (show decode cL_law 1011 = .ok (.iconst 0, 1) by decide +kernel) rfl
set_option maxRecDepth 20000 in
theorem kL_law_1012 {C : QC} {x : QP} {M : QM} {st : List CV} {L : QL} {z : Int} (hz : z = 0 ∨ z = 1) : Rr C mL_law (1012, L, [qi z], M) x = x (some (qi z)) M := g_iret (show decode cL_law 1012 = .ok (.ireturn, 1) by decide +kernel) (by rcases hz with rfl | rfl <;> rfl)
set_option maxRecDepth 20000 in
theorem kL_law_1013 {C : QC} {x : QP} {M : QM} {st : List CV} {L : QL} {l0 l1 l2 l3 : Option CV} {r : Option Nat} : Rr C mL_law (1013, [l0, some (.inr (.inr r)), l2, l3], st, M) x = Rr C mL_law (1014, [l0, some (.inr (.inr r)), l2, l3], .inr (.inr r) :: st, M) x := g_pl (show decode cL_law 1013 = .ok (.aload_n 1, 1) by decide +kernel) rfl
set_option maxRecDepth 20000 in
theorem kL_law_1014 {C : QC} {x : QP} {M : QM} {st : List CV} {L : QL} {l0 l1 l2 l3 : Option CV} {r : Option Nat} : Rr C mL_law (1014, [some (.inr (.inr r)), l1, l2, l3], st, M) x = Rr C mL_law (1015, [some (.inr (.inr r)), l1, l2, l3], .inr (.inr r) :: st, M) x := g_pl (show decode cL_law 1014 = .ok (.aload_n 0, 1) by decide +kernel) rfl
set_option maxRecDepth 20000 in
theorem kL_law_1015 {C : QC} {x : QP} {M : QM} {st : List CV} {L : QL} {l0 l1 l2 l3 : Option CV} {z : Int} : Rr C mL_law (1015, [l0, l1, l2, some (qi z)], st, M) x = Rr C mL_law (1016, [l0, l1, l2, some (qi z)], qi z :: st, M) x := g_pl (show decode cL_law 1015 = .ok (.iload_n 3, 1) by decide +kernel) rfl
set_option maxRecDepth 20000 in
theorem kL_law_1016 {C : QC} {x : QP} {M : QM} {st : List CV} {L : QL} : Rr C mL_law (1016, L, st, M) x = Rr C mL_law (1017, L, qi 1 :: st, M) x := g_pl (show decode cL_law 1016 = .ok (.iconst 1, 1) by decide +kernel) rfl
set_option maxRecDepth 20000 in
theorem kL_law_1017 {C : QC} {x : QP} {M : QM} {st : List CV} {L : QL} {a b : Int} : Rr C mL_law (1017, L, qi b :: qi a :: st, M) x = Rr C mL_law (1018, L, qi (a + b) :: st, M) x := g_pl (show decode cL_law 1017 = .ok (.iadd, 1) by decide +kernel) rfl
set_option maxRecDepth 20000 in
theorem kL_law_1018 {C : QC} {x : QP} {M : QM} {st : List CV} {L : QL} {a : Nat} {j : Int} (hk : (q_kd M a).1 = 7) (h0 : 0 ≤ j) (h1 : j < ((q_kd M a).2 : Int)) : Rr C mL_law (1018, L, qi j :: qr a :: st, M) x = Rr C mL_law (1019, L, q_fv M a j.toNat :: st, M) x := g_iald7 (show decode cL_law 1018 = .ok (.iaload, 1) by decide +kernel) hk h0 h1
set_option maxRecDepth 20000 in
theorem kL_law_1019 {C : QC} {x : QP} {M : QM} {L : QL} {rest : List CV} {a0 : CV} {v : CV} {M1 : QM} {b : Nat} (hb : q_kd M b = (1, 12)) (hC : C iX12_count [qr b, a0] M (some v) M1) (hw : (rest.map q_wd).sum ≤ 8) (k : Rr C mL_law (1022, L, v :: rest, M1) x) : Rr C mL_law (1019, L, a0 :: qr b :: rest, M) x := g_cv (ow := 16) (e := (0, 195, 12, [1290, 1291, 1292, 77])) (as := [a0]) (show decode cL_law 1019 = .ok (.invokevirtual 126, 3) by decide +kernel) rfl rfl rfl (Or.inl rfl) rfl hb hC hw k
set_option maxRecDepth 20000 in
theorem kL_law_1022 {C : QC} {x : QP} {M : QM} {st : List CV} {L : QL} {l0 l1 l2 l3 : Option CV} {r : Option Nat} : Rr C mL_law (1022, [l0, l1, some (.inr (.inr r)), l3], st, M) x = Rr C mL_law (1023, [l0, l1, some (.inr (.inr r)), l3], .inr (.inr r) :: st, M) x := g_pl (show decode cL_law 1022 = .ok (.aload_n 2, 1) by decide +kernel) rfl
set_option maxRecDepth 20000 in
theorem kL_law_1023 {C : QC} {x : QP} {M : QM} {st : List CV} {L : QL} {l0 l1 l2 l3 : Option CV} {r : Option Nat} : Rr C mL_law (1023, [some (.inr (.inr r)), l1, l2, l3], st, M) x = Rr C mL_law (1024, [some (.inr (.inr r)), l1, l2, l3], .inr (.inr r) :: st, M) x := g_pl (show decode cL_law 1023 = .ok (.aload_n 0, 1) by decide +kernel) rfl
set_option maxRecDepth 20000 in
theorem kL_law_1024 {C : QC} {x : QP} {M : QM} {st : List CV} {L : QL} {l0 l1 l2 l3 : Option CV} {z : Int} : Rr C mL_law (1024, [l0, l1, l2, some (qi z)], st, M) x = Rr C mL_law (1025, [l0, l1, l2, some (qi z)], qi z :: st, M) x := g_pl (show decode cL_law 1024 = .ok (.iload_n 3, 1) by decide +kernel) rfl
set_option maxRecDepth 20000 in
theorem kL_law_1025 {C : QC} {x : QP} {M : QM} {st : List CV} {L : QL} : Rr C mL_law (1025, L, st, M) x = Rr C mL_law (1026, L, qi 1 :: st, M) x := g_pl (show decode cL_law 1025 = .ok (.iconst 1, 1) by decide +kernel) rfl
set_option maxRecDepth 20000 in
theorem kL_law_1026 {C : QC} {x : QP} {M : QM} {st : List CV} {L : QL} {a b : Int} : Rr C mL_law (1026, L, qi b :: qi a :: st, M) x = Rr C mL_law (1027, L, qi (a + b) :: st, M) x := g_pl (show decode cL_law 1026 = .ok (.iadd, 1) by decide +kernel) rfl
set_option maxRecDepth 20000 in
theorem kL_law_1027 {C : QC} {x : QP} {M : QM} {st : List CV} {L : QL} {a : Nat} {j : Int} (hk : (q_kd M a).1 = 7) (h0 : 0 ≤ j) (h1 : j < ((q_kd M a).2 : Int)) : Rr C mL_law (1027, L, qi j :: qr a :: st, M) x = Rr C mL_law (1028, L, q_fv M a j.toNat :: st, M) x := g_iald7 (show decode cL_law 1027 = .ok (.iaload, 1) by decide +kernel) hk h0 h1
set_option maxRecDepth 20000 in
theorem kL_law_1028 {C : QC} {x : QP} {M : QM} {L : QL} {rest : List CV} {a0 : CV} {v : CV} {M1 : QM} {b : Nat} (hb : q_kd M b = (1, 13)) (hC : C iX13_count [qr b, a0] M (some v) M1) (hw : (rest.map q_wd).sum ≤ 8) (k : Rr C mL_law (1031, L, v :: rest, M1) x) : Rr C mL_law (1028, L, a0 :: qr b :: rest, M) x := g_cv (ow := 16) (e := (0, 277, 13, [1670, 1671, 1672, 94])) (as := [a0]) (show decode cL_law 1028 = .ok (.invokevirtual 129, 3) by decide +kernel) rfl rfl rfl (Or.inl rfl) rfl hb hC hw k
set_option maxRecDepth 20000 in
theorem kL_law_1031 {C : QC} {x : QP} {M : QM} {st : List CV} {L : QL} {a b : Int} (ha1 : -2147483648 ≤ a) (ha2 : a < 2147483648) (hb1 : -2147483648 ≤ b) (hb2 : b < 2147483648) : Rr C mL_law (1031, L, qi b :: qi a :: st, M) x = (if a = b then Rr C mL_law (1036, L, st, M) x else Rr C mL_law (1034, L, st, M) x) := (g_icmp (show decode cL_law 1031 = .ok (.if_icmp .eq 5, 3) by decide +kernel) rfl ha1 ha2 hb1 hb2).trans (g_ite c_eq)
set_option maxRecDepth 20000 in
theorem kL_law_1034 {C : QC} {x : QP} {M : QM} {st : List CV} {L : QL} : Rr C mL_law (1034, L, st, M) x = Rr C mL_law (1035, L, qi 0 :: st, M) x := g_pl (show decode cL_law 1034 = .ok (.iconst 0, 1) by decide +kernel) rfl
set_option maxRecDepth 20000 in
theorem kL_law_1035 {C : QC} {x : QP} {M : QM} {st : List CV} {L : QL} {z : Int} (hz : z = 0 ∨ z = 1) : Rr C mL_law (1035, L, [qi z], M) x = x (some (qi z)) M := g_iret (show decode cL_law 1035 = .ok (.ireturn, 1) by decide +kernel) (by rcases hz with rfl | rfl <;> rfl)
set_option maxRecDepth 20000 in
theorem kL_law_1036 {C : QC} {x : QP} {M : QM} {st : List CV} {L : QL} {l0 l1 l2 l3 : Option CV} {z : Int} : Rr C mL_law (1036, [l0, l1, l2, some (qi z)], st, M) x = Rr C mL_law (1039, [l0, l1, q_cut l2, some (qi (z + 7))], st, M) x := g_pl (show decode cL_law 1036 = .ok (.iinc 3 7, 3) by decide +kernel) rfl
set_option maxRecDepth 20000 in
theorem kL_law_1039 {C : QC} {x : QP} {M : QM} {st : List CV} {L : QL} : Rr C mL_law (1039, L, st, M) x = Rr C mL_law (18, L, st, M) x := g_pl (show decode cL_law 1039 = .ok (.goto (-1021), 3) by decide +kernel) rfl
set_option maxRecDepth 20000 in
theorem kL_law_1042 {C : QC} {x : QP} {M : QM} {st : List CV} {L : QL} : Rr C mL_law (1042, L, st, M) x = Rr C mL_law (1043, L, qi 1 :: st, M) x := g_pl (show decode cL_law 1042 = .ok (.iconst 1, 1) by decide +kernel) rfl
set_option maxRecDepth 20000 in
theorem kL_law_1043 {C : QC} {x : QP} {M : QM} {st : List CV} {L : QL} {z : Int} (hz : z = 0 ∨ z = 1) : Rr C mL_law (1043, L, [qi z], M) x = x (some (qi z)) M := g_iret (show decode cL_law 1043 = .ok (.ireturn, 1) by decide +kernel) (by rcases hz with rfl | rfl <;> rfl)
