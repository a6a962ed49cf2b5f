/-! rules, one for each instruction: written by a program out of the code -/
def mX6_refusal : QI := (6, cX6_refusal, false, some .int)
set_option maxRecDepth 20000 in
theorem kX6_refusal_0 {C : QC} {x : QP} {M : QM} {st : List CV} {L : QL} {l0 l1 l2 : Option CV} {r : Option Nat} : Rr C mX6_refusal (0, [l0, some (.inr (.inr r)), l2], st, M) x = Rr C mX6_refusal (1, [l0, some (.inr (.inr r)), l2], .inr (.inr r) :: st, M) x := g_pl (show decode cX6_refusal 0 = .ok (.aload_n 1, 1) by decide +kernel) rfl
set_option maxRecDepth 20000 in
theorem kX6_refusal_1r {C : QC} {x : QP} {M : QM} {st : List CV} {L : QL} {a : Nat} : Rr C mX6_refusal (1, L, qr a :: st, M) x = Rr C mX6_refusal (6, L, st, M) x := g_pl (show decode cX6_refusal 1 = .ok (.ifnonnull 5, 3) by decide +kernel) rfl
set_option maxRecDepth 20000 in
theorem kX6_refusal_1n {C : QC} {x : QP} {M : QM} {st : List CV} {L : QL} : Rr C mX6_refusal (1, L, qn :: st, M) x = Rr C mX6_refusal (4, L, st, M) x := g_pl (show decode cX6_refusal 1 = .ok (.ifnonnull 5, 3) by decide +kernel) rfl
set_option maxRecDepth 20000 in
theorem kX6_refusal_4 {C : QC} {x : QP} {M : QM} {st : List CV} {L : QL} : Rr C mX6_refusal (4, L, st, M) x = Rr C mX6_refusal (5, L, qi 1 :: st, M) x := g_pl (show decode cX6_refusal 4 = .ok (.iconst 1, 1) by decide +kernel) rfl
set_option maxRecDepth 20000 in
theorem kX6_refusal_5 {C : QC} {x : QP} {M : QM} {st : List CV} {L : QL} {z : Int} : Rr C mX6_refusal (5, L, [qi z], M) x = x (some (qi z)) M := g_iret (show decode cX6_refusal 5 = .ok (.ireturn, 1) by decide +kernel) rfl
set_option maxRecDepth 20000 in
theorem kX6_refusal_6 {C : QC} {x : QP} {M : QM} {st : List CV} {L : QL} {l0 l1 l2 : Option CV} {r : Option Nat} : Rr C mX6_refusal (6, [l0, some (.inr (.inr r)), l2], st, M) x = Rr C mX6_refusal (7, [l0, some (.inr (.inr r)), l2], .inr (.inr r) :: st, M) x := g_pl (show decode cX6_refusal 6 = .ok (.aload_n 1, 1) by decide +kernel) rfl
set_option maxRecDepth 20000 in
theorem kX6_refusal_7 {C : QC} {x : QP} {M : QM} {st : List CV} {L : QL} {a : Nat} (hk : q_kd M a = (1, 3)) : Rr C mX6_refusal (7, L, qr a :: st, M) x = Rr C mX6_refusal (10, L, q_fv M a 0 :: st, M) x := g_getf (ow := 6) (e := (3, 0, RX3, 458, 0)) (show decode cX6_refusal 7 = .ok (.getfield 9, 3) by decide +kernel) rfl hk
set_option maxRecDepth 20000 in
theorem kX6_refusal_10 {C : QC} {x : QP} {M : QM} {st : List CV} {L : QL} {a : Int} (ha1 : -2147483648 ≤ a) (ha2 : a < 2147483648) : Rr C mX6_refusal (10, L, qi a :: st, M) x = (if a = 0 then Rr C mX6_refusal (48, L, st, M) x else if a = 1 then Rr C mX6_refusal (69, L, st, M) x else if a = 2 then Rr C mX6_refusal (89, L, st, M) x else if a = 3 then Rr C mX6_refusal (95, L, st, M) x else if a = 4 then Rr C mX6_refusal (115, L, st, M) x else if a = 5 then Rr C mX6_refusal (121, L, st, M) x else Rr C mX6_refusal (153, L, st, M) x) := by
  by_cases h0 : a = 0
  · subst h0; rw [if_pos rfl]; exact g_tsI (show decode cX6_refusal 10 = .ok (.tableswitch 143 0 5 #[38, 59, 79, 85, 105, 111], 38) by decide +kernel) (by decide) (by decide) rfl rfl
  rw [if_neg h0]
  by_cases h1 : a = 1
  · subst h1; rw [if_pos rfl]; exact g_tsI (show decode cX6_refusal 10 = .ok (.tableswitch 143 0 5 #[38, 59, 79, 85, 105, 111], 38) by decide +kernel) (by decide) (by decide) rfl rfl
  rw [if_neg h1]
  by_cases h2 : a = 2
  · subst h2; rw [if_pos rfl]; exact g_tsI (show decode cX6_refusal 10 = .ok (.tableswitch 143 0 5 #[38, 59, 79, 85, 105, 111], 38) by decide +kernel) (by decide) (by decide) rfl rfl
  rw [if_neg h2]
  by_cases h3 : a = 3
  · subst h3; rw [if_pos rfl]; exact g_tsI (show decode cX6_refusal 10 = .ok (.tableswitch 143 0 5 #[38, 59, 79, 85, 105, 111], 38) by decide +kernel) (by decide) (by decide) rfl rfl
  rw [if_neg h3]
  by_cases h4 : a = 4
  · subst h4; rw [if_pos rfl]; exact g_tsI (show decode cX6_refusal 10 = .ok (.tableswitch 143 0 5 #[38, 59, 79, 85, 105, 111], 38) by decide +kernel) (by decide) (by decide) rfl rfl
  rw [if_neg h4]
  by_cases h5 : a = 5
  · subst h5; rw [if_pos rfl]; exact g_tsI (show decode cX6_refusal 10 = .ok (.tableswitch 143 0 5 #[38, 59, 79, 85, 105, 111], 38) by decide +kernel) (by decide) (by decide) rfl rfl
  rw [if_neg h5]
  exact g_tsO (show decode cX6_refusal 10 = .ok (.tableswitch 143 0 5 #[38, 59, 79, 85, 105, 111], 38) by decide +kernel) ⟨ha1, ha2⟩ (by omega) rfl
set_option maxRecDepth 20000 in
theorem kX6_refusal_48 {C : QC} {x : QP} {M : QM} {st : List CV} {L : QL} {l0 l1 l2 : Option CV} {r : Option Nat} : Rr C mX6_refusal (48, [l0, some (.inr (.inr r)), l2], st, M) x = Rr C mX6_refusal (49, [l0, some (.inr (.inr r)), l2], .inr (.inr r) :: st, M) x := g_pl (show decode cX6_refusal 48 = .ok (.aload_n 1, 1) by decide +kernel) rfl
set_option maxRecDepth 20000 in
theorem kX6_refusal_49 {C : QC} {x : QP} {M : QM} {st : List CV} {L : QL} {a : Nat} (hk : q_kd M a = (1, 3)) : Rr C mX6_refusal (49, L, qr a :: st, M) x = Rr C mX6_refusal (52, L, q_fv M a 1 :: st, M) x := g_getf (ow := 6) (e := (3, 1, RX3, 461, 0)) (show decode cX6_refusal 49 = .ok (.getfield 15, 3) by decide +kernel) rfl hk
set_option maxRecDepth 20000 in
theorem kX6_refusal_52 {C : QC} {x : QP} {M : QM} {st : List CV} {L : QL} {a : Int} (ha1 : -2147483648 ≤ a) (ha2 : a < 2147483648) : Rr C mX6_refusal (52, L, qi a :: st, M) x = (if a = 0 then Rr C mX6_refusal (55, L, st, M) x else Rr C mX6_refusal (63, L, st, M) x) := (g_if (show decode cX6_refusal 52 = .ok (.ifCond .ne 11, 3) by decide +kernel) rfl ha1 ha2).trans (g_itn c_ne)
set_option maxRecDepth 20000 in
theorem kX6_refusal_55 {C : QC} {x : QP} {M : QM} {st : List CV} {L : QL} {l0 l1 l2 : Option CV} {r : Option Nat} : Rr C mX6_refusal (55, [some (.inr (.inr r)), l1, l2], st, M) x = Rr C mX6_refusal (56, [some (.inr (.inr r)), l1, l2], .inr (.inr r) :: st, M) x := g_pl (show decode cX6_refusal 55 = .ok (.aload_n 0, 1) by decide +kernel) rfl
set_option maxRecDepth 20000 in
theorem kX6_refusal_56 {C : QC} {x : QP} {M : QM} {st : List CV} {L : QL} {l0 l1 l2 : Option CV} {r : Option Nat} : Rr C mX6_refusal (56, [l0, some (.inr (.inr r)), l2], st, M) x = Rr C mX6_refusal (57, [l0, some (.inr (.inr r)), l2], .inr (.inr r) :: st, M) x := g_pl (show decode cX6_refusal 56 = .ok (.aload_n 1, 1) by decide +kernel) rfl
set_option maxRecDepth 20000 in
theorem kX6_refusal_57 {C : QC} {x : QP} {M : QM} {L : QL} {rest : List CV} {a0 a1 : CV} {v : CV} {M1 : QM} (hC : C iX6_refusalOfRealm [a0, a1] M (some v) M1) (hw : (rest.map q_wd).sum ≤ 8) (k : Rr C mX6_refusal (60, L, v :: rest, M1) x) : Rr C mX6_refusal (57, L, a1 :: a0 :: rest, M) x := g_cs (ow := 6) (e := (1, 26, 0, [490, 491, 97])) (as := [a0, a1]) (show decode cX6_refusal 57 = .ok (.invokestatic 18, 3) by decide +kernel) rfl rfl rfl rfl (Or.inl rfl) rfl hC hw k
set_option maxRecDepth 20000 in
theorem kX6_refusal_60 {C : QC} {x : QP} {M : QM} {st : List CV} {L : QL} : Rr C mX6_refusal (60, L, st, M) x = Rr C mX6_refusal (68, L, st, M) x := g_pl (show decode cX6_refusal 60 = .ok (.goto 8, 3) by decide +kernel) rfl
set_option maxRecDepth 20000 in
theorem kX6_refusal_63 {C : QC} {x : QP} {M : QM} {st : List CV} {L : QL} {l0 l1 l2 : Option CV} {r : Option Nat} : Rr C mX6_refusal (63, [some (.inr (.inr r)), l1, l2], st, M) x = Rr C mX6_refusal (64, [some (.inr (.inr r)), l1, l2], .inr (.inr r) :: st, M) x := g_pl (show decode cX6_refusal 63 = .ok (.aload_n 0, 1) by decide +kernel) rfl
set_option maxRecDepth 20000 in
theorem kX6_refusal_64 {C : QC} {x : QP} {M : QM} {st : List CV} {L : QL} {l0 l1 l2 : Option CV} {r : Option Nat} : Rr C mX6_refusal (64, [l0, some (.inr (.inr r)), l2], st, M) x = Rr C mX6_refusal (65, [l0, some (.inr (.inr r)), l2], .inr (.inr r) :: st, M) x := g_pl (show decode cX6_refusal 64 = .ok (.aload_n 1, 1) by decide +kernel) rfl
set_option maxRecDepth 20000 in
theorem kX6_refusal_65 {C : QC} {x : QP} {M : QM} {L : QL} {rest : List CV} {a0 a1 : CV} {v : CV} {M1 : QM} (hC : C iX6_refusalOfChild [a0, a1] M (some v) M1) (hw : (rest.map q_wd).sum ≤ 8) (k : Rr C mX6_refusal (68, L, v :: rest, M1) x) : Rr C mX6_refusal (65, L, a1 :: a0 :: rest, M) x := g_cs (ow := 6) (e := (1, 29, 0, [500, 501, 97])) (as := [a0, a1]) (show decode cX6_refusal 65 = .ok (.invokestatic 22, 3) by decide +kernel) rfl rfl rfl rfl (Or.inl rfl) rfl hC hw k
set_option maxRecDepth 20000 in
theorem kX6_refusal_68 {C : QC} {x : QP} {M : QM} {st : List CV} {L : QL} {z : Int} : Rr C mX6_refusal (68, L, [qi z], M) x = x (some (qi z)) M := g_iret (show decode cX6_refusal 68 = .ok (.ireturn, 1) by decide +kernel) rfl
set_option maxRecDepth 20000 in
theorem kX6_refusal_69 {C : QC} {x : QP} {M : QM} {st : List CV} {L : QL} {l0 l1 l2 : Option CV} {r : Option Nat} : Rr C mX6_refusal (69, [l0, some (.inr (.inr r)), l2], st, M) x = Rr C mX6_refusal (70, [l0, some (.inr (.inr r)), l2], .inr (.inr r) :: st, M) x := g_pl (show decode cX6_refusal 69 = .ok (.aload_n 1, 1) by decide +kernel) rfl
set_option maxRecDepth 20000 in
theorem kX6_refusal_70 {C : QC} {x : QP} {M : QM} {st : List CV} {L : QL} {a : Nat} (hk : q_kd M a = (1, 3)) : Rr C mX6_refusal (70, L, qr a :: st, M) x = Rr C mX6_refusal (73, L, q_fv M a 4 :: st, M) x := g_getf (ow := 6) (e := (3, 4, RX3, 470, 0)) (show decode cX6_refusal 70 = .ok (.getfield 25, 3) by decide +kernel) rfl hk
set_option maxRecDepth 20000 in
theorem kX6_refusal_73 {C : QC} {x : QP} {M : QM} {st : List CV} {L : QL} : Rr C mX6_refusal (73, L, st, M) x = Rr C mX6_refusal (74, L, ql 0 :: st, M) x := g_pl (show decode cX6_refusal 73 = .ok (.lconst 0, 1) by decide +kernel) rfl
set_option maxRecDepth 20000 in
theorem kX6_refusal_74 {C : QC} {x : QP} {M : QM} {st : List CV} {L : QL} {a b : Int} : Rr C mX6_refusal (74, L, ql b :: ql a :: st, M) x = Rr C mX6_refusal (75, L, qi (q_lcmp a b) :: st, M) x := g_pl (show decode cX6_refusal 74 = .ok (.lcmp, 1) by decide +kernel) rfl
set_option maxRecDepth 20000 in
theorem kX6_refusal_75 {C : QC} {x : QP} {M : QM} {st : List CV} {L : QL} {a : Int} (ha1 : -2147483648 ≤ a) (ha2 : a < 2147483648) : Rr C mX6_refusal (75, L, qi a :: st, M) x = (if a = 0 then Rr C mX6_refusal (78, L, st, M) x else Rr C mX6_refusal (83, L, st, M) x) := (g_if (show decode cX6_refusal 75 = .ok (.ifCond .ne 8, 3) by decide +kernel) rfl ha1 ha2).trans (g_itn c_ne)
set_option maxRecDepth 20000 in
theorem kX6_refusal_78 {C : QC} {x : QP} {M : QM} {st : List CV} {L : QL} : Rr C mX6_refusal (78, L, st, M) x = Rr C mX6_refusal (80, L, qi 9 :: st, M) x := g_pl (show decode cX6_refusal 78 = .ok (.bipush 9, 2) by decide +kernel) rfl
set_option maxRecDepth 20000 in
theorem kX6_refusal_80 {C : QC} {x : QP} {M : QM} {st : List CV} {L : QL} : Rr C mX6_refusal (80, L, st, M) x = Rr C mX6_refusal (88, L, st, M) x := g_pl (show decode cX6_refusal 80 = .ok (.goto 8, 3) by decide +kernel) rfl
set_option maxRecDepth 20000 in
theorem kX6_refusal_83 {C : QC} {x : QP} {M : QM} {st : List CV} {L : QL} {l0 l1 l2 : Option CV} {r : Option Nat} : Rr C mX6_refusal (83, [some (.inr (.inr r)), l1, l2], st, M) x = Rr C mX6_refusal (84, [some (.inr (.inr r)), l1, l2], .inr (.inr r) :: st, M) x := g_pl (show decode cX6_refusal 83 = .ok (.aload_n 0, 1) by decide +kernel) rfl
set_option maxRecDepth 20000 in
theorem kX6_refusal_84 {C : QC} {x : QP} {M : QM} {st : List CV} {L : QL} {l0 l1 l2 : Option CV} {r : Option Nat} : Rr C mX6_refusal (84, [l0, some (.inr (.inr r)), l2], st, M) x = Rr C mX6_refusal (85, [l0, some (.inr (.inr r)), l2], .inr (.inr r) :: st, M) x := g_pl (show decode cX6_refusal 84 = .ok (.aload_n 1, 1) by decide +kernel) rfl
set_option maxRecDepth 20000 in
theorem kX6_refusal_85 {C : QC} {x : QP} {M : QM} {L : QL} {rest : List CV} {a0 a1 : CV} {v : CV} {M1 : QM} (hC : C iX6_refusalOfEvent [a0, a1] M (some v) M1) (hw : (rest.map q_wd).sum ≤ 8) (k : Rr C mX6_refusal (88, L, v :: rest, M1) x) : Rr C mX6_refusal (85, L, a1 :: a0 :: rest, M) x := g_cs (ow := 6) (e := (1, 33, 0, [515, 516, 97])) (as := [a0, a1]) (show decode cX6_refusal 85 = .ok (.invokestatic 29, 3) by decide +kernel) rfl rfl rfl rfl (Or.inl rfl) rfl hC hw k
set_option maxRecDepth 20000 in
theorem kX6_refusal_88 {C : QC} {x : QP} {M : QM} {st : List CV} {L : QL} {z : Int} : Rr C mX6_refusal (88, L, [qi z], M) x = x (some (qi z)) M := g_iret (show decode cX6_refusal 88 = .ok (.ireturn, 1) by decide +kernel) rfl
set_option maxRecDepth 20000 in
theorem kX6_refusal_89 {C : QC} {x : QP} {M : QM} {st : List CV} {L : QL} {l0 l1 l2 : Option CV} {r : Option Nat} : Rr C mX6_refusal (89, [some (.inr (.inr r)), l1, l2], st, M) x = Rr C mX6_refusal (90, [some (.inr (.inr r)), l1, l2], .inr (.inr r) :: st, M) x := g_pl (show decode cX6_refusal 89 = .ok (.aload_n 0, 1) by decide +kernel) rfl
set_option maxRecDepth 20000 in
theorem kX6_refusal_90 {C : QC} {x : QP} {M : QM} {st : List CV} {L : QL} {l0 l1 l2 : Option CV} {r : Option Nat} : Rr C mX6_refusal (90, [l0, some (.inr (.inr r)), l2], st, M) x = Rr C mX6_refusal (91, [l0, some (.inr (.inr r)), l2], .inr (.inr r) :: st, M) x := g_pl (show decode cX6_refusal 90 = .ok (.aload_n 1, 1) by decide +kernel) rfl
set_option maxRecDepth 20000 in
theorem kX6_refusal_91 {C : QC} {x : QP} {M : QM} {L : QL} {rest : List CV} {a0 a1 : CV} {v : CV} {M1 : QM} (hC : C iX6_refusalOfMove [a0, a1] M (some v) M1) (hw : (rest.map q_wd).sum ≤ 8) (k : Rr C mX6_refusal (94, L, v :: rest, M1) x) : Rr C mX6_refusal (91, L, a1 :: a0 :: rest, M) x := g_cs (ow := 6) (e := (1, 34, 0, [519, 520, 97])) (as := [a0, a1]) (show decode cX6_refusal 91 = .ok (.invokestatic 32, 3) by decide +kernel) rfl rfl rfl rfl (Or.inl rfl) rfl hC hw k
set_option maxRecDepth 20000 in
theorem kX6_refusal_94 {C : QC} {x : QP} {M : QM} {st : List CV} {L : QL} {z : Int} : Rr C mX6_refusal (94, L, [qi z], M) x = x (some (qi z)) M := g_iret (show decode cX6_refusal 94 = .ok (.ireturn, 1) by decide +kernel) rfl
set_option maxRecDepth 20000 in
theorem kX6_refusal_95 {C : QC} {x : QP} {M : QM} {st : List CV} {L : QL} {l0 l1 l2 : Option CV} {r : Option Nat} : Rr C mX6_refusal (95, [l0, some (.inr (.inr r)), l2], st, M) x = Rr C mX6_refusal (96, [l0, some (.inr (.inr r)), l2], .inr (.inr r) :: st, M) x := g_pl (show decode cX6_refusal 95 = .ok (.aload_n 1, 1) by decide +kernel) rfl
set_option maxRecDepth 20000 in
theorem kX6_refusal_96 {C : QC} {x : QP} {M : QM} {st : List CV} {L : QL} {a : Nat} (hk : q_kd M a = (1, 3)) : Rr C mX6_refusal (96, L, qr a :: st, M) x = Rr C mX6_refusal (99, L, q_fv M a 4 :: st, M) x := g_getf (ow := 6) (e := (3, 4, RX3, 470, 0)) (show decode cX6_refusal 96 = .ok (.getfield 25, 3) by decide +kernel) rfl hk
set_option maxRecDepth 20000 in
theorem kX6_refusal_99 {C : QC} {x : QP} {M : QM} {st : List CV} {L : QL} : Rr C mX6_refusal (99, L, st, M) x = Rr C mX6_refusal (100, L, ql 0 :: st, M) x := g_pl (show decode cX6_refusal 99 = .ok (.lconst 0, 1) by decide +kernel) rfl
set_option maxRecDepth 20000 in
theorem kX6_refusal_100 {C : QC} {x : QP} {M : QM} {st : List CV} {L : QL} {a b : Int} : Rr C mX6_refusal (100, L, ql b :: ql a :: st, M) x = Rr C mX6_refusal (101, L, qi (q_lcmp a b) :: st, M) x := g_pl (show decode cX6_refusal 100 = .ok (.lcmp, 1) by decide +kernel) rfl
set_option maxRecDepth 20000 in
theorem kX6_refusal_101 {C : QC} {x : QP} {M : QM} {st : List CV} {L : QL} {a : Int} (ha1 : -2147483648 ≤ a) (ha2 : a < 2147483648) : Rr C mX6_refusal (101, L, qi a :: st, M) x = (if a = 0 then Rr C mX6_refusal (104, L, st, M) x else Rr C mX6_refusal (109, L, st, M) x) := (g_if (show decode cX6_refusal 101 = .ok (.ifCond .ne 8, 3) by decide +kernel) rfl ha1 ha2).trans (g_itn c_ne)
set_option maxRecDepth 20000 in
theorem kX6_refusal_104 {C : QC} {x : QP} {M : QM} {st : List CV} {L : QL} : Rr C mX6_refusal (104, L, st, M) x = Rr C mX6_refusal (106, L, qi 9 :: st, M) x := g_pl (show decode cX6_refusal 104 = .ok (.bipush 9, 2) by decide +kernel) rfl
set_option maxRecDepth 20000 in
theorem kX6_refusal_106 {C : QC} {x : QP} {M : QM} {st : List CV} {L : QL} : Rr C mX6_refusal (106, L, st, M) x = Rr C mX6_refusal (114, L, st, M) x := g_pl (show decode cX6_refusal 106 = .ok (.goto 8, 3) by decide +kernel) rfl
set_option maxRecDepth 20000 in
theorem kX6_refusal_109 {C : QC} {x : QP} {M : QM} {st : List CV} {L : QL} {l0 l1 l2 : Option CV} {r : Option Nat} : Rr C mX6_refusal (109, [some (.inr (.inr r)), l1, l2], st, M) x = Rr C mX6_refusal (110, [some (.inr (.inr r)), l1, l2], .inr (.inr r) :: st, M) x := g_pl (show decode cX6_refusal 109 = .ok (.aload_n 0, 1) by decide +kernel) rfl
set_option maxRecDepth 20000 in
theorem kX6_refusal_110 {C : QC} {x : QP} {M : QM} {st : List CV} {L : QL} {l0 l1 l2 : Option CV} {r : Option Nat} : Rr C mX6_refusal (110, [l0, some (.inr (.inr r)), l2], st, M) x = Rr C mX6_refusal (111, [l0, some (.inr (.inr r)), l2], .inr (.inr r) :: st, M) x := g_pl (show decode cX6_refusal 110 = .ok (.aload_n 1, 1) by decide +kernel) rfl
set_option maxRecDepth 20000 in
theorem kX6_refusal_111 {C : QC} {x : QP} {M : QM} {L : QL} {rest : List CV} {a0 a1 : CV} {v : CV} {M1 : QM} (hC : C iX6_refusalOfSplit [a0, a1] M (some v) M1) (hw : (rest.map q_wd).sum ≤ 8) (k : Rr C mX6_refusal (114, L, v :: rest, M1) x) : Rr C mX6_refusal (111, L, a1 :: a0 :: rest, M) x := g_cs (ow := 6) (e := (1, 35, 0, [522, 523, 97])) (as := [a0, a1]) (show decode cX6_refusal 111 = .ok (.invokestatic 35, 3) by decide +kernel) rfl rfl rfl rfl (Or.inl rfl) rfl hC hw k
set_option maxRecDepth 20000 in
theorem kX6_refusal_114 {C : QC} {x : QP} {M : QM} {st : List CV} {L : QL} {z : Int} : Rr C mX6_refusal (114, L, [qi z], M) x = x (some (qi z)) M := g_iret (show decode cX6_refusal 114 = .ok (.ireturn, 1) by decide +kernel) rfl
set_option maxRecDepth 20000 in
theorem kX6_refusal_115 {C : QC} {x : QP} {M : QM} {st : List CV} {L : QL} {l0 l1 l2 : Option CV} {r : Option Nat} : Rr C mX6_refusal (115, [some (.inr (.inr r)), l1, l2], st, M) x = Rr C mX6_refusal (116, [some (.inr (.inr r)), l1, l2], .inr (.inr r) :: st, M) x := g_pl (show decode cX6_refusal 115 = .ok (.aload_n 0, 1) by decide +kernel) rfl
set_option maxRecDepth 20000 in
theorem kX6_refusal_116 {C : QC} {x : QP} {M : QM} {st : List CV} {L : QL} {l0 l1 l2 : Option CV} {r : Option Nat} : Rr C mX6_refusal (116, [l0, some (.inr (.inr r)), l2], st, M) x = Rr C mX6_refusal (117, [l0, some (.inr (.inr r)), l2], .inr (.inr r) :: st, M) x := g_pl (show decode cX6_refusal 116 = .ok (.aload_n 1, 1) by decide +kernel) rfl
set_option maxRecDepth 20000 in
theorem kX6_refusal_117 {C : QC} {x : QP} {M : QM} {L : QL} {rest : List CV} {a0 a1 : CV} {v : CV} {M1 : QM} (hC : C iX6_refusalOfMerge [a0, a1] M (some v) M1) (hw : (rest.map q_wd).sum ≤ 8) (k : Rr C mX6_refusal (120, L, v :: rest, M1) x) : Rr C mX6_refusal (117, L, a1 :: a0 :: rest, M) x := g_cs (ow := 6) (e := (1, 37, 0, [529, 530, 97])) (as := [a0, a1]) (show decode cX6_refusal 117 = .ok (.invokestatic 38, 3) by decide +kernel) rfl rfl rfl rfl (Or.inl rfl) rfl hC hw k
set_option maxRecDepth 20000 in
theorem kX6_refusal_120 {C : QC} {x : QP} {M : QM} {st : List CV} {L : QL} {z : Int} : Rr C mX6_refusal (120, L, [qi z], M) x = x (some (qi z)) M := g_iret (show decode cX6_refusal 120 = .ok (.ireturn, 1) by decide +kernel) rfl
set_option maxRecDepth 20000 in
theorem kX6_refusal_121 {C : QC} {x : QP} {M : QM} {st : List CV} {L : QL} {l0 l1 l2 : Option CV} {r : Option Nat} : Rr C mX6_refusal (121, [some (.inr (.inr r)), l1, l2], st, M) x = Rr C mX6_refusal (122, [some (.inr (.inr r)), l1, l2], .inr (.inr r) :: st, M) x := g_pl (show decode cX6_refusal 121 = .ok (.aload_n 0, 1) by decide +kernel) rfl
set_option maxRecDepth 20000 in
theorem kX6_refusal_122 {C : QC} {x : QP} {M : QM} {st : List CV} {L : QL} {l0 l1 l2 : Option CV} {r : Option Nat} : Rr C mX6_refusal (122, [l0, some (.inr (.inr r)), l2], st, M) x = Rr C mX6_refusal (123, [l0, some (.inr (.inr r)), l2], .inr (.inr r) :: st, M) x := g_pl (show decode cX6_refusal 122 = .ok (.aload_n 1, 1) by decide +kernel) rfl
set_option maxRecDepth 20000 in
theorem kX6_refusal_123 {C : QC} {x : QP} {M : QM} {L : QL} {rest : List CV} {a0 a1 : CV} {v : CV} {M1 : QM} (hC : C iX6_refusalOfEvent [a0, a1] M (some v) M1) (hw : (rest.map q_wd).sum ≤ 8) (k : Rr C mX6_refusal (126, L, v :: rest, M1) x) : Rr C mX6_refusal (123, L, a1 :: a0 :: rest, M) x := g_cs (ow := 6) (e := (1, 33, 0, [515, 516, 97])) (as := [a0, a1]) (show decode cX6_refusal 123 = .ok (.invokestatic 29, 3) by decide +kernel) rfl rfl rfl rfl (Or.inl rfl) rfl hC hw k
set_option maxRecDepth 20000 in
theorem kX6_refusal_126 {C : QC} {x : QP} {M : QM} {st : List CV} {L : QL} {l0 l1 l2 : Option CV} {z : Int} : Rr C mX6_refusal (126, [l0, l1, l2], qi z :: st, M) x = Rr C mX6_refusal (127, [l0, q_cut l1, some (qi z)], st, M) x := g_pl (show decode cX6_refusal 126 = .ok (.istore_n 2, 1) by decide +kernel) rfl
set_option maxRecDepth 20000 in
theorem kX6_refusal_127 {C : QC} {x : QP} {M : QM} {st : List CV} {L : QL} {l0 l1 l2 : Option CV} {z : Int} : Rr C mX6_refusal (127, [l0, l1, some (qi z)], st, M) x = Rr C mX6_refusal (128, [l0, l1, some (qi z)], qi z :: st, M) x := g_pl (show decode cX6_refusal 127 = .ok (.iload_n 2, 1) by decide +kernel) rfl
set_option maxRecDepth 20000 in
theorem kX6_refusal_128 {C : QC} {x : QP} {M : QM} {st : List CV} {L : QL} {a : Int} (ha1 : -2147483648 ≤ a) (ha2 : a < 2147483648) : Rr C mX6_refusal (128, L, qi a :: st, M) x = (if a = 0 then Rr C mX6_refusal (131, L, st, M) x else Rr C mX6_refusal (151, L, st, M) x) := (g_if (show decode cX6_refusal 128 = .ok (.ifCond .ne 23, 3) by decide +kernel) rfl ha1 ha2).trans (g_itn c_ne)
set_option maxRecDepth 20000 in
theorem kX6_refusal_131 {C : QC} {x : QP} {M : QM} {st : List CV} {L : QL} {l0 l1 l2 : Option CV} {r : Option Nat} : Rr C mX6_refusal (131, [some (.inr (.inr r)), l1, l2], st, M) x = Rr C mX6_refusal (132, [some (.inr (.inr r)), l1, l2], .inr (.inr r) :: st, M) x := g_pl (show decode cX6_refusal 131 = .ok (.aload_n 0, 1) by decide +kernel) rfl
set_option maxRecDepth 20000 in
theorem kX6_refusal_132 {C : QC} {x : QP} {M : QM} {st : List CV} {L : QL} {l0 l1 l2 : Option CV} {r : Option Nat} : Rr C mX6_refusal (132, [l0, some (.inr (.inr r)), l2], st, M) x = Rr C mX6_refusal (133, [l0, some (.inr (.inr r)), l2], .inr (.inr r) :: st, M) x := g_pl (show decode cX6_refusal 132 = .ok (.aload_n 1, 1) by decide +kernel) rfl
set_option maxRecDepth 20000 in
theorem kX6_refusal_133 {C : QC} {x : QP} {M : QM} {st : List CV} {L : QL} {a : Nat} (hk : q_kd M a = (1, 3)) : Rr C mX6_refusal (133, L, qr a :: st, M) x = Rr C mX6_refusal (136, L, q_fv M a 1 :: st, M) x := g_getf (ow := 6) (e := (3, 1, RX3, 461, 0)) (show decode cX6_refusal 133 = .ok (.getfield 15, 3) by decide +kernel) rfl hk
set_option maxRecDepth 20000 in
theorem kX6_refusal_136 {C : QC} {x : QP} {M : QM} {st : List CV} {L : QL} {l0 l1 l2 : Option CV} {r : Option Nat} : Rr C mX6_refusal (136, [l0, some (.inr (.inr r)), l2], st, M) x = Rr C mX6_refusal (137, [l0, some (.inr (.inr r)), l2], .inr (.inr r) :: st, M) x := g_pl (show decode cX6_refusal 136 = .ok (.aload_n 1, 1) by decide +kernel) rfl
set_option maxRecDepth 20000 in
theorem kX6_refusal_137 {C : QC} {x : QP} {M : QM} {st : List CV} {L : QL} {a : Nat} (hk : q_kd M a = (1, 3)) : Rr C mX6_refusal (137, L, qr a :: st, M) x = Rr C mX6_refusal (140, L, q_fv M a 3 :: st, M) x := g_getf (ow := 6) (e := (3, 3, RX3, 467, 0)) (show decode cX6_refusal 137 = .ok (.getfield 41, 3) by decide +kernel) rfl hk
set_option maxRecDepth 20000 in
theorem kX6_refusal_140 {C : QC} {x : QP} {M : QM} {L : QL} {rest : List CV} {a0 a1 : CV} {v : CV} {M1 : QM} {b : Nat} (hb : q_kd M b = (1, 11)) (hC : C iX11_isParentFrom [qr b, a0, a1] M (some v) M1) (hw : (rest.map q_wd).sum ≤ 8) (k : Rr C mX6_refusal (143, L, v :: rest, M1) x) : Rr C mX6_refusal (140, L, a1 :: a0 :: qr b :: rest, M) x := g_cv (ow := 6) (e := (0, 38, 11, [532, 533, 534, 83])) (as := [a0, a1]) (show decode cX6_refusal 140 = .ok (.invokevirtual 44, 3) by decide +kernel) rfl rfl rfl (Or.inl rfl) rfl hb hC hw k
set_option maxRecDepth 20000 in
theorem kX6_refusal_143 {C : QC} {x : QP} {M : QM} {st : List CV} {L : QL} {a : Int} (ha1 : -2147483648 ≤ a) (ha2 : a < 2147483648) : Rr C mX6_refusal (143, L, qi a :: st, M) x = (if a = 0 then Rr C mX6_refusal (151, L, st, M) x else Rr C mX6_refusal (146, L, st, M) x) := (g_if (show decode cX6_refusal 143 = .ok (.ifCond .eq 8, 3) by decide +kernel) rfl ha1 ha2).trans (g_ite c_eq)
set_option maxRecDepth 20000 in
theorem kX6_refusal_146 {C : QC} {x : QP} {M : QM} {st : List CV} {L : QL} : Rr C mX6_refusal (146, L, st, M) x = Rr C mX6_refusal (148, L, qi 7 :: st, M) x := g_pl (show decode cX6_refusal 146 = .ok (.bipush 7, 2) by decide +kernel) rfl
set_option maxRecDepth 20000 in
theorem kX6_refusal_148 {C : QC} {x : QP} {M : QM} {st : List CV} {L : QL} : Rr C mX6_refusal (148, L, st, M) x = Rr C mX6_refusal (152, L, st, M) x := g_pl (show decode cX6_refusal 148 = .ok (.goto 4, 3) by decide +kernel) rfl
set_option maxRecDepth 20000 in
theorem kX6_refusal_151 {C : QC} {x : QP} {M : QM} {st : List CV} {L : QL} {l0 l1 l2 : Option CV} {z : Int} : Rr C mX6_refusal (151, [l0, l1, some (qi z)], st, M) x = Rr C mX6_refusal (152, [l0, l1, some (qi z)], qi z :: st, M) x := g_pl (show decode cX6_refusal 151 = .ok (.iload_n 2, 1) by decide +kernel) rfl
set_option maxRecDepth 20000 in
theorem kX6_refusal_152 {C : QC} {x : QP} {M : QM} {st : List CV} {L : QL} {z : Int} : Rr C mX6_refusal (152, L, [qi z], M) x = x (some (qi z)) M := g_iret (show decode cX6_refusal 152 = .ok (.ireturn, 1) by decide +kernel) rfl
set_option maxRecDepth 20000 in
theorem kX6_refusal_153 {C : QC} {x : QP} {M : QM} {st : List CV} {L : QL} : Rr C mX6_refusal (153, L, st, M) x = Rr C mX6_refusal (154, L, qi 0 :: st, M) x := g_pl (show decode cX6_refusal 153 = .ok (.iconst 0, 1) by decide +kernel) rfl
set_option maxRecDepth 20000 in
theorem kX6_refusal_154 {C : QC} {x : QP} {M : QM} {st : List CV} {L : QL} {z : Int} : Rr C mX6_refusal (154, L, [qi z], M) x = x (some (qi z)) M := g_iret (show decode cX6_refusal 154 = .ok (.ireturn, 1) by decide +kernel) rfl
set_option maxRecDepth 20000 in
theorem eX6_refusal {d : Nat} {M : QM} {x : QP} {v0 : Option Nat} {v1 : Option Nat} : q_T (d + 1) iX6_refusal [.inr (.inr v0), .inr (.inr v1)] M x = Rr (q_C d) mX6_refusal (0, [some (.inr (.inr v0)), some (.inr (.inr v1)), none], [], M) x := g_entryT (e := _) rfl (Nat.le_of_ble_eq_true rfl) rfl rfl
def mX6_refusalOfRealm : QI := (6, cX6_refusalOfRealm, false, some .int)
set_option maxRecDepth 20000 in
theorem kX6_refusalOfRealm_0 {C : QC} {x : QP} {M : QM} {st : List CV} {L : QL} {l0 l1 : Option CV} {r : Option Nat} : Rr C mX6_refusalOfRealm (0, [l0, some (.inr (.inr r))], st, M) x = Rr C mX6_refusalOfRealm (1, [l0, some (.inr (.inr r))], .inr (.inr r) :: st, M) x := g_pl (show decode cX6_refusalOfRealm 0 = .ok (.aload_n 1, 1) by decide +kernel) rfl
set_option maxRecDepth 20000 in
theorem kX6_refusalOfRealm_1 {C : QC} {x : QP} {M : QM} {st : List CV} {L : QL} {a : Nat} (hk : q_kd M a = (1, 3)) : Rr C mX6_refusalOfRealm (1, L, qr a :: st, M) x = Rr C mX6_refusalOfRealm (4, L, q_fv M a 4 :: st, M) x := g_getf (ow := 6) (e := (3, 4, RX3, 470, 0)) (show decode cX6_refusalOfRealm 1 = .ok (.getfield 25, 3) by decide +kernel) rfl hk
set_option maxRecDepth 20000 in
theorem kX6_refusalOfRealm_4 {C : QC} {x : QP} {M : QM} {st : List CV} {L : QL} : Rr C mX6_refusalOfRealm (4, L, st, M) x = Rr C mX6_refusalOfRealm (5, L, ql 0 :: st, M) x := g_pl (show decode cX6_refusalOfRealm 4 = .ok (.lconst 0, 1) by decide +kernel) rfl
set_option maxRecDepth 20000 in
theorem kX6_refusalOfRealm_5 {C : QC} {x : QP} {M : QM} {st : List CV} {L : QL} {a b : Int} : Rr C mX6_refusalOfRealm (5, L, ql b :: ql a :: st, M) x = Rr C mX6_refusalOfRealm (6, L, qi (q_lcmp a b) :: st, M) x := g_pl (show decode cX6_refusalOfRealm 5 = .ok (.lcmp, 1) by decide +kernel) rfl
set_option maxRecDepth 20000 in
theorem kX6_refusalOfRealm_6 {C : QC} {x : QP} {M : QM} {st : List CV} {L : QL} {a : Int} (ha1 : -2147483648 ≤ a) (ha2 : a < 2147483648) : Rr C mX6_refusalOfRealm (6, L, qi a :: st, M) x = (if a = 0 then Rr C mX6_refusalOfRealm (9, L, st, M) x else Rr C mX6_refusalOfRealm (12, L, st, M) x) := (g_if (show decode cX6_refusalOfRealm 6 = .ok (.ifCond .ne 6, 3) by decide +kernel) rfl ha1 ha2).trans (g_itn c_ne)
set_option maxRecDepth 20000 in
theorem kX6_refusalOfRealm_9 {C : QC} {x : QP} {M : QM} {st : List CV} {L : QL} : Rr C mX6_refusalOfRealm (9, L, st, M) x = Rr C mX6_refusalOfRealm (11, L, qi 9 :: st, M) x := g_pl (show decode cX6_refusalOfRealm 9 = .ok (.bipush 9, 2) by decide +kernel) rfl
set_option maxRecDepth 20000 in
theorem kX6_refusalOfRealm_11 {C : QC} {x : QP} {M : QM} {st : List CV} {L : QL} {z : Int} : Rr C mX6_refusalOfRealm (11, L, [qi z], M) x = x (some (qi z)) M := g_iret (show decode cX6_refusalOfRealm 11 = .ok (.ireturn, 1) by decide +kernel) rfl
set_option maxRecDepth 20000 in
theorem kX6_refusalOfRealm_12 {C : QC} {x : QP} {M : QM} {st : List CV} {L : QL} {l0 l1 : Option CV} {r : Option Nat} : Rr C mX6_refusalOfRealm (12, [l0, some (.inr (.inr r))], st, M) x = Rr C mX6_refusalOfRealm (13, [l0, some (.inr (.inr r))], .inr (.inr r) :: st, M) x := g_pl (show decode cX6_refusalOfRealm 12 = .ok (.aload_n 1, 1) by decide +kernel) rfl
set_option maxRecDepth 20000 in
theorem kX6_refusalOfRealm_13 {C : QC} {x : QP} {M : QM} {st : List CV} {L : QL} {a : Nat} (hk : q_kd M a = (1, 3)) : Rr C mX6_refusalOfRealm (13, L, qr a :: st, M) x = Rr C mX6_refusalOfRealm (16, L, q_fv M a 3 :: st, M) x := g_getf (ow := 6) (e := (3, 3, RX3, 467, 0)) (show decode cX6_refusalOfRealm 13 = .ok (.getfield 41, 3) by decide +kernel) rfl hk
set_option maxRecDepth 20000 in
theorem kX6_refusalOfRealm_16 {C : QC} {x : QP} {M : QM} {L : QL} {rest : List CV} {a0 : CV} {v : CV} {M1 : QM} (hC : C iX12_isDay [a0] M (some v) M1) (hw : (rest.map q_wd).sum ≤ 8) (k : Rr C mX6_refusalOfRealm (19, L, v :: rest, M1) x) : Rr C mX6_refusalOfRealm (16, L, a0 :: rest, M) x := g_cs (ow := 6) (e := (2, 27, 0, [9, 494, 77])) (as := [a0]) (show decode cX6_refusalOfRealm 16 = .ok (.invokestatic 50, 3) by decide +kernel) rfl rfl rfl rfl (Or.inr rfl) rfl hC hw k
set_option maxRecDepth 20000 in
theorem kX6_refusalOfRealm_19 {C : QC} {x : QP} {M : QM} {st : List CV} {L : QL} {a : Int} (ha1 : -2147483648 ≤ a) (ha2 : a < 2147483648) : Rr C mX6_refusalOfRealm (19, L, qi a :: st, M) x = (if a = 0 then Rr C mX6_refusalOfRealm (22, L, st, M) x else Rr C mX6_refusalOfRealm (24, L, st, M) x) := (g_if (show decode cX6_refusalOfRealm 19 = .ok (.ifCond .ne 5, 3) by decide +kernel) rfl ha1 ha2).trans (g_itn c_ne)
set_option maxRecDepth 20000 in
theorem kX6_refusalOfRealm_22 {C : QC} {x : QP} {M : QM} {st : List CV} {L : QL} : Rr C mX6_refusalOfRealm (22, L, st, M) x = Rr C mX6_refusalOfRealm (23, L, qi 2 :: st, M) x := g_pl (show decode cX6_refusalOfRealm 22 = .ok (.iconst 2, 1) by decide +kernel) rfl
set_option maxRecDepth 20000 in
theorem kX6_refusalOfRealm_23 {C : QC} {x : QP} {M : QM} {st : List CV} {L : QL} {z : Int} : Rr C mX6_refusalOfRealm (23, L, [qi z], M) x = x (some (qi z)) M := g_iret (show decode cX6_refusalOfRealm 23 = .ok (.ireturn, 1) by decide +kernel) rfl
set_option maxRecDepth 20000 in
theorem kX6_refusalOfRealm_24 {C : QC} {x : QP} {M : QM} {st : List CV} {L : QL} {l0 l1 : Option CV} {r : Option Nat} : Rr C mX6_refusalOfRealm (24, [some (.inr (.inr r)), l1], st, M) x = Rr C mX6_refusalOfRealm (25, [some (.inr (.inr r)), l1], .inr (.inr r) :: st, M) x := g_pl (show decode cX6_refusalOfRealm 24 = .ok (.aload_n 0, 1) by decide +kernel) rfl
set_option maxRecDepth 20000 in
theorem kX6_refusalOfRealm_25 {C : QC} {x : QP} {M : QM} {L : QL} {rest : List CV} {v : CV} {M1 : QM} {b : Nat} (hb : q_kd M b = (1, 11)) (hC : C iX11_isFull [qr b] M (some v) M1) (hw : (rest.map q_wd).sum ≤ 8) (k : Rr C mX6_refusalOfRealm (28, L, v :: rest, M1) x) : Rr C mX6_refusalOfRealm (25, L, qr b :: rest, M) x := g_cv (ow := 6) (e := (0, 28, 11, [496, 497, 498, 83])) (as := []) (show decode cX6_refusalOfRealm 25 = .ok (.invokevirtual 56, 3) by decide +kernel) rfl rfl rfl (Or.inl rfl) rfl hb hC hw k
set_option maxRecDepth 20000 in
theorem kX6_refusalOfRealm_28 {C : QC} {x : QP} {M : QM} {st : List CV} {L : QL} {a : Int} (ha1 : -2147483648 ≤ a) (ha2 : a < 2147483648) : Rr C mX6_refusalOfRealm (28, L, qi a :: st, M) x = (if a = 0 then Rr C mX6_refusalOfRealm (36, L, st, M) x else Rr C mX6_refusalOfRealm (31, L, st, M) x) := (g_if (show decode cX6_refusalOfRealm 28 = .ok (.ifCond .eq 8, 3) by decide +kernel) rfl ha1 ha2).trans (g_ite c_eq)
set_option maxRecDepth 20000 in
theorem kX6_refusalOfRealm_31 {C : QC} {x : QP} {M : QM} {st : List CV} {L : QL} : Rr C mX6_refusalOfRealm (31, L, st, M) x = Rr C mX6_refusalOfRealm (33, L, qi 6 :: st, M) x := g_pl (show decode cX6_refusalOfRealm 31 = .ok (.bipush 6, 2) by decide +kernel) rfl
set_option maxRecDepth 20000 in
theorem kX6_refusalOfRealm_33 {C : QC} {x : QP} {M : QM} {st : List CV} {L : QL} : Rr C mX6_refusalOfRealm (33, L, st, M) x = Rr C mX6_refusalOfRealm (37, L, st, M) x := g_pl (show decode cX6_refusalOfRealm 33 = .ok (.goto 4, 3) by decide +kernel) rfl
set_option maxRecDepth 20000 in
theorem kX6_refusalOfRealm_36 {C : QC} {x : QP} {M : QM} {st : List CV} {L : QL} : Rr C mX6_refusalOfRealm (36, L, st, M) x = Rr C mX6_refusalOfRealm (37, L, qi 0 :: st, M) x := g_pl (show decode cX6_refusalOfRealm 36 = .ok (.iconst 0, 1) by decide +kernel) rfl
set_option maxRecDepth 20000 in
theorem kX6_refusalOfRealm_37 {C : QC} {x : QP} {M : QM} {st : List CV} {L : QL} {z : Int} : Rr C mX6_refusalOfRealm (37, L, [qi z], M) x = x (some (qi z)) M := g_iret (show decode cX6_refusalOfRealm 37 = .ok (.ireturn, 1) by decide +kernel) rfl
set_option maxRecDepth 20000 in
theorem eX6_refusalOfRealm {d : Nat} {M : QM} {x : QP} {v0 : Option Nat} {v1 : Option Nat} : q_T (d + 1) iX6_refusalOfRealm [.inr (.inr v0), .inr (.inr v1)] M x = Rr (q_C d) mX6_refusalOfRealm (0, [some (.inr (.inr v0)), some (.inr (.inr v1))], [], M) x := g_entryT (e := _) rfl (Nat.le_of_ble_eq_true rfl) rfl rfl
def mX6_refusalOfChild : QI := (6, cX6_refusalOfChild, false, some .int)
set_option maxRecDepth 20000 in
theorem kX6_refusalOfChild_0 {C : QC} {x : QP} {M : QM} {st : List CV} {L : QL} {l0 l1 l2 : Option CV} {r : Option Nat} : Rr C mX6_refusalOfChild (0, [l0, some (.inr (.inr r)), l2], st, M) x = Rr C mX6_refusalOfChild (1, [l0, some (.inr (.inr r)), l2], .inr (.inr r) :: st, M) x := g_pl (show decode cX6_refusalOfChild 0 = .ok (.aload_n 1, 1) by decide +kernel) rfl
set_option maxRecDepth 20000 in
theorem kX6_refusalOfChild_1 {C : QC} {x : QP} {M : QM} {st : List CV} {L : QL} {a : Nat} (hk : q_kd M a = (1, 3)) : Rr C mX6_refusalOfChild (1, L, qr a :: st, M) x = Rr C mX6_refusalOfChild (4, L, q_fv M a 4 :: st, M) x := g_getf (ow := 6) (e := (3, 4, RX3, 470, 0)) (show decode cX6_refusalOfChild 1 = .ok (.getfield 25, 3) by decide +kernel) rfl hk
set_option maxRecDepth 20000 in
theorem kX6_refusalOfChild_4 {C : QC} {x : QP} {M : QM} {st : List CV} {L : QL} : Rr C mX6_refusalOfChild (4, L, st, M) x = Rr C mX6_refusalOfChild (5, L, ql 0 :: st, M) x := g_pl (show decode cX6_refusalOfChild 4 = .ok (.lconst 0, 1) by decide +kernel) rfl
set_option maxRecDepth 20000 in
theorem kX6_refusalOfChild_5 {C : QC} {x : QP} {M : QM} {st : List CV} {L : QL} {a b : Int} : Rr C mX6_refusalOfChild (5, L, ql b :: ql a :: st, M) x = Rr C mX6_refusalOfChild (6, L, qi (q_lcmp a b) :: st, M) x := g_pl (show decode cX6_refusalOfChild 5 = .ok (.lcmp, 1) by decide +kernel) rfl
set_option maxRecDepth 20000 in
theorem kX6_refusalOfChild_6 {C : QC} {x : QP} {M : QM} {st : List CV} {L : QL} {a : Int} (ha1 : -2147483648 ≤ a) (ha2 : a < 2147483648) : Rr C mX6_refusalOfChild (6, L, qi a :: st, M) x = (if a = 0 then Rr C mX6_refusalOfChild (9, L, st, M) x else Rr C mX6_refusalOfChild (12, L, st, M) x) := (g_if (show decode cX6_refusalOfChild 6 = .ok (.ifCond .ne 6, 3) by decide +kernel) rfl ha1 ha2).trans (g_itn c_ne)
set_option maxRecDepth 20000 in
theorem kX6_refusalOfChild_9 {C : QC} {x : QP} {M : QM} {st : List CV} {L : QL} : Rr C mX6_refusalOfChild (9, L, st, M) x = Rr C mX6_refusalOfChild (11, L, qi 9 :: st, M) x := g_pl (show decode cX6_refusalOfChild 9 = .ok (.bipush 9, 2) by decide +kernel) rfl
set_option maxRecDepth 20000 in
theorem kX6_refusalOfChild_11 {C : QC} {x : QP} {M : QM} {st : List CV} {L : QL} {z : Int} : Rr C mX6_refusalOfChild (11, L, [qi z], M) x = x (some (qi z)) M := g_iret (show decode cX6_refusalOfChild 11 = .ok (.ireturn, 1) by decide +kernel) rfl
set_option maxRecDepth 20000 in
theorem kX6_refusalOfChild_12 {C : QC} {x : QP} {M : QM} {st : List CV} {L : QL} {l0 l1 l2 : Option CV} {r : Option Nat} : Rr C mX6_refusalOfChild (12, [some (.inr (.inr r)), l1, l2], st, M) x = Rr C mX6_refusalOfChild (13, [some (.inr (.inr r)), l1, l2], .inr (.inr r) :: st, M) x := g_pl (show decode cX6_refusalOfChild 12 = .ok (.aload_n 0, 1) by decide +kernel) rfl
set_option maxRecDepth 20000 in
theorem kX6_refusalOfChild_13 {C : QC} {x : QP} {M : QM} {st : List CV} {L : QL} {l0 l1 l2 : Option CV} {r : Option Nat} : Rr C mX6_refusalOfChild (13, [l0, some (.inr (.inr r)), l2], st, M) x = Rr C mX6_refusalOfChild (14, [l0, some (.inr (.inr r)), l2], .inr (.inr r) :: st, M) x := g_pl (show decode cX6_refusalOfChild 13 = .ok (.aload_n 1, 1) by decide +kernel) rfl
set_option maxRecDepth 20000 in
theorem kX6_refusalOfChild_14 {C : QC} {x : QP} {M : QM} {st : List CV} {L : QL} {a : Nat} (hk : q_kd M a = (1, 3)) : Rr C mX6_refusalOfChild (14, L, qr a :: st, M) x = Rr C mX6_refusalOfChild (17, L, q_fv M a 2 :: st, M) x := g_getf (ow := 6) (e := (3, 2, RX3, 464, 0)) (show decode cX6_refusalOfChild 14 = .ok (.getfield 60, 3) by decide +kernel) rfl hk
set_option maxRecDepth 20000 in
theorem kX6_refusalOfChild_17 {C : QC} {x : QP} {M : QM} {L : QL} {rest : List CV} {a0 : CV} {v : CV} {M1 : QM} {b : Nat} (hb : q_kd M b = (1, 11)) (hC : C iX11_place [qr b, a0] M (some v) M1) (hw : (rest.map q_wd).sum ≤ 8) (k : Rr C mX6_refusalOfChild (20, L, v :: rest, M1) x) : Rr C mX6_refusalOfChild (17, L, a0 :: qr b :: rest, M) x := g_cv (ow := 6) (e := (0, 30, 11, [503, 504, 505, 83])) (as := [a0]) (show decode cX6_refusalOfChild 17 = .ok (.invokevirtual 63, 3) by decide +kernel) rfl rfl rfl (Or.inl rfl) rfl hb hC hw k
set_option maxRecDepth 20000 in
theorem kX6_refusalOfChild_20 {C : QC} {x : QP} {M : QM} {st : List CV} {L : QL} {l0 l1 l2 : Option CV} {z : Option Nat} : Rr C mX6_refusalOfChild (20, [l0, l1, l2], .inr (.inr z) :: st, M) x = Rr C mX6_refusalOfChild (21, [l0, q_cut l1, some (.inr (.inr z))], st, M) x := g_pl (show decode cX6_refusalOfChild 20 = .ok (.astore_n 2, 1) by decide +kernel) rfl
set_option maxRecDepth 20000 in
theorem kX6_refusalOfChild_21 {C : QC} {x : QP} {M : QM} {st : List CV} {L : QL} {l0 l1 l2 : Option CV} {r : Option Nat} : Rr C mX6_refusalOfChild (21, [l0, l1, some (.inr (.inr r))], st, M) x = Rr C mX6_refusalOfChild (22, [l0, l1, some (.inr (.inr r))], .inr (.inr r) :: st, M) x := g_pl (show decode cX6_refusalOfChild 21 = .ok (.aload_n 2, 1) by decide +kernel) rfl
set_option maxRecDepth 20000 in
theorem kX6_refusalOfChild_22r {C : QC} {x : QP} {M : QM} {st : List CV} {L : QL} {a : Nat} : Rr C mX6_refusalOfChild (22, L, qr a :: st, M) x = Rr C mX6_refusalOfChild (27, L, st, M) x := g_pl (show decode cX6_refusalOfChild 22 = .ok (.ifnonnull 5, 3) by decide +kernel) rfl
set_option maxRecDepth 20000 in
theorem kX6_refusalOfChild_22n {C : QC} {x : QP} {M : QM} {st : List CV} {L : QL} : Rr C mX6_refusalOfChild (22, L, qn :: st, M) x = Rr C mX6_refusalOfChild (25, L, st, M) x := g_pl (show decode cX6_refusalOfChild 22 = .ok (.ifnonnull 5, 3) by decide +kernel) rfl
set_option maxRecDepth 20000 in
theorem kX6_refusalOfChild_25 {C : QC} {x : QP} {M : QM} {st : List CV} {L : QL} : Rr C mX6_refusalOfChild (25, L, st, M) x = Rr C mX6_refusalOfChild (26, L, qi 1 :: st, M) x := g_pl (show decode cX6_refusalOfChild 25 = .ok (.iconst 1, 1) by decide +kernel) rfl
set_option maxRecDepth 20000 in
theorem kX6_refusalOfChild_26 {C : QC} {x : QP} {M : QM} {st : List CV} {L : QL} {z : Int} : Rr C mX6_refusalOfChild (26, L, [qi z], M) x = x (some (qi z)) M := g_iret (show decode cX6_refusalOfChild 26 = .ok (.ireturn, 1) by decide +kernel) rfl
set_option maxRecDepth 20000 in
theorem kX6_refusalOfChild_27 {C : QC} {x : QP} {M : QM} {st : List CV} {L : QL} {l0 l1 l2 : Option CV} {r : Option Nat} : Rr C mX6_refusalOfChild (27, [l0, some (.inr (.inr r)), l2], st, M) x = Rr C mX6_refusalOfChild (28, [l0, some (.inr (.inr r)), l2], .inr (.inr r) :: st, M) x := g_pl (show decode cX6_refusalOfChild 27 = .ok (.aload_n 1, 1) by decide +kernel) rfl
set_option maxRecDepth 20000 in
theorem kX6_refusalOfChild_28 {C : QC} {x : QP} {M : QM} {st : List CV} {L : QL} {a : Nat} (hk : q_kd M a = (1, 3)) : Rr C mX6_refusalOfChild (28, L, qr a :: st, M) x = Rr C mX6_refusalOfChild (31, L, q_fv M a 3 :: st, M) x := g_getf (ow := 6) (e := (3, 3, RX3, 467, 0)) (show decode cX6_refusalOfChild 28 = .ok (.getfield 41, 3) by decide +kernel) rfl hk
set_option maxRecDepth 20000 in
theorem kX6_refusalOfChild_31 {C : QC} {x : QP} {M : QM} {L : QL} {rest : List CV} {a0 : CV} {v : CV} {M1 : QM} (hC : C iX12_isDay [a0] M (some v) M1) (hw : (rest.map q_wd).sum ≤ 8) (k : Rr C mX6_refusalOfChild (34, L, v :: rest, M1) x) : Rr C mX6_refusalOfChild (31, L, a0 :: rest, M) x := g_cs (ow := 6) (e := (2, 27, 0, [9, 494, 77])) (as := [a0]) (show decode cX6_refusalOfChild 31 = .ok (.invokestatic 50, 3) by decide +kernel) rfl rfl rfl rfl (Or.inr rfl) rfl hC hw k
set_option maxRecDepth 20000 in
theorem kX6_refusalOfChild_34 {C : QC} {x : QP} {M : QM} {st : List CV} {L : QL} {a : Int} (ha1 : -2147483648 ≤ a) (ha2 : a < 2147483648) : Rr C mX6_refusalOfChild (34, L, qi a :: st, M) x = (if a = 0 then Rr C mX6_refusalOfChild (37, L, st, M) x else Rr C mX6_refusalOfChild (39, L, st, M) x) := (g_if (show decode cX6_refusalOfChild 34 = .ok (.ifCond .ne 5, 3) by decide +kernel) rfl ha1 ha2).trans (g_itn c_ne)
set_option maxRecDepth 20000 in
theorem kX6_refusalOfChild_37 {C : QC} {x : QP} {M : QM} {st : List CV} {L : QL} : Rr C mX6_refusalOfChild (37, L, st, M) x = Rr C mX6_refusalOfChild (38, L, qi 2 :: st, M) x := g_pl (show decode cX6_refusalOfChild 37 = .ok (.iconst 2, 1) by decide +kernel) rfl
set_option maxRecDepth 20000 in
theorem kX6_refusalOfChild_38 {C : QC} {x : QP} {M : QM} {st : List CV} {L : QL} {z : Int} : Rr C mX6_refusalOfChild (38, L, [qi z], M) x = x (some (qi z)) M := g_iret (show decode cX6_refusalOfChild 38 = .ok (.ireturn, 1) by decide +kernel) rfl
set_option maxRecDepth 20000 in
theorem kX6_refusalOfChild_39 {C : QC} {x : QP} {M : QM} {st : List CV} {L : QL} {l0 l1 l2 : Option CV} {r : Option Nat} : Rr C mX6_refusalOfChild (39, [l0, l1, some (.inr (.inr r))], st, M) x = Rr C mX6_refusalOfChild (40, [l0, l1, some (.inr (.inr r))], .inr (.inr r) :: st, M) x := g_pl (show decode cX6_refusalOfChild 39 = .ok (.aload_n 2, 1) by decide +kernel) rfl
set_option maxRecDepth 20000 in
theorem kX6_refusalOfChild_40 {C : QC} {x : QP} {M : QM} {st : List CV} {L : QL} {a : Nat} (hk : q_kd M a = (1, 4)) : Rr C mX6_refusalOfChild (40, L, qr a :: st, M) x = Rr C mX6_refusalOfChild (43, L, q_fv M a 0 :: st, M) x := g_getf (ow := 6) (e := (4, 0, RX4, 268, 0)) (show decode cX6_refusalOfChild 40 = .ok (.getfield 67, 3) by decide +kernel) rfl hk
set_option maxRecDepth 20000 in
theorem kX6_refusalOfChild_43 {C : QC} {x : QP} {M : QM} {st : List CV} {L : QL} {l0 l1 l2 : Option CV} {r : Option Nat} : Rr C mX6_refusalOfChild (43, [l0, some (.inr (.inr r)), l2], st, M) x = Rr C mX6_refusalOfChild (44, [l0, some (.inr (.inr r)), l2], .inr (.inr r) :: st, M) x := g_pl (show decode cX6_refusalOfChild 43 = .ok (.aload_n 1, 1) by decide +kernel) rfl
set_option maxRecDepth 20000 in
theorem kX6_refusalOfChild_44 {C : QC} {x : QP} {M : QM} {st : List CV} {L : QL} {a : Nat} (hk : q_kd M a = (1, 3)) : Rr C mX6_refusalOfChild (44, L, qr a :: st, M) x = Rr C mX6_refusalOfChild (47, L, q_fv M a 1 :: st, M) x := g_getf (ow := 6) (e := (3, 1, RX3, 461, 0)) (show decode cX6_refusalOfChild 44 = .ok (.getfield 15, 3) by decide +kernel) rfl hk
set_option maxRecDepth 20000 in
theorem kX6_refusalOfChild_47 {C : QC} {x : QP} {M : QM} {st : List CV} {L : QL} {a b : Int} (ha1 : -2147483648 ≤ a) (ha2 : a < 2147483648) (hb1 : -2147483648 ≤ b) (hb2 : b < 2147483648) : Rr C mX6_refusalOfChild (47, L, qi b :: qi a :: st, M) x = (if a < b then Rr C mX6_refusalOfChild (52, L, st, M) x else Rr C mX6_refusalOfChild (50, L, st, M) x) := (g_icmp (show decode cX6_refusalOfChild 47 = .ok (.if_icmp .lt 5, 3) by decide +kernel) rfl ha1 ha2 hb1 hb2).trans (g_ite c_lt)
set_option maxRecDepth 20000 in
theorem kX6_refusalOfChild_50 {C : QC} {x : QP} {M : QM} {st : List CV} {L : QL} : Rr C mX6_refusalOfChild (50, L, st, M) x = Rr C mX6_refusalOfChild (51, L, qi 4 :: st, M) x := g_pl (show decode cX6_refusalOfChild 50 = .ok (.iconst 4, 1) by decide +kernel) rfl
set_option maxRecDepth 20000 in
theorem kX6_refusalOfChild_51 {C : QC} {x : QP} {M : QM} {st : List CV} {L : QL} {z : Int} : Rr C mX6_refusalOfChild (51, L, [qi z], M) x = x (some (qi z)) M := g_iret (show decode cX6_refusalOfChild 51 = .ok (.ireturn, 1) by decide +kernel) rfl
set_option maxRecDepth 20000 in
theorem kX6_refusalOfChild_52 {C : QC} {x : QP} {M : QM} {st : List CV} {L : QL} {l0 l1 l2 : Option CV} {r : Option Nat} : Rr C mX6_refusalOfChild (52, [l0, l1, some (.inr (.inr r))], st, M) x = Rr C mX6_refusalOfChild (53, [l0, l1, some (.inr (.inr r))], .inr (.inr r) :: st, M) x := g_pl (show decode cX6_refusalOfChild 52 = .ok (.aload_n 2, 1) by decide +kernel) rfl
set_option maxRecDepth 20000 in
theorem kX6_refusalOfChild_53 {C : QC} {x : QP} {M : QM} {st : List CV} {L : QL} {l0 l1 l2 : Option CV} {r : Option Nat} : Rr C mX6_refusalOfChild (53, [l0, some (.inr (.inr r)), l2], st, M) x = Rr C mX6_refusalOfChild (54, [l0, some (.inr (.inr r)), l2], .inr (.inr r) :: st, M) x := g_pl (show decode cX6_refusalOfChild 53 = .ok (.aload_n 1, 1) by decide +kernel) rfl
set_option maxRecDepth 20000 in
theorem kX6_refusalOfChild_54 {C : QC} {x : QP} {M : QM} {st : List CV} {L : QL} {a : Nat} (hk : q_kd M a = (1, 3)) : Rr C mX6_refusalOfChild (54, L, qr a :: st, M) x = Rr C mX6_refusalOfChild (57, L, q_fv M a 3 :: st, M) x := g_getf (ow := 6) (e := (3, 3, RX3, 467, 0)) (show decode cX6_refusalOfChild 54 = .ok (.getfield 41, 3) by decide +kernel) rfl hk
set_option maxRecDepth 20000 in
theorem kX6_refusalOfChild_57 {C : QC} {x : QP} {M : QM} {L : QL} {rest : List CV} {a0 : CV} {v : CV} {M1 : QM} {b : Nat} (hb : q_kd M b = (1, 4)) (hC : C iX4_standsFrom [qr b, a0] M (some v) M1) (hw : (rest.map q_wd).sum ≤ 8) (k : Rr C mX6_refusalOfChild (60, L, v :: rest, M1) x) : Rr C mX6_refusalOfChild (57, L, a0 :: qr b :: rest, M) x := g_cv (ow := 6) (e := (0, 31, 4, [507, 508, 509, 85])) (as := [a0]) (show decode cX6_refusalOfChild 57 = .ok (.invokevirtual 72, 3) by decide +kernel) rfl rfl rfl (Or.inl rfl) rfl hb hC hw k
set_option maxRecDepth 20000 in
theorem kX6_refusalOfChild_60 {C : QC} {x : QP} {M : QM} {st : List CV} {L : QL} {a : Int} (ha1 : -2147483648 ≤ a) (ha2 : a < 2147483648) : Rr C mX6_refusalOfChild (60, L, qi a :: st, M) x = (if a = 0 then Rr C mX6_refusalOfChild (63, L, st, M) x else Rr C mX6_refusalOfChild (65, L, st, M) x) := (g_if (show decode cX6_refusalOfChild 60 = .ok (.ifCond .ne 5, 3) by decide +kernel) rfl ha1 ha2).trans (g_itn c_ne)
set_option maxRecDepth 20000 in
theorem kX6_refusalOfChild_63 {C : QC} {x : QP} {M : QM} {st : List CV} {L : QL} : Rr C mX6_refusalOfChild (63, L, st, M) x = Rr C mX6_refusalOfChild (64, L, qi 5 :: st, M) x := g_pl (show decode cX6_refusalOfChild 63 = .ok (.iconst 5, 1) by decide +kernel) rfl
set_option maxRecDepth 20000 in
theorem kX6_refusalOfChild_64 {C : QC} {x : QP} {M : QM} {st : List CV} {L : QL} {z : Int} : Rr C mX6_refusalOfChild (64, L, [qi z], M) x = x (some (qi z)) M := g_iret (show decode cX6_refusalOfChild 64 = .ok (.ireturn, 1) by decide +kernel) rfl
set_option maxRecDepth 20000 in
theorem kX6_refusalOfChild_65 {C : QC} {x : QP} {M : QM} {st : List CV} {L : QL} {l0 l1 l2 : Option CV} {r : Option Nat} : Rr C mX6_refusalOfChild (65, [some (.inr (.inr r)), l1, l2], st, M) x = Rr C mX6_refusalOfChild (66, [some (.inr (.inr r)), l1, l2], .inr (.inr r) :: st, M) x := g_pl (show decode cX6_refusalOfChild 65 = .ok (.aload_n 0, 1) by decide +kernel) rfl
set_option maxRecDepth 20000 in
theorem kX6_refusalOfChild_66 {C : QC} {x : QP} {M : QM} {L : QL} {rest : List CV} {v : CV} {M1 : QM} {b : Nat} (hb : q_kd M b = (1, 11)) (hC : C iX11_isFull [qr b] M (some v) M1) (hw : (rest.map q_wd).sum ≤ 8) (k : Rr C mX6_refusalOfChild (69, L, v :: rest, M1) x) : Rr C mX6_refusalOfChild (66, L, qr b :: rest, M) x := g_cv (ow := 6) (e := (0, 28, 11, [496, 497, 498, 83])) (as := []) (show decode cX6_refusalOfChild 66 = .ok (.invokevirtual 56, 3) by decide +kernel) rfl rfl rfl (Or.inl rfl) rfl hb hC hw k
set_option maxRecDepth 20000 in
theorem kX6_refusalOfChild_69 {C : QC} {x : QP} {M : QM} {st : List CV} {L : QL} {a : Int} (ha1 : -2147483648 ≤ a) (ha2 : a < 2147483648) : Rr C mX6_refusalOfChild (69, L, qi a :: st, M) x = (if a = 0 then Rr C mX6_refusalOfChild (77, L, st, M) x else Rr C mX6_refusalOfChild (72, L, st, M) x) := (g_if (show decode cX6_refusalOfChild 69 = .ok (.ifCond .eq 8, 3) by decide +kernel) rfl ha1 ha2).trans (g_ite c_eq)
set_option maxRecDepth 20000 in
theorem kX6_refusalOfChild_72 {C : QC} {x : QP} {M : QM} {st : List CV} {L : QL} : Rr C mX6_refusalOfChild (72, L, st, M) x = Rr C mX6_refusalOfChild (74, L, qi 6 :: st, M) x := g_pl (show decode cX6_refusalOfChild 72 = .ok (.bipush 6, 2) by decide +kernel) rfl
set_option maxRecDepth 20000 in
theorem kX6_refusalOfChild_74 {C : QC} {x : QP} {M : QM} {st : List CV} {L : QL} : Rr C mX6_refusalOfChild (74, L, st, M) x = Rr C mX6_refusalOfChild (78, L, st, M) x := g_pl (show decode cX6_refusalOfChild 74 = .ok (.goto 4, 3) by decide +kernel) rfl
set_option maxRecDepth 20000 in
theorem kX6_refusalOfChild_77 {C : QC} {x : QP} {M : QM} {st : List CV} {L : QL} : Rr C mX6_refusalOfChild (77, L, st, M) x = Rr C mX6_refusalOfChild (78, L, qi 0 :: st, M) x := g_pl (show decode cX6_refusalOfChild 77 = .ok (.iconst 0, 1) by decide +kernel) rfl
set_option maxRecDepth 20000 in
theorem kX6_refusalOfChild_78 {C : QC} {x : QP} {M : QM} {st : List CV} {L : QL} {z : Int} : Rr C mX6_refusalOfChild (78, L, [qi z], M) x = x (some (qi z)) M := g_iret (show decode cX6_refusalOfChild 78 = .ok (.ireturn, 1) by decide +kernel) rfl
set_option maxRecDepth 20000 in
theorem eX6_refusalOfChild {d : Nat} {M : QM} {x : QP} {v0 : Option Nat} {v1 : Option Nat} : q_T (d + 1) iX6_refusalOfChild [.inr (.inr v0), .inr (.inr v1)] M x = Rr (q_C d) mX6_refusalOfChild (0, [some (.inr (.inr v0)), some (.inr (.inr v1)), none], [], M) x := g_entryT (e := _) rfl (Nat.le_of_ble_eq_true rfl) rfl rfl
def mX6_refusalOfEvent : QI := (6, cX6_refusalOfEvent, false, some .int)
set_option maxRecDepth 20000 in
theorem kX6_refusalOfEvent_0 {C : QC} {x : QP} {M : QM} {st : List CV} {L : QL} {l0 l1 l2 : Option CV} {r : Option Nat} : Rr C mX6_refusalOfEvent (0, [some (.inr (.inr r)), l1, l2], st, M) x = Rr C mX6_refusalOfEvent (1, [some (.inr (.inr r)), l1, l2], .inr (.inr r) :: st, M) x := g_pl (show decode cX6_refusalOfEvent 0 = .ok (.aload_n 0, 1) by decide +kernel) rfl
set_option maxRecDepth 20000 in
theorem kX6_refusalOfEvent_1 {C : QC} {x : QP} {M : QM} {st : List CV} {L : QL} {l0 l1 l2 : Option CV} {r : Option Nat} : Rr C mX6_refusalOfEvent (1, [l0, some (.inr (.inr r)), l2], st, M) x = Rr C mX6_refusalOfEvent (2, [l0, some (.inr (.inr r)), l2], .inr (.inr r) :: st, M) x := g_pl (show decode cX6_refusalOfEvent 1 = .ok (.aload_n 1, 1) by decide +kernel) rfl
set_option maxRecDepth 20000 in
theorem kX6_refusalOfEvent_2 {C : QC} {x : QP} {M : QM} {st : List CV} {L : QL} {a : Nat} (hk : q_kd M a = (1, 3)) : Rr C mX6_refusalOfEvent (2, L, qr a :: st, M) x = Rr C mX6_refusalOfEvent (5, L, q_fv M a 1 :: st, M) x := g_getf (ow := 6) (e := (3, 1, RX3, 461, 0)) (show decode cX6_refusalOfEvent 2 = .ok (.getfield 15, 3) by decide +kernel) rfl hk
set_option maxRecDepth 20000 in
theorem kX6_refusalOfEvent_5 {C : QC} {x : QP} {M : QM} {L : QL} {rest : List CV} {a0 : CV} {v : CV} {M1 : QM} {b : Nat} (hb : q_kd M b = (1, 11)) (hC : C iX11_place [qr b, a0] M (some v) M1) (hw : (rest.map q_wd).sum ≤ 8) (k : Rr C mX6_refusalOfEvent (8, L, v :: rest, M1) x) : Rr C mX6_refusalOfEvent (5, L, a0 :: qr b :: rest, M) x := g_cv (ow := 6) (e := (0, 30, 11, [503, 504, 505, 83])) (as := [a0]) (show decode cX6_refusalOfEvent 5 = .ok (.invokevirtual 63, 3) by decide +kernel) rfl rfl rfl (Or.inl rfl) rfl hb hC hw k
set_option maxRecDepth 20000 in
theorem kX6_refusalOfEvent_8 {C : QC} {x : QP} {M : QM} {st : List CV} {L : QL} {l0 l1 l2 : Option CV} {z : Option Nat} : Rr C mX6_refusalOfEvent (8, [l0, l1, l2], .inr (.inr z) :: st, M) x = Rr C mX6_refusalOfEvent (9, [l0, q_cut l1, some (.inr (.inr z))], st, M) x := g_pl (show decode cX6_refusalOfEvent 8 = .ok (.astore_n 2, 1) by decide +kernel) rfl
set_option maxRecDepth 20000 in
theorem kX6_refusalOfEvent_9 {C : QC} {x : QP} {M : QM} {st : List CV} {L : QL} {l0 l1 l2 : Option CV} {r : Option Nat} : Rr C mX6_refusalOfEvent (9, [l0, l1, some (.inr (.inr r))], st, M) x = Rr C mX6_refusalOfEvent (10, [l0, l1, some (.inr (.inr r))], .inr (.inr r) :: st, M) x := g_pl (show decode cX6_refusalOfEvent 9 = .ok (.aload_n 2, 1) by decide +kernel) rfl
set_option maxRecDepth 20000 in
theorem kX6_refusalOfEvent_10r {C : QC} {x : QP} {M : QM} {st : List CV} {L : QL} {a : Nat} : Rr C mX6_refusalOfEvent (10, L, qr a :: st, M) x = Rr C mX6_refusalOfEvent (15, L, st, M) x := g_pl (show decode cX6_refusalOfEvent 10 = .ok (.ifnonnull 5, 3) by decide +kernel) rfl
set_option maxRecDepth 20000 in
theorem kX6_refusalOfEvent_10n {C : QC} {x : QP} {M : QM} {st : List CV} {L : QL} : Rr C mX6_refusalOfEvent (10, L, qn :: st, M) x = Rr C mX6_refusalOfEvent (13, L, st, M) x := g_pl (show decode cX6_refusalOfEvent 10 = .ok (.ifnonnull 5, 3) by decide +kernel) rfl
set_option maxRecDepth 20000 in
theorem kX6_refusalOfEvent_13 {C : QC} {x : QP} {M : QM} {st : List CV} {L : QL} : Rr C mX6_refusalOfEvent (13, L, st, M) x = Rr C mX6_refusalOfEvent (14, L, qi 1 :: st, M) x := g_pl (show decode cX6_refusalOfEvent 13 = .ok (.iconst 1, 1) by decide +kernel) rfl
set_option maxRecDepth 20000 in
theorem kX6_refusalOfEvent_14 {C : QC} {x : QP} {M : QM} {st : List CV} {L : QL} {z : Int} : Rr C mX6_refusalOfEvent (14, L, [qi z], M) x = x (some (qi z)) M := g_iret (show decode cX6_refusalOfEvent 14 = .ok (.ireturn, 1) by decide +kernel) rfl
set_option maxRecDepth 20000 in
theorem kX6_refusalOfEvent_15 {C : QC} {x : QP} {M : QM} {st : List CV} {L : QL} {l0 l1 l2 : Option CV} {r : Option Nat} : Rr C mX6_refusalOfEvent (15, [l0, l1, some (.inr (.inr r))], st, M) x = Rr C mX6_refusalOfEvent (16, [l0, l1, some (.inr (.inr r))], .inr (.inr r) :: st, M) x := g_pl (show decode cX6_refusalOfEvent 15 = .ok (.aload_n 2, 1) by decide +kernel) rfl
set_option maxRecDepth 20000 in
theorem kX6_refusalOfEvent_16 {C : QC} {x : QP} {M : QM} {L : QL} {rest : List CV} {v : CV} {M1 : QM} {b : Nat} (hb : q_kd M b = (1, 4)) (hC : C iX4_hasEnded [qr b] M (some v) M1) (hw : (rest.map q_wd).sum ≤ 8) (k : Rr C mX6_refusalOfEvent (19, L, v :: rest, M1) x) : Rr C mX6_refusalOfEvent (16, L, qr b :: rest, M) x := g_cv (ow := 6) (e := (0, 32, 4, [518, 512, 513, 85])) (as := []) (show decode cX6_refusalOfEvent 16 = .ok (.invokevirtual 75, 3) by decide +kernel) rfl rfl rfl (Or.inl rfl) rfl hb hC hw k
set_option maxRecDepth 20000 in
theorem kX6_refusalOfEvent_19 {C : QC} {x : QP} {M : QM} {st : List CV} {L : QL} {a : Int} (ha1 : -2147483648 ≤ a) (ha2 : a < 2147483648) : Rr C mX6_refusalOfEvent (19, L, qi a :: st, M) x = (if a = 0 then Rr C mX6_refusalOfEvent (24, L, st, M) x else Rr C mX6_refusalOfEvent (22, L, st, M) x) := (g_if (show decode cX6_refusalOfEvent 19 = .ok (.ifCond .eq 5, 3) by decide +kernel) rfl ha1 ha2).trans (g_ite c_eq)
set_option maxRecDepth 20000 in
theorem kX6_refusalOfEvent_22 {C : QC} {x : QP} {M : QM} {st : List CV} {L : QL} : Rr C mX6_refusalOfEvent (22, L, st, M) x = Rr C mX6_refusalOfEvent (23, L, qi 3 :: st, M) x := g_pl (show decode cX6_refusalOfEvent 22 = .ok (.iconst 3, 1) by decide +kernel) rfl
set_option maxRecDepth 20000 in
theorem kX6_refusalOfEvent_23 {C : QC} {x : QP} {M : QM} {st : List CV} {L : QL} {z : Int} : Rr C mX6_refusalOfEvent (23, L, [qi z], M) x = x (some (qi z)) M := g_iret (show decode cX6_refusalOfEvent 23 = .ok (.ireturn, 1) by decide +kernel) rfl
set_option maxRecDepth 20000 in
theorem kX6_refusalOfEvent_24 {C : QC} {x : QP} {M : QM} {st : List CV} {L : QL} {l0 l1 l2 : Option CV} {r : Option Nat} : Rr C mX6_refusalOfEvent (24, [l0, some (.inr (.inr r)), l2], st, M) x = Rr C mX6_refusalOfEvent (25, [l0, some (.inr (.inr r)), l2], .inr (.inr r) :: st, M) x := g_pl (show decode cX6_refusalOfEvent 24 = .ok (.aload_n 1, 1) by decide +kernel) rfl
set_option maxRecDepth 20000 in
theorem kX6_refusalOfEvent_25 {C : QC} {x : QP} {M : QM} {st : List CV} {L : QL} {a : Nat} (hk : q_kd M a = (1, 3)) : Rr C mX6_refusalOfEvent (25, L, qr a :: st, M) x = Rr C mX6_refusalOfEvent (28, L, q_fv M a 3 :: st, M) x := g_getf (ow := 6) (e := (3, 3, RX3, 467, 0)) (show decode cX6_refusalOfEvent 25 = .ok (.getfield 41, 3) by decide +kernel) rfl hk
set_option maxRecDepth 20000 in
theorem kX6_refusalOfEvent_28 {C : QC} {x : QP} {M : QM} {st : List CV} {L : QL} {l0 l1 l2 : Option CV} {r : Option Nat} : Rr C mX6_refusalOfEvent (28, [l0, l1, some (.inr (.inr r))], st, M) x = Rr C mX6_refusalOfEvent (29, [l0, l1, some (.inr (.inr r))], .inr (.inr r) :: st, M) x := g_pl (show decode cX6_refusalOfEvent 28 = .ok (.aload_n 2, 1) by decide +kernel) rfl
set_option maxRecDepth 20000 in
theorem kX6_refusalOfEvent_29 {C : QC} {x : QP} {M : QM} {st : List CV} {L : QL} {a : Nat} (hk : q_kd M a = (1, 4)) : Rr C mX6_refusalOfEvent (29, L, qr a :: st, M) x = Rr C mX6_refusalOfEvent (32, L, q_fv M a 4 :: st, M) x := g_getf (ow := 6) (e := (4, 4, RX4, 280, 0)) (show decode cX6_refusalOfEvent 29 = .ok (.getfield 78, 3) by decide +kernel) rfl hk
set_option maxRecDepth 20000 in
theorem kX6_refusalOfEvent_32 {C : QC} {x : QP} {M : QM} {st : List CV} {L : QL} {a b : Int} (ha1 : -2147483648 ≤ a) (ha2 : a < 2147483648) (hb1 : -2147483648 ≤ b) (hb2 : b < 2147483648) : Rr C mX6_refusalOfEvent (32, L, qi b :: qi a :: st, M) x = (if a < b then Rr C mX6_refusalOfEvent (45, L, st, M) x else Rr C mX6_refusalOfEvent (35, L, st, M) x) := (g_icmp (show decode cX6_refusalOfEvent 32 = .ok (.if_icmp .lt 13, 3) by decide +kernel) rfl ha1 ha2 hb1 hb2).trans (g_ite c_lt)
set_option maxRecDepth 20000 in
theorem kX6_refusalOfEvent_35 {C : QC} {x : QP} {M : QM} {st : List CV} {L : QL} {l0 l1 l2 : Option CV} {r : Option Nat} : Rr C mX6_refusalOfEvent (35, [l0, some (.inr (.inr r)), l2], st, M) x = Rr C mX6_refusalOfEvent (36, [l0, some (.inr (.inr r)), l2], .inr (.inr r) :: st, M) x := g_pl (show decode cX6_refusalOfEvent 35 = .ok (.aload_n 1, 1) by decide +kernel) rfl
set_option maxRecDepth 20000 in
theorem kX6_refusalOfEvent_36 {C : QC} {x : QP} {M : QM} {st : List CV} {L : QL} {a : Nat} (hk : q_kd M a = (1, 3)) : Rr C mX6_refusalOfEvent (36, L, qr a :: st, M) x = Rr C mX6_refusalOfEvent (39, L, q_fv M a 3 :: st, M) x := g_getf (ow := 6) (e := (3, 3, RX3, 467, 0)) (show decode cX6_refusalOfEvent 36 = .ok (.getfield 41, 3) by decide +kernel) rfl hk
set_option maxRecDepth 20000 in
theorem kX6_refusalOfEvent_39 {C : QC} {x : QP} {M : QM} {L : QL} {rest : List CV} {a0 : CV} {v : CV} {M1 : QM} (hC : C iX12_isDay [a0] M (some v) M1) (hw : (rest.map q_wd).sum ≤ 8) (k : Rr C mX6_refusalOfEvent (42, L, v :: rest, M1) x) : Rr C mX6_refusalOfEvent (39, L, a0 :: rest, M) x := g_cs (ow := 6) (e := (2, 27, 0, [9, 494, 77])) (as := [a0]) (show decode cX6_refusalOfEvent 39 = .ok (.invokestatic 50, 3) by decide +kernel) rfl rfl rfl rfl (Or.inr rfl) rfl hC hw k
set_option maxRecDepth 20000 in
theorem kX6_refusalOfEvent_42 {C : QC} {x : QP} {M : QM} {st : List CV} {L : QL} {a : Int} (ha1 : -2147483648 ≤ a) (ha2 : a < 2147483648) : Rr C mX6_refusalOfEvent (42, L, qi a :: st, M) x = (if a = 0 then Rr C mX6_refusalOfEvent (45, L, st, M) x else Rr C mX6_refusalOfEvent (49, L, st, M) x) := (g_if (show decode cX6_refusalOfEvent 42 = .ok (.ifCond .ne 7, 3) by decide +kernel) rfl ha1 ha2).trans (g_itn c_ne)
set_option maxRecDepth 20000 in
theorem kX6_refusalOfEvent_45 {C : QC} {x : QP} {M : QM} {st : List CV} {L : QL} : Rr C mX6_refusalOfEvent (45, L, st, M) x = Rr C mX6_refusalOfEvent (46, L, qi 2 :: st, M) x := g_pl (show decode cX6_refusalOfEvent 45 = .ok (.iconst 2, 1) by decide +kernel) rfl
set_option maxRecDepth 20000 in
theorem kX6_refusalOfEvent_46 {C : QC} {x : QP} {M : QM} {st : List CV} {L : QL} : Rr C mX6_refusalOfEvent (46, L, st, M) x = Rr C mX6_refusalOfEvent (50, L, st, M) x := g_pl (show decode cX6_refusalOfEvent 46 = .ok (.goto 4, 3) by decide +kernel) rfl
set_option maxRecDepth 20000 in
theorem kX6_refusalOfEvent_49 {C : QC} {x : QP} {M : QM} {st : List CV} {L : QL} : Rr C mX6_refusalOfEvent (49, L, st, M) x = Rr C mX6_refusalOfEvent (50, L, qi 0 :: st, M) x := g_pl (show decode cX6_refusalOfEvent 49 = .ok (.iconst 0, 1) by decide +kernel) rfl
set_option maxRecDepth 20000 in
theorem kX6_refusalOfEvent_50 {C : QC} {x : QP} {M : QM} {st : List CV} {L : QL} {z : Int} : Rr C mX6_refusalOfEvent (50, L, [qi z], M) x = x (some (qi z)) M := g_iret (show decode cX6_refusalOfEvent 50 = .ok (.ireturn, 1) by decide +kernel) rfl
set_option maxRecDepth 20000 in
theorem eX6_refusalOfEvent {d : Nat} {M : QM} {x : QP} {v0 : Option Nat} {v1 : Option Nat} : q_T (d + 1) iX6_refusalOfEvent [.inr (.inr v0), .inr (.inr v1)] M x = Rr (q_C d) mX6_refusalOfEvent (0, [some (.inr (.inr v0)), some (.inr (.inr v1)), none], [], M) x := g_entryT (e := _) rfl (Nat.le_of_ble_eq_true rfl) rfl rfl
def mX6_refusalOfMove : QI := (6, cX6_refusalOfMove, false, some .int)
set_option maxRecDepth 20000 in
theorem kX6_refusalOfMove_0 {C : QC} {x : QP} {M : QM} {st : List CV} {L : QL} {l0 l1 l2 l3 l4 : Option CV} {r : Option Nat} : Rr C mX6_refusalOfMove (0, [some (.inr (.inr r)), l1, l2, l3, l4], st, M) x = Rr C mX6_refusalOfMove (1, [some (.inr (.inr r)), l1, l2, l3, l4], .inr (.inr r) :: st, M) x := g_pl (show decode cX6_refusalOfMove 0 = .ok (.aload_n 0, 1) by decide +kernel) rfl
set_option maxRecDepth 20000 in
theorem kX6_refusalOfMove_1 {C : QC} {x : QP} {M : QM} {st : List CV} {L : QL} {l0 l1 l2 l3 l4 : Option CV} {r : Option Nat} : Rr C mX6_refusalOfMove (1, [l0, some (.inr (.inr r)), l2, l3, l4], st, M) x = Rr C mX6_refusalOfMove (2, [l0, some (.inr (.inr r)), l2, l3, l4], .inr (.inr r) :: st, M) x := g_pl (show decode cX6_refusalOfMove 1 = .ok (.aload_n 1, 1) by decide +kernel) rfl
set_option maxRecDepth 20000 in
theorem kX6_refusalOfMove_2 {C : QC} {x : QP} {M : QM} {st : List CV} {L : QL} {a : Nat} (hk : q_kd M a = (1, 3)) : Rr C mX6_refusalOfMove (2, L, qr a :: st, M) x = Rr C mX6_refusalOfMove (5, L, q_fv M a 1 :: st, M) x := g_getf (ow := 6) (e := (3, 1, RX3, 461, 0)) (show decode cX6_refusalOfMove 2 = .ok (.getfield 15, 3) by decide +kernel) rfl hk
set_option maxRecDepth 20000 in
theorem kX6_refusalOfMove_5 {C : QC} {x : QP} {M : QM} {L : QL} {rest : List CV} {a0 : CV} {v : CV} {M1 : QM} {b : Nat} (hb : q_kd M b = (1, 11)) (hC : C iX11_place [qr b, a0] M (some v) M1) (hw : (rest.map q_wd).sum ≤ 8) (k : Rr C mX6_refusalOfMove (8, L, v :: rest, M1) x) : Rr C mX6_refusalOfMove (5, L, a0 :: qr b :: rest, M) x := g_cv (ow := 6) (e := (0, 30, 11, [503, 504, 505, 83])) (as := [a0]) (show decode cX6_refusalOfMove 5 = .ok (.invokevirtual 63, 3) by decide +kernel) rfl rfl rfl (Or.inl rfl) rfl hb hC hw k
set_option maxRecDepth 20000 in
theorem kX6_refusalOfMove_8 {C : QC} {x : QP} {M : QM} {st : List CV} {L : QL} {l0 l1 l2 l3 l4 : Option CV} {z : Option Nat} : Rr C mX6_refusalOfMove (8, [l0, l1, l2, l3, l4], .inr (.inr z) :: st, M) x = Rr C mX6_refusalOfMove (9, [l0, q_cut l1, some (.inr (.inr z)), l3, l4], st, M) x := g_pl (show decode cX6_refusalOfMove 8 = .ok (.astore_n 2, 1) by decide +kernel) rfl
set_option maxRecDepth 20000 in
theorem kX6_refusalOfMove_9 {C : QC} {x : QP} {M : QM} {st : List CV} {L : QL} {l0 l1 l2 l3 l4 : Option CV} {r : Option Nat} : Rr C mX6_refusalOfMove (9, [some (.inr (.inr r)), l1, l2, l3, l4], st, M) x = Rr C mX6_refusalOfMove (10, [some (.inr (.inr r)), l1, l2, l3, l4], .inr (.inr r) :: st, M) x := g_pl (show decode cX6_refusalOfMove 9 = .ok (.aload_n 0, 1) by decide +kernel) rfl
set_option maxRecDepth 20000 in
theorem kX6_refusalOfMove_10 {C : QC} {x : QP} {M : QM} {st : List CV} {L : QL} {l0 l1 l2 l3 l4 : Option CV} {r : Option Nat} : Rr C mX6_refusalOfMove (10, [l0, some (.inr (.inr r)), l2, l3, l4], st, M) x = Rr C mX6_refusalOfMove (11, [l0, some (.inr (.inr r)), l2, l3, l4], .inr (.inr r) :: st, M) x := g_pl (show decode cX6_refusalOfMove 10 = .ok (.aload_n 1, 1) by decide +kernel) rfl
set_option maxRecDepth 20000 in
theorem kX6_refusalOfMove_11 {C : QC} {x : QP} {M : QM} {st : List CV} {L : QL} {a : Nat} (hk : q_kd M a = (1, 3)) : Rr C mX6_refusalOfMove (11, L, qr a :: st, M) x = Rr C mX6_refusalOfMove (14, L, q_fv M a 2 :: st, M) x := g_getf (ow := 6) (e := (3, 2, RX3, 464, 0)) (show decode cX6_refusalOfMove 11 = .ok (.getfield 60, 3) by decide +kernel) rfl hk
set_option maxRecDepth 20000 in
theorem kX6_refusalOfMove_14 {C : QC} {x : QP} {M : QM} {L : QL} {rest : List CV} {a0 : CV} {v : CV} {M1 : QM} {b : Nat} (hb : q_kd M b = (1, 11)) (hC : C iX11_place [qr b, a0] M (some v) M1) (hw : (rest.map q_wd).sum ≤ 8) (k : Rr C mX6_refusalOfMove (17, L, v :: rest, M1) x) : Rr C mX6_refusalOfMove (14, L, a0 :: qr b :: rest, M) x := g_cv (ow := 6) (e := (0, 30, 11, [503, 504, 505, 83])) (as := [a0]) (show decode cX6_refusalOfMove 14 = .ok (.invokevirtual 63, 3) by decide +kernel) rfl rfl rfl (Or.inl rfl) rfl hb hC hw k
set_option maxRecDepth 20000 in
theorem kX6_refusalOfMove_17 {C : QC} {x : QP} {M : QM} {st : List CV} {L : QL} {l0 l1 l2 l3 l4 : Option CV} {z : Option Nat} : Rr C mX6_refusalOfMove (17, [l0, l1, l2, l3, l4], .inr (.inr z) :: st, M) x = Rr C mX6_refusalOfMove (18, [l0, l1, q_cut l2, some (.inr (.inr z)), l4], st, M) x := g_pl (show decode cX6_refusalOfMove 17 = .ok (.astore_n 3, 1) by decide +kernel) rfl
set_option maxRecDepth 20000 in
theorem kX6_refusalOfMove_18 {C : QC} {x : QP} {M : QM} {st : List CV} {L : QL} {l0 l1 l2 l3 l4 : Option CV} {r : Option Nat} : Rr C mX6_refusalOfMove (18, [l0, l1, some (.inr (.inr r)), l3, l4], st, M) x = Rr C mX6_refusalOfMove (19, [l0, l1, some (.inr (.inr r)), l3, l4], .inr (.inr r) :: st, M) x := g_pl (show decode cX6_refusalOfMove 18 = .ok (.aload_n 2, 1) by decide +kernel) rfl
set_option maxRecDepth 20000 in
theorem kX6_refusalOfMove_19r {C : QC} {x : QP} {M : QM} {st : List CV} {L : QL} {a : Nat} : Rr C mX6_refusalOfMove (19, L, qr a :: st, M) x = Rr C mX6_refusalOfMove (22, L, st, M) x := g_pl (show decode cX6_refusalOfMove 19 = .ok (.ifnull 7, 3) by decide +kernel) rfl
set_option maxRecDepth 20000 in
theorem kX6_refusalOfMove_19n {C : QC} {x : QP} {M : QM} {st : List CV} {L : QL} : Rr C mX6_refusalOfMove (19, L, qn :: st, M) x = Rr C mX6_refusalOfMove (26, L, st, M) x := g_pl (show decode cX6_refusalOfMove 19 = .ok (.ifnull 7, 3) by decide +kernel) rfl
set_option maxRecDepth 20000 in
theorem kX6_refusalOfMove_22 {C : QC} {x : QP} {M : QM} {st : List CV} {L : QL} {l0 l1 l2 l3 l4 : Option CV} {r : Option Nat} : Rr C mX6_refusalOfMove (22, [l0, l1, l2, some (.inr (.inr r)), l4], st, M) x = Rr C mX6_refusalOfMove (23, [l0, l1, l2, some (.inr (.inr r)), l4], .inr (.inr r) :: st, M) x := g_pl (show decode cX6_refusalOfMove 22 = .ok (.aload_n 3, 1) by decide +kernel) rfl
set_option maxRecDepth 20000 in
theorem kX6_refusalOfMove_23r {C : QC} {x : QP} {M : QM} {st : List CV} {L : QL} {a : Nat} : Rr C mX6_refusalOfMove (23, L, qr a :: st, M) x = Rr C mX6_refusalOfMove (28, L, st, M) x := g_pl (show decode cX6_refusalOfMove 23 = .ok (.ifnonnull 5, 3) by decide +kernel) rfl
set_option maxRecDepth 20000 in
theorem kX6_refusalOfMove_23n {C : QC} {x : QP} {M : QM} {st : List CV} {L : QL} : Rr C mX6_refusalOfMove (23, L, qn :: st, M) x = Rr C mX6_refusalOfMove (26, L, st, M) x := g_pl (show decode cX6_refusalOfMove 23 = .ok (.ifnonnull 5, 3) by decide +kernel) rfl
set_option maxRecDepth 20000 in
theorem kX6_refusalOfMove_26 {C : QC} {x : QP} {M : QM} {st : List CV} {L : QL} : Rr C mX6_refusalOfMove (26, L, st, M) x = Rr C mX6_refusalOfMove (27, L, qi 1 :: st, M) x := g_pl (show decode cX6_refusalOfMove 26 = .ok (.iconst 1, 1) by decide +kernel) rfl
set_option maxRecDepth 20000 in
theorem kX6_refusalOfMove_27 {C : QC} {x : QP} {M : QM} {st : List CV} {L : QL} {z : Int} : Rr C mX6_refusalOfMove (27, L, [qi z], M) x = x (some (qi z)) M := g_iret (show decode cX6_refusalOfMove 27 = .ok (.ireturn, 1) by decide +kernel) rfl
set_option maxRecDepth 20000 in
theorem kX6_refusalOfMove_28 {C : QC} {x : QP} {M : QM} {st : List CV} {L : QL} {l0 l1 l2 l3 l4 : Option CV} {r : Option Nat} : Rr C mX6_refusalOfMove (28, [some (.inr (.inr r)), l1, l2, l3, l4], st, M) x = Rr C mX6_refusalOfMove (29, [some (.inr (.inr r)), l1, l2, l3, l4], .inr (.inr r) :: st, M) x := g_pl (show decode cX6_refusalOfMove 28 = .ok (.aload_n 0, 1) by decide +kernel) rfl
set_option maxRecDepth 20000 in
theorem kX6_refusalOfMove_29 {C : QC} {x : QP} {M : QM} {st : List CV} {L : QL} {l0 l1 l2 l3 l4 : Option CV} {r : Option Nat} : Rr C mX6_refusalOfMove (29, [l0, some (.inr (.inr r)), l2, l3, l4], st, M) x = Rr C mX6_refusalOfMove (30, [l0, some (.inr (.inr r)), l2, l3, l4], .inr (.inr r) :: st, M) x := g_pl (show decode cX6_refusalOfMove 29 = .ok (.aload_n 1, 1) by decide +kernel) rfl
set_option maxRecDepth 20000 in
theorem kX6_refusalOfMove_30 {C : QC} {x : QP} {M : QM} {L : QL} {rest : List CV} {a0 a1 : CV} {v : CV} {M1 : QM} (hC : C iX6_refusalOfEvent [a0, a1] M (some v) M1) (hw : (rest.map q_wd).sum ≤ 8) (k : Rr C mX6_refusalOfMove (33, L, v :: rest, M1) x) : Rr C mX6_refusalOfMove (30, L, a1 :: a0 :: rest, M) x := g_cs (ow := 6) (e := (1, 33, 0, [515, 516, 97])) (as := [a0, a1]) (show decode cX6_refusalOfMove 30 = .ok (.invokestatic 29, 3) by decide +kernel) rfl rfl rfl rfl (Or.inl rfl) rfl hC hw k
set_option maxRecDepth 20000 in
theorem kX6_refusalOfMove_33 {C : QC} {x : QP} {M : QM} {st : List CV} {L : QL} {l0 l1 l2 l3 l4 : Option CV} {z : Int} : Rr C mX6_refusalOfMove (33, [l0, l1, l2, l3, l4], qi z :: st, M) x = Rr C mX6_refusalOfMove (35, [l0, l1, l2, q_cut l3, some (qi z)], st, M) x := g_pl (show decode cX6_refusalOfMove 33 = .ok (.istore 4, 2) by decide +kernel) rfl
set_option maxRecDepth 20000 in
theorem kX6_refusalOfMove_35 {C : QC} {x : QP} {M : QM} {st : List CV} {L : QL} {l0 l1 l2 l3 l4 : Option CV} {z : Int} : Rr C mX6_refusalOfMove (35, [l0, l1, l2, l3, some (qi z)], st, M) x = Rr C mX6_refusalOfMove (37, [l0, l1, l2, l3, some (qi z)], qi z :: st, M) x := g_pl (show decode cX6_refusalOfMove 35 = .ok (.iload 4, 2) by decide +kernel) rfl
set_option maxRecDepth 20000 in
theorem kX6_refusalOfMove_37 {C : QC} {x : QP} {M : QM} {st : List CV} {L : QL} {a : Int} (ha1 : -2147483648 ≤ a) (ha2 : a < 2147483648) : Rr C mX6_refusalOfMove (37, L, qi a :: st, M) x = (if a = 0 then Rr C mX6_refusalOfMove (43, L, st, M) x else Rr C mX6_refusalOfMove (40, L, st, M) x) := (g_if (show decode cX6_refusalOfMove 37 = .ok (.ifCond .eq 6, 3) by decide +kernel) rfl ha1 ha2).trans (g_ite c_eq)
set_option maxRecDepth 20000 in
theorem kX6_refusalOfMove_40 {C : QC} {x : QP} {M : QM} {st : List CV} {L : QL} {l0 l1 l2 l3 l4 : Option CV} {z : Int} : Rr C mX6_refusalOfMove (40, [l0, l1, l2, l3, some (qi z)], st, M) x = Rr C mX6_refusalOfMove (42, [l0, l1, l2, l3, some (qi z)], qi z :: st, M) x := g_pl (show decode cX6_refusalOfMove 40 = .ok (.iload 4, 2) by decide +kernel) rfl
set_option maxRecDepth 20000 in
theorem kX6_refusalOfMove_42 {C : QC} {x : QP} {M : QM} {st : List CV} {L : QL} {z : Int} : Rr C mX6_refusalOfMove (42, L, [qi z], M) x = x (some (qi z)) M := g_iret (show decode cX6_refusalOfMove 42 = .ok (.ireturn, 1) by decide +kernel) rfl
set_option maxRecDepth 20000 in
theorem kX6_refusalOfMove_43 {C : QC} {x : QP} {M : QM} {st : List CV} {L : QL} {l0 l1 l2 l3 l4 : Option CV} {r : Option Nat} : Rr C mX6_refusalOfMove (43, [l0, l1, l2, some (.inr (.inr r)), l4], st, M) x = Rr C mX6_refusalOfMove (44, [l0, l1, l2, some (.inr (.inr r)), l4], .inr (.inr r) :: st, M) x := g_pl (show decode cX6_refusalOfMove 43 = .ok (.aload_n 3, 1) by decide +kernel) rfl
set_option maxRecDepth 20000 in
theorem kX6_refusalOfMove_44 {C : QC} {x : QP} {M : QM} {st : List CV} {L : QL} {a : Nat} (hk : q_kd M a = (1, 4)) : Rr C mX6_refusalOfMove (44, L, qr a :: st, M) x = Rr C mX6_refusalOfMove (47, L, q_fv M a 0 :: st, M) x := g_getf (ow := 6) (e := (4, 0, RX4, 268, 0)) (show decode cX6_refusalOfMove 44 = .ok (.getfield 67, 3) by decide +kernel) rfl hk
set_option maxRecDepth 20000 in
theorem kX6_refusalOfMove_47 {C : QC} {x : QP} {M : QM} {st : List CV} {L : QL} {l0 l1 l2 l3 l4 : Option CV} {r : Option Nat} : Rr C mX6_refusalOfMove (47, [l0, l1, some (.inr (.inr r)), l3, l4], st, M) x = Rr C mX6_refusalOfMove (48, [l0, l1, some (.inr (.inr r)), l3, l4], .inr (.inr r) :: st, M) x := g_pl (show decode cX6_refusalOfMove 47 = .ok (.aload_n 2, 1) by decide +kernel) rfl
set_option maxRecDepth 20000 in
theorem kX6_refusalOfMove_48 {C : QC} {x : QP} {M : QM} {st : List CV} {L : QL} {a : Nat} (hk : q_kd M a = (1, 4)) : Rr C mX6_refusalOfMove (48, L, qr a :: st, M) x = Rr C mX6_refusalOfMove (51, L, q_fv M a 0 :: st, M) x := g_getf (ow := 6) (e := (4, 0, RX4, 268, 0)) (show decode cX6_refusalOfMove 48 = .ok (.getfield 67, 3) by decide +kernel) rfl hk
set_option maxRecDepth 20000 in
theorem kX6_refusalOfMove_51 {C : QC} {x : QP} {M : QM} {st : List CV} {L : QL} {a b : Int} (ha1 : -2147483648 ≤ a) (ha2 : a < 2147483648) (hb1 : -2147483648 ≤ b) (hb2 : b < 2147483648) : Rr C mX6_refusalOfMove (51, L, qi b :: qi a :: st, M) x = (if a < b then Rr C mX6_refusalOfMove (56, L, st, M) x else Rr C mX6_refusalOfMove (54, L, st, M) x) := (g_icmp (show decode cX6_refusalOfMove 51 = .ok (.if_icmp .lt 5, 3) by decide +kernel) rfl ha1 ha2 hb1 hb2).trans (g_ite c_lt)
set_option maxRecDepth 20000 in
theorem kX6_refusalOfMove_54 {C : QC} {x : QP} {M : QM} {st : List CV} {L : QL} : Rr C mX6_refusalOfMove (54, L, st, M) x = Rr C mX6_refusalOfMove (55, L, qi 4 :: st, M) x := g_pl (show decode cX6_refusalOfMove 54 = .ok (.iconst 4, 1) by decide +kernel) rfl
set_option maxRecDepth 20000 in
theorem kX6_refusalOfMove_55 {C : QC} {x : QP} {M : QM} {st : List CV} {L : QL} {z : Int} : Rr C mX6_refusalOfMove (55, L, [qi z], M) x = x (some (qi z)) M := g_iret (show decode cX6_refusalOfMove 55 = .ok (.ireturn, 1) by decide +kernel) rfl
set_option maxRecDepth 20000 in
theorem kX6_refusalOfMove_56 {C : QC} {x : QP} {M : QM} {st : List CV} {L : QL} {l0 l1 l2 l3 l4 : Option CV} {r : Option Nat} : Rr C mX6_refusalOfMove (56, [l0, l1, l2, some (.inr (.inr r)), l4], st, M) x = Rr C mX6_refusalOfMove (57, [l0, l1, l2, some (.inr (.inr r)), l4], .inr (.inr r) :: st, M) x := g_pl (show decode cX6_refusalOfMove 56 = .ok (.aload_n 3, 1) by decide +kernel) rfl
set_option maxRecDepth 20000 in
theorem kX6_refusalOfMove_57 {C : QC} {x : QP} {M : QM} {st : List CV} {L : QL} {l0 l1 l2 l3 l4 : Option CV} {r : Option Nat} : Rr C mX6_refusalOfMove (57, [l0, some (.inr (.inr r)), l2, l3, l4], st, M) x = Rr C mX6_refusalOfMove (58, [l0, some (.inr (.inr r)), l2, l3, l4], .inr (.inr r) :: st, M) x := g_pl (show decode cX6_refusalOfMove 57 = .ok (.aload_n 1, 1) by decide +kernel) rfl
set_option maxRecDepth 20000 in
theorem kX6_refusalOfMove_58 {C : QC} {x : QP} {M : QM} {st : List CV} {L : QL} {a : Nat} (hk : q_kd M a = (1, 3)) : Rr C mX6_refusalOfMove (58, L, qr a :: st, M) x = Rr C mX6_refusalOfMove (61, L, q_fv M a 3 :: st, M) x := g_getf (ow := 6) (e := (3, 3, RX3, 467, 0)) (show decode cX6_refusalOfMove 58 = .ok (.getfield 41, 3) by decide +kernel) rfl hk
set_option maxRecDepth 20000 in
theorem kX6_refusalOfMove_61 {C : QC} {x : QP} {M : QM} {L : QL} {rest : List CV} {a0 : CV} {v : CV} {M1 : QM} {b : Nat} (hb : q_kd M b = (1, 4)) (hC : C iX4_standsFrom [qr b, a0] M (some v) M1) (hw : (rest.map q_wd).sum ≤ 8) (k : Rr C mX6_refusalOfMove (64, L, v :: rest, M1) x) : Rr C mX6_refusalOfMove (61, L, a0 :: qr b :: rest, M) x := g_cv (ow := 6) (e := (0, 31, 4, [507, 508, 509, 85])) (as := [a0]) (show decode cX6_refusalOfMove 61 = .ok (.invokevirtual 72, 3) by decide +kernel) rfl rfl rfl (Or.inl rfl) rfl hb hC hw k
set_option maxRecDepth 20000 in
theorem kX6_refusalOfMove_64 {C : QC} {x : QP} {M : QM} {st : List CV} {L : QL} {a : Int} (ha1 : -2147483648 ≤ a) (ha2 : a < 2147483648) : Rr C mX6_refusalOfMove (64, L, qi a :: st, M) x = (if a = 0 then Rr C mX6_refusalOfMove (71, L, st, M) x else Rr C mX6_refusalOfMove (67, L, st, M) x) := (g_if (show decode cX6_refusalOfMove 64 = .ok (.ifCond .eq 7, 3) by decide +kernel) rfl ha1 ha2).trans (g_ite c_eq)
set_option maxRecDepth 20000 in
theorem kX6_refusalOfMove_67 {C : QC} {x : QP} {M : QM} {st : List CV} {L : QL} : Rr C mX6_refusalOfMove (67, L, st, M) x = Rr C mX6_refusalOfMove (68, L, qi 0 :: st, M) x := g_pl (show decode cX6_refusalOfMove 67 = .ok (.iconst 0, 1) by decide +kernel) rfl
set_option maxRecDepth 20000 in
theorem kX6_refusalOfMove_68 {C : QC} {x : QP} {M : QM} {st : List CV} {L : QL} : Rr C mX6_refusalOfMove (68, L, st, M) x = Rr C mX6_refusalOfMove (72, L, st, M) x := g_pl (show decode cX6_refusalOfMove 68 = .ok (.goto 4, 3) by decide +kernel) rfl
set_option maxRecDepth 20000 in
theorem kX6_refusalOfMove_71 {C : QC} {x : QP} {M : QM} {st : List CV} {L : QL} : Rr C mX6_refusalOfMove (71, L, st, M) x = Rr C mX6_refusalOfMove (72, L, qi 5 :: st, M) x := g_pl (show decode cX6_refusalOfMove 71 = .ok (.iconst 5, 1) by decide +kernel) rfl
set_option maxRecDepth 20000 in
theorem kX6_refusalOfMove_72 {C : QC} {x : QP} {M : QM} {st : List CV} {L : QL} {z : Int} : Rr C mX6_refusalOfMove (72, L, [qi z], M) x = x (some (qi z)) M := g_iret (show decode cX6_refusalOfMove 72 = .ok (.ireturn, 1) by decide +kernel) rfl
set_option maxRecDepth 20000 in
theorem eX6_refusalOfMove {d : Nat} {M : QM} {x : QP} {v0 : Option Nat} {v1 : Option Nat} : q_T (d + 1) iX6_refusalOfMove [.inr (.inr v0), .inr (.inr v1)] M x = Rr (q_C d) mX6_refusalOfMove (0, [some (.inr (.inr v0)), some (.inr (.inr v1)), none, none, none], [], M) x := g_entryT (e := _) rfl (Nat.le_of_ble_eq_true rfl) rfl rfl
def mX6_refusalOfSplit : QI := (6, cX6_refusalOfSplit, false, some .int)
set_option maxRecDepth 20000 in
theorem kX6_refusalOfSplit_0 {C : QC} {x : QP} {M : QM} {st : List CV} {L : QL} {l0 l1 l2 l3 l4 : Option CV} {r : Option Nat} : Rr C mX6_refusalOfSplit (0, [some (.inr (.inr r)), l1, l2, l3, l4], st, M) x = Rr C mX6_refusalOfSplit (1, [some (.inr (.inr r)), l1, l2, l3, l4], .inr (.inr r) :: st, M) x := g_pl (show decode cX6_refusalOfSplit 0 = .ok (.aload_n 0, 1) by decide +kernel) rfl
set_option maxRecDepth 20000 in
theorem kX6_refusalOfSplit_1 {C : QC} {x : QP} {M : QM} {st : List CV} {L : QL} {l0 l1 l2 l3 l4 : Option CV} {r : Option Nat} : Rr C mX6_refusalOfSplit (1, [l0, some (.inr (.inr r)), l2, l3, l4], st, M) x = Rr C mX6_refusalOfSplit (2, [l0, some (.inr (.inr r)), l2, l3, l4], .inr (.inr r) :: st, M) x := g_pl (show decode cX6_refusalOfSplit 1 = .ok (.aload_n 1, 1) by decide +kernel) rfl
set_option maxRecDepth 20000 in
theorem kX6_refusalOfSplit_2 {C : QC} {x : QP} {M : QM} {L : QL} {rest : List CV} {a0 a1 : CV} {v : CV} {M1 : QM} (hC : C iX6_refusalOfEvent [a0, a1] M (some v) M1) (hw : (rest.map q_wd).sum ≤ 8) (k : Rr C mX6_refusalOfSplit (5, L, v :: rest, M1) x) : Rr C mX6_refusalOfSplit (2, L, a1 :: a0 :: rest, M) x := g_cs (ow := 6) (e := (1, 33, 0, [515, 516, 97])) (as := [a0, a1]) (show decode cX6_refusalOfSplit 2 = .ok (.invokestatic 29, 3) by decide +kernel) rfl rfl rfl rfl (Or.inl rfl) rfl hC hw k
set_option maxRecDepth 20000 in
theorem kX6_refusalOfSplit_5 {C : QC} {x : QP} {M : QM} {st : List CV} {L : QL} {l0 l1 l2 l3 l4 : Option CV} {z : Int} : Rr C mX6_refusalOfSplit (5, [l0, l1, l2, l3, l4], qi z :: st, M) x = Rr C mX6_refusalOfSplit (6, [l0, q_cut l1, some (qi z), l3, l4], st, M) x := g_pl (show decode cX6_refusalOfSplit 5 = .ok (.istore_n 2, 1) by decide +kernel) rfl
set_option maxRecDepth 20000 in
theorem kX6_refusalOfSplit_6 {C : QC} {x : QP} {M : QM} {st : List CV} {L : QL} {l0 l1 l2 l3 l4 : Option CV} {r : Option Nat} : Rr C mX6_refusalOfSplit (6, [some (.inr (.inr r)), l1, l2, l3, l4], st, M) x = Rr C mX6_refusalOfSplit (7, [some (.inr (.inr r)), l1, l2, l3, l4], .inr (.inr r) :: st, M) x := g_pl (show decode cX6_refusalOfSplit 6 = .ok (.aload_n 0, 1) by decide +kernel) rfl
set_option maxRecDepth 20000 in
theorem kX6_refusalOfSplit_7 {C : QC} {x : QP} {M : QM} {st : List CV} {L : QL} {l0 l1 l2 l3 l4 : Option CV} {r : Option Nat} : Rr C mX6_refusalOfSplit (7, [l0, some (.inr (.inr r)), l2, l3, l4], st, M) x = Rr C mX6_refusalOfSplit (8, [l0, some (.inr (.inr r)), l2, l3, l4], .inr (.inr r) :: st, M) x := g_pl (show decode cX6_refusalOfSplit 7 = .ok (.aload_n 1, 1) by decide +kernel) rfl
set_option maxRecDepth 20000 in
theorem kX6_refusalOfSplit_8 {C : QC} {x : QP} {M : QM} {st : List CV} {L : QL} {a : Nat} (hk : q_kd M a = (1, 3)) : Rr C mX6_refusalOfSplit (8, L, qr a :: st, M) x = Rr C mX6_refusalOfSplit (11, L, q_fv M a 1 :: st, M) x := g_getf (ow := 6) (e := (3, 1, RX3, 461, 0)) (show decode cX6_refusalOfSplit 8 = .ok (.getfield 15, 3) by decide +kernel) rfl hk
set_option maxRecDepth 20000 in
theorem kX6_refusalOfSplit_11 {C : QC} {x : QP} {M : QM} {L : QL} {rest : List CV} {a0 : CV} {v : CV} {M1 : QM} {b : Nat} (hb : q_kd M b = (1, 11)) (hC : C iX11_place [qr b, a0] M (some v) M1) (hw : (rest.map q_wd).sum ≤ 8) (k : Rr C mX6_refusalOfSplit (14, L, v :: rest, M1) x) : Rr C mX6_refusalOfSplit (11, L, a0 :: qr b :: rest, M) x := g_cv (ow := 6) (e := (0, 30, 11, [503, 504, 505, 83])) (as := [a0]) (show decode cX6_refusalOfSplit 11 = .ok (.invokevirtual 63, 3) by decide +kernel) rfl rfl rfl (Or.inl rfl) rfl hb hC hw k
set_option maxRecDepth 20000 in
theorem kX6_refusalOfSplit_14 {C : QC} {x : QP} {M : QM} {st : List CV} {L : QL} {l0 l1 l2 l3 l4 : Option CV} {z : Option Nat} : Rr C mX6_refusalOfSplit (14, [l0, l1, l2, l3, l4], .inr (.inr z) :: st, M) x = Rr C mX6_refusalOfSplit (15, [l0, l1, q_cut l2, some (.inr (.inr z)), l4], st, M) x := g_pl (show decode cX6_refusalOfSplit 14 = .ok (.astore_n 3, 1) by decide +kernel) rfl
set_option maxRecDepth 20000 in
theorem kX6_refusalOfSplit_15 {C : QC} {x : QP} {M : QM} {st : List CV} {L : QL} {l0 l1 l2 l3 l4 : Option CV} {z : Int} : Rr C mX6_refusalOfSplit (15, [l0, l1, some (qi z), l3, l4], st, M) x = Rr C mX6_refusalOfSplit (16, [l0, l1, some (qi z), l3, l4], qi z :: st, M) x := g_pl (show decode cX6_refusalOfSplit 15 = .ok (.iload_n 2, 1) by decide +kernel) rfl
set_option maxRecDepth 20000 in
theorem kX6_refusalOfSplit_16 {C : QC} {x : QP} {M : QM} {st : List CV} {L : QL} {a : Int} (ha1 : -2147483648 ≤ a) (ha2 : a < 2147483648) : Rr C mX6_refusalOfSplit (16, L, qi a :: st, M) x = (if a = 0 then Rr C mX6_refusalOfSplit (19, L, st, M) x else Rr C mX6_refusalOfSplit (23, L, st, M) x) := (g_if (show decode cX6_refusalOfSplit 16 = .ok (.ifCond .ne 7, 3) by decide +kernel) rfl ha1 ha2).trans (g_itn c_ne)
set_option maxRecDepth 20000 in
theorem kX6_refusalOfSplit_19 {C : QC} {x : QP} {M : QM} {st : List CV} {L : QL} {l0 l1 l2 l3 l4 : Option CV} {r : Option Nat} : Rr C mX6_refusalOfSplit (19, [l0, l1, l2, some (.inr (.inr r)), l4], st, M) x = Rr C mX6_refusalOfSplit (20, [l0, l1, l2, some (.inr (.inr r)), l4], .inr (.inr r) :: st, M) x := g_pl (show decode cX6_refusalOfSplit 19 = .ok (.aload_n 3, 1) by decide +kernel) rfl
set_option maxRecDepth 20000 in
theorem kX6_refusalOfSplit_20r {C : QC} {x : QP} {M : QM} {st : List CV} {L : QL} {a : Nat} : Rr C mX6_refusalOfSplit (20, L, qr a :: st, M) x = Rr C mX6_refusalOfSplit (25, L, st, M) x := g_pl (show decode cX6_refusalOfSplit 20 = .ok (.ifnonnull 5, 3) by decide +kernel) rfl
set_option maxRecDepth 20000 in
theorem kX6_refusalOfSplit_20n {C : QC} {x : QP} {M : QM} {st : List CV} {L : QL} : Rr C mX6_refusalOfSplit (20, L, qn :: st, M) x = Rr C mX6_refusalOfSplit (23, L, st, M) x := g_pl (show decode cX6_refusalOfSplit 20 = .ok (.ifnonnull 5, 3) by decide +kernel) rfl
set_option maxRecDepth 20000 in
theorem kX6_refusalOfSplit_23 {C : QC} {x : QP} {M : QM} {st : List CV} {L : QL} {l0 l1 l2 l3 l4 : Option CV} {z : Int} : Rr C mX6_refusalOfSplit (23, [l0, l1, some (qi z), l3, l4], st, M) x = Rr C mX6_refusalOfSplit (24, [l0, l1, some (qi z), l3, l4], qi z :: st, M) x := g_pl (show decode cX6_refusalOfSplit 23 = .ok (.iload_n 2, 1) by decide +kernel) rfl
set_option maxRecDepth 20000 in
theorem kX6_refusalOfSplit_24 {C : QC} {x : QP} {M : QM} {st : List CV} {L : QL} {z : Int} : Rr C mX6_refusalOfSplit (24, L, [qi z], M) x = x (some (qi z)) M := g_iret (show decode cX6_refusalOfSplit 24 = .ok (.ireturn, 1) by decide +kernel) rfl
set_option maxRecDepth 20000 in
theorem kX6_refusalOfSplit_25 {C : QC} {x : QP} {M : QM} {st : List CV} {L : QL} {l0 l1 l2 l3 l4 : Option CV} {r : Option Nat} : Rr C mX6_refusalOfSplit (25, [some (.inr (.inr r)), l1, l2, l3, l4], st, M) x = Rr C mX6_refusalOfSplit (26, [some (.inr (.inr r)), l1, l2, l3, l4], .inr (.inr r) :: st, M) x := g_pl (show decode cX6_refusalOfSplit 25 = .ok (.aload_n 0, 1) by decide +kernel) rfl
set_option maxRecDepth 20000 in
theorem kX6_refusalOfSplit_26 {C : QC} {x : QP} {M : QM} {st : List CV} {L : QL} {l0 l1 l2 l3 l4 : Option CV} {r : Option Nat} : Rr C mX6_refusalOfSplit (26, [l0, l1, l2, some (.inr (.inr r)), l4], st, M) x = Rr C mX6_refusalOfSplit (27, [l0, l1, l2, some (.inr (.inr r)), l4], .inr (.inr r) :: st, M) x := g_pl (show decode cX6_refusalOfSplit 26 = .ok (.aload_n 3, 1) by decide +kernel) rfl
set_option maxRecDepth 20000 in
theorem kX6_refusalOfSplit_27 {C : QC} {x : QP} {M : QM} {st : List CV} {L : QL} {a : Nat} (hk : q_kd M a = (1, 4)) : Rr C mX6_refusalOfSplit (27, L, qr a :: st, M) x = Rr C mX6_refusalOfSplit (30, L, q_fv M a 7 :: st, M) x := g_getf (ow := 6) (e := (4, 7, RX4, 289, 0)) (show decode cX6_refusalOfSplit 27 = .ok (.getfield 81, 3) by decide +kernel) rfl hk
set_option maxRecDepth 20000 in
theorem kX6_refusalOfSplit_30 {C : QC} {x : QP} {M : QM} {st : List CV} {L : QL} {l0 l1 l2 l3 l4 : Option CV} {r : Option Nat} : Rr C mX6_refusalOfSplit (30, [l0, some (.inr (.inr r)), l2, l3, l4], st, M) x = Rr C mX6_refusalOfSplit (31, [l0, some (.inr (.inr r)), l2, l3, l4], .inr (.inr r) :: st, M) x := g_pl (show decode cX6_refusalOfSplit 30 = .ok (.aload_n 1, 1) by decide +kernel) rfl
set_option maxRecDepth 20000 in
theorem kX6_refusalOfSplit_31 {C : QC} {x : QP} {M : QM} {st : List CV} {L : QL} {a : Nat} (hk : q_kd M a = (1, 3)) : Rr C mX6_refusalOfSplit (31, L, qr a :: st, M) x = Rr C mX6_refusalOfSplit (34, L, q_fv M a 3 :: st, M) x := g_getf (ow := 6) (e := (3, 3, RX3, 467, 0)) (show decode cX6_refusalOfSplit 31 = .ok (.getfield 41, 3) by decide +kernel) rfl hk
set_option maxRecDepth 20000 in
theorem kX6_refusalOfSplit_34 {C : QC} {x : QP} {M : QM} {L : QL} {rest : List CV} {a0 : CV} {v : CV} {M1 : QM} {b : Nat} (hb : q_kd M b = (1, 9)) (hC : C iX9_at [qr b, a0] M (some v) M1) (hw : (rest.map q_wd).sum ≤ 8) (k : Rr C mX6_refusalOfSplit (37, L, v :: rest, M1) x) : Rr C mX6_refusalOfSplit (34, L, a0 :: qr b :: rest, M) x := g_cv (ow := 6) (e := (0, 36, 9, [525, 526, 527, 87])) (as := [a0]) (show decode cX6_refusalOfSplit 34 = .ok (.invokevirtual 85, 3) by decide +kernel) rfl rfl rfl (Or.inl rfl) rfl hb hC hw k
set_option maxRecDepth 20000 in
theorem kX6_refusalOfSplit_37 {C : QC} {x : QP} {M : QM} {L : QL} {rest : List CV} {a0 : CV} {v : CV} {M1 : QM} {b : Nat} (hb : q_kd M b = (1, 11)) (hC : C iX11_place [qr b, a0] M (some v) M1) (hw : (rest.map q_wd).sum ≤ 8) (k : Rr C mX6_refusalOfSplit (40, L, v :: rest, M1) x) : Rr C mX6_refusalOfSplit (37, L, a0 :: qr b :: rest, M) x := g_cv (ow := 6) (e := (0, 30, 11, [503, 504, 505, 83])) (as := [a0]) (show decode cX6_refusalOfSplit 37 = .ok (.invokevirtual 63, 3) by decide +kernel) rfl rfl rfl (Or.inl rfl) rfl hb hC hw k
set_option maxRecDepth 20000 in
theorem kX6_refusalOfSplit_40 {C : QC} {x : QP} {M : QM} {st : List CV} {L : QL} {l0 l1 l2 l3 l4 : Option CV} {z : Option Nat} : Rr C mX6_refusalOfSplit (40, [l0, l1, l2, l3, l4], .inr (.inr z) :: st, M) x = Rr C mX6_refusalOfSplit (42, [l0, l1, l2, q_cut l3, some (.inr (.inr z))], st, M) x := g_pl (show decode cX6_refusalOfSplit 40 = .ok (.astore 4, 2) by decide +kernel) rfl
set_option maxRecDepth 20000 in
theorem kX6_refusalOfSplit_42 {C : QC} {x : QP} {M : QM} {st : List CV} {L : QL} {l0 l1 l2 l3 l4 : Option CV} {r : Option Nat} : Rr C mX6_refusalOfSplit (42, [l0, l1, l2, l3, some (.inr (.inr r))], st, M) x = Rr C mX6_refusalOfSplit (44, [l0, l1, l2, l3, some (.inr (.inr r))], .inr (.inr r) :: st, M) x := g_pl (show decode cX6_refusalOfSplit 42 = .ok (.aload 4, 2) by decide +kernel) rfl
set_option maxRecDepth 20000 in
theorem kX6_refusalOfSplit_44r {C : QC} {x : QP} {M : QM} {st : List CV} {L : QL} {a : Nat} : Rr C mX6_refusalOfSplit (44, L, qr a :: st, M) x = Rr C mX6_refusalOfSplit (47, L, st, M) x := g_pl (show decode cX6_refusalOfSplit 44 = .ok (.ifnull 17, 3) by decide +kernel) rfl
set_option maxRecDepth 20000 in
theorem kX6_refusalOfSplit_44n {C : QC} {x : QP} {M : QM} {st : List CV} {L : QL} : Rr C mX6_refusalOfSplit (44, L, qn :: st, M) x = Rr C mX6_refusalOfSplit (61, L, st, M) x := g_pl (show decode cX6_refusalOfSplit 44 = .ok (.ifnull 17, 3) by decide +kernel) rfl
set_option maxRecDepth 20000 in
theorem kX6_refusalOfSplit_47 {C : QC} {x : QP} {M : QM} {st : List CV} {L : QL} {l0 l1 l2 l3 l4 : Option CV} {r : Option Nat} : Rr C mX6_refusalOfSplit (47, [l0, l1, l2, l3, some (.inr (.inr r))], st, M) x = Rr C mX6_refusalOfSplit (49, [l0, l1, l2, l3, some (.inr (.inr r))], .inr (.inr r) :: st, M) x := g_pl (show decode cX6_refusalOfSplit 47 = .ok (.aload 4, 2) by decide +kernel) rfl
set_option maxRecDepth 20000 in
theorem kX6_refusalOfSplit_49 {C : QC} {x : QP} {M : QM} {st : List CV} {L : QL} {l0 l1 l2 l3 l4 : Option CV} {r : Option Nat} : Rr C mX6_refusalOfSplit (49, [l0, some (.inr (.inr r)), l2, l3, l4], st, M) x = Rr C mX6_refusalOfSplit (50, [l0, some (.inr (.inr r)), l2, l3, l4], .inr (.inr r) :: st, M) x := g_pl (show decode cX6_refusalOfSplit 49 = .ok (.aload_n 1, 1) by decide +kernel) rfl
set_option maxRecDepth 20000 in
theorem kX6_refusalOfSplit_50 {C : QC} {x : QP} {M : QM} {st : List CV} {L : QL} {a : Nat} (hk : q_kd M a = (1, 3)) : Rr C mX6_refusalOfSplit (50, L, qr a :: st, M) x = Rr C mX6_refusalOfSplit (53, L, q_fv M a 3 :: st, M) x := g_getf (ow := 6) (e := (3, 3, RX3, 467, 0)) (show decode cX6_refusalOfSplit 50 = .ok (.getfield 41, 3) by decide +kernel) rfl hk
set_option maxRecDepth 20000 in
theorem kX6_refusalOfSplit_53 {C : QC} {x : QP} {M : QM} {L : QL} {rest : List CV} {a0 : CV} {v : CV} {M1 : QM} {b : Nat} (hb : q_kd M b = (1, 4)) (hC : C iX4_standsFrom [qr b, a0] M (some v) M1) (hw : (rest.map q_wd).sum ≤ 8) (k : Rr C mX6_refusalOfSplit (56, L, v :: rest, M1) x) : Rr C mX6_refusalOfSplit (53, L, a0 :: qr b :: rest, M) x := g_cv (ow := 6) (e := (0, 31, 4, [507, 508, 509, 85])) (as := [a0]) (show decode cX6_refusalOfSplit 53 = .ok (.invokevirtual 72, 3) by decide +kernel) rfl rfl rfl (Or.inl rfl) rfl hb hC hw k
set_option maxRecDepth 20000 in
theorem kX6_refusalOfSplit_56 {C : QC} {x : QP} {M : QM} {st : List CV} {L : QL} {a : Int} (ha1 : -2147483648 ≤ a) (ha2 : a < 2147483648) : Rr C mX6_refusalOfSplit (56, L, qi a :: st, M) x = (if a = 0 then Rr C mX6_refusalOfSplit (59, L, st, M) x else Rr C mX6_refusalOfSplit (61, L, st, M) x) := (g_if (show decode cX6_refusalOfSplit 56 = .ok (.ifCond .ne 5, 3) by decide +kernel) rfl ha1 ha2).trans (g_itn c_ne)
set_option maxRecDepth 20000 in
theorem kX6_refusalOfSplit_59 {C : QC} {x : QP} {M : QM} {st : List CV} {L : QL} : Rr C mX6_refusalOfSplit (59, L, st, M) x = Rr C mX6_refusalOfSplit (60, L, qi 5 :: st, M) x := g_pl (show decode cX6_refusalOfSplit 59 = .ok (.iconst 5, 1) by decide +kernel) rfl
set_option maxRecDepth 20000 in
theorem kX6_refusalOfSplit_60 {C : QC} {x : QP} {M : QM} {st : List CV} {L : QL} {z : Int} : Rr C mX6_refusalOfSplit (60, L, [qi z], M) x = x (some (qi z)) M := g_iret (show decode cX6_refusalOfSplit 60 = .ok (.ireturn, 1) by decide +kernel) rfl
set_option maxRecDepth 20000 in
theorem kX6_refusalOfSplit_61 {C : QC} {x : QP} {M : QM} {st : List CV} {L : QL} {l0 l1 l2 l3 l4 : Option CV} {r : Option Nat} : Rr C mX6_refusalOfSplit (61, [some (.inr (.inr r)), l1, l2, l3, l4], st, M) x = Rr C mX6_refusalOfSplit (62, [some (.inr (.inr r)), l1, l2, l3, l4], .inr (.inr r) :: st, M) x := g_pl (show decode cX6_refusalOfSplit 61 = .ok (.aload_n 0, 1) by decide +kernel) rfl
set_option maxRecDepth 20000 in
theorem kX6_refusalOfSplit_62 {C : QC} {x : QP} {M : QM} {L : QL} {rest : List CV} {v : CV} {M1 : QM} {b : Nat} (hb : q_kd M b = (1, 11)) (hC : C iX11_isFull [qr b] M (some v) M1) (hw : (rest.map q_wd).sum ≤ 8) (k : Rr C mX6_refusalOfSplit (65, L, v :: rest, M1) x) : Rr C mX6_refusalOfSplit (62, L, qr b :: rest, M) x := g_cv (ow := 6) (e := (0, 28, 11, [496, 497, 498, 83])) (as := []) (show decode cX6_refusalOfSplit 62 = .ok (.invokevirtual 56, 3) by decide +kernel) rfl rfl rfl (Or.inl rfl) rfl hb hC hw k
set_option maxRecDepth 20000 in
theorem kX6_refusalOfSplit_65 {C : QC} {x : QP} {M : QM} {st : List CV} {L : QL} {a : Int} (ha1 : -2147483648 ≤ a) (ha2 : a < 2147483648) : Rr C mX6_refusalOfSplit (65, L, qi a :: st, M) x = (if a = 0 then Rr C mX6_refusalOfSplit (73, L, st, M) x else Rr C mX6_refusalOfSplit (68, L, st, M) x) := (g_if (show decode cX6_refusalOfSplit 65 = .ok (.ifCond .eq 8, 3) by decide +kernel) rfl ha1 ha2).trans (g_ite c_eq)
set_option maxRecDepth 20000 in
theorem kX6_refusalOfSplit_68 {C : QC} {x : QP} {M : QM} {st : List CV} {L : QL} : Rr C mX6_refusalOfSplit (68, L, st, M) x = Rr C mX6_refusalOfSplit (70, L, qi 6 :: st, M) x := g_pl (show decode cX6_refusalOfSplit 68 = .ok (.bipush 6, 2) by decide +kernel) rfl
set_option maxRecDepth 20000 in
theorem kX6_refusalOfSplit_70 {C : QC} {x : QP} {M : QM} {st : List CV} {L : QL} : Rr C mX6_refusalOfSplit (70, L, st, M) x = Rr C mX6_refusalOfSplit (74, L, st, M) x := g_pl (show decode cX6_refusalOfSplit 70 = .ok (.goto 4, 3) by decide +kernel) rfl
set_option maxRecDepth 20000 in
theorem kX6_refusalOfSplit_73 {C : QC} {x : QP} {M : QM} {st : List CV} {L : QL} : Rr C mX6_refusalOfSplit (73, L, st, M) x = Rr C mX6_refusalOfSplit (74, L, qi 0 :: st, M) x := g_pl (show decode cX6_refusalOfSplit 73 = .ok (.iconst 0, 1) by decide +kernel) rfl
set_option maxRecDepth 20000 in
theorem kX6_refusalOfSplit_74 {C : QC} {x : QP} {M : QM} {st : List CV} {L : QL} {z : Int} : Rr C mX6_refusalOfSplit (74, L, [qi z], M) x = x (some (qi z)) M := g_iret (show decode cX6_refusalOfSplit 74 = .ok (.ireturn, 1) by decide +kernel) rfl
set_option maxRecDepth 20000 in
theorem eX6_refusalOfSplit {d : Nat} {M : QM} {x : QP} {v0 : Option Nat} {v1 : Option Nat} : q_T (d + 1) iX6_refusalOfSplit [.inr (.inr v0), .inr (.inr v1)] M x = Rr (q_C d) mX6_refusalOfSplit (0, [some (.inr (.inr v0)), some (.inr (.inr v1)), none, none, none], [], M) x := g_entryT (e := _) rfl (Nat.le_of_ble_eq_true rfl) rfl rfl
def mX6_refusalOfMerge : QI := (6, cX6_refusalOfMerge, false, some .int)
set_option maxRecDepth 20000 in
theorem kX6_refusalOfMerge_0 {C : QC} {x : QP} {M : QM} {st : List CV} {L : QL} {l0 l1 l2 l3 l4 : Option CV} {r : Option Nat} : Rr C mX6_refusalOfMerge (0, [some (.inr (.inr r)), l1, l2, l3, l4], st, M) x = Rr C mX6_refusalOfMerge (1, [some (.inr (.inr r)), l1, l2, l3, l4], .inr (.inr r) :: st, M) x := g_pl (show decode cX6_refusalOfMerge 0 = .ok (.aload_n 0, 1) by decide +kernel) rfl
set_option maxRecDepth 20000 in
theorem kX6_refusalOfMerge_1 {C : QC} {x : QP} {M : QM} {st : List CV} {L : QL} {l0 l1 l2 l3 l4 : Option CV} {r : Option Nat} : Rr C mX6_refusalOfMerge (1, [l0, some (.inr (.inr r)), l2, l3, l4], st, M) x = Rr C mX6_refusalOfMerge (2, [l0, some (.inr (.inr r)), l2, l3, l4], .inr (.inr r) :: st, M) x := g_pl (show decode cX6_refusalOfMerge 1 = .ok (.aload_n 1, 1) by decide +kernel) rfl
set_option maxRecDepth 20000 in
theorem kX6_refusalOfMerge_2 {C : QC} {x : QP} {M : QM} {st : List CV} {L : QL} {a : Nat} (hk : q_kd M a = (1, 3)) : Rr C mX6_refusalOfMerge (2, L, qr a :: st, M) x = Rr C mX6_refusalOfMerge (5, L, q_fv M a 1 :: st, M) x := g_getf (ow := 6) (e := (3, 1, RX3, 461, 0)) (show decode cX6_refusalOfMerge 2 = .ok (.getfield 15, 3) by decide +kernel) rfl hk
set_option maxRecDepth 20000 in
theorem kX6_refusalOfMerge_5 {C : QC} {x : QP} {M : QM} {L : QL} {rest : List CV} {a0 : CV} {v : CV} {M1 : QM} {b : Nat} (hb : q_kd M b = (1, 11)) (hC : C iX11_place [qr b, a0] M (some v) M1) (hw : (rest.map q_wd).sum ≤ 8) (k : Rr C mX6_refusalOfMerge (8, L, v :: rest, M1) x) : Rr C mX6_refusalOfMerge (5, L, a0 :: qr b :: rest, M) x := g_cv (ow := 6) (e := (0, 30, 11, [503, 504, 505, 83])) (as := [a0]) (show decode cX6_refusalOfMerge 5 = .ok (.invokevirtual 63, 3) by decide +kernel) rfl rfl rfl (Or.inl rfl) rfl hb hC hw k
set_option maxRecDepth 20000 in
theorem kX6_refusalOfMerge_8 {C : QC} {x : QP} {M : QM} {st : List CV} {L : QL} {l0 l1 l2 l3 l4 : Option CV} {z : Option Nat} : Rr C mX6_refusalOfMerge (8, [l0, l1, l2, l3, l4], .inr (.inr z) :: st, M) x = Rr C mX6_refusalOfMerge (9, [l0, q_cut l1, some (.inr (.inr z)), l3, l4], st, M) x := g_pl (show decode cX6_refusalOfMerge 8 = .ok (.astore_n 2, 1) by decide +kernel) rfl
set_option maxRecDepth 20000 in
theorem kX6_refusalOfMerge_9 {C : QC} {x : QP} {M : QM} {st : List CV} {L : QL} {l0 l1 l2 l3 l4 : Option CV} {r : Option Nat} : Rr C mX6_refusalOfMerge (9, [some (.inr (.inr r)), l1, l2, l3, l4], st, M) x = Rr C mX6_refusalOfMerge (10, [some (.inr (.inr r)), l1, l2, l3, l4], .inr (.inr r) :: st, M) x := g_pl (show decode cX6_refusalOfMerge 9 = .ok (.aload_n 0, 1) by decide +kernel) rfl
set_option maxRecDepth 20000 in
theorem kX6_refusalOfMerge_10 {C : QC} {x : QP} {M : QM} {st : List CV} {L : QL} {l0 l1 l2 l3 l4 : Option CV} {r : Option Nat} : Rr C mX6_refusalOfMerge (10, [l0, some (.inr (.inr r)), l2, l3, l4], st, M) x = Rr C mX6_refusalOfMerge (11, [l0, some (.inr (.inr r)), l2, l3, l4], .inr (.inr r) :: st, M) x := g_pl (show decode cX6_refusalOfMerge 10 = .ok (.aload_n 1, 1) by decide +kernel) rfl
set_option maxRecDepth 20000 in
theorem kX6_refusalOfMerge_11 {C : QC} {x : QP} {M : QM} {st : List CV} {L : QL} {a : Nat} (hk : q_kd M a = (1, 3)) : Rr C mX6_refusalOfMerge (11, L, qr a :: st, M) x = Rr C mX6_refusalOfMerge (14, L, q_fv M a 2 :: st, M) x := g_getf (ow := 6) (e := (3, 2, RX3, 464, 0)) (show decode cX6_refusalOfMerge 11 = .ok (.getfield 60, 3) by decide +kernel) rfl hk
set_option maxRecDepth 20000 in
theorem kX6_refusalOfMerge_14 {C : QC} {x : QP} {M : QM} {L : QL} {rest : List CV} {a0 : CV} {v : CV} {M1 : QM} {b : Nat} (hb : q_kd M b = (1, 11)) (hC : C iX11_place [qr b, a0] M (some v) M1) (hw : (rest.map q_wd).sum ≤ 8) (k : Rr C mX6_refusalOfMerge (17, L, v :: rest, M1) x) : Rr C mX6_refusalOfMerge (14, L, a0 :: qr b :: rest, M) x := g_cv (ow := 6) (e := (0, 30, 11, [503, 504, 505, 83])) (as := [a0]) (show decode cX6_refusalOfMerge 14 = .ok (.invokevirtual 63, 3) by decide +kernel) rfl rfl rfl (Or.inl rfl) rfl hb hC hw k
set_option maxRecDepth 20000 in
theorem kX6_refusalOfMerge_17 {C : QC} {x : QP} {M : QM} {st : List CV} {L : QL} {l0 l1 l2 l3 l4 : Option CV} {z : Option Nat} : Rr C mX6_refusalOfMerge (17, [l0, l1, l2, l3, l4], .inr (.inr z) :: st, M) x = Rr C mX6_refusalOfMerge (18, [l0, l1, q_cut l2, some (.inr (.inr z)), l4], st, M) x := g_pl (show decode cX6_refusalOfMerge 17 = .ok (.astore_n 3, 1) by decide +kernel) rfl
set_option maxRecDepth 20000 in
theorem kX6_refusalOfMerge_18 {C : QC} {x : QP} {M : QM} {st : List CV} {L : QL} {l0 l1 l2 l3 l4 : Option CV} {r : Option Nat} : Rr C mX6_refusalOfMerge (18, [l0, l1, some (.inr (.inr r)), l3, l4], st, M) x = Rr C mX6_refusalOfMerge (19, [l0, l1, some (.inr (.inr r)), l3, l4], .inr (.inr r) :: st, M) x := g_pl (show decode cX6_refusalOfMerge 18 = .ok (.aload_n 2, 1) by decide +kernel) rfl
set_option maxRecDepth 20000 in
theorem kX6_refusalOfMerge_19r {C : QC} {x : QP} {M : QM} {st : List CV} {L : QL} {a : Nat} : Rr C mX6_refusalOfMerge (19, L, qr a :: st, M) x = Rr C mX6_refusalOfMerge (22, L, st, M) x := g_pl (show decode cX6_refusalOfMerge 19 = .ok (.ifnull 7, 3) by decide +kernel) rfl
set_option maxRecDepth 20000 in
theorem kX6_refusalOfMerge_19n {C : QC} {x : QP} {M : QM} {st : List CV} {L : QL} : Rr C mX6_refusalOfMerge (19, L, qn :: st, M) x = Rr C mX6_refusalOfMerge (26, L, st, M) x := g_pl (show decode cX6_refusalOfMerge 19 = .ok (.ifnull 7, 3) by decide +kernel) rfl
set_option maxRecDepth 20000 in
theorem kX6_refusalOfMerge_22 {C : QC} {x : QP} {M : QM} {st : List CV} {L : QL} {l0 l1 l2 l3 l4 : Option CV} {r : Option Nat} : Rr C mX6_refusalOfMerge (22, [l0, l1, l2, some (.inr (.inr r)), l4], st, M) x = Rr C mX6_refusalOfMerge (23, [l0, l1, l2, some (.inr (.inr r)), l4], .inr (.inr r) :: st, M) x := g_pl (show decode cX6_refusalOfMerge 22 = .ok (.aload_n 3, 1) by decide +kernel) rfl
set_option maxRecDepth 20000 in
theorem kX6_refusalOfMerge_23r {C : QC} {x : QP} {M : QM} {st : List CV} {L : QL} {a : Nat} : Rr C mX6_refusalOfMerge (23, L, qr a :: st, M) x = Rr C mX6_refusalOfMerge (28, L, st, M) x := g_pl (show decode cX6_refusalOfMerge 23 = .ok (.ifnonnull 5, 3) by decide +kernel) rfl
set_option maxRecDepth 20000 in
theorem kX6_refusalOfMerge_23n {C : QC} {x : QP} {M : QM} {st : List CV} {L : QL} : Rr C mX6_refusalOfMerge (23, L, qn :: st, M) x = Rr C mX6_refusalOfMerge (26, L, st, M) x := g_pl (show decode cX6_refusalOfMerge 23 = .ok (.ifnonnull 5, 3) by decide +kernel) rfl
set_option maxRecDepth 20000 in
theorem kX6_refusalOfMerge_26 {C : QC} {x : QP} {M : QM} {st : List CV} {L : QL} : Rr C mX6_refusalOfMerge (26, L, st, M) x = Rr C mX6_refusalOfMerge (27, L, qi 1 :: st, M) x := g_pl (show decode cX6_refusalOfMerge 26 = .ok (.iconst 1, 1) by decide +kernel) rfl
set_option maxRecDepth 20000 in
theorem kX6_refusalOfMerge_27 {C : QC} {x : QP} {M : QM} {st : List CV} {L : QL} {z : Int} : Rr C mX6_refusalOfMerge (27, L, [qi z], M) x = x (some (qi z)) M := g_iret (show decode cX6_refusalOfMerge 27 = .ok (.ireturn, 1) by decide +kernel) rfl
set_option maxRecDepth 20000 in
theorem kX6_refusalOfMerge_28 {C : QC} {x : QP} {M : QM} {st : List CV} {L : QL} {l0 l1 l2 l3 l4 : Option CV} {r : Option Nat} : Rr C mX6_refusalOfMerge (28, [l0, some (.inr (.inr r)), l2, l3, l4], st, M) x = Rr C mX6_refusalOfMerge (29, [l0, some (.inr (.inr r)), l2, l3, l4], .inr (.inr r) :: st, M) x := g_pl (show decode cX6_refusalOfMerge 28 = .ok (.aload_n 1, 1) by decide +kernel) rfl
set_option maxRecDepth 20000 in
theorem kX6_refusalOfMerge_29 {C : QC} {x : QP} {M : QM} {st : List CV} {L : QL} {a : Nat} (hk : q_kd M a = (1, 3)) : Rr C mX6_refusalOfMerge (29, L, qr a :: st, M) x = Rr C mX6_refusalOfMerge (32, L, q_fv M a 1 :: st, M) x := g_getf (ow := 6) (e := (3, 1, RX3, 461, 0)) (show decode cX6_refusalOfMerge 29 = .ok (.getfield 15, 3) by decide +kernel) rfl hk
set_option maxRecDepth 20000 in
theorem kX6_refusalOfMerge_32 {C : QC} {x : QP} {M : QM} {st : List CV} {L : QL} {l0 l1 l2 l3 l4 : Option CV} {r : Option Nat} : Rr C mX6_refusalOfMerge (32, [l0, some (.inr (.inr r)), l2, l3, l4], st, M) x = Rr C mX6_refusalOfMerge (33, [l0, some (.inr (.inr r)), l2, l3, l4], .inr (.inr r) :: st, M) x := g_pl (show decode cX6_refusalOfMerge 32 = .ok (.aload_n 1, 1) by decide +kernel) rfl
set_option maxRecDepth 20000 in
theorem kX6_refusalOfMerge_33 {C : QC} {x : QP} {M : QM} {st : List CV} {L : QL} {a : Nat} (hk : q_kd M a = (1, 3)) : Rr C mX6_refusalOfMerge (33, L, qr a :: st, M) x = Rr C mX6_refusalOfMerge (36, L, q_fv M a 2 :: st, M) x := g_getf (ow := 6) (e := (3, 2, RX3, 464, 0)) (show decode cX6_refusalOfMerge 33 = .ok (.getfield 60, 3) by decide +kernel) rfl hk
set_option maxRecDepth 20000 in
theorem kX6_refusalOfMerge_36 {C : QC} {x : QP} {M : QM} {st : List CV} {L : QL} {a b : Int} (ha1 : -2147483648 ≤ a) (ha2 : a < 2147483648) (hb1 : -2147483648 ≤ b) (hb2 : b < 2147483648) : Rr C mX6_refusalOfMerge (36, L, qi b :: qi a :: st, M) x = (if a = b then Rr C mX6_refusalOfMerge (39, L, st, M) x else Rr C mX6_refusalOfMerge (42, L, st, M) x) := (g_icmp (show decode cX6_refusalOfMerge 36 = .ok (.if_icmp .ne 6, 3) by decide +kernel) rfl ha1 ha2 hb1 hb2).trans (g_itn c_ne)
set_option maxRecDepth 20000 in
theorem kX6_refusalOfMerge_39 {C : QC} {x : QP} {M : QM} {st : List CV} {L : QL} : Rr C mX6_refusalOfMerge (39, L, st, M) x = Rr C mX6_refusalOfMerge (41, L, qi 8 :: st, M) x := g_pl (show decode cX6_refusalOfMerge 39 = .ok (.bipush 8, 2) by decide +kernel) rfl
set_option maxRecDepth 20000 in
theorem kX6_refusalOfMerge_41 {C : QC} {x : QP} {M : QM} {st : List CV} {L : QL} {z : Int} : Rr C mX6_refusalOfMerge (41, L, [qi z], M) x = x (some (qi z)) M := g_iret (show decode cX6_refusalOfMerge 41 = .ok (.ireturn, 1) by decide +kernel) rfl
set_option maxRecDepth 20000 in
theorem kX6_refusalOfMerge_42 {C : QC} {x : QP} {M : QM} {st : List CV} {L : QL} {l0 l1 l2 l3 l4 : Option CV} {r : Option Nat} : Rr C mX6_refusalOfMerge (42, [some (.inr (.inr r)), l1, l2, l3, l4], st, M) x = Rr C mX6_refusalOfMerge (43, [some (.inr (.inr r)), l1, l2, l3, l4], .inr (.inr r) :: st, M) x := g_pl (show decode cX6_refusalOfMerge 42 = .ok (.aload_n 0, 1) by decide +kernel) rfl
set_option maxRecDepth 20000 in
theorem kX6_refusalOfMerge_43 {C : QC} {x : QP} {M : QM} {st : List CV} {L : QL} {l0 l1 l2 l3 l4 : Option CV} {r : Option Nat} : Rr C mX6_refusalOfMerge (43, [l0, some (.inr (.inr r)), l2, l3, l4], st, M) x = Rr C mX6_refusalOfMerge (44, [l0, some (.inr (.inr r)), l2, l3, l4], .inr (.inr r) :: st, M) x := g_pl (show decode cX6_refusalOfMerge 43 = .ok (.aload_n 1, 1) by decide +kernel) rfl
set_option maxRecDepth 20000 in
theorem kX6_refusalOfMerge_44 {C : QC} {x : QP} {M : QM} {L : QL} {rest : List CV} {a0 a1 : CV} {v : CV} {M1 : QM} (hC : C iX6_refusalOfEvent [a0, a1] M (some v) M1) (hw : (rest.map q_wd).sum ≤ 8) (k : Rr C mX6_refusalOfMerge (47, L, v :: rest, M1) x) : Rr C mX6_refusalOfMerge (44, L, a1 :: a0 :: rest, M) x := g_cs (ow := 6) (e := (1, 33, 0, [515, 516, 97])) (as := [a0, a1]) (show decode cX6_refusalOfMerge 44 = .ok (.invokestatic 29, 3) by decide +kernel) rfl rfl rfl rfl (Or.inl rfl) rfl hC hw k
set_option maxRecDepth 20000 in
theorem kX6_refusalOfMerge_47 {C : QC} {x : QP} {M : QM} {st : List CV} {L : QL} {l0 l1 l2 l3 l4 : Option CV} {z : Int} : Rr C mX6_refusalOfMerge (47, [l0, l1, l2, l3, l4], qi z :: st, M) x = Rr C mX6_refusalOfMerge (49, [l0, l1, l2, q_cut l3, some (qi z)], st, M) x := g_pl (show decode cX6_refusalOfMerge 47 = .ok (.istore 4, 2) by decide +kernel) rfl
set_option maxRecDepth 20000 in
theorem kX6_refusalOfMerge_49 {C : QC} {x : QP} {M : QM} {st : List CV} {L : QL} {l0 l1 l2 l3 l4 : Option CV} {z : Int} : Rr C mX6_refusalOfMerge (49, [l0, l1, l2, l3, some (qi z)], st, M) x = Rr C mX6_refusalOfMerge (51, [l0, l1, l2, l3, some (qi z)], qi z :: st, M) x := g_pl (show decode cX6_refusalOfMerge 49 = .ok (.iload 4, 2) by decide +kernel) rfl
set_option maxRecDepth 20000 in
theorem kX6_refusalOfMerge_51 {C : QC} {x : QP} {M : QM} {st : List CV} {L : QL} {a : Int} (ha1 : -2147483648 ≤ a) (ha2 : a < 2147483648) : Rr C mX6_refusalOfMerge (51, L, qi a :: st, M) x = (if a = 0 then Rr C mX6_refusalOfMerge (57, L, st, M) x else Rr C mX6_refusalOfMerge (54, L, st, M) x) := (g_if (show decode cX6_refusalOfMerge 51 = .ok (.ifCond .eq 6, 3) by decide +kernel) rfl ha1 ha2).trans (g_ite c_eq)
set_option maxRecDepth 20000 in
theorem kX6_refusalOfMerge_54 {C : QC} {x : QP} {M : QM} {st : List CV} {L : QL} {l0 l1 l2 l3 l4 : Option CV} {z : Int} : Rr C mX6_refusalOfMerge (54, [l0, l1, l2, l3, some (qi z)], st, M) x = Rr C mX6_refusalOfMerge (56, [l0, l1, l2, l3, some (qi z)], qi z :: st, M) x := g_pl (show decode cX6_refusalOfMerge 54 = .ok (.iload 4, 2) by decide +kernel) rfl
set_option maxRecDepth 20000 in
theorem kX6_refusalOfMerge_56 {C : QC} {x : QP} {M : QM} {st : List CV} {L : QL} {z : Int} : Rr C mX6_refusalOfMerge (56, L, [qi z], M) x = x (some (qi z)) M := g_iret (show decode cX6_refusalOfMerge 56 = .ok (.ireturn, 1) by decide +kernel) rfl
set_option maxRecDepth 20000 in
theorem kX6_refusalOfMerge_57 {C : QC} {x : QP} {M : QM} {st : List CV} {L : QL} {l0 l1 l2 l3 l4 : Option CV} {r : Option Nat} : Rr C mX6_refusalOfMerge (57, [l0, l1, some (.inr (.inr r)), l3, l4], st, M) x = Rr C mX6_refusalOfMerge (58, [l0, l1, some (.inr (.inr r)), l3, l4], .inr (.inr r) :: st, M) x := g_pl (show decode cX6_refusalOfMerge 57 = .ok (.aload_n 2, 1) by decide +kernel) rfl
set_option maxRecDepth 20000 in
theorem kX6_refusalOfMerge_58 {C : QC} {x : QP} {M : QM} {st : List CV} {L : QL} {a : Nat} (hk : q_kd M a = (1, 4)) : Rr C mX6_refusalOfMerge (58, L, qr a :: st, M) x = Rr C mX6_refusalOfMerge (61, L, q_fv M a 0 :: st, M) x := g_getf (ow := 6) (e := (4, 0, RX4, 268, 0)) (show decode cX6_refusalOfMerge 58 = .ok (.getfield 67, 3) by decide +kernel) rfl hk
set_option maxRecDepth 20000 in
theorem kX6_refusalOfMerge_61 {C : QC} {x : QP} {M : QM} {st : List CV} {L : QL} {l0 l1 l2 l3 l4 : Option CV} {r : Option Nat} : Rr C mX6_refusalOfMerge (61, [l0, l1, l2, some (.inr (.inr r)), l4], st, M) x = Rr C mX6_refusalOfMerge (62, [l0, l1, l2, some (.inr (.inr r)), l4], .inr (.inr r) :: st, M) x := g_pl (show decode cX6_refusalOfMerge 61 = .ok (.aload_n 3, 1) by decide +kernel) rfl
set_option maxRecDepth 20000 in
theorem kX6_refusalOfMerge_62 {C : QC} {x : QP} {M : QM} {st : List CV} {L : QL} {a : Nat} (hk : q_kd M a = (1, 4)) : Rr C mX6_refusalOfMerge (62, L, qr a :: st, M) x = Rr C mX6_refusalOfMerge (65, L, q_fv M a 0 :: st, M) x := g_getf (ow := 6) (e := (4, 0, RX4, 268, 0)) (show decode cX6_refusalOfMerge 62 = .ok (.getfield 67, 3) by decide +kernel) rfl hk
set_option maxRecDepth 20000 in
theorem kX6_refusalOfMerge_65 {C : QC} {x : QP} {M : QM} {st : List CV} {L : QL} {a b : Int} (ha1 : -2147483648 ≤ a) (ha2 : a < 2147483648) (hb1 : -2147483648 ≤ b) (hb2 : b < 2147483648) : Rr C mX6_refusalOfMerge (65, L, qi b :: qi a :: st, M) x = (if a = b then Rr C mX6_refusalOfMerge (70, L, st, M) x else Rr C mX6_refusalOfMerge (68, L, st, M) x) := (g_icmp (show decode cX6_refusalOfMerge 65 = .ok (.if_icmp .eq 5, 3) by decide +kernel) rfl ha1 ha2 hb1 hb2).trans (g_ite c_eq)
set_option maxRecDepth 20000 in
theorem kX6_refusalOfMerge_68 {C : QC} {x : QP} {M : QM} {st : List CV} {L : QL} : Rr C mX6_refusalOfMerge (68, L, st, M) x = Rr C mX6_refusalOfMerge (69, L, qi 4 :: st, M) x := g_pl (show decode cX6_refusalOfMerge 68 = .ok (.iconst 4, 1) by decide +kernel) rfl
set_option maxRecDepth 20000 in
theorem kX6_refusalOfMerge_69 {C : QC} {x : QP} {M : QM} {st : List CV} {L : QL} {z : Int} : Rr C mX6_refusalOfMerge (69, L, [qi z], M) x = x (some (qi z)) M := g_iret (show decode cX6_refusalOfMerge 69 = .ok (.ireturn, 1) by decide +kernel) rfl
set_option maxRecDepth 20000 in
theorem kX6_refusalOfMerge_70 {C : QC} {x : QP} {M : QM} {st : List CV} {L : QL} {l0 l1 l2 l3 l4 : Option CV} {r : Option Nat} : Rr C mX6_refusalOfMerge (70, [l0, l1, l2, some (.inr (.inr r)), l4], st, M) x = Rr C mX6_refusalOfMerge (71, [l0, l1, l2, some (.inr (.inr r)), l4], .inr (.inr r) :: st, M) x := g_pl (show decode cX6_refusalOfMerge 70 = .ok (.aload_n 3, 1) by decide +kernel) rfl
set_option maxRecDepth 20000 in
theorem kX6_refusalOfMerge_71 {C : QC} {x : QP} {M : QM} {st : List CV} {L : QL} {l0 l1 l2 l3 l4 : Option CV} {r : Option Nat} : Rr C mX6_refusalOfMerge (71, [l0, some (.inr (.inr r)), l2, l3, l4], st, M) x = Rr C mX6_refusalOfMerge (72, [l0, some (.inr (.inr r)), l2, l3, l4], .inr (.inr r) :: st, M) x := g_pl (show decode cX6_refusalOfMerge 71 = .ok (.aload_n 1, 1) by decide +kernel) rfl
set_option maxRecDepth 20000 in
theorem kX6_refusalOfMerge_72 {C : QC} {x : QP} {M : QM} {st : List CV} {L : QL} {a : Nat} (hk : q_kd M a = (1, 3)) : Rr C mX6_refusalOfMerge (72, L, qr a :: st, M) x = Rr C mX6_refusalOfMerge (75, L, q_fv M a 3 :: st, M) x := g_getf (ow := 6) (e := (3, 3, RX3, 467, 0)) (show decode cX6_refusalOfMerge 72 = .ok (.getfield 41, 3) by decide +kernel) rfl hk
set_option maxRecDepth 20000 in
theorem kX6_refusalOfMerge_75 {C : QC} {x : QP} {M : QM} {L : QL} {rest : List CV} {a0 : CV} {v : CV} {M1 : QM} {b : Nat} (hb : q_kd M b = (1, 4)) (hC : C iX4_standsFrom [qr b, a0] M (some v) M1) (hw : (rest.map q_wd).sum ≤ 8) (k : Rr C mX6_refusalOfMerge (78, L, v :: rest, M1) x) : Rr C mX6_refusalOfMerge (75, L, a0 :: qr b :: rest, M) x := g_cv (ow := 6) (e := (0, 31, 4, [507, 508, 509, 85])) (as := [a0]) (show decode cX6_refusalOfMerge 75 = .ok (.invokevirtual 72, 3) by decide +kernel) rfl rfl rfl (Or.inl rfl) rfl hb hC hw k
set_option maxRecDepth 20000 in
theorem kX6_refusalOfMerge_78 {C : QC} {x : QP} {M : QM} {st : List CV} {L : QL} {a : Int} (ha1 : -2147483648 ≤ a) (ha2 : a < 2147483648) : Rr C mX6_refusalOfMerge (78, L, qi a :: st, M) x = (if a = 0 then Rr C mX6_refusalOfMerge (85, L, st, M) x else Rr C mX6_refusalOfMerge (81, L, st, M) x) := (g_if (show decode cX6_refusalOfMerge 78 = .ok (.ifCond .eq 7, 3) by decide +kernel) rfl ha1 ha2).trans (g_ite c_eq)
set_option maxRecDepth 20000 in
theorem kX6_refusalOfMerge_81 {C : QC} {x : QP} {M : QM} {st : List CV} {L : QL} : Rr C mX6_refusalOfMerge (81, L, st, M) x = Rr C mX6_refusalOfMerge (82, L, qi 0 :: st, M) x := g_pl (show decode cX6_refusalOfMerge 81 = .ok (.iconst 0, 1) by decide +kernel) rfl
set_option maxRecDepth 20000 in
theorem kX6_refusalOfMerge_82 {C : QC} {x : QP} {M : QM} {st : List CV} {L : QL} : Rr C mX6_refusalOfMerge (82, L, st, M) x = Rr C mX6_refusalOfMerge (86, L, st, M) x := g_pl (show decode cX6_refusalOfMerge 82 = .ok (.goto 4, 3) by decide +kernel) rfl
set_option maxRecDepth 20000 in
theorem kX6_refusalOfMerge_85 {C : QC} {x : QP} {M : QM} {st : List CV} {L : QL} : Rr C mX6_refusalOfMerge (85, L, st, M) x = Rr C mX6_refusalOfMerge (86, L, qi 5 :: st, M) x := g_pl (show decode cX6_refusalOfMerge 85 = .ok (.iconst 5, 1) by decide +kernel) rfl
set_option maxRecDepth 20000 in
theorem kX6_refusalOfMerge_86 {C : QC} {x : QP} {M : QM} {st : List CV} {L : QL} {z : Int} : Rr C mX6_refusalOfMerge (86, L, [qi z], M) x = x (some (qi z)) M := g_iret (show decode cX6_refusalOfMerge 86 = .ok (.ireturn, 1) by decide +kernel) rfl
set_option maxRecDepth 20000 in
theorem eX6_refusalOfMerge {d : Nat} {M : QM} {x : QP} {v0 : Option Nat} {v1 : Option Nat} : q_T (d + 1) iX6_refusalOfMerge [.inr (.inr v0), .inr (.inr v1)] M x = Rr (q_C d) mX6_refusalOfMerge (0, [some (.inr (.inr v0)), some (.inr (.inr v1)), none, none, none], [], M) x := g_entryT (e := _) rfl (Nat.le_of_ble_eq_true rfl) rfl rfl
def mX7_init : QI := (7, cX7_init, true, none)
set_option maxRecDepth 20000 in
theorem kX7_init_0 {C : QC} {x : QP} {M : QM} {st : List CV} {L : QL} {r : Option Nat} : Rr C mX7_init (0, [some (.inr (.inr r))], st, M) x = Rr C mX7_init (1, [some (.inr (.inr r))], .inr (.inr r) :: st, M) x := g_pl (show decode cX7_init 0 = .ok (.aload_n 0, 1) by decide +kernel) rfl
set_option maxRecDepth 20000 in
theorem kX7_init_1 {C : QC} {x : QP} {M : QM} {st : List CV} {L : QL} {a : Nat} (hw : (st.map q_wd).sum ≤ 8) : Rr C mX7_init (1, L, qr a :: st, M) x = Rr C mX7_init (4, L, st, M) x := g_obj (ow := 7) (e := 338) (show decode cX7_init 1 = .ok (.invokespecial 3, 3) by decide +kernel) rfl hw
set_option maxRecDepth 20000 in
theorem kX7_init_4 {C : QC} {x : QP} {M : QM} {st : List CV} {L : QL} {r : Option Nat} : Rr C mX7_init (4, [some (.inr (.inr r))], st, M) x = Rr C mX7_init (5, [some (.inr (.inr r))], .inr (.inr r) :: st, M) x := g_pl (show decode cX7_init 4 = .ok (.aload_n 0, 1) by decide +kernel) rfl
set_option maxRecDepth 20000 in
theorem kX7_init_5 {C : QC} {x : QP} {M : QM} {st : List CV} {L : QL} : Rr C mX7_init (5, L, st, M) x = Rr C mX7_init (7, L, qi 9 :: st, M) x := g_pl (show decode cX7_init 5 = .ok (.bipush 9, 2) by decide +kernel) rfl
set_option maxRecDepth 20000 in
theorem kX7_init_7 {C : QC} {x : QP} {M : QM} {st : List CV} {L : QL} {n : Int} (h0 : 0 ≤ n) (h1 : n ≤ 60000000) : Rr C mX7_init (7, L, qi n :: st, M) x = Rr C mX7_init (9, L, qr (q_top M) :: st, q_al M (2, n.toNat) n.toNat (fun _ => qi 0)) x := g_newI (show decode cX7_init 7 = .ok (.newarray .int, 2) by decide +kernel) h0 h1
set_option maxRecDepth 20000 in
theorem kX7_init_9 {C : QC} {x : QP} {M : QM} {st : List CV} {L : QL} {z : Option Nat} {a : Nat} (hk : q_kd M a = (1, 7)) : Rr C mX7_init (9, L, .inr (.inr z) :: qr a :: st, M) x = Rr C mX7_init (12, L, st, q_wr M a 0 (.inr (.inr z))) x := g_putf (ow := 7) (ini := true) (e := (7, 0, RX7, 339, 0)) (r := (RX7, TX7, 1)) (t := tyX7) (show decode cX7_init 9 = .ok (.putfield 9, 3) by decide +kernel) rfl rfl rfl rfl (by decide +kernel) hk
set_option maxRecDepth 20000 in
theorem kX7_init_12 {C : QC} {x : QP} {M : QM} {st : List CV} {L : QL} : Rr C mX7_init (12, L, [], M) x = x none M := g_vret (show decode cX7_init 12 = .ok (.return_, 1) by decide +kernel)
set_option maxRecDepth 20000 in
theorem eX7_init {d : Nat} {M : QM} {x : QP} {a : Nat} : q_T (d + 1) iX7_init [qr a] M x = Rr (q_C d) mX7_init (0, [some (qr a)], [], M) x := g_entryT (e := _) rfl (Nat.le_of_ble_eq_true rfl) rfl rfl
def mX7_distance : QI := (7, cX7_distance, false, some .int)
set_option maxRecDepth 20000 in
theorem kX7_distance_0 {C : QC} {x : QP} {M : QM} {st : List CV} {L : QL} {l0 l1 l2 l3 l4 l5 l6 l7 : Option CV} {z : Int} : Rr C mX7_distance (0, [l0, some (ql z), l2, l3, l4, l5, l6, l7], st, M) x = Rr C mX7_distance (1, [l0, some (ql z), l2, l3, l4, l5, l6, l7], ql z :: st, M) x := g_pl (show decode cX7_distance 0 = .ok (.lload_n 1, 1) by decide +kernel) rfl
set_option maxRecDepth 20000 in
theorem kX7_distance_1 {C : QC} {x : QP} {M : QM} {L : QL} {rest : List CV} {a0 : CV} {v : CV} {M1 : QM} (hC : C iX10_lengthOf [a0] M (some v) M1) (hw : (rest.map q_wd).sum ≤ 8) (k : Rr C mX7_distance (4, L, v :: rest, M1) x) : Rr C mX7_distance (1, L, a0 :: rest, M) x := g_cs (ow := 7) (e := (1, 67, 0, [975, 688, 95])) (as := [a0]) (show decode cX7_distance 1 = .ok (.invokestatic 15, 3) by decide +kernel) rfl rfl rfl rfl (Or.inl rfl) rfl hC hw k
set_option maxRecDepth 20000 in
theorem kX7_distance_4 {C : QC} {x : QP} {M : QM} {st : List CV} {L : QL} {l0 l1 l2 l3 l4 l5 l6 l7 : Option CV} {z : Int} : Rr C mX7_distance (4, [l0, l1, l2, l3, l4, l5, l6, l7], qi z :: st, M) x = Rr C mX7_distance (6, [l0, l1, l2, l3, q_cut l4, some (qi z), l6, l7], st, M) x := g_pl (show decode cX7_distance 4 = .ok (.istore 5, 2) by decide +kernel) rfl
set_option maxRecDepth 20000 in
theorem kX7_distance_6 {C : QC} {x : QP} {M : QM} {st : List CV} {L : QL} {l0 l1 l2 l3 l4 l5 l6 l7 : Option CV} {z : Int} : Rr C mX7_distance (6, [l0, l1, l2, some (ql z), l4, l5, l6, l7], st, M) x = Rr C mX7_distance (7, [l0, l1, l2, some (ql z), l4, l5, l6, l7], ql z :: st, M) x := g_pl (show decode cX7_distance 6 = .ok (.lload_n 3, 1) by decide +kernel) rfl
set_option maxRecDepth 20000 in
theorem kX7_distance_7 {C : QC} {x : QP} {M : QM} {L : QL} {rest : List CV} {a0 : CV} {v : CV} {M1 : QM} (hC : C iX10_lengthOf [a0] M (some v) M1) (hw : (rest.map q_wd).sum ≤ 8) (k : Rr C mX7_distance (10, L, v :: rest, M1) x) : Rr C mX7_distance (7, L, a0 :: rest, M) x := g_cs (ow := 7) (e := (1, 67, 0, [975, 688, 95])) (as := [a0]) (show decode cX7_distance 7 = .ok (.invokestatic 15, 3) by decide +kernel) rfl rfl rfl rfl (Or.inl rfl) rfl hC hw k
set_option maxRecDepth 20000 in
theorem kX7_distance_10 {C : QC} {x : QP} {M : QM} {st : List CV} {L : QL} {l0 l1 l2 l3 l4 l5 l6 l7 : Option CV} {z : Int} : Rr C mX7_distance (10, [l0, l1, l2, l3, l4, l5, l6, l7], qi z :: st, M) x = Rr C mX7_distance (12, [l0, l1, l2, l3, l4, q_cut l5, some (qi z), l7], st, M) x := g_pl (show decode cX7_distance 10 = .ok (.istore 6, 2) by decide +kernel) rfl
set_option maxRecDepth 20000 in
theorem kX7_distance_12 {C : QC} {x : QP} {M : QM} {st : List CV} {L : QL} : Rr C mX7_distance (12, L, st, M) x = Rr C mX7_distance (13, L, qi 0 :: st, M) x := g_pl (show decode cX7_distance 12 = .ok (.iconst 0, 1) by decide +kernel) rfl
set_option maxRecDepth 20000 in
theorem kX7_distance_13 {C : QC} {x : QP} {M : QM} {st : List CV} {L : QL} {l0 l1 l2 l3 l4 l5 l6 l7 : Option CV} {z : Int} : Rr C mX7_distance (13, [l0, l1, l2, l3, l4, l5, l6, l7], qi z :: st, M) x = Rr C mX7_distance (15, [l0, l1, l2, l3, l4, l5, q_cut l6, some (qi z)], st, M) x := g_pl (show decode cX7_distance 13 = .ok (.istore 7, 2) by decide +kernel) rfl
set_option maxRecDepth 20000 in
theorem kX7_distance_15 {C : QC} {x : QP} {M : QM} {st : List CV} {L : QL} {l0 l1 l2 l3 l4 l5 l6 l7 : Option CV} {z : Int} : Rr C mX7_distance (15, [l0, l1, l2, l3, l4, l5, l6, some (qi z)], st, M) x = Rr C mX7_distance (17, [l0, l1, l2, l3, l4, l5, l6, some (qi z)], qi z :: st, M) x := g_pl (show decode cX7_distance 15 = .ok (.iload 7, 2) by decide +kernel) rfl
set_option maxRecDepth 20000 in
theorem kX7_distance_17 {C : QC} {x : QP} {M : QM} {st : List CV} {L : QL} {l0 l1 l2 l3 l4 l5 l6 l7 : Option CV} {r : Option Nat} : Rr C mX7_distance (17, [some (.inr (.inr r)), l1, l2, l3, l4, l5, l6, l7], st, M) x = Rr C mX7_distance (18, [some (.inr (.inr r)), l1, l2, l3, l4, l5, l6, l7], .inr (.inr r) :: st, M) x := g_pl (show decode cX7_distance 17 = .ok (.aload_n 0, 1) by decide +kernel) rfl
set_option maxRecDepth 20000 in
theorem kX7_distance_18 {C : QC} {x : QP} {M : QM} {st : List CV} {L : QL} {a : Nat} (hk : q_kd M a = (1, 7)) : Rr C mX7_distance (18, L, qr a :: st, M) x = Rr C mX7_distance (21, L, q_fv M a 0 :: st, M) x := g_getf (ow := 7) (e := (7, 0, RX7, 339, 0)) (show decode cX7_distance 18 = .ok (.getfield 9, 3) by decide +kernel) rfl hk
set_option maxRecDepth 20000 in
theorem kX7_distance_21 {C : QC} {x : QP} {M : QM} {st : List CV} {L : QL} {a : Nat} (h1 : 2 ≤ (q_kd M a).1) (h2 : (q_kd M a).1 ≤ 9) : Rr C mX7_distance (21, L, qr a :: st, M) x = Rr C mX7_distance (22, L, qi (q_kd M a).2 :: st, M) x := g_alen (show decode cX7_distance 21 = .ok (.arraylength, 1) by decide +kernel) h1 h2
set_option maxRecDepth 20000 in
theorem kX7_distance_22 {C : QC} {x : QP} {M : QM} {st : List CV} {L : QL} {a b : Int} (ha1 : -2147483648 ≤ a) (ha2 : a < 2147483648) (hb1 : -2147483648 ≤ b) (hb2 : b < 2147483648) : Rr C mX7_distance (22, L, qi b :: qi a :: st, M) x = (if a < b then Rr C mX7_distance (25, L, st, M) x else Rr C mX7_distance (40, L, st, M) x) := (g_icmp (show decode cX7_distance 22 = .ok (.if_icmp .ge 18, 3) by decide +kernel) rfl ha1 ha2 hb1 hb2).trans (g_itn c_ge)
set_option maxRecDepth 20000 in
theorem kX7_distance_25 {C : QC} {x : QP} {M : QM} {st : List CV} {L : QL} {l0 l1 l2 l3 l4 l5 l6 l7 : Option CV} {r : Option Nat} : Rr C mX7_distance (25, [some (.inr (.inr r)), l1, l2, l3, l4, l5, l6, l7], st, M) x = Rr C mX7_distance (26, [some (.inr (.inr r)), l1, l2, l3, l4, l5, l6, l7], .inr (.inr r) :: st, M) x := g_pl (show decode cX7_distance 25 = .ok (.aload_n 0, 1) by decide +kernel) rfl
set_option maxRecDepth 20000 in
theorem kX7_distance_26 {C : QC} {x : QP} {M : QM} {st : List CV} {L : QL} {a : Nat} (hk : q_kd M a = (1, 7)) : Rr C mX7_distance (26, L, qr a :: st, M) x = Rr C mX7_distance (29, L, q_fv M a 0 :: st, M) x := g_getf (ow := 7) (e := (7, 0, RX7, 339, 0)) (show decode cX7_distance 26 = .ok (.getfield 9, 3) by decide +kernel) rfl hk
set_option maxRecDepth 20000 in
theorem kX7_distance_29 {C : QC} {x : QP} {M : QM} {st : List CV} {L : QL} {l0 l1 l2 l3 l4 l5 l6 l7 : Option CV} {z : Int} : Rr C mX7_distance (29, [l0, l1, l2, l3, l4, l5, l6, some (qi z)], st, M) x = Rr C mX7_distance (31, [l0, l1, l2, l3, l4, l5, l6, some (qi z)], qi z :: st, M) x := g_pl (show decode cX7_distance 29 = .ok (.iload 7, 2) by decide +kernel) rfl
set_option maxRecDepth 20000 in
theorem kX7_distance_31 {C : QC} {x : QP} {M : QM} {st : List CV} {L : QL} {l0 l1 l2 l3 l4 l5 l6 l7 : Option CV} {z : Int} : Rr C mX7_distance (31, [l0, l1, l2, l3, l4, l5, l6, some (qi z)], st, M) x = Rr C mX7_distance (33, [l0, l1, l2, l3, l4, l5, l6, some (qi z)], qi z :: st, M) x := g_pl (show decode cX7_distance 31 = .ok (.iload 7, 2) by decide +kernel) rfl
set_option maxRecDepth 20000 in
theorem kX7_distance_33 {C : QC} {x : QP} {M : QM} {st : List CV} {L : QL} {a : Nat} {j v : Int} (hk : (q_kd M a).1 = 2) (h0 : 0 ≤ j) (h1 : j < ((q_kd M a).2 : Int)) : Rr C mX7_distance (33, L, qi v :: qi j :: qr a :: st, M) x = Rr C mX7_distance (34, L, st, q_wr M a j.toNat (qi v)) x := g_iast (show decode cX7_distance 33 = .ok (.iastore, 1) by decide +kernel) hk h0 h1
set_option maxRecDepth 20000 in
theorem kX7_distance_34 {C : QC} {x : QP} {M : QM} {st : List CV} {L : QL} {l0 l1 l2 l3 l4 l5 l6 l7 : Option CV} {z : Int} : Rr C mX7_distance (34, [l0, l1, l2, l3, l4, l5, l6, some (qi z)], st, M) x = Rr C mX7_distance (37, [l0, l1, l2, l3, l4, l5, q_cut l6, some (qi (z + 1))], st, M) x := g_pl (show decode cX7_distance 34 = .ok (.iinc 7 1, 3) by decide +kernel) rfl
set_option maxRecDepth 20000 in
theorem kX7_distance_37 {C : QC} {x : QP} {M : QM} {st : List CV} {L : QL} : Rr C mX7_distance (37, L, st, M) x = Rr C mX7_distance (15, L, st, M) x := g_pl (show decode cX7_distance 37 = .ok (.goto (-22), 3) by decide +kernel) rfl
set_option maxRecDepth 20000 in
theorem kX7_distance_40 {C : QC} {x : QP} {M : QM} {st : List CV} {L : QL} : Rr C mX7_distance (40, L, st, M) x = Rr C mX7_distance (41, L, qi 1 :: st, M) x := g_pl (show decode cX7_distance 40 = .ok (.iconst 1, 1) by decide +kernel) rfl
set_option maxRecDepth 20000 in
theorem kX7_distance_41 {C : QC} {x : QP} {M : QM} {st : List CV} {L : QL} {l0 l1 l2 l3 l4 l5 l6 l7 : Option CV} {z : Int} : Rr C mX7_distance (41, [l0, l1, l2, l3, l4, l5, l6, l7], qi z :: st, M) x = Rr C mX7_distance (43, [l0, l1, l2, l3, l4, l5, q_cut l6, some (qi z)], st, M) x := g_pl (show decode cX7_distance 41 = .ok (.istore 7, 2) by decide +kernel) rfl
set_option maxRecDepth 20000 in
theorem kX7_distance_43 {C : QC} {x : QP} {M : QM} {st : List CV} {L : QL} {l0 l1 l2 l3 l4 l5 l6 l7 : Option CV} {z : Int} : Rr C mX7_distance (43, [l0, l1, l2, l3, l4, l5, l6, some (qi z)], st, M) x = Rr C mX7_distance (45, [l0, l1, l2, l3, l4, l5, l6, some (qi z)], qi z :: st, M) x := g_pl (show decode cX7_distance 43 = .ok (.iload 7, 2) by decide +kernel) rfl
set_option maxRecDepth 20000 in
theorem kX7_distance_45 {C : QC} {x : QP} {M : QM} {st : List CV} {L : QL} {l0 l1 l2 l3 l4 l5 l6 l7 : Option CV} {z : Int} : Rr C mX7_distance (45, [l0, l1, l2, l3, l4, some (qi z), l6, l7], st, M) x = Rr C mX7_distance (47, [l0, l1, l2, l3, l4, some (qi z), l6, l7], qi z :: st, M) x := g_pl (show decode cX7_distance 45 = .ok (.iload 5, 2) by decide +kernel) rfl
set_option maxRecDepth 20000 in
theorem kX7_distance_47 {C : QC} {x : QP} {M : QM} {st : List CV} {L : QL} {a b : Int} (ha1 : -2147483648 ≤ a) (ha2 : a < 2147483648) (hb1 : -2147483648 ≤ b) (hb2 : b < 2147483648) : Rr C mX7_distance (47, L, qi b :: qi a :: st, M) x = (if b < a then Rr C mX7_distance (71, L, st, M) x else Rr C mX7_distance (50, L, st, M) x) := (g_icmp (show decode cX7_distance 47 = .ok (.if_icmp .gt 24, 3) by decide +kernel) rfl ha1 ha2 hb1 hb2).trans (g_ite c_gt)
set_option maxRecDepth 20000 in
theorem kX7_distance_50 {C : QC} {x : QP} {M : QM} {st : List CV} {L : QL} {l0 l1 l2 l3 l4 l5 l6 l7 : Option CV} {r : Option Nat} : Rr C mX7_distance (50, [some (.inr (.inr r)), l1, l2, l3, l4, l5, l6, l7], st, M) x = Rr C mX7_distance (51, [some (.inr (.inr r)), l1, l2, l3, l4, l5, l6, l7], .inr (.inr r) :: st, M) x := g_pl (show decode cX7_distance 50 = .ok (.aload_n 0, 1) by decide +kernel) rfl
set_option maxRecDepth 20000 in
theorem kX7_distance_51 {C : QC} {x : QP} {M : QM} {st : List CV} {L : QL} {l0 l1 l2 l3 l4 l5 l6 l7 : Option CV} {z : Int} : Rr C mX7_distance (51, [l0, l1, l2, l3, l4, l5, l6, some (qi z)], st, M) x = Rr C mX7_distance (53, [l0, l1, l2, l3, l4, l5, l6, some (qi z)], qi z :: st, M) x := g_pl (show decode cX7_distance 51 = .ok (.iload 7, 2) by decide +kernel) rfl
set_option maxRecDepth 20000 in
theorem kX7_distance_53 {C : QC} {x : QP} {M : QM} {st : List CV} {L : QL} {l0 l1 l2 l3 l4 l5 l6 l7 : Option CV} {z : Int} : Rr C mX7_distance (53, [l0, some (ql z), l2, l3, l4, l5, l6, l7], st, M) x = Rr C mX7_distance (54, [l0, some (ql z), l2, l3, l4, l5, l6, l7], ql z :: st, M) x := g_pl (show decode cX7_distance 53 = .ok (.lload_n 1, 1) by decide +kernel) rfl
set_option maxRecDepth 20000 in
theorem kX7_distance_54 {C : QC} {x : QP} {M : QM} {st : List CV} {L : QL} {l0 l1 l2 l3 l4 l5 l6 l7 : Option CV} {z : Int} : Rr C mX7_distance (54, [l0, l1, l2, l3, l4, l5, l6, some (qi z)], st, M) x = Rr C mX7_distance (56, [l0, l1, l2, l3, l4, l5, l6, some (qi z)], qi z :: st, M) x := g_pl (show decode cX7_distance 54 = .ok (.iload 7, 2) by decide +kernel) rfl
set_option maxRecDepth 20000 in
theorem kX7_distance_56 {C : QC} {x : QP} {M : QM} {st : List CV} {L : QL} : Rr C mX7_distance (56, L, st, M) x = Rr C mX7_distance (57, L, qi 1 :: st, M) x := g_pl (show decode cX7_distance 56 = .ok (.iconst 1, 1) by decide +kernel) rfl
set_option maxRecDepth 20000 in
theorem kX7_distance_57 {C : QC} {x : QP} {M : QM} {st : List CV} {L : QL} {a b : Int} : Rr C mX7_distance (57, L, qi b :: qi a :: st, M) x = Rr C mX7_distance (58, L, qi (a - b) :: st, M) x := g_pl (show decode cX7_distance 57 = .ok (.isub, 1) by decide +kernel) rfl
set_option maxRecDepth 20000 in
theorem kX7_distance_58 {C : QC} {x : QP} {M : QM} {L : QL} {rest : List CV} {a0 a1 : CV} {v : CV} {M1 : QM} (hC : C iX10_letterOf [a0, a1] M (some v) M1) (hw : (rest.map q_wd).sum ≤ 8) (k : Rr C mX7_distance (61, L, v :: rest, M1) x) : Rr C mX7_distance (58, L, a1 :: a0 :: rest, M) x := g_cs (ow := 7) (e := (1, 68, 0, [976, 691, 95])) (as := [a0, a1]) (show decode cX7_distance 58 = .ok (.invokestatic 21, 3) by decide +kernel) rfl rfl rfl rfl (Or.inl rfl) rfl hC hw k
set_option maxRecDepth 20000 in
theorem kX7_distance_61 {C : QC} {x : QP} {M : QM} {st : List CV} {L : QL} {l0 l1 l2 l3 l4 l5 l6 l7 : Option CV} {z : Int} : Rr C mX7_distance (61, [l0, l1, l2, some (ql z), l4, l5, l6, l7], st, M) x = Rr C mX7_distance (62, [l0, l1, l2, some (ql z), l4, l5, l6, l7], ql z :: st, M) x := g_pl (show decode cX7_distance 61 = .ok (.lload_n 3, 1) by decide +kernel) rfl
set_option maxRecDepth 20000 in
theorem kX7_distance_62 {C : QC} {x : QP} {M : QM} {L : QL} {rest : List CV} {a0 a1 a2 : CV} {M1 : QM} {b : Nat} (hb : q_kd M b = (1, 7)) (hC : C iX7_nextRow [qr b, a0, a1, a2] M none M1) (hw : (rest.map q_wd).sum ≤ 8) (k : Rr C mX7_distance (65, L, rest, M1) x) : Rr C mX7_distance (62, L, a2 :: a1 :: a0 :: qr b :: rest, M) x := g_cv (ow := 7) (e := (0, 132, 7, [977, 979, 22, 89])) (as := [a0, a1, a2]) (show decode cX7_distance 62 = .ok (.invokevirtual 25, 3) by decide +kernel) rfl rfl rfl (Or.inl rfl) rfl hb hC hw k
set_option maxRecDepth 20000 in
theorem kX7_distance_65 {C : QC} {x : QP} {M : QM} {st : List CV} {L : QL} {l0 l1 l2 l3 l4 l5 l6 l7 : Option CV} {z : Int} : Rr C mX7_distance (65, [l0, l1, l2, l3, l4, l5, l6, some (qi z)], st, M) x = Rr C mX7_distance (68, [l0, l1, l2, l3, l4, l5, q_cut l6, some (qi (z + 1))], st, M) x := g_pl (show decode cX7_distance 65 = .ok (.iinc 7 1, 3) by decide +kernel) rfl
set_option maxRecDepth 20000 in
theorem kX7_distance_68 {C : QC} {x : QP} {M : QM} {st : List CV} {L : QL} : Rr C mX7_distance (68, L, st, M) x = Rr C mX7_distance (43, L, st, M) x := g_pl (show decode cX7_distance 68 = .ok (.goto (-25), 3) by decide +kernel) rfl
set_option maxRecDepth 20000 in
theorem kX7_distance_71 {C : QC} {x : QP} {M : QM} {st : List CV} {L : QL} {l0 l1 l2 l3 l4 l5 l6 l7 : Option CV} {z : Int} : Rr C mX7_distance (71, [l0, l1, l2, l3, l4, l5, some (qi z), l7], st, M) x = Rr C mX7_distance (73, [l0, l1, l2, l3, l4, l5, some (qi z), l7], qi z :: st, M) x := g_pl (show decode cX7_distance 71 = .ok (.iload 6, 2) by decide +kernel) rfl
set_option maxRecDepth 20000 in
theorem kX7_distance_73 {C : QC} {x : QP} {M : QM} {st : List CV} {L : QL} {l0 l1 l2 l3 l4 l5 l6 l7 : Option CV} {r : Option Nat} : Rr C mX7_distance (73, [some (.inr (.inr r)), l1, l2, l3, l4, l5, l6, l7], st, M) x = Rr C mX7_distance (74, [some (.inr (.inr r)), l1, l2, l3, l4, l5, l6, l7], .inr (.inr r) :: st, M) x := g_pl (show decode cX7_distance 73 = .ok (.aload_n 0, 1) by decide +kernel) rfl
set_option maxRecDepth 20000 in
theorem kX7_distance_74 {C : QC} {x : QP} {M : QM} {st : List CV} {L : QL} {a : Nat} (hk : q_kd M a = (1, 7)) : Rr C mX7_distance (74, L, qr a :: st, M) x = Rr C mX7_distance (77, L, q_fv M a 0 :: st, M) x := g_getf (ow := 7) (e := (7, 0, RX7, 339, 0)) (show decode cX7_distance 74 = .ok (.getfield 9, 3) by decide +kernel) rfl hk
set_option maxRecDepth 20000 in
theorem kX7_distance_77 {C : QC} {x : QP} {M : QM} {st : List CV} {L : QL} {a : Nat} (h1 : 2 ≤ (q_kd M a).1) (h2 : (q_kd M a).1 ≤ 9) : Rr C mX7_distance (77, L, qr a :: st, M) x = Rr C mX7_distance (78, L, qi (q_kd M a).2 :: st, M) x := g_alen (show decode cX7_distance 77 = .ok (.arraylength, 1) by decide +kernel) h1 h2
set_option maxRecDepth 20000 in
theorem kX7_distance_78 {C : QC} {x : QP} {M : QM} {st : List CV} {L : QL} {a b : Int} (ha1 : -2147483648 ≤ a) (ha2 : a < 2147483648) (hb1 : -2147483648 ≤ b) (hb2 : b < 2147483648) : Rr C mX7_distance (78, L, qi b :: qi a :: st, M) x = (if a < b then Rr C mX7_distance (81, L, st, M) x else Rr C mX7_distance (91, L, st, M) x) := (g_icmp (show decode cX7_distance 78 = .ok (.if_icmp .ge 13, 3) by decide +kernel) rfl ha1 ha2 hb1 hb2).trans (g_itn c_ge)
set_option maxRecDepth 20000 in
theorem kX7_distance_81 {C : QC} {x : QP} {M : QM} {st : List CV} {L : QL} {l0 l1 l2 l3 l4 l5 l6 l7 : Option CV} {r : Option Nat} : Rr C mX7_distance (81, [some (.inr (.inr r)), l1, l2, l3, l4, l5, l6, l7], st, M) x = Rr C mX7_distance (82, [some (.inr (.inr r)), l1, l2, l3, l4, l5, l6, l7], .inr (.inr r) :: st, M) x := g_pl (show decode cX7_distance 81 = .ok (.aload_n 0, 1) by decide +kernel) rfl
set_option maxRecDepth 20000 in
theorem kX7_distance_82 {C : QC} {x : QP} {M : QM} {st : List CV} {L : QL} {a : Nat} (hk : q_kd M a = (1, 7)) : Rr C mX7_distance (82, L, qr a :: st, M) x = Rr C mX7_distance (85, L, q_fv M a 0 :: st, M) x := g_getf (ow := 7) (e := (7, 0, RX7, 339, 0)) (show decode cX7_distance 82 = .ok (.getfield 9, 3) by decide +kernel) rfl hk
set_option maxRecDepth 20000 in
theorem kX7_distance_85 {C : QC} {x : QP} {M : QM} {st : List CV} {L : QL} {l0 l1 l2 l3 l4 l5 l6 l7 : Option CV} {z : Int} : Rr C mX7_distance (85, [l0, l1, l2, l3, l4, l5, some (qi z), l7], st, M) x = Rr C mX7_distance (87, [l0, l1, l2, l3, l4, l5, some (qi z), l7], qi z :: st, M) x := g_pl (show decode cX7_distance 85 = .ok (.iload 6, 2) by decide +kernel) rfl
set_option maxRecDepth 20000 in
theorem kX7_distance_87 {C : QC} {x : QP} {M : QM} {st : List CV} {L : QL} {a : Nat} {j : Int} (hk : (q_kd M a).1 = 2) (h0 : 0 ≤ j) (h1 : j < ((q_kd M a).2 : Int)) : Rr C mX7_distance (87, L, qi j :: qr a :: st, M) x = Rr C mX7_distance (88, L, q_fv M a j.toNat :: st, M) x := g_iald (show decode cX7_distance 87 = .ok (.iaload, 1) by decide +kernel) hk h0 h1
set_option maxRecDepth 20000 in
theorem kX7_distance_88 {C : QC} {x : QP} {M : QM} {st : List CV} {L : QL} : Rr C mX7_distance (88, L, st, M) x = Rr C mX7_distance (92, L, st, M) x := g_pl (show decode cX7_distance 88 = .ok (.goto 4, 3) by decide +kernel) rfl
set_option maxRecDepth 20000 in
theorem kX7_distance_91 {C : QC} {x : QP} {M : QM} {st : List CV} {L : QL} : Rr C mX7_distance (91, L, st, M) x = Rr C mX7_distance (92, L, qi 0 :: st, M) x := g_pl (show decode cX7_distance 91 = .ok (.iconst 0, 1) by decide +kernel) rfl
set_option maxRecDepth 20000 in
theorem kX7_distance_92 {C : QC} {x : QP} {M : QM} {st : List CV} {L : QL} {z : Int} : Rr C mX7_distance (92, L, [qi z], M) x = x (some (qi z)) M := g_iret (show decode cX7_distance 92 = .ok (.ireturn, 1) by decide +kernel) rfl
set_option maxRecDepth 20000 in
theorem eX7_distance {d : Nat} {M : QM} {x : QP} {a : Nat} {v0 : Int} {v1 : Int} : q_T (d + 1) iX7_distance [qr a, ql v0, ql v1] M x = Rr (q_C d) mX7_distance (0, [some (qr a), some (ql v0), none, some (ql v1), none, none, none, none], [], M) x := g_entryT (e := _) rfl (Nat.le_of_ble_eq_true rfl) rfl rfl
def mX7_nextRow : QI := (7, cX7_nextRow, false, none)
set_option maxRecDepth 20000 in
theorem kX7_nextRow_0 {C : QC} {x : QP} {M : QM} {st : List CV} {L : QL} {l0 l1 l2 l3 l4 l5 l6 l7 l8 : Option CV} {r : Option Nat} : Rr C mX7_nextRow (0, [some (.inr (.inr r)), l1, l2, l3, l4, l5, l6, l7, l8], st, M) x = Rr C mX7_nextRow (1, [some (.inr (.inr r)), l1, l2, l3, l4, l5, l6, l7, l8], .inr (.inr r) :: st, M) x := g_pl (show decode cX7_nextRow 0 = .ok (.aload_n 0, 1) by decide +kernel) rfl
set_option maxRecDepth 20000 in
theorem kX7_nextRow_1 {C : QC} {x : QP} {M : QM} {st : List CV} {L : QL} {a : Nat} (hk : q_kd M a = (1, 7)) : Rr C mX7_nextRow (1, L, qr a :: st, M) x = Rr C mX7_nextRow (4, L, q_fv M a 0 :: st, M) x := g_getf (ow := 7) (e := (7, 0, RX7, 339, 0)) (show decode cX7_nextRow 1 = .ok (.getfield 9, 3) by decide +kernel) rfl hk
set_option maxRecDepth 20000 in
theorem kX7_nextRow_4 {C : QC} {x : QP} {M : QM} {st : List CV} {L : QL} : Rr C mX7_nextRow (4, L, st, M) x = Rr C mX7_nextRow (5, L, qi 0 :: st, M) x := g_pl (show decode cX7_nextRow 4 = .ok (.iconst 0, 1) by decide +kernel) rfl
set_option maxRecDepth 20000 in
theorem kX7_nextRow_5 {C : QC} {x : QP} {M : QM} {st : List CV} {L : QL} {a : Nat} {j : Int} (hk : (q_kd M a).1 = 2) (h0 : 0 ≤ j) (h1 : j < ((q_kd M a).2 : Int)) : Rr C mX7_nextRow (5, L, qi j :: qr a :: st, M) x = Rr C mX7_nextRow (6, L, q_fv M a j.toNat :: st, M) x := g_iald (show decode cX7_nextRow 5 = .ok (.iaload, 1) by decide +kernel) hk h0 h1
set_option maxRecDepth 20000 in
theorem kX7_nextRow_6 {C : QC} {x : QP} {M : QM} {st : List CV} {L : QL} {l0 l1 l2 l3 l4 l5 l6 l7 l8 : Option CV} {z : Int} : Rr C mX7_nextRow (6, [l0, l1, l2, l3, l4, l5, l6, l7, l8], qi z :: st, M) x = Rr C mX7_nextRow (8, [l0, l1, l2, l3, q_cut l4, some (qi z), l6, l7, l8], st, M) x := g_pl (show decode cX7_nextRow 6 = .ok (.istore 5, 2) by decide +kernel) rfl
set_option maxRecDepth 20000 in
theorem kX7_nextRow_8 {C : QC} {x : QP} {M : QM} {st : List CV} {L : QL} {l0 l1 l2 l3 l4 l5 l6 l7 l8 : Option CV} {r : Option Nat} : Rr C mX7_nextRow (8, [some (.inr (.inr r)), l1, l2, l3, l4, l5, l6, l7, l8], st, M) x = Rr C mX7_nextRow (9, [some (.inr (.inr r)), l1, l2, l3, l4, l5, l6, l7, l8], .inr (.inr r) :: st, M) x := g_pl (show decode cX7_nextRow 8 = .ok (.aload_n 0, 1) by decide +kernel) rfl
set_option maxRecDepth 20000 in
theorem kX7_nextRow_9 {C : QC} {x : QP} {M : QM} {st : List CV} {L : QL} {a : Nat} (hk : q_kd M a = (1, 7)) : Rr C mX7_nextRow (9, L, qr a :: st, M) x = Rr C mX7_nextRow (12, L, q_fv M a 0 :: st, M) x := g_getf (ow := 7) (e := (7, 0, RX7, 339, 0)) (show decode cX7_nextRow 9 = .ok (.getfield 9, 3) by decide +kernel) rfl hk
set_option maxRecDepth 20000 in
theorem kX7_nextRow_12 {C : QC} {x : QP} {M : QM} {st : List CV} {L : QL} : Rr C mX7_nextRow (12, L, st, M) x = Rr C mX7_nextRow (13, L, qi 0 :: st, M) x := g_pl (show decode cX7_nextRow 12 = .ok (.iconst 0, 1) by decide +kernel) rfl
set_option maxRecDepth 20000 in
theorem kX7_nextRow_13 {C : QC} {x : QP} {M : QM} {st : List CV} {L : QL} {l0 l1 l2 l3 l4 l5 l6 l7 l8 : Option CV} {z : Int} : Rr C mX7_nextRow (13, [l0, some (qi z), l2, l3, l4, l5, l6, l7, l8], st, M) x = Rr C mX7_nextRow (14, [l0, some (qi z), l2, l3, l4, l5, l6, l7, l8], qi z :: st, M) x := g_pl (show decode cX7_nextRow 13 = .ok (.iload_n 1, 1) by decide +kernel) rfl
set_option maxRecDepth 20000 in
theorem kX7_nextRow_14 {C : QC} {x : QP} {M : QM} {st : List CV} {L : QL} {a : Nat} {j v : Int} (hk : (q_kd M a).1 = 2) (h0 : 0 ≤ j) (h1 : j < ((q_kd M a).2 : Int)) : Rr C mX7_nextRow (14, L, qi v :: qi j :: qr a :: st, M) x = Rr C mX7_nextRow (15, L, st, q_wr M a j.toNat (qi v)) x := g_iast (show decode cX7_nextRow 14 = .ok (.iastore, 1) by decide +kernel) hk h0 h1
set_option maxRecDepth 20000 in
theorem kX7_nextRow_15 {C : QC} {x : QP} {M : QM} {st : List CV} {L : QL} : Rr C mX7_nextRow (15, L, st, M) x = Rr C mX7_nextRow (16, L, qi 1 :: st, M) x := g_pl (show decode cX7_nextRow 15 = .ok (.iconst 1, 1) by decide +kernel) rfl
set_option maxRecDepth 20000 in
theorem kX7_nextRow_16 {C : QC} {x : QP} {M : QM} {st : List CV} {L : QL} {l0 l1 l2 l3 l4 l5 l6 l7 l8 : Option CV} {z : Int} : Rr C mX7_nextRow (16, [l0, l1, l2, l3, l4, l5, l6, l7, l8], qi z :: st, M) x = Rr C mX7_nextRow (18, [l0, l1, l2, l3, l4, q_cut l5, some (qi z), l7, l8], st, M) x := g_pl (show decode cX7_nextRow 16 = .ok (.istore 6, 2) by decide +kernel) rfl
set_option maxRecDepth 20000 in
theorem kX7_nextRow_18 {C : QC} {x : QP} {M : QM} {st : List CV} {L : QL} {l0 l1 l2 l3 l4 l5 l6 l7 l8 : Option CV} {z : Int} : Rr C mX7_nextRow (18, [l0, l1, l2, l3, l4, l5, some (qi z), l7, l8], st, M) x = Rr C mX7_nextRow (20, [l0, l1, l2, l3, l4, l5, some (qi z), l7, l8], qi z :: st, M) x := g_pl (show decode cX7_nextRow 18 = .ok (.iload 6, 2) by decide +kernel) rfl
set_option maxRecDepth 20000 in
theorem kX7_nextRow_20 {C : QC} {x : QP} {M : QM} {st : List CV} {L : QL} {l0 l1 l2 l3 l4 l5 l6 l7 l8 : Option CV} {r : Option Nat} : Rr C mX7_nextRow (20, [some (.inr (.inr r)), l1, l2, l3, l4, l5, l6, l7, l8], st, M) x = Rr C mX7_nextRow (21, [some (.inr (.inr r)), l1, l2, l3, l4, l5, l6, l7, l8], .inr (.inr r) :: st, M) x := g_pl (show decode cX7_nextRow 20 = .ok (.aload_n 0, 1) by decide +kernel) rfl
set_option maxRecDepth 20000 in
theorem kX7_nextRow_21 {C : QC} {x : QP} {M : QM} {st : List CV} {L : QL} {a : Nat} (hk : q_kd M a = (1, 7)) : Rr C mX7_nextRow (21, L, qr a :: st, M) x = Rr C mX7_nextRow (24, L, q_fv M a 0 :: st, M) x := g_getf (ow := 7) (e := (7, 0, RX7, 339, 0)) (show decode cX7_nextRow 21 = .ok (.getfield 9, 3) by decide +kernel) rfl hk
set_option maxRecDepth 20000 in
theorem kX7_nextRow_24 {C : QC} {x : QP} {M : QM} {st : List CV} {L : QL} {a : Nat} (h1 : 2 ≤ (q_kd M a).1) (h2 : (q_kd M a).1 ≤ 9) : Rr C mX7_nextRow (24, L, qr a :: st, M) x = Rr C mX7_nextRow (25, L, qi (q_kd M a).2 :: st, M) x := g_alen (show decode cX7_nextRow 24 = .ok (.arraylength, 1) by decide +kernel) h1 h2
set_option maxRecDepth 20000 in
theorem kX7_nextRow_25 {C : QC} {x : QP} {M : QM} {st : List CV} {L : QL} {a b : Int} (ha1 : -2147483648 ≤ a) (ha2 : a < 2147483648) (hb1 : -2147483648 ≤ b) (hb2 : b < 2147483648) : Rr C mX7_nextRow (25, L, qi b :: qi a :: st, M) x = (if a < b then Rr C mX7_nextRow (28, L, st, M) x else Rr C mX7_nextRow (98, L, st, M) x) := (g_icmp (show decode cX7_nextRow 25 = .ok (.if_icmp .ge 73, 3) by decide +kernel) rfl ha1 ha2 hb1 hb2).trans (g_itn c_ge)
set_option maxRecDepth 20000 in
theorem kX7_nextRow_28 {C : QC} {x : QP} {M : QM} {st : List CV} {L : QL} {l0 l1 l2 l3 l4 l5 l6 l7 l8 : Option CV} {r : Option Nat} : Rr C mX7_nextRow (28, [some (.inr (.inr r)), l1, l2, l3, l4, l5, l6, l7, l8], st, M) x = Rr C mX7_nextRow (29, [some (.inr (.inr r)), l1, l2, l3, l4, l5, l6, l7, l8], .inr (.inr r) :: st, M) x := g_pl (show decode cX7_nextRow 28 = .ok (.aload_n 0, 1) by decide +kernel) rfl
set_option maxRecDepth 20000 in
theorem kX7_nextRow_29 {C : QC} {x : QP} {M : QM} {st : List CV} {L : QL} {a : Nat} (hk : q_kd M a = (1, 7)) : Rr C mX7_nextRow (29, L, qr a :: st, M) x = Rr C mX7_nextRow (32, L, q_fv M a 0 :: st, M) x := g_getf (ow := 7) (e := (7, 0, RX7, 339, 0)) (show decode cX7_nextRow 29 = .ok (.getfield 9, 3) by decide +kernel) rfl hk
set_option maxRecDepth 20000 in
theorem kX7_nextRow_32 {C : QC} {x : QP} {M : QM} {st : List CV} {L : QL} {l0 l1 l2 l3 l4 l5 l6 l7 l8 : Option CV} {z : Int} : Rr C mX7_nextRow (32, [l0, l1, l2, l3, l4, l5, some (qi z), l7, l8], st, M) x = Rr C mX7_nextRow (34, [l0, l1, l2, l3, l4, l5, some (qi z), l7, l8], qi z :: st, M) x := g_pl (show decode cX7_nextRow 32 = .ok (.iload 6, 2) by decide +kernel) rfl
set_option maxRecDepth 20000 in
theorem kX7_nextRow_34 {C : QC} {x : QP} {M : QM} {st : List CV} {L : QL} {a : Nat} {j : Int} (hk : (q_kd M a).1 = 2) (h0 : 0 ≤ j) (h1 : j < ((q_kd M a).2 : Int)) : Rr C mX7_nextRow (34, L, qi j :: qr a :: st, M) x = Rr C mX7_nextRow (35, L, q_fv M a j.toNat :: st, M) x := g_iald (show decode cX7_nextRow 34 = .ok (.iaload, 1) by decide +kernel) hk h0 h1
set_option maxRecDepth 20000 in
theorem kX7_nextRow_35 {C : QC} {x : QP} {M : QM} {st : List CV} {L : QL} {l0 l1 l2 l3 l4 l5 l6 l7 l8 : Option CV} {z : Int} : Rr C mX7_nextRow (35, [l0, l1, l2, l3, l4, l5, l6, l7, l8], qi z :: st, M) x = Rr C mX7_nextRow (37, [l0, l1, l2, l3, l4, l5, q_cut l6, some (qi z), l8], st, M) x := g_pl (show decode cX7_nextRow 35 = .ok (.istore 7, 2) by decide +kernel) rfl
set_option maxRecDepth 20000 in
theorem kX7_nextRow_37 {C : QC} {x : QP} {M : QM} {st : List CV} {L : QL} {l0 l1 l2 l3 l4 l5 l6 l7 l8 : Option CV} {z : Int} : Rr C mX7_nextRow (37, [l0, l1, l2, some (ql z), l4, l5, l6, l7, l8], st, M) x = Rr C mX7_nextRow (38, [l0, l1, l2, some (ql z), l4, l5, l6, l7, l8], ql z :: st, M) x := g_pl (show decode cX7_nextRow 37 = .ok (.lload_n 3, 1) by decide +kernel) rfl
set_option maxRecDepth 20000 in
theorem kX7_nextRow_38 {C : QC} {x : QP} {M : QM} {st : List CV} {L : QL} {l0 l1 l2 l3 l4 l5 l6 l7 l8 : Option CV} {z : Int} : Rr C mX7_nextRow (38, [l0, l1, l2, l3, l4, l5, some (qi z), l7, l8], st, M) x = Rr C mX7_nextRow (40, [l0, l1, l2, l3, l4, l5, some (qi z), l7, l8], qi z :: st, M) x := g_pl (show decode cX7_nextRow 38 = .ok (.iload 6, 2) by decide +kernel) rfl
set_option maxRecDepth 20000 in
theorem kX7_nextRow_40 {C : QC} {x : QP} {M : QM} {st : List CV} {L : QL} : Rr C mX7_nextRow (40, L, st, M) x = Rr C mX7_nextRow (41, L, qi 1 :: st, M) x := g_pl (show decode cX7_nextRow 40 = .ok (.iconst 1, 1) by decide +kernel) rfl
set_option maxRecDepth 20000 in
theorem kX7_nextRow_41 {C : QC} {x : QP} {M : QM} {st : List CV} {L : QL} {a b : Int} : Rr C mX7_nextRow (41, L, qi b :: qi a :: st, M) x = Rr C mX7_nextRow (42, L, qi (a - b) :: st, M) x := g_pl (show decode cX7_nextRow 41 = .ok (.isub, 1) by decide +kernel) rfl
set_option maxRecDepth 20000 in
theorem kX7_nextRow_42 {C : QC} {x : QP} {M : QM} {L : QL} {rest : List CV} {a0 a1 : CV} {v : CV} {M1 : QM} (hC : C iX10_letterOf [a0, a1] M (some v) M1) (hw : (rest.map q_wd).sum ≤ 8) (k : Rr C mX7_nextRow (45, L, v :: rest, M1) x) : Rr C mX7_nextRow (42, L, a1 :: a0 :: rest, M) x := g_cs (ow := 7) (e := (1, 68, 0, [976, 691, 95])) (as := [a0, a1]) (show decode cX7_nextRow 42 = .ok (.invokestatic 21, 3) by decide +kernel) rfl rfl rfl rfl (Or.inl rfl) rfl hC hw k
set_option maxRecDepth 20000 in
theorem kX7_nextRow_45 {C : QC} {x : QP} {M : QM} {st : List CV} {L : QL} {l0 l1 l2 l3 l4 l5 l6 l7 l8 : Option CV} {z : Int} : Rr C mX7_nextRow (45, [l0, l1, some (qi z), l3, l4, l5, l6, l7, l8], st, M) x = Rr C mX7_nextRow (46, [l0, l1, some (qi z), l3, l4, l5, l6, l7, l8], qi z :: st, M) x := g_pl (show decode cX7_nextRow 45 = .ok (.iload_n 2, 1) by decide +kernel) rfl
set_option maxRecDepth 20000 in
theorem kX7_nextRow_46 {C : QC} {x : QP} {M : QM} {st : List CV} {L : QL} {a b : Int} (ha1 : -2147483648 ≤ a) (ha2 : a < 2147483648) (hb1 : -2147483648 ≤ b) (hb2 : b < 2147483648) : Rr C mX7_nextRow (46, L, qi b :: qi a :: st, M) x = (if a = b then Rr C mX7_nextRow (49, L, st, M) x else Rr C mX7_nextRow (54, L, st, M) x) := (g_icmp (show decode cX7_nextRow 46 = .ok (.if_icmp .ne 8, 3) by decide +kernel) rfl ha1 ha2 hb1 hb2).trans (g_itn c_ne)
set_option maxRecDepth 20000 in
theorem kX7_nextRow_49 {C : QC} {x : QP} {M : QM} {st : List CV} {L : QL} {l0 l1 l2 l3 l4 l5 l6 l7 l8 : Option CV} {z : Int} : Rr C mX7_nextRow (49, [l0, l1, l2, l3, l4, some (qi z), l6, l7, l8], st, M) x = Rr C mX7_nextRow (51, [l0, l1, l2, l3, l4, some (qi z), l6, l7, l8], qi z :: st, M) x := g_pl (show decode cX7_nextRow 49 = .ok (.iload 5, 2) by decide +kernel) rfl
set_option maxRecDepth 20000 in
theorem kX7_nextRow_51 {C : QC} {x : QP} {M : QM} {st : List CV} {L : QL} : Rr C mX7_nextRow (51, L, st, M) x = Rr C mX7_nextRow (58, L, st, M) x := g_pl (show decode cX7_nextRow 51 = .ok (.goto 7, 3) by decide +kernel) rfl
set_option maxRecDepth 20000 in
theorem kX7_nextRow_54 {C : QC} {x : QP} {M : QM} {st : List CV} {L : QL} {l0 l1 l2 l3 l4 l5 l6 l7 l8 : Option CV} {z : Int} : Rr C mX7_nextRow (54, [l0, l1, l2, l3, l4, some (qi z), l6, l7, l8], st, M) x = Rr C mX7_nextRow (56, [l0, l1, l2, l3, l4, some (qi z), l6, l7, l8], qi z :: st, M) x := g_pl (show decode cX7_nextRow 54 = .ok (.iload 5, 2) by decide +kernel) rfl
set_option maxRecDepth 20000 in
theorem kX7_nextRow_56 {C : QC} {x : QP} {M : QM} {st : List CV} {L : QL} : Rr C mX7_nextRow (56, L, st, M) x = Rr C mX7_nextRow (57, L, qi 1 :: st, M) x := g_pl (show decode cX7_nextRow 56 = .ok (.iconst 1, 1) by decide +kernel) rfl
set_option maxRecDepth 20000 in
theorem kX7_nextRow_57 {C : QC} {x : QP} {M : QM} {st : List CV} {L : QL} {a b : Int} : Rr C mX7_nextRow (57, L, qi b :: qi a :: st, M) x = Rr C mX7_nextRow (58, L, qi (a + b) :: st, M) x := g_pl (show decode cX7_nextRow 57 = .ok (.iadd, 1) by decide +kernel) rfl
set_option maxRecDepth 20000 in
theorem kX7_nextRow_58 {C : QC} {x : QP} {M : QM} {st : List CV} {L : QL} {l0 l1 l2 l3 l4 l5 l6 l7 l8 : Option CV} {z : Int} : Rr C mX7_nextRow (58, [l0, l1, l2, l3, l4, l5, l6, l7, l8], qi z :: st, M) x = Rr C mX7_nextRow (60, [l0, l1, l2, l3, l4, l5, l6, q_cut l7, some (qi z)], st, M) x := g_pl (show decode cX7_nextRow 58 = .ok (.istore 8, 2) by decide +kernel) rfl
set_option maxRecDepth 20000 in
theorem kX7_nextRow_60 {C : QC} {x : QP} {M : QM} {st : List CV} {L : QL} {l0 l1 l2 l3 l4 l5 l6 l7 l8 : Option CV} {r : Option Nat} : Rr C mX7_nextRow (60, [some (.inr (.inr r)), l1, l2, l3, l4, l5, l6, l7, l8], st, M) x = Rr C mX7_nextRow (61, [some (.inr (.inr r)), l1, l2, l3, l4, l5, l6, l7, l8], .inr (.inr r) :: st, M) x := g_pl (show decode cX7_nextRow 60 = .ok (.aload_n 0, 1) by decide +kernel) rfl
set_option maxRecDepth 20000 in
theorem kX7_nextRow_61 {C : QC} {x : QP} {M : QM} {st : List CV} {L : QL} {a : Nat} (hk : q_kd M a = (1, 7)) : Rr C mX7_nextRow (61, L, qr a :: st, M) x = Rr C mX7_nextRow (64, L, q_fv M a 0 :: st, M) x := g_getf (ow := 7) (e := (7, 0, RX7, 339, 0)) (show decode cX7_nextRow 61 = .ok (.getfield 9, 3) by decide +kernel) rfl hk
set_option maxRecDepth 20000 in
theorem kX7_nextRow_64 {C : QC} {x : QP} {M : QM} {st : List CV} {L : QL} {l0 l1 l2 l3 l4 l5 l6 l7 l8 : Option CV} {z : Int} : Rr C mX7_nextRow (64, [l0, l1, l2, l3, l4, l5, some (qi z), l7, l8], st, M) x = Rr C mX7_nextRow (66, [l0, l1, l2, l3, l4, l5, some (qi z), l7, l8], qi z :: st, M) x := g_pl (show decode cX7_nextRow 64 = .ok (.iload 6, 2) by decide +kernel) rfl
set_option maxRecDepth 20000 in
theorem kX7_nextRow_66 {C : QC} {x : QP} {M : QM} {st : List CV} {L : QL} {l0 l1 l2 l3 l4 l5 l6 l7 l8 : Option CV} {z : Int} : Rr C mX7_nextRow (66, [l0, l1, l2, l3, l4, l5, l6, l7, some (qi z)], st, M) x = Rr C mX7_nextRow (68, [l0, l1, l2, l3, l4, l5, l6, l7, some (qi z)], qi z :: st, M) x := g_pl (show decode cX7_nextRow 66 = .ok (.iload 8, 2) by decide +kernel) rfl
set_option maxRecDepth 20000 in
theorem kX7_nextRow_68 {C : QC} {x : QP} {M : QM} {st : List CV} {L : QL} {l0 l1 l2 l3 l4 l5 l6 l7 l8 : Option CV} {z : Int} : Rr C mX7_nextRow (68, [l0, l1, l2, l3, l4, l5, l6, some (qi z), l8], st, M) x = Rr C mX7_nextRow (70, [l0, l1, l2, l3, l4, l5, l6, some (qi z), l8], qi z :: st, M) x := g_pl (show decode cX7_nextRow 68 = .ok (.iload 7, 2) by decide +kernel) rfl
set_option maxRecDepth 20000 in
theorem kX7_nextRow_70 {C : QC} {x : QP} {M : QM} {st : List CV} {L : QL} {l0 l1 l2 l3 l4 l5 l6 l7 l8 : Option CV} {r : Option Nat} : Rr C mX7_nextRow (70, [some (.inr (.inr r)), l1, l2, l3, l4, l5, l6, l7, l8], st, M) x = Rr C mX7_nextRow (71, [some (.inr (.inr r)), l1, l2, l3, l4, l5, l6, l7, l8], .inr (.inr r) :: st, M) x := g_pl (show decode cX7_nextRow 70 = .ok (.aload_n 0, 1) by decide +kernel) rfl
set_option maxRecDepth 20000 in
theorem kX7_nextRow_71 {C : QC} {x : QP} {M : QM} {st : List CV} {L : QL} {a : Nat} (hk : q_kd M a = (1, 7)) : Rr C mX7_nextRow (71, L, qr a :: st, M) x = Rr C mX7_nextRow (74, L, q_fv M a 0 :: st, M) x := g_getf (ow := 7) (e := (7, 0, RX7, 339, 0)) (show decode cX7_nextRow 71 = .ok (.getfield 9, 3) by decide +kernel) rfl hk
set_option maxRecDepth 20000 in
theorem kX7_nextRow_74 {C : QC} {x : QP} {M : QM} {st : List CV} {L : QL} {l0 l1 l2 l3 l4 l5 l6 l7 l8 : Option CV} {z : Int} : Rr C mX7_nextRow (74, [l0, l1, l2, l3, l4, l5, some (qi z), l7, l8], st, M) x = Rr C mX7_nextRow (76, [l0, l1, l2, l3, l4, l5, some (qi z), l7, l8], qi z :: st, M) x := g_pl (show decode cX7_nextRow 74 = .ok (.iload 6, 2) by decide +kernel) rfl
set_option maxRecDepth 20000 in
theorem kX7_nextRow_76 {C : QC} {x : QP} {M : QM} {st : List CV} {L : QL} : Rr C mX7_nextRow (76, L, st, M) x = Rr C mX7_nextRow (77, L, qi 1 :: st, M) x := g_pl (show decode cX7_nextRow 76 = .ok (.iconst 1, 1) by decide +kernel) rfl
set_option maxRecDepth 20000 in
theorem kX7_nextRow_77 {C : QC} {x : QP} {M : QM} {st : List CV} {L : QL} {a b : Int} : Rr C mX7_nextRow (77, L, qi b :: qi a :: st, M) x = Rr C mX7_nextRow (78, L, qi (a - b) :: st, M) x := g_pl (show decode cX7_nextRow 77 = .ok (.isub, 1) by decide +kernel) rfl
set_option maxRecDepth 20000 in
theorem kX7_nextRow_78 {C : QC} {x : QP} {M : QM} {st : List CV} {L : QL} {a : Nat} {j : Int} (hk : (q_kd M a).1 = 2) (h0 : 0 ≤ j) (h1 : j < ((q_kd M a).2 : Int)) : Rr C mX7_nextRow (78, L, qi j :: qr a :: st, M) x = Rr C mX7_nextRow (79, L, q_fv M a j.toNat :: st, M) x := g_iald (show decode cX7_nextRow 78 = .ok (.iaload, 1) by decide +kernel) hk h0 h1
set_option maxRecDepth 20000 in
theorem kX7_nextRow_79 {C : QC} {x : QP} {M : QM} {st : List CV} {L : QL} {a b : Int} (ha1 : -2147483648 ≤ a) (ha2 : a < 2147483648) (hb1 : -2147483648 ≤ b) (hb2 : b < 2147483648) (hw : (st.map q_wd).sum ≤ 8) : Rr C mX7_nextRow (79, L, qi b :: qi a :: st, M) x = Rr C mX7_nextRow (82, L, qi (min a b) :: st, M) x := g_mx (ow := 7) (e := (1, 981)) (show decode cX7_nextRow 79 = .ok (.invokestatic 29, 3) by decide +kernel) rfl rfl ha1 ha2 hb1 hb2 hw
set_option maxRecDepth 20000 in
theorem kX7_nextRow_82 {C : QC} {x : QP} {M : QM} {st : List CV} {L : QL} : Rr C mX7_nextRow (82, L, st, M) x = Rr C mX7_nextRow (83, L, qi 1 :: st, M) x := g_pl (show decode cX7_nextRow 82 = .ok (.iconst 1, 1) by decide +kernel) rfl
set_option maxRecDepth 20000 in
theorem kX7_nextRow_83 {C : QC} {x : QP} {M : QM} {st : List CV} {L : QL} {a b : Int} : Rr C mX7_nextRow (83, L, qi b :: qi a :: st, M) x = Rr C mX7_nextRow (84, L, qi (a + b) :: st, M) x := g_pl (show decode cX7_nextRow 83 = .ok (.iadd, 1) by decide +kernel) rfl
set_option maxRecDepth 20000 in
theorem kX7_nextRow_84 {C : QC} {x : QP} {M : QM} {st : List CV} {L : QL} {a b : Int} (ha1 : -2147483648 ≤ a) (ha2 : a < 2147483648) (hb1 : -2147483648 ≤ b) (hb2 : b < 2147483648) (hw : (st.map q_wd).sum ≤ 8) : Rr C mX7_nextRow (84, L, qi b :: qi a :: st, M) x = Rr C mX7_nextRow (87, L, qi (min a b) :: st, M) x := g_mx (ow := 7) (e := (1, 981)) (show decode cX7_nextRow 84 = .ok (.invokestatic 29, 3) by decide +kernel) rfl rfl ha1 ha2 hb1 hb2 hw
set_option maxRecDepth 20000 in
theorem kX7_nextRow_87 {C : QC} {x : QP} {M : QM} {st : List CV} {L : QL} {a : Nat} {j v : Int} (hk : (q_kd M a).1 = 2) (h0 : 0 ≤ j) (h1 : j < ((q_kd M a).2 : Int)) : Rr C mX7_nextRow (87, L, qi v :: qi j :: qr a :: st, M) x = Rr C mX7_nextRow (88, L, st, q_wr M a j.toNat (qi v)) x := g_iast (show decode cX7_nextRow 87 = .ok (.iastore, 1) by decide +kernel) hk h0 h1
set_option maxRecDepth 20000 in
theorem kX7_nextRow_88 {C : QC} {x : QP} {M : QM} {st : List CV} {L : QL} {l0 l1 l2 l3 l4 l5 l6 l7 l8 : Option CV} {z : Int} : Rr C mX7_nextRow (88, [l0, l1, l2, l3, l4, l5, l6, some (qi z), l8], st, M) x = Rr C mX7_nextRow (90, [l0, l1, l2, l3, l4, l5, l6, some (qi z), l8], qi z :: st, M) x := g_pl (show decode cX7_nextRow 88 = .ok (.iload 7, 2) by decide +kernel) rfl
set_option maxRecDepth 20000 in
theorem kX7_nextRow_90 {C : QC} {x : QP} {M : QM} {st : List CV} {L : QL} {l0 l1 l2 l3 l4 l5 l6 l7 l8 : Option CV} {z : Int} : Rr C mX7_nextRow (90, [l0, l1, l2, l3, l4, l5, l6, l7, l8], qi z :: st, M) x = Rr C mX7_nextRow (92, [l0, l1, l2, l3, q_cut l4, some (qi z), l6, l7, l8], st, M) x := g_pl (show decode cX7_nextRow 90 = .ok (.istore 5, 2) by decide +kernel) rfl
set_option maxRecDepth 20000 in
theorem kX7_nextRow_92 {C : QC} {x : QP} {M : QM} {st : List CV} {L : QL} {l0 l1 l2 l3 l4 l5 l6 l7 l8 : Option CV} {z : Int} : Rr C mX7_nextRow (92, [l0, l1, l2, l3, l4, l5, some (qi z), l7, l8], st, M) x = Rr C mX7_nextRow (95, [l0, l1, l2, l3, l4, q_cut l5, some (qi (z + 1)), l7, l8], st, M) x := g_pl (show decode cX7_nextRow 92 = .ok (.iinc 6 1, 3) by decide +kernel) rfl
set_option maxRecDepth 20000 in
theorem kX7_nextRow_95 {C : QC} {x : QP} {M : QM} {st : List CV} {L : QL} : Rr C mX7_nextRow (95, L, st, M) x = Rr C mX7_nextRow (18, L, st, M) x := g_pl (show decode cX7_nextRow 95 = .ok (.goto (-77), 3) by decide +kernel) rfl
set_option maxRecDepth 20000 in
theorem kX7_nextRow_98 {C : QC} {x : QP} {M : QM} {st : List CV} {L : QL} : Rr C mX7_nextRow (98, L, [], M) x = x none M := g_vret (show decode cX7_nextRow 98 = .ok (.return_, 1) by decide +kernel)
set_option maxRecDepth 20000 in
theorem eX7_nextRow {d : Nat} {M : QM} {x : QP} {a : Nat} {v0 : Int} {v1 : Int} {v2 : Int} : q_T (d + 1) iX7_nextRow [qr a, qi v0, qi v1, ql v2] M x = Rr (q_C d) mX7_nextRow (0, [some (qr a), some (qi v0), some (qi v1), some (ql v2), none, none, none, none, none], [], M) x := g_entryT (e := _) rfl (Nat.le_of_ble_eq_true rfl) rfl rfl
def mX8_init : QI := (8, cX8_init, true, none)
set_option maxRecDepth 20000 in
theorem kX8_init_0 {C : QC} {x : QP} {M : QM} {st : List CV} {L : QL} {r : Option Nat} : Rr C mX8_init (0, [some (.inr (.inr r))], st, M) x = Rr C mX8_init (1, [some (.inr (.inr r))], .inr (.inr r) :: st, M) x := g_pl (show decode cX8_init 0 = .ok (.aload_n 0, 1) by decide +kernel) rfl
set_option maxRecDepth 20000 in
theorem kX8_init_1 {C : QC} {x : QP} {M : QM} {st : List CV} {L : QL} {a : Nat} (hw : (st.map q_wd).sum ≤ 8) : Rr C mX8_init (1, L, qr a :: st, M) x = Rr C mX8_init (4, L, st, M) x := g_obj (ow := 8) (e := 120) (show decode cX8_init 1 = .ok (.invokespecial 3, 3) by decide +kernel) rfl hw
set_option maxRecDepth 20000 in
theorem kX8_init_4 {C : QC} {x : QP} {M : QM} {st : List CV} {L : QL} {r : Option Nat} : Rr C mX8_init (4, [some (.inr (.inr r))], st, M) x = Rr C mX8_init (5, [some (.inr (.inr r))], .inr (.inr r) :: st, M) x := g_pl (show decode cX8_init 4 = .ok (.aload_n 0, 1) by decide +kernel) rfl
set_option maxRecDepth 20000 in
theorem kX8_init_5 {C : QC} {x : QP} {M : QM} {st : List CV} {L : QL} : Rr C mX8_init (5, L, st, M) x = Rr C mX8_init (7, L, qi 80 :: st, M) x := g_pl (show decode cX8_init 5 = .ok (.bipush 80, 2) by decide +kernel) rfl
set_option maxRecDepth 20000 in
theorem kX8_init_7 {C : QC} {x : QP} {M : QM} {st : List CV} {L : QL} {n : Int} (h0 : 0 ≤ n) (h1 : n ≤ 60000000) : Rr C mX8_init (7, L, qi n :: st, M) x = Rr C mX8_init (9, L, qr (q_top M) :: st, q_al M (2, n.toNat) n.toNat (fun _ => qi 0)) x := g_newI (show decode cX8_init 7 = .ok (.newarray .int, 2) by decide +kernel) h0 h1
set_option maxRecDepth 20000 in
theorem kX8_init_9 {C : QC} {x : QP} {M : QM} {st : List CV} {L : QL} {z : Option Nat} {a : Nat} (hk : q_kd M a = (1, 8)) : Rr C mX8_init (9, L, .inr (.inr z) :: qr a :: st, M) x = Rr C mX8_init (12, L, st, q_wr M a 0 (.inr (.inr z))) x := g_putf (ow := 8) (ini := true) (e := (8, 0, RX8, 121, 0)) (r := (RX8, TX8, 2)) (t := tyX8) (show decode cX8_init 9 = .ok (.putfield 9, 3) by decide +kernel) rfl rfl rfl rfl (by decide +kernel) hk
set_option maxRecDepth 20000 in
theorem kX8_init_12 {C : QC} {x : QP} {M : QM} {st : List CV} {L : QL} {r : Option Nat} : Rr C mX8_init (12, [some (.inr (.inr r))], st, M) x = Rr C mX8_init (13, [some (.inr (.inr r))], .inr (.inr r) :: st, M) x := g_pl (show decode cX8_init 12 = .ok (.aload_n 0, 1) by decide +kernel) rfl
set_option maxRecDepth 20000 in
theorem kX8_init_13 {C : QC} {x : QP} {M : QM} {st : List CV} {L : QL} : Rr C mX8_init (13, L, st, M) x = Rr C mX8_init (14, L, qi 0 :: st, M) x := g_pl (show decode cX8_init 13 = .ok (.iconst 0, 1) by decide +kernel) rfl
set_option maxRecDepth 20000 in
theorem kX8_init_14 {C : QC} {x : QP} {M : QM} {st : List CV} {L : QL} {z : Int} {a : Nat} (hk : q_kd M a = (1, 8)) : Rr C mX8_init (14, L, qi z :: qr a :: st, M) x = Rr C mX8_init (17, L, st, q_wr M a 1 (qi z)) x := g_putf (ow := 8) (ini := true) (e := (8, 1, RX8, 122, 0)) (r := (RX8, TX8, 2)) (t := tyX8) (show decode cX8_init 14 = .ok (.putfield 15, 3) by decide +kernel) rfl rfl rfl rfl (by decide +kernel) hk
set_option maxRecDepth 20000 in
theorem kX8_init_17 {C : QC} {x : QP} {M : QM} {st : List CV} {L : QL} : Rr C mX8_init (17, L, [], M) x = x none M := g_vret (show decode cX8_init 17 = .ok (.return_, 1) by decide +kernel)
set_option maxRecDepth 20000 in
theorem eX8_init {d : Nat} {M : QM} {x : QP} {a : Nat} : q_T (d + 1) iX8_init [qr a] M x = Rr (q_C d) mX8_init (0, [some (qr a)], [], M) x := g_entryT (e := _) rfl (Nat.le_of_ble_eq_true rfl) rfl rfl
def mX8_length : QI := (8, cX8_length, false, some .int)
set_option maxRecDepth 20000 in
theorem kX8_length_0 {C : QC} {x : QP} {M : QM} {st : List CV} {L : QL} {r : Option Nat} : Rr C mX8_length (0, [some (.inr (.inr r))], st, M) x = Rr C mX8_length (1, [some (.inr (.inr r))], .inr (.inr r) :: st, M) x := g_pl (show decode cX8_length 0 = .ok (.aload_n 0, 1) by decide +kernel) rfl
set_option maxRecDepth 20000 in
theorem kX8_length_1 {C : QC} {x : QP} {M : QM} {st : List CV} {L : QL} {a : Nat} (hk : q_kd M a = (1, 8)) : Rr C mX8_length (1, L, qr a :: st, M) x = Rr C mX8_length (4, L, q_fv M a 1 :: st, M) x := g_getf (ow := 8) (e := (8, 1, RX8, 122, 0)) (show decode cX8_length 1 = .ok (.getfield 15, 3) by decide +kernel) rfl hk
set_option maxRecDepth 20000 in
theorem kX8_length_4 {C : QC} {x : QP} {M : QM} {st : List CV} {L : QL} {z : Int} : Rr C mX8_length (4, L, [qi z], M) x = x (some (qi z)) M := g_iret (show decode cX8_length 4 = .ok (.ireturn, 1) by decide +kernel) rfl
set_option maxRecDepth 20000 in
theorem eX8_length {d : Nat} {M : QM} {x : QP} {a : Nat} : q_T (d + 1) iX8_length [qr a] M x = Rr (q_C d) mX8_length (0, [some (qr a)], [], M) x := g_entryT (e := _) rfl (Nat.le_of_ble_eq_true rfl) rfl rfl
def mX8_clear : QI := (8, cX8_clear, false, none)
set_option maxRecDepth 20000 in
theorem kX8_clear_0 {C : QC} {x : QP} {M : QM} {st : List CV} {L : QL} {r : Option Nat} : Rr C mX8_clear (0, [some (.inr (.inr r))], st, M) x = Rr C mX8_clear (1, [some (.inr (.inr r))], .inr (.inr r) :: st, M) x := g_pl (show decode cX8_clear 0 = .ok (.aload_n 0, 1) by decide +kernel) rfl
set_option maxRecDepth 20000 in
theorem kX8_clear_1 {C : QC} {x : QP} {M : QM} {st : List CV} {L : QL} : Rr C mX8_clear (1, L, st, M) x = Rr C mX8_clear (2, L, qi 0 :: st, M) x := g_pl (show decode cX8_clear 1 = .ok (.iconst 0, 1) by decide +kernel) rfl
set_option maxRecDepth 20000 in
theorem kX8_clear_2 {C : QC} {x : QP} {M : QM} {st : List CV} {L : QL} {z : Int} {a : Nat} (hk : q_kd M a = (1, 8)) : Rr C mX8_clear (2, L, qi z :: qr a :: st, M) x = Rr C mX8_clear (5, L, st, q_wr M a 1 (qi z)) x := g_putf (ow := 8) (ini := false) (e := (8, 1, RX8, 122, 0)) (r := (RX8, TX8, 2)) (t := tyX8) (show decode cX8_clear 2 = .ok (.putfield 15, 3) by decide +kernel) rfl rfl rfl rfl (by decide +kernel) hk
set_option maxRecDepth 20000 in
theorem kX8_clear_5 {C : QC} {x : QP} {M : QM} {st : List CV} {L : QL} : Rr C mX8_clear (5, L, [], M) x = x none M := g_vret (show decode cX8_clear 5 = .ok (.return_, 1) by decide +kernel)
set_option maxRecDepth 20000 in
theorem eX8_clear {d : Nat} {M : QM} {x : QP} {a : Nat} : q_T (d + 1) iX8_clear [qr a] M x = Rr (q_C d) mX8_clear (0, [some (qr a)], [], M) x := g_entryT (e := _) rfl (Nat.le_of_ble_eq_true rfl) rfl rfl
def mX8_append : QI := (8, cX8_append, false, none)
set_option maxRecDepth 20000 in
theorem kX8_append_0 {C : QC} {x : QP} {M : QM} {st : List CV} {L : QL} {l0 l1 : Option CV} {r : Option Nat} : Rr C mX8_append (0, [some (.inr (.inr r)), l1], st, M) x = Rr C mX8_append (1, [some (.inr (.inr r)), l1], .inr (.inr r) :: st, M) x := g_pl (show decode cX8_append 0 = .ok (.aload_n 0, 1) by decide +kernel) rfl
set_option maxRecDepth 20000 in
theorem kX8_append_1 {C : QC} {x : QP} {M : QM} {st : List CV} {L : QL} {a : Nat} (hk : q_kd M a = (1, 8)) : Rr C mX8_append (1, L, qr a :: st, M) x = Rr C mX8_append (4, L, q_fv M a 1 :: st, M) x := g_getf (ow := 8) (e := (8, 1, RX8, 122, 0)) (show decode cX8_append 1 = .ok (.getfield 15, 3) by decide +kernel) rfl hk
set_option maxRecDepth 20000 in
theorem kX8_append_4 {C : QC} {x : QP} {M : QM} {st : List CV} {L : QL} {l0 l1 : Option CV} {r : Option Nat} : Rr C mX8_append (4, [some (.inr (.inr r)), l1], st, M) x = Rr C mX8_append (5, [some (.inr (.inr r)), l1], .inr (.inr r) :: st, M) x := g_pl (show decode cX8_append 4 = .ok (.aload_n 0, 1) by decide +kernel) rfl
set_option maxRecDepth 20000 in
theorem kX8_append_5 {C : QC} {x : QP} {M : QM} {st : List CV} {L : QL} {a : Nat} (hk : q_kd M a = (1, 8)) : Rr C mX8_append (5, L, qr a :: st, M) x = Rr C mX8_append (8, L, q_fv M a 0 :: st, M) x := g_getf (ow := 8) (e := (8, 0, RX8, 121, 0)) (show decode cX8_append 5 = .ok (.getfield 9, 3) by decide +kernel) rfl hk
set_option maxRecDepth 20000 in
theorem kX8_append_8 {C : QC} {x : QP} {M : QM} {st : List CV} {L : QL} {a : Nat} (h1 : 2 ≤ (q_kd M a).1) (h2 : (q_kd M a).1 ≤ 9) : Rr C mX8_append (8, L, qr a :: st, M) x = Rr C mX8_append (9, L, qi (q_kd M a).2 :: st, M) x := g_alen (show decode cX8_append 8 = .ok (.arraylength, 1) by decide +kernel) h1 h2
set_option maxRecDepth 20000 in
theorem kX8_append_9 {C : QC} {x : QP} {M : QM} {st : List CV} {L : QL} {a b : Int} (ha1 : -2147483648 ≤ a) (ha2 : a < 2147483648) (hb1 : -2147483648 ≤ b) (hb2 : b < 2147483648) : Rr C mX8_append (9, L, qi b :: qi a :: st, M) x = (if a < b then Rr C mX8_append (12, L, st, M) x else Rr C mX8_append (32, L, st, M) x) := (g_icmp (show decode cX8_append 9 = .ok (.if_icmp .ge 23, 3) by decide +kernel) rfl ha1 ha2 hb1 hb2).trans (g_itn c_ge)
set_option maxRecDepth 20000 in
theorem kX8_append_12 {C : QC} {x : QP} {M : QM} {st : List CV} {L : QL} {l0 l1 : Option CV} {r : Option Nat} : Rr C mX8_append (12, [some (.inr (.inr r)), l1], st, M) x = Rr C mX8_append (13, [some (.inr (.inr r)), l1], .inr (.inr r) :: st, M) x := g_pl (show decode cX8_append 12 = .ok (.aload_n 0, 1) by decide +kernel) rfl
set_option maxRecDepth 20000 in
theorem kX8_append_13 {C : QC} {x : QP} {M : QM} {st : List CV} {L : QL} {a : Nat} (hk : q_kd M a = (1, 8)) : Rr C mX8_append (13, L, qr a :: st, M) x = Rr C mX8_append (16, L, q_fv M a 0 :: st, M) x := g_getf (ow := 8) (e := (8, 0, RX8, 121, 0)) (show decode cX8_append 13 = .ok (.getfield 9, 3) by decide +kernel) rfl hk
set_option maxRecDepth 20000 in
theorem kX8_append_16 {C : QC} {x : QP} {M : QM} {st : List CV} {L : QL} {l0 l1 : Option CV} {r : Option Nat} : Rr C mX8_append (16, [some (.inr (.inr r)), l1], st, M) x = Rr C mX8_append (17, [some (.inr (.inr r)), l1], .inr (.inr r) :: st, M) x := g_pl (show decode cX8_append 16 = .ok (.aload_n 0, 1) by decide +kernel) rfl
set_option maxRecDepth 20000 in
theorem kX8_append_17 {C : QC} {x : QP} {M : QM} {st : List CV} {L : QL} {a : Nat} (hk : q_kd M a = (1, 8)) : Rr C mX8_append (17, L, qr a :: st, M) x = Rr C mX8_append (20, L, q_fv M a 1 :: st, M) x := g_getf (ow := 8) (e := (8, 1, RX8, 122, 0)) (show decode cX8_append 17 = .ok (.getfield 15, 3) by decide +kernel) rfl hk
set_option maxRecDepth 20000 in
theorem kX8_append_20 {C : QC} {x : QP} {M : QM} {st : List CV} {L : QL} {l0 l1 : Option CV} {z : Int} : Rr C mX8_append (20, [l0, some (qi z)], st, M) x = Rr C mX8_append (21, [l0, some (qi z)], qi z :: st, M) x := g_pl (show decode cX8_append 20 = .ok (.iload_n 1, 1) by decide +kernel) rfl
set_option maxRecDepth 20000 in
theorem kX8_append_21 {C : QC} {x : QP} {M : QM} {st : List CV} {L : QL} {a : Nat} {j v : Int} (hk : (q_kd M a).1 = 2) (h0 : 0 ≤ j) (h1 : j < ((q_kd M a).2 : Int)) : Rr C mX8_append (21, L, qi v :: qi j :: qr a :: st, M) x = Rr C mX8_append (22, L, st, q_wr M a j.toNat (qi v)) x := g_iast (show decode cX8_append 21 = .ok (.iastore, 1) by decide +kernel) hk h0 h1
set_option maxRecDepth 20000 in
theorem kX8_append_22 {C : QC} {x : QP} {M : QM} {st : List CV} {L : QL} {l0 l1 : Option CV} {r : Option Nat} : Rr C mX8_append (22, [some (.inr (.inr r)), l1], st, M) x = Rr C mX8_append (23, [some (.inr (.inr r)), l1], .inr (.inr r) :: st, M) x := g_pl (show decode cX8_append 22 = .ok (.aload_n 0, 1) by decide +kernel) rfl
set_option maxRecDepth 20000 in
theorem kX8_append_23i {C : QC} {x : QP} {M : QM} {st : List CV} {L : QL} {a : Int} : Rr C mX8_append (23, L, qi a :: st, M) x = Rr C mX8_append (24, L, qi a :: qi a :: st, M) x := g_pl (show decode cX8_append 23 = .ok (.dup, 1) by decide +kernel) rfl
set_option maxRecDepth 20000 in
theorem kX8_append_23r {C : QC} {x : QP} {M : QM} {st : List CV} {L : QL} {a : Option Nat} : Rr C mX8_append (23, L, .inr (.inr a) :: st, M) x = Rr C mX8_append (24, L, .inr (.inr a) :: .inr (.inr a) :: st, M) x := g_pl (show decode cX8_append 23 = .ok (.dup, 1) by decide +kernel) rfl
set_option maxRecDepth 20000 in
theorem kX8_append_24 {C : QC} {x : QP} {M : QM} {st : List CV} {L : QL} {a : Nat} (hk : q_kd M a = (1, 8)) : Rr C mX8_append (24, L, qr a :: st, M) x = Rr C mX8_append (27, L, q_fv M a 1 :: st, M) x := g_getf (ow := 8) (e := (8, 1, RX8, 122, 0)) (show decode cX8_append 24 = .ok (.getfield 15, 3) by decide +kernel) rfl hk
set_option maxRecDepth 20000 in
theorem kX8_append_27 {C : QC} {x : QP} {M : QM} {st : List CV} {L : QL} : Rr C mX8_append (27, L, st, M) x = Rr C mX8_append (28, L, qi 1 :: st, M) x := g_pl (show decode cX8_append 27 = .ok (.iconst 1, 1) by decide +kernel) rfl
set_option maxRecDepth 20000 in
theorem kX8_append_28 {C : QC} {x : QP} {M : QM} {st : List CV} {L : QL} {a b : Int} : Rr C mX8_append (28, L, qi b :: qi a :: st, M) x = Rr C mX8_append (29, L, qi (a + b) :: st, M) x := g_pl (show decode cX8_append 28 = .ok (.iadd, 1) by decide +kernel) rfl
set_option maxRecDepth 20000 in
theorem kX8_append_29 {C : QC} {x : QP} {M : QM} {st : List CV} {L : QL} {z : Int} {a : Nat} (hk : q_kd M a = (1, 8)) : Rr C mX8_append (29, L, qi z :: qr a :: st, M) x = Rr C mX8_append (32, L, st, q_wr M a 1 (qi z)) x := g_putf (ow := 8) (ini := false) (e := (8, 1, RX8, 122, 0)) (r := (RX8, TX8, 2)) (t := tyX8) (show decode cX8_append 29 = .ok (.putfield 15, 3) by decide +kernel) rfl rfl rfl rfl (by decide +kernel) hk
set_option maxRecDepth 20000 in
theorem kX8_append_32 {C : QC} {x : QP} {M : QM} {st : List CV} {L : QL} : Rr C mX8_append (32, L, [], M) x = x none M := g_vret (show decode cX8_append 32 = .ok (.return_, 1) by decide +kernel)
set_option maxRecDepth 20000 in
theorem eX8_append {d : Nat} {M : QM} {x : QP} {a : Nat} {v0 : Int} : q_T (d + 1) iX8_append [qr a, qi v0] M x = Rr (q_C d) mX8_append (0, [some (qr a), some (qi v0)], [], M) x := g_entryT (e := _) rfl (Nat.le_of_ble_eq_true rfl) rfl rfl
def mX8_at : QI := (8, cX8_at, false, some .int)
set_option maxRecDepth 20000 in
theorem kX8_at_0 {C : QC} {x : QP} {M : QM} {st : List CV} {L : QL} {l0 l1 : Option CV} {z : Int} : Rr C mX8_at (0, [l0, some (qi z)], st, M) x = Rr C mX8_at (1, [l0, some (qi z)], qi z :: st, M) x := g_pl (show decode cX8_at 0 = .ok (.iload_n 1, 1) by decide +kernel) rfl
set_option maxRecDepth 20000 in
theorem kX8_at_1 {C : QC} {x : QP} {M : QM} {st : List CV} {L : QL} {a : Int} (ha1 : -2147483648 ≤ a) (ha2 : a < 2147483648) : Rr C mX8_at (1, L, qi a :: st, M) x = (if a < 0 then Rr C mX8_at (30, L, st, M) x else Rr C mX8_at (4, L, st, M) x) := (g_if (show decode cX8_at 1 = .ok (.ifCond .lt 29, 3) by decide +kernel) rfl ha1 ha2).trans (g_ite c_lt)
set_option maxRecDepth 20000 in
theorem kX8_at_4 {C : QC} {x : QP} {M : QM} {st : List CV} {L : QL} {l0 l1 : Option CV} {z : Int} : Rr C mX8_at (4, [l0, some (qi z)], st, M) x = Rr C mX8_at (5, [l0, some (qi z)], qi z :: st, M) x := g_pl (show decode cX8_at 4 = .ok (.iload_n 1, 1) by decide +kernel) rfl
set_option maxRecDepth 20000 in
theorem kX8_at_5 {C : QC} {x : QP} {M : QM} {st : List CV} {L : QL} {l0 l1 : Option CV} {r : Option Nat} : Rr C mX8_at (5, [some (.inr (.inr r)), l1], st, M) x = Rr C mX8_at (6, [some (.inr (.inr r)), l1], .inr (.inr r) :: st, M) x := g_pl (show decode cX8_at 5 = .ok (.aload_n 0, 1) by decide +kernel) rfl
set_option maxRecDepth 20000 in
theorem kX8_at_6 {C : QC} {x : QP} {M : QM} {st : List CV} {L : QL} {a : Nat} (hk : q_kd M a = (1, 8)) : Rr C mX8_at (6, L, qr a :: st, M) x = Rr C mX8_at (9, L, q_fv M a 1 :: st, M) x := g_getf (ow := 8) (e := (8, 1, RX8, 122, 0)) (show decode cX8_at 6 = .ok (.getfield 15, 3) by decide +kernel) rfl hk
set_option maxRecDepth 20000 in
theorem kX8_at_9 {C : QC} {x : QP} {M : QM} {st : List CV} {L : QL} {a b : Int} (ha1 : -2147483648 ≤ a) (ha2 : a < 2147483648) (hb1 : -2147483648 ≤ b) (hb2 : b < 2147483648) : Rr C mX8_at (9, L, qi b :: qi a :: st, M) x = (if a < b then Rr C mX8_at (12, L, st, M) x else Rr C mX8_at (30, L, st, M) x) := (g_icmp (show decode cX8_at 9 = .ok (.if_icmp .ge 21, 3) by decide +kernel) rfl ha1 ha2 hb1 hb2).trans (g_itn c_ge)
set_option maxRecDepth 20000 in
theorem kX8_at_12 {C : QC} {x : QP} {M : QM} {st : List CV} {L : QL} {l0 l1 : Option CV} {z : Int} : Rr C mX8_at (12, [l0, some (qi z)], st, M) x = Rr C mX8_at (13, [l0, some (qi z)], qi z :: st, M) x := g_pl (show decode cX8_at 12 = .ok (.iload_n 1, 1) by decide +kernel) rfl
set_option maxRecDepth 20000 in
theorem kX8_at_13 {C : QC} {x : QP} {M : QM} {st : List CV} {L : QL} {l0 l1 : Option CV} {r : Option Nat} : Rr C mX8_at (13, [some (.inr (.inr r)), l1], st, M) x = Rr C mX8_at (14, [some (.inr (.inr r)), l1], .inr (.inr r) :: st, M) x := g_pl (show decode cX8_at 13 = .ok (.aload_n 0, 1) by decide +kernel) rfl
set_option maxRecDepth 20000 in
theorem kX8_at_14 {C : QC} {x : QP} {M : QM} {st : List CV} {L : QL} {a : Nat} (hk : q_kd M a = (1, 8)) : Rr C mX8_at (14, L, qr a :: st, M) x = Rr C mX8_at (17, L, q_fv M a 0 :: st, M) x := g_getf (ow := 8) (e := (8, 0, RX8, 121, 0)) (show decode cX8_at 14 = .ok (.getfield 9, 3) by decide +kernel) rfl hk
set_option maxRecDepth 20000 in
theorem kX8_at_17 {C : QC} {x : QP} {M : QM} {st : List CV} {L : QL} {a : Nat} (h1 : 2 ≤ (q_kd M a).1) (h2 : (q_kd M a).1 ≤ 9) : Rr C mX8_at (17, L, qr a :: st, M) x = Rr C mX8_at (18, L, qi (q_kd M a).2 :: st, M) x := g_alen (show decode cX8_at 17 = .ok (.arraylength, 1) by decide +kernel) h1 h2
set_option maxRecDepth 20000 in
theorem kX8_at_18 {C : QC} {x : QP} {M : QM} {st : List CV} {L : QL} {a b : Int} (ha1 : -2147483648 ≤ a) (ha2 : a < 2147483648) (hb1 : -2147483648 ≤ b) (hb2 : b < 2147483648) : Rr C mX8_at (18, L, qi b :: qi a :: st, M) x = (if a < b then Rr C mX8_at (21, L, st, M) x else Rr C mX8_at (30, L, st, M) x) := (g_icmp (show decode cX8_at 18 = .ok (.if_icmp .ge 12, 3) by decide +kernel) rfl ha1 ha2 hb1 hb2).trans (g_itn c_ge)
set_option maxRecDepth 20000 in
theorem kX8_at_21 {C : QC} {x : QP} {M : QM} {st : List CV} {L : QL} {l0 l1 : Option CV} {r : Option Nat} : Rr C mX8_at (21, [some (.inr (.inr r)), l1], st, M) x = Rr C mX8_at (22, [some (.inr (.inr r)), l1], .inr (.inr r) :: st, M) x := g_pl (show decode cX8_at 21 = .ok (.aload_n 0, 1) by decide +kernel) rfl
set_option maxRecDepth 20000 in
theorem kX8_at_22 {C : QC} {x : QP} {M : QM} {st : List CV} {L : QL} {a : Nat} (hk : q_kd M a = (1, 8)) : Rr C mX8_at (22, L, qr a :: st, M) x = Rr C mX8_at (25, L, q_fv M a 0 :: st, M) x := g_getf (ow := 8) (e := (8, 0, RX8, 121, 0)) (show decode cX8_at 22 = .ok (.getfield 9, 3) by decide +kernel) rfl hk
set_option maxRecDepth 20000 in
theorem kX8_at_25 {C : QC} {x : QP} {M : QM} {st : List CV} {L : QL} {l0 l1 : Option CV} {z : Int} : Rr C mX8_at (25, [l0, some (qi z)], st, M) x = Rr C mX8_at (26, [l0, some (qi z)], qi z :: st, M) x := g_pl (show decode cX8_at 25 = .ok (.iload_n 1, 1) by decide +kernel) rfl
set_option maxRecDepth 20000 in
theorem kX8_at_26 {C : QC} {x : QP} {M : QM} {st : List CV} {L : QL} {a : Nat} {j : Int} (hk : (q_kd M a).1 = 2) (h0 : 0 ≤ j) (h1 : j < ((q_kd M a).2 : Int)) : Rr C mX8_at (26, L, qi j :: qr a :: st, M) x = Rr C mX8_at (27, L, q_fv M a j.toNat :: st, M) x := g_iald (show decode cX8_at 26 = .ok (.iaload, 1) by decide +kernel) hk h0 h1
set_option maxRecDepth 20000 in
theorem kX8_at_27 {C : QC} {x : QP} {M : QM} {st : List CV} {L : QL} : Rr C mX8_at (27, L, st, M) x = Rr C mX8_at (31, L, st, M) x := g_pl (show decode cX8_at 27 = .ok (.goto 4, 3) by decide +kernel) rfl
set_option maxRecDepth 20000 in
theorem kX8_at_30 {C : QC} {x : QP} {M : QM} {st : List CV} {L : QL} : Rr C mX8_at (30, L, st, M) x = Rr C mX8_at (31, L, qi (-1) :: st, M) x := g_pl (show decode cX8_at 30 = .ok (.iconst (-1), 1) by decide +kernel) rfl
set_option maxRecDepth 20000 in
theorem kX8_at_31 {C : QC} {x : QP} {M : QM} {st : List CV} {L : QL} {z : Int} : Rr C mX8_at (31, L, [qi z], M) x = x (some (qi z)) M := g_iret (show decode cX8_at 31 = .ok (.ireturn, 1) by decide +kernel) rfl
set_option maxRecDepth 20000 in
theorem eX8_at {d : Nat} {M : QM} {x : QP} {a : Nat} {v0 : Int} : q_T (d + 1) iX8_at [qr a, qi v0] M x = Rr (q_C d) mX8_at (0, [some (qr a), some (qi v0)], [], M) x := g_entryT (e := _) rfl (Nat.le_of_ble_eq_true rfl) rfl rfl
def mX8_takeWord : QI := (8, cX8_takeWord, false, some .long)
set_option maxRecDepth 20000 in
theorem kX8_takeWord_0 {C : QC} {x : QP} {M : QM} {st : List CV} {L : QL} {l0 l1 l2 l3 l4 : Option CV} {r : Option Nat} : Rr C mX8_takeWord (0, [some (.inr (.inr r)), l1, l2, l3, l4], st, M) x = Rr C mX8_takeWord (1, [some (.inr (.inr r)), l1, l2, l3, l4], .inr (.inr r) :: st, M) x := g_pl (show decode cX8_takeWord 0 = .ok (.aload_n 0, 1) by decide +kernel) rfl
set_option maxRecDepth 20000 in
theorem kX8_takeWord_1 {C : QC} {x : QP} {M : QM} {st : List CV} {L : QL} {a : Nat} (hk : q_kd M a = (1, 8)) : Rr C mX8_takeWord (1, L, qr a :: st, M) x = Rr C mX8_takeWord (4, L, q_fv M a 1 :: st, M) x := g_getf (ow := 8) (e := (8, 1, RX8, 122, 0)) (show decode cX8_takeWord 1 = .ok (.getfield 15, 3) by decide +kernel) rfl hk
set_option maxRecDepth 20000 in
theorem kX8_takeWord_4 {C : QC} {x : QP} {M : QM} {st : List CV} {L : QL} {l0 l1 l2 l3 l4 : Option CV} {z : Int} : Rr C mX8_takeWord (4, [l0, l1, l2, l3, l4], qi z :: st, M) x = Rr C mX8_takeWord (5, [q_cut l0, some (qi z), l2, l3, l4], st, M) x := g_pl (show decode cX8_takeWord 4 = .ok (.istore_n 1, 1) by decide +kernel) rfl
set_option maxRecDepth 20000 in
theorem kX8_takeWord_5 {C : QC} {x : QP} {M : QM} {st : List CV} {L : QL} {l0 l1 l2 l3 l4 : Option CV} {r : Option Nat} : Rr C mX8_takeWord (5, [some (.inr (.inr r)), l1, l2, l3, l4], st, M) x = Rr C mX8_takeWord (6, [some (.inr (.inr r)), l1, l2, l3, l4], .inr (.inr r) :: st, M) x := g_pl (show decode cX8_takeWord 5 = .ok (.aload_n 0, 1) by decide +kernel) rfl
set_option maxRecDepth 20000 in
theorem kX8_takeWord_6 {C : QC} {x : QP} {M : QM} {st : List CV} {L : QL} : Rr C mX8_takeWord (6, L, st, M) x = Rr C mX8_takeWord (7, L, qi 0 :: st, M) x := g_pl (show decode cX8_takeWord 6 = .ok (.iconst 0, 1) by decide +kernel) rfl
set_option maxRecDepth 20000 in
theorem kX8_takeWord_7 {C : QC} {x : QP} {M : QM} {st : List CV} {L : QL} {z : Int} {a : Nat} (hk : q_kd M a = (1, 8)) : Rr C mX8_takeWord (7, L, qi z :: qr a :: st, M) x = Rr C mX8_takeWord (10, L, st, q_wr M a 1 (qi z)) x := g_putf (ow := 8) (ini := false) (e := (8, 1, RX8, 122, 0)) (r := (RX8, TX8, 2)) (t := tyX8) (show decode cX8_takeWord 7 = .ok (.putfield 15, 3) by decide +kernel) rfl rfl rfl rfl (by decide +kernel) hk
set_option maxRecDepth 20000 in
theorem kX8_takeWord_10 {C : QC} {x : QP} {M : QM} {st : List CV} {L : QL} {l0 l1 l2 l3 l4 : Option CV} {z : Int} : Rr C mX8_takeWord (10, [l0, some (qi z), l2, l3, l4], st, M) x = Rr C mX8_takeWord (11, [l0, some (qi z), l2, l3, l4], qi z :: st, M) x := g_pl (show decode cX8_takeWord 10 = .ok (.iload_n 1, 1) by decide +kernel) rfl
set_option maxRecDepth 20000 in
theorem kX8_takeWord_11 {C : QC} {x : QP} {M : QM} {st : List CV} {L : QL} : Rr C mX8_takeWord (11, L, st, M) x = Rr C mX8_takeWord (13, L, qi 8 :: st, M) x := g_pl (show decode cX8_takeWord 11 = .ok (.bipush 8, 2) by decide +kernel) rfl
set_option maxRecDepth 20000 in
theorem kX8_takeWord_13 {C : QC} {x : QP} {M : QM} {st : List CV} {L : QL} {a b : Int} (ha1 : -2147483648 ≤ a) (ha2 : a < 2147483648) (hb1 : -2147483648 ≤ b) (hb2 : b < 2147483648) : Rr C mX8_takeWord (13, L, qi b :: qi a :: st, M) x = (if b < a then Rr C mX8_takeWord (16, L, st, M) x else Rr C mX8_takeWord (18, L, st, M) x) := (g_icmp (show decode cX8_takeWord 13 = .ok (.if_icmp .le 5, 3) by decide +kernel) rfl ha1 ha2 hb1 hb2).trans (g_itn c_le)
set_option maxRecDepth 20000 in
theorem kX8_takeWord_16 {C : QC} {x : QP} {M : QM} {st : List CV} {L : QL} : Rr C mX8_takeWord (16, L, st, M) x = Rr C mX8_takeWord (17, L, ql 0 :: st, M) x := g_pl (show decode cX8_takeWord 16 = .ok (.lconst 0, 1) by decide +kernel) rfl
set_option maxRecDepth 20000 in
theorem kX8_takeWord_17 {C : QC} {x : QP} {M : QM} {st : List CV} {L : QL} {z : Int} : Rr C mX8_takeWord (17, L, [ql z], M) x = x (some (ql z)) M := g_lret (show decode cX8_takeWord 17 = .ok (.lreturn, 1) by decide +kernel)
set_option maxRecDepth 20000 in
theorem kX8_takeWord_18 {C : QC} {x : QP} {M : QM} {st : List CV} {L : QL} : Rr C mX8_takeWord (18, L, st, M) x = Rr C mX8_takeWord (19, L, ql 0 :: st, M) x := g_pl (show decode cX8_takeWord 18 = .ok (.lconst 0, 1) by decide +kernel) rfl
set_option maxRecDepth 20000 in
theorem kX8_takeWord_19 {C : QC} {x : QP} {M : QM} {st : List CV} {L : QL} {l0 l1 l2 l3 l4 : Option CV} {z : Int} : Rr C mX8_takeWord (19, [l0, l1, l2, l3, l4], ql z :: st, M) x = Rr C mX8_takeWord (20, [l0, q_cut l1, some (ql z), none, l4], st, M) x := g_pl (show decode cX8_takeWord 19 = .ok (.lstore_n 2, 1) by decide +kernel) rfl
set_option maxRecDepth 20000 in
theorem kX8_takeWord_20 {C : QC} {x : QP} {M : QM} {st : List CV} {L : QL} : Rr C mX8_takeWord (20, L, st, M) x = Rr C mX8_takeWord (21, L, qi 0 :: st, M) x := g_pl (show decode cX8_takeWord 20 = .ok (.iconst 0, 1) by decide +kernel) rfl
set_option maxRecDepth 20000 in
theorem kX8_takeWord_21 {C : QC} {x : QP} {M : QM} {st : List CV} {L : QL} {l0 l1 l2 l3 l4 : Option CV} {z : Int} : Rr C mX8_takeWord (21, [l0, l1, l2, l3, l4], qi z :: st, M) x = Rr C mX8_takeWord (23, [l0, l1, l2, q_cut l3, some (qi z)], st, M) x := g_pl (show decode cX8_takeWord 21 = .ok (.istore 4, 2) by decide +kernel) rfl
set_option maxRecDepth 20000 in
theorem kX8_takeWord_23 {C : QC} {x : QP} {M : QM} {st : List CV} {L : QL} {l0 l1 l2 l3 l4 : Option CV} {z : Int} : Rr C mX8_takeWord (23, [l0, l1, l2, l3, some (qi z)], st, M) x = Rr C mX8_takeWord (25, [l0, l1, l2, l3, some (qi z)], qi z :: st, M) x := g_pl (show decode cX8_takeWord 23 = .ok (.iload 4, 2) by decide +kernel) rfl
set_option maxRecDepth 20000 in
theorem kX8_takeWord_25 {C : QC} {x : QP} {M : QM} {st : List CV} {L : QL} {l0 l1 l2 l3 l4 : Option CV} {z : Int} : Rr C mX8_takeWord (25, [l0, some (qi z), l2, l3, l4], st, M) x = Rr C mX8_takeWord (26, [l0, some (qi z), l2, l3, l4], qi z :: st, M) x := g_pl (show decode cX8_takeWord 25 = .ok (.iload_n 1, 1) by decide +kernel) rfl
set_option maxRecDepth 20000 in
theorem kX8_takeWord_26 {C : QC} {x : QP} {M : QM} {st : List CV} {L : QL} {a b : Int} (ha1 : -2147483648 ≤ a) (ha2 : a < 2147483648) (hb1 : -2147483648 ≤ b) (hb2 : b < 2147483648) : Rr C mX8_takeWord (26, L, qi b :: qi a :: st, M) x = (if a < b then Rr C mX8_takeWord (29, L, st, M) x else Rr C mX8_takeWord (69, L, st, M) x) := (g_icmp (show decode cX8_takeWord 26 = .ok (.if_icmp .ge 43, 3) by decide +kernel) rfl ha1 ha2 hb1 hb2).trans (g_itn c_ge)
set_option maxRecDepth 20000 in
theorem kX8_takeWord_29 {C : QC} {x : QP} {M : QM} {st : List CV} {L : QL} {l0 l1 l2 l3 l4 : Option CV} {r : Option Nat} : Rr C mX8_takeWord (29, [some (.inr (.inr r)), l1, l2, l3, l4], st, M) x = Rr C mX8_takeWord (30, [some (.inr (.inr r)), l1, l2, l3, l4], .inr (.inr r) :: st, M) x := g_pl (show decode cX8_takeWord 29 = .ok (.aload_n 0, 1) by decide +kernel) rfl
set_option maxRecDepth 20000 in
theorem kX8_takeWord_30 {C : QC} {x : QP} {M : QM} {st : List CV} {L : QL} {a : Nat} (hk : q_kd M a = (1, 8)) : Rr C mX8_takeWord (30, L, qr a :: st, M) x = Rr C mX8_takeWord (33, L, q_fv M a 0 :: st, M) x := g_getf (ow := 8) (e := (8, 0, RX8, 121, 0)) (show decode cX8_takeWord 30 = .ok (.getfield 9, 3) by decide +kernel) rfl hk
set_option maxRecDepth 20000 in
theorem kX8_takeWord_33 {C : QC} {x : QP} {M : QM} {st : List CV} {L : QL} {l0 l1 l2 l3 l4 : Option CV} {z : Int} : Rr C mX8_takeWord (33, [l0, l1, l2, l3, some (qi z)], st, M) x = Rr C mX8_takeWord (35, [l0, l1, l2, l3, some (qi z)], qi z :: st, M) x := g_pl (show decode cX8_takeWord 33 = .ok (.iload 4, 2) by decide +kernel) rfl
set_option maxRecDepth 20000 in
theorem kX8_takeWord_35 {C : QC} {x : QP} {M : QM} {st : List CV} {L : QL} {a : Nat} {j : Int} (hk : (q_kd M a).1 = 2) (h0 : 0 ≤ j) (h1 : j < ((q_kd M a).2 : Int)) : Rr C mX8_takeWord (35, L, qi j :: qr a :: st, M) x = Rr C mX8_takeWord (36, L, q_fv M a j.toNat :: st, M) x := g_iald (show decode cX8_takeWord 35 = .ok (.iaload, 1) by decide +kernel) hk h0 h1
set_option maxRecDepth 20000 in
theorem kX8_takeWord_36 {C : QC} {x : QP} {M : QM} {L : QL} {rest : List CV} {a0 : CV} {v : CV} {M1 : QM} (hC : C iX10_isLetter [a0] M (some v) M1) (hw : (rest.map q_wd).sum ≤ 8) (k : Rr C mX8_takeWord (39, L, v :: rest, M1) x) : Rr C mX8_takeWord (36, L, a0 :: rest, M) x := g_cs (ow := 8) (e := (1, 21, 0, [445, 446, 95])) (as := [a0]) (show decode cX8_takeWord 36 = .ok (.invokestatic 19, 3) by decide +kernel) rfl rfl rfl rfl (Or.inl rfl) rfl hC hw k
set_option maxRecDepth 20000 in
theorem kX8_takeWord_39 {C : QC} {x : QP} {M : QM} {st : List CV} {L : QL} {a : Int} (ha1 : -2147483648 ≤ a) (ha2 : a < 2147483648) : Rr C mX8_takeWord (39, L, qi a :: st, M) x = (if a = 0 then Rr C mX8_takeWord (42, L, st, M) x else Rr C mX8_takeWord (44, L, st, M) x) := (g_if (show decode cX8_takeWord 39 = .ok (.ifCond .ne 5, 3) by decide +kernel) rfl ha1 ha2).trans (g_itn c_ne)
set_option maxRecDepth 20000 in
theorem kX8_takeWord_42 {C : QC} {x : QP} {M : QM} {st : List CV} {L : QL} : Rr C mX8_takeWord (42, L, st, M) x = Rr C mX8_takeWord (43, L, ql 0 :: st, M) x := g_pl (show decode cX8_takeWord 42 = .ok (.lconst 0, 1) by decide +kernel) rfl
set_option maxRecDepth 20000 in
theorem kX8_takeWord_43 {C : QC} {x : QP} {M : QM} {st : List CV} {L : QL} {z : Int} : Rr C mX8_takeWord (43, L, [ql z], M) x = x (some (ql z)) M := g_lret (show decode cX8_takeWord 43 = .ok (.lreturn, 1) by decide +kernel)
set_option maxRecDepth 20000 in
theorem kX8_takeWord_44 {C : QC} {x : QP} {M : QM} {st : List CV} {L : QL} {l0 l1 l2 l3 l4 : Option CV} {z : Int} : Rr C mX8_takeWord (44, [l0, l1, some (ql z), l3, l4], st, M) x = Rr C mX8_takeWord (45, [l0, l1, some (ql z), l3, l4], ql z :: st, M) x := g_pl (show decode cX8_takeWord 44 = .ok (.lload_n 2, 1) by decide +kernel) rfl
set_option maxRecDepth 20000 in
theorem kX8_takeWord_45 {C : QC} {x : QP} {M : QM} {st : List CV} {L : QL} {l0 l1 l2 l3 l4 : Option CV} {z : Int} : Rr C mX8_takeWord (45, [l0, l1, l2, l3, some (qi z)], st, M) x = Rr C mX8_takeWord (47, [l0, l1, l2, l3, some (qi z)], qi z :: st, M) x := g_pl (show decode cX8_takeWord 45 = .ok (.iload 4, 2) by decide +kernel) rfl
set_option maxRecDepth 20000 in
theorem kX8_takeWord_47 {C : QC} {x : QP} {M : QM} {st : List CV} {L : QL} {l0 l1 l2 l3 l4 : Option CV} {r : Option Nat} : Rr C mX8_takeWord (47, [some (.inr (.inr r)), l1, l2, l3, l4], st, M) x = Rr C mX8_takeWord (48, [some (.inr (.inr r)), l1, l2, l3, l4], .inr (.inr r) :: st, M) x := g_pl (show decode cX8_takeWord 47 = .ok (.aload_n 0, 1) by decide +kernel) rfl
set_option maxRecDepth 20000 in
theorem kX8_takeWord_48 {C : QC} {x : QP} {M : QM} {st : List CV} {L : QL} {a : Nat} (hk : q_kd M a = (1, 8)) : Rr C mX8_takeWord (48, L, qr a :: st, M) x = Rr C mX8_takeWord (51, L, q_fv M a 0 :: st, M) x := g_getf (ow := 8) (e := (8, 0, RX8, 121, 0)) (show decode cX8_takeWord 48 = .ok (.getfield 9, 3) by decide +kernel) rfl hk
set_option maxRecDepth 20000 in
theorem kX8_takeWord_51 {C : QC} {x : QP} {M : QM} {st : List CV} {L : QL} {l0 l1 l2 l3 l4 : Option CV} {z : Int} : Rr C mX8_takeWord (51, [l0, l1, l2, l3, some (qi z)], st, M) x = Rr C mX8_takeWord (53, [l0, l1, l2, l3, some (qi z)], qi z :: st, M) x := g_pl (show decode cX8_takeWord 51 = .ok (.iload 4, 2) by decide +kernel) rfl
set_option maxRecDepth 20000 in
theorem kX8_takeWord_53 {C : QC} {x : QP} {M : QM} {st : List CV} {L : QL} {a : Nat} {j : Int} (hk : (q_kd M a).1 = 2) (h0 : 0 ≤ j) (h1 : j < ((q_kd M a).2 : Int)) : Rr C mX8_takeWord (53, L, qi j :: qr a :: st, M) x = Rr C mX8_takeWord (54, L, q_fv M a j.toNat :: st, M) x := g_iald (show decode cX8_takeWord 53 = .ok (.iaload, 1) by decide +kernel) hk h0 h1
set_option maxRecDepth 20000 in
theorem kX8_takeWord_54 {C : QC} {x : QP} {M : QM} {st : List CV} {L : QL} : Rr C mX8_takeWord (54, L, st, M) x = Rr C mX8_takeWord (56, L, qi 97 :: st, M) x := g_pl (show decode cX8_takeWord 54 = .ok (.bipush 97, 2) by decide +kernel) rfl
set_option maxRecDepth 20000 in
theorem kX8_takeWord_56 {C : QC} {x : QP} {M : QM} {st : List CV} {L : QL} {a b : Int} : Rr C mX8_takeWord (56, L, qi b :: qi a :: st, M) x = Rr C mX8_takeWord (57, L, qi (a - b) :: st, M) x := g_pl (show decode cX8_takeWord 56 = .ok (.isub, 1) by decide +kernel) rfl
set_option maxRecDepth 20000 in
theorem kX8_takeWord_57 {C : QC} {x : QP} {M : QM} {st : List CV} {L : QL} : Rr C mX8_takeWord (57, L, st, M) x = Rr C mX8_takeWord (58, L, qi 1 :: st, M) x := g_pl (show decode cX8_takeWord 57 = .ok (.iconst 1, 1) by decide +kernel) rfl
set_option maxRecDepth 20000 in
theorem kX8_takeWord_58 {C : QC} {x : QP} {M : QM} {st : List CV} {L : QL} {a b : Int} : Rr C mX8_takeWord (58, L, qi b :: qi a :: st, M) x = Rr C mX8_takeWord (59, L, qi (a + b) :: st, M) x := g_pl (show decode cX8_takeWord 58 = .ok (.iadd, 1) by decide +kernel) rfl
set_option maxRecDepth 20000 in
theorem kX8_takeWord_59 {C : QC} {x : QP} {M : QM} {L : QL} {rest : List CV} {a0 a1 a2 : CV} {v : CV} {M1 : QM} (hC : C iX10_with [a0, a1, a2] M (some v) M1) (hw : (rest.map q_wd).sum ≤ 8) (k : Rr C mX8_takeWord (62, L, v :: rest, M1) x) : Rr C mX8_takeWord (59, L, a2 :: a1 :: a0 :: rest, M) x := g_cs (ow := 8) (e := (1, 22, 0, [448, 449, 95])) (as := [a0, a1, a2]) (show decode cX8_takeWord 59 = .ok (.invokestatic 25, 3) by decide +kernel) rfl rfl rfl rfl (Or.inl rfl) rfl hC hw k
set_option maxRecDepth 20000 in
theorem kX8_takeWord_62 {C : QC} {x : QP} {M : QM} {st : List CV} {L : QL} {l0 l1 l2 l3 l4 : Option CV} {z : Int} : Rr C mX8_takeWord (62, [l0, l1, l2, l3, l4], ql z :: st, M) x = Rr C mX8_takeWord (63, [l0, q_cut l1, some (ql z), none, l4], st, M) x := g_pl (show decode cX8_takeWord 62 = .ok (.lstore_n 2, 1) by decide +kernel) rfl
set_option maxRecDepth 20000 in
theorem kX8_takeWord_63 {C : QC} {x : QP} {M : QM} {st : List CV} {L : QL} {l0 l1 l2 l3 l4 : Option CV} {z : Int} : Rr C mX8_takeWord (63, [l0, l1, l2, l3, some (qi z)], st, M) x = Rr C mX8_takeWord (66, [l0, l1, l2, q_cut l3, some (qi (z + 1))], st, M) x := g_pl (show decode cX8_takeWord 63 = .ok (.iinc 4 1, 3) by decide +kernel) rfl
set_option maxRecDepth 20000 in
theorem kX8_takeWord_66 {C : QC} {x : QP} {M : QM} {st : List CV} {L : QL} : Rr C mX8_takeWord (66, L, st, M) x = Rr C mX8_takeWord (23, L, st, M) x := g_pl (show decode cX8_takeWord 66 = .ok (.goto (-43), 3) by decide +kernel) rfl
set_option maxRecDepth 20000 in
theorem kX8_takeWord_69 {C : QC} {x : QP} {M : QM} {st : List CV} {L : QL} {l0 l1 l2 l3 l4 : Option CV} {z : Int} : Rr C mX8_takeWord (69, [l0, l1, some (ql z), l3, l4], st, M) x = Rr C mX8_takeWord (70, [l0, l1, some (ql z), l3, l4], ql z :: st, M) x := g_pl (show decode cX8_takeWord 69 = .ok (.lload_n 2, 1) by decide +kernel) rfl
set_option maxRecDepth 20000 in
theorem kX8_takeWord_70 {C : QC} {x : QP} {M : QM} {st : List CV} {L : QL} {z : Int} : Rr C mX8_takeWord (70, L, [ql z], M) x = x (some (ql z)) M := g_lret (show decode cX8_takeWord 70 = .ok (.lreturn, 1) by decide +kernel)
set_option maxRecDepth 20000 in
theorem eX8_takeWord {d : Nat} {M : QM} {x : QP} {a : Nat} : q_T (d + 1) iX8_takeWord [qr a] M x = Rr (q_C d) mX8_takeWord (0, [some (qr a), none, none, none, none], [], M) x := g_entryT (e := _) rfl (Nat.le_of_ble_eq_true rfl) rfl rfl
def mX9_init : QI := (9, cX9_init, true, none)
set_option maxRecDepth 20000 in
theorem kX9_init_0 {C : QC} {x : QP} {M : QM} {st : List CV} {L : QL} {r : Option Nat} : Rr C mX9_init (0, [some (.inr (.inr r))], st, M) x = Rr C mX9_init (1, [some (.inr (.inr r))], .inr (.inr r) :: st, M) x := g_pl (show decode cX9_init 0 = .ok (.aload_n 0, 1) by decide +kernel) rfl
set_option maxRecDepth 20000 in
theorem kX9_init_1 {C : QC} {x : QP} {M : QM} {st : List CV} {L : QL} {a : Nat} (hw : (st.map q_wd).sum ≤ 8) : Rr C mX9_init (1, L, qr a :: st, M) x = Rr C mX9_init (4, L, st, M) x := g_obj (ow := 9) (e := 237) (show decode cX9_init 1 = .ok (.invokespecial 3, 3) by decide +kernel) rfl hw
set_option maxRecDepth 20000 in
theorem kX9_init_4 {C : QC} {x : QP} {M : QM} {st : List CV} {L : QL} {r : Option Nat} : Rr C mX9_init (4, [some (.inr (.inr r))], st, M) x = Rr C mX9_init (5, [some (.inr (.inr r))], .inr (.inr r) :: st, M) x := g_pl (show decode cX9_init 4 = .ok (.aload_n 0, 1) by decide +kernel) rfl
set_option maxRecDepth 20000 in
theorem kX9_init_5 {C : QC} {x : QP} {M : QM} {st : List CV} {L : QL} : Rr C mX9_init (5, L, st, M) x = Rr C mX9_init (6, L, qi 4 :: st, M) x := g_pl (show decode cX9_init 5 = .ok (.iconst 4, 1) by decide +kernel) rfl
set_option maxRecDepth 20000 in
theorem kX9_init_6 {C : QC} {x : QP} {M : QM} {st : List CV} {L : QL} {n : Int} (h0 : 0 ≤ n) (h1 : n ≤ 60000000) : Rr C mX9_init (6, L, qi n :: st, M) x = Rr C mX9_init (8, L, qr (q_top M) :: st, q_al M (2, n.toNat) n.toNat (fun _ => qi 0)) x := g_newI (show decode cX9_init 6 = .ok (.newarray .int, 2) by decide +kernel) h0 h1
set_option maxRecDepth 20000 in
theorem kX9_init_8 {C : QC} {x : QP} {M : QM} {st : List CV} {L : QL} {z : Option Nat} {a : Nat} (hk : q_kd M a = (1, 9)) : Rr C mX9_init (8, L, .inr (.inr z) :: qr a :: st, M) x = Rr C mX9_init (11, L, st, q_wr M a 0 (.inr (.inr z))) x := g_putf (ow := 9) (ini := true) (e := (9, 0, RX9, 238, 0)) (r := (RX9, TX9, 3)) (t := tyX9) (show decode cX9_init 8 = .ok (.putfield 9, 3) by decide +kernel) rfl rfl rfl rfl (by decide +kernel) hk
set_option maxRecDepth 20000 in
theorem kX9_init_11 {C : QC} {x : QP} {M : QM} {st : List CV} {L : QL} {r : Option Nat} : Rr C mX9_init (11, [some (.inr (.inr r))], st, M) x = Rr C mX9_init (12, [some (.inr (.inr r))], .inr (.inr r) :: st, M) x := g_pl (show decode cX9_init 11 = .ok (.aload_n 0, 1) by decide +kernel) rfl
set_option maxRecDepth 20000 in
theorem kX9_init_12 {C : QC} {x : QP} {M : QM} {st : List CV} {L : QL} : Rr C mX9_init (12, L, st, M) x = Rr C mX9_init (13, L, qi 4 :: st, M) x := g_pl (show decode cX9_init 12 = .ok (.iconst 4, 1) by decide +kernel) rfl
set_option maxRecDepth 20000 in
theorem kX9_init_13 {C : QC} {x : QP} {M : QM} {st : List CV} {L : QL} {n : Int} (h0 : 0 ≤ n) (h1 : n ≤ 60000000) : Rr C mX9_init (13, L, qi n :: st, M) x = Rr C mX9_init (15, L, qr (q_top M) :: st, q_al M (2, n.toNat) n.toNat (fun _ => qi 0)) x := g_newI (show decode cX9_init 13 = .ok (.newarray .int, 2) by decide +kernel) h0 h1
set_option maxRecDepth 20000 in
theorem kX9_init_15 {C : QC} {x : QP} {M : QM} {st : List CV} {L : QL} {z : Option Nat} {a : Nat} (hk : q_kd M a = (1, 9)) : Rr C mX9_init (15, L, .inr (.inr z) :: qr a :: st, M) x = Rr C mX9_init (18, L, st, q_wr M a 1 (.inr (.inr z))) x := g_putf (ow := 9) (ini := true) (e := (9, 1, RX9, 239, 0)) (r := (RX9, TX9, 3)) (t := tyX9) (show decode cX9_init 15 = .ok (.putfield 15, 3) by decide +kernel) rfl rfl rfl rfl (by decide +kernel) hk
set_option maxRecDepth 20000 in
theorem kX9_init_18 {C : QC} {x : QP} {M : QM} {st : List CV} {L : QL} {r : Option Nat} : Rr C mX9_init (18, [some (.inr (.inr r))], st, M) x = Rr C mX9_init (19, [some (.inr (.inr r))], .inr (.inr r) :: st, M) x := g_pl (show decode cX9_init 18 = .ok (.aload_n 0, 1) by decide +kernel) rfl
set_option maxRecDepth 20000 in
theorem kX9_init_19 {C : QC} {x : QP} {M : QM} {st : List CV} {L : QL} : Rr C mX9_init (19, L, st, M) x = Rr C mX9_init (20, L, qi 0 :: st, M) x := g_pl (show decode cX9_init 19 = .ok (.iconst 0, 1) by decide +kernel) rfl
set_option maxRecDepth 20000 in
theorem kX9_init_20 {C : QC} {x : QP} {M : QM} {st : List CV} {L : QL} {z : Int} {a : Nat} (hk : q_kd M a = (1, 9)) : Rr C mX9_init (20, L, qi z :: qr a :: st, M) x = Rr C mX9_init (23, L, st, q_wr M a 2 (qi z)) x := g_putf (ow := 9) (ini := true) (e := (9, 2, RX9, 240, 0)) (r := (RX9, TX9, 3)) (t := tyX9) (show decode cX9_init 20 = .ok (.putfield 18, 3) by decide +kernel) rfl rfl rfl rfl (by decide +kernel) hk
set_option maxRecDepth 20000 in
theorem kX9_init_23 {C : QC} {x : QP} {M : QM} {st : List CV} {L : QL} : Rr C mX9_init (23, L, [], M) x = x none M := g_vret (show decode cX9_init 23 = .ok (.return_, 1) by decide +kernel)
set_option maxRecDepth 20000 in
theorem eX9_init {d : Nat} {M : QM} {x : QP} {a : Nat} : q_T (d + 1) iX9_init [qr a] M x = Rr (q_C d) mX9_init (0, [some (qr a)], [], M) x := g_entryT (e := _) rfl (Nat.le_of_ble_eq_true rfl) rfl rfl
def mX9_begin : QI := (9, cX9_begin, false, none)
set_option maxRecDepth 20000 in
theorem kX9_begin_0 {C : QC} {x : QP} {M : QM} {st : List CV} {L : QL} {l0 l1 l2 : Option CV} {r : Option Nat} : Rr C mX9_begin (0, [some (.inr (.inr r)), l1, l2], st, M) x = Rr C mX9_begin (1, [some (.inr (.inr r)), l1, l2], .inr (.inr r) :: st, M) x := g_pl (show decode cX9_begin 0 = .ok (.aload_n 0, 1) by decide +kernel) rfl
set_option maxRecDepth 20000 in
theorem kX9_begin_1 {C : QC} {x : QP} {M : QM} {st : List CV} {L : QL} {a : Nat} (hk : q_kd M a = (1, 9)) : Rr C mX9_begin (1, L, qr a :: st, M) x = Rr C mX9_begin (4, L, q_fv M a 0 :: st, M) x := g_getf (ow := 9) (e := (9, 0, RX9, 238, 0)) (show decode cX9_begin 1 = .ok (.getfield 9, 3) by decide +kernel) rfl hk
set_option maxRecDepth 20000 in
theorem kX9_begin_4 {C : QC} {x : QP} {M : QM} {st : List CV} {L : QL} : Rr C mX9_begin (4, L, st, M) x = Rr C mX9_begin (5, L, qi 0 :: st, M) x := g_pl (show decode cX9_begin 4 = .ok (.iconst 0, 1) by decide +kernel) rfl
set_option maxRecDepth 20000 in
theorem kX9_begin_5 {C : QC} {x : QP} {M : QM} {st : List CV} {L : QL} {l0 l1 l2 : Option CV} {z : Int} : Rr C mX9_begin (5, [l0, some (qi z), l2], st, M) x = Rr C mX9_begin (6, [l0, some (qi z), l2], qi z :: st, M) x := g_pl (show decode cX9_begin 5 = .ok (.iload_n 1, 1) by decide +kernel) rfl
set_option maxRecDepth 20000 in
theorem kX9_begin_6 {C : QC} {x : QP} {M : QM} {st : List CV} {L : QL} {a : Nat} {j v : Int} (hk : (q_kd M a).1 = 2) (h0 : 0 ≤ j) (h1 : j < ((q_kd M a).2 : Int)) : Rr C mX9_begin (6, L, qi v :: qi j :: qr a :: st, M) x = Rr C mX9_begin (7, L, st, q_wr M a j.toNat (qi v)) x := g_iast (show decode cX9_begin 6 = .ok (.iastore, 1) by decide +kernel) hk h0 h1
set_option maxRecDepth 20000 in
theorem kX9_begin_7 {C : QC} {x : QP} {M : QM} {st : List CV} {L : QL} {l0 l1 l2 : Option CV} {r : Option Nat} : Rr C mX9_begin (7, [some (.inr (.inr r)), l1, l2], st, M) x = Rr C mX9_begin (8, [some (.inr (.inr r)), l1, l2], .inr (.inr r) :: st, M) x := g_pl (show decode cX9_begin 7 = .ok (.aload_n 0, 1) by decide +kernel) rfl
set_option maxRecDepth 20000 in
theorem kX9_begin_8 {C : QC} {x : QP} {M : QM} {st : List CV} {L : QL} {a : Nat} (hk : q_kd M a = (1, 9)) : Rr C mX9_begin (8, L, qr a :: st, M) x = Rr C mX9_begin (11, L, q_fv M a 1 :: st, M) x := g_getf (ow := 9) (e := (9, 1, RX9, 239, 0)) (show decode cX9_begin 8 = .ok (.getfield 15, 3) by decide +kernel) rfl hk
set_option maxRecDepth 20000 in
theorem kX9_begin_11 {C : QC} {x : QP} {M : QM} {st : List CV} {L : QL} : Rr C mX9_begin (11, L, st, M) x = Rr C mX9_begin (12, L, qi 0 :: st, M) x := g_pl (show decode cX9_begin 11 = .ok (.iconst 0, 1) by decide +kernel) rfl
set_option maxRecDepth 20000 in
theorem kX9_begin_12 {C : QC} {x : QP} {M : QM} {st : List CV} {L : QL} {l0 l1 l2 : Option CV} {z : Int} : Rr C mX9_begin (12, [l0, l1, some (qi z)], st, M) x = Rr C mX9_begin (13, [l0, l1, some (qi z)], qi z :: st, M) x := g_pl (show decode cX9_begin 12 = .ok (.iload_n 2, 1) by decide +kernel) rfl
set_option maxRecDepth 20000 in
theorem kX9_begin_13 {C : QC} {x : QP} {M : QM} {st : List CV} {L : QL} {a : Nat} {j v : Int} (hk : (q_kd M a).1 = 2) (h0 : 0 ≤ j) (h1 : j < ((q_kd M a).2 : Int)) : Rr C mX9_begin (13, L, qi v :: qi j :: qr a :: st, M) x = Rr C mX9_begin (14, L, st, q_wr M a j.toNat (qi v)) x := g_iast (show decode cX9_begin 13 = .ok (.iastore, 1) by decide +kernel) hk h0 h1
set_option maxRecDepth 20000 in
theorem kX9_begin_14 {C : QC} {x : QP} {M : QM} {st : List CV} {L : QL} {l0 l1 l2 : Option CV} {r : Option Nat} : Rr C mX9_begin (14, [some (.inr (.inr r)), l1, l2], st, M) x = Rr C mX9_begin (15, [some (.inr (.inr r)), l1, l2], .inr (.inr r) :: st, M) x := g_pl (show decode cX9_begin 14 = .ok (.aload_n 0, 1) by decide +kernel) rfl
set_option maxRecDepth 20000 in
theorem kX9_begin_15 {C : QC} {x : QP} {M : QM} {st : List CV} {L : QL} : Rr C mX9_begin (15, L, st, M) x = Rr C mX9_begin (16, L, qi 1 :: st, M) x := g_pl (show decode cX9_begin 15 = .ok (.iconst 1, 1) by decide +kernel) rfl
set_option maxRecDepth 20000 in
theorem kX9_begin_16 {C : QC} {x : QP} {M : QM} {st : List CV} {L : QL} {z : Int} {a : Nat} (hk : q_kd M a = (1, 9)) : Rr C mX9_begin (16, L, qi z :: qr a :: st, M) x = Rr C mX9_begin (19, L, st, q_wr M a 2 (qi z)) x := g_putf (ow := 9) (ini := false) (e := (9, 2, RX9, 240, 0)) (r := (RX9, TX9, 3)) (t := tyX9) (show decode cX9_begin 16 = .ok (.putfield 18, 3) by decide +kernel) rfl rfl rfl rfl (by decide +kernel) hk
set_option maxRecDepth 20000 in
theorem kX9_begin_19 {C : QC} {x : QP} {M : QM} {st : List CV} {L : QL} : Rr C mX9_begin (19, L, [], M) x = x none M := g_vret (show decode cX9_begin 19 = .ok (.return_, 1) by decide +kernel)
set_option maxRecDepth 20000 in
theorem eX9_begin {d : Nat} {M : QM} {x : QP} {a : Nat} {v0 : Int} {v1 : Int} : q_T (d + 1) iX9_begin [qr a, qi v0, qi v1] M x = Rr (q_C d) mX9_begin (0, [some (qr a), some (qi v0), some (qi v1)], [], M) x := g_entryT (e := _) rfl (Nat.le_of_ble_eq_true rfl) rfl rfl
def mX9_at : QI := (9, cX9_at, false, some .int)
set_option maxRecDepth 20000 in
theorem kX9_at_0 {C : QC} {x : QP} {M : QM} {st : List CV} {L : QL} {l0 l1 l2 : Option CV} {r : Option Nat} : Rr C mX9_at (0, [some (.inr (.inr r)), l1, l2], st, M) x = Rr C mX9_at (1, [some (.inr (.inr r)), l1, l2], .inr (.inr r) :: st, M) x := g_pl (show decode cX9_at 0 = .ok (.aload_n 0, 1) by decide +kernel) rfl
set_option maxRecDepth 20000 in
theorem kX9_at_1 {C : QC} {x : QP} {M : QM} {st : List CV} {L : QL} {a : Nat} (hk : q_kd M a = (1, 9)) : Rr C mX9_at (1, L, qr a :: st, M) x = Rr C mX9_at (4, L, q_fv M a 2 :: st, M) x := g_getf (ow := 9) (e := (9, 2, RX9, 240, 0)) (show decode cX9_at 1 = .ok (.getfield 18, 3) by decide +kernel) rfl hk
set_option maxRecDepth 20000 in
theorem kX9_at_4 {C : QC} {x : QP} {M : QM} {st : List CV} {L : QL} : Rr C mX9_at (4, L, st, M) x = Rr C mX9_at (5, L, qi 1 :: st, M) x := g_pl (show decode cX9_at 4 = .ok (.iconst 1, 1) by decide +kernel) rfl
set_option maxRecDepth 20000 in
theorem kX9_at_5 {C : QC} {x : QP} {M : QM} {st : List CV} {L : QL} {a b : Int} : Rr C mX9_at (5, L, qi b :: qi a :: st, M) x = Rr C mX9_at (6, L, qi (a - b) :: st, M) x := g_pl (show decode cX9_at 5 = .ok (.isub, 1) by decide +kernel) rfl
set_option maxRecDepth 20000 in
theorem kX9_at_6 {C : QC} {x : QP} {M : QM} {st : List CV} {L : QL} {l0 l1 l2 : Option CV} {z : Int} : Rr C mX9_at (6, [l0, l1, l2], qi z :: st, M) x = Rr C mX9_at (7, [l0, q_cut l1, some (qi z)], st, M) x := g_pl (show decode cX9_at 6 = .ok (.istore_n 2, 1) by decide +kernel) rfl
set_option maxRecDepth 20000 in
theorem kX9_at_7 {C : QC} {x : QP} {M : QM} {st : List CV} {L : QL} {l0 l1 l2 : Option CV} {z : Int} : Rr C mX9_at (7, [l0, l1, some (qi z)], st, M) x = Rr C mX9_at (8, [l0, l1, some (qi z)], qi z :: st, M) x := g_pl (show decode cX9_at 7 = .ok (.iload_n 2, 1) by decide +kernel) rfl
set_option maxRecDepth 20000 in
theorem kX9_at_8 {C : QC} {x : QP} {M : QM} {st : List CV} {L : QL} {a : Int} (ha1 : -2147483648 ≤ a) (ha2 : a < 2147483648) : Rr C mX9_at (8, L, qi a :: st, M) x = (if a < 0 then Rr C mX9_at (34, L, st, M) x else Rr C mX9_at (11, L, st, M) x) := (g_if (show decode cX9_at 8 = .ok (.ifCond .lt 26, 3) by decide +kernel) rfl ha1 ha2).trans (g_ite c_lt)
set_option maxRecDepth 20000 in
theorem kX9_at_11 {C : QC} {x : QP} {M : QM} {st : List CV} {L : QL} {l0 l1 l2 : Option CV} {r : Option Nat} : Rr C mX9_at (11, [some (.inr (.inr r)), l1, l2], st, M) x = Rr C mX9_at (12, [some (.inr (.inr r)), l1, l2], .inr (.inr r) :: st, M) x := g_pl (show decode cX9_at 11 = .ok (.aload_n 0, 1) by decide +kernel) rfl
set_option maxRecDepth 20000 in
theorem kX9_at_12 {C : QC} {x : QP} {M : QM} {st : List CV} {L : QL} {a : Nat} (hk : q_kd M a = (1, 9)) : Rr C mX9_at (12, L, qr a :: st, M) x = Rr C mX9_at (15, L, q_fv M a 0 :: st, M) x := g_getf (ow := 9) (e := (9, 0, RX9, 238, 0)) (show decode cX9_at 12 = .ok (.getfield 9, 3) by decide +kernel) rfl hk
set_option maxRecDepth 20000 in
theorem kX9_at_15 {C : QC} {x : QP} {M : QM} {st : List CV} {L : QL} {l0 l1 l2 : Option CV} {z : Int} : Rr C mX9_at (15, [l0, l1, some (qi z)], st, M) x = Rr C mX9_at (16, [l0, l1, some (qi z)], qi z :: st, M) x := g_pl (show decode cX9_at 15 = .ok (.iload_n 2, 1) by decide +kernel) rfl
set_option maxRecDepth 20000 in
theorem kX9_at_16 {C : QC} {x : QP} {M : QM} {st : List CV} {L : QL} {a : Nat} {j : Int} (hk : (q_kd M a).1 = 2) (h0 : 0 ≤ j) (h1 : j < ((q_kd M a).2 : Int)) : Rr C mX9_at (16, L, qi j :: qr a :: st, M) x = Rr C mX9_at (17, L, q_fv M a j.toNat :: st, M) x := g_iald (show decode cX9_at 16 = .ok (.iaload, 1) by decide +kernel) hk h0 h1
set_option maxRecDepth 20000 in
theorem kX9_at_17 {C : QC} {x : QP} {M : QM} {st : List CV} {L : QL} {l0 l1 l2 : Option CV} {z : Int} : Rr C mX9_at (17, [l0, some (qi z), l2], st, M) x = Rr C mX9_at (18, [l0, some (qi z), l2], qi z :: st, M) x := g_pl (show decode cX9_at 17 = .ok (.iload_n 1, 1) by decide +kernel) rfl
set_option maxRecDepth 20000 in
theorem kX9_at_18 {C : QC} {x : QP} {M : QM} {st : List CV} {L : QL} {a b : Int} (ha1 : -2147483648 ≤ a) (ha2 : a < 2147483648) (hb1 : -2147483648 ≤ b) (hb2 : b < 2147483648) : Rr C mX9_at (18, L, qi b :: qi a :: st, M) x = (if b < a then Rr C mX9_at (28, L, st, M) x else Rr C mX9_at (21, L, st, M) x) := (g_icmp (show decode cX9_at 18 = .ok (.if_icmp .gt 10, 3) by decide +kernel) rfl ha1 ha2 hb1 hb2).trans (g_ite c_gt)
set_option maxRecDepth 20000 in
theorem kX9_at_21 {C : QC} {x : QP} {M : QM} {st : List CV} {L : QL} {l0 l1 l2 : Option CV} {r : Option Nat} : Rr C mX9_at (21, [some (.inr (.inr r)), l1, l2], st, M) x = Rr C mX9_at (22, [some (.inr (.inr r)), l1, l2], .inr (.inr r) :: st, M) x := g_pl (show decode cX9_at 21 = .ok (.aload_n 0, 1) by decide +kernel) rfl
set_option maxRecDepth 20000 in
theorem kX9_at_22 {C : QC} {x : QP} {M : QM} {st : List CV} {L : QL} {a : Nat} (hk : q_kd M a = (1, 9)) : Rr C mX9_at (22, L, qr a :: st, M) x = Rr C mX9_at (25, L, q_fv M a 1 :: st, M) x := g_getf (ow := 9) (e := (9, 1, RX9, 239, 0)) (show decode cX9_at 22 = .ok (.getfield 15, 3) by decide +kernel) rfl hk
set_option maxRecDepth 20000 in
theorem kX9_at_25 {C : QC} {x : QP} {M : QM} {st : List CV} {L : QL} {l0 l1 l2 : Option CV} {z : Int} : Rr C mX9_at (25, [l0, l1, some (qi z)], st, M) x = Rr C mX9_at (26, [l0, l1, some (qi z)], qi z :: st, M) x := g_pl (show decode cX9_at 25 = .ok (.iload_n 2, 1) by decide +kernel) rfl
set_option maxRecDepth 20000 in
theorem kX9_at_26 {C : QC} {x : QP} {M : QM} {st : List CV} {L : QL} {a : Nat} {j : Int} (hk : (q_kd M a).1 = 2) (h0 : 0 ≤ j) (h1 : j < ((q_kd M a).2 : Int)) : Rr C mX9_at (26, L, qi j :: qr a :: st, M) x = Rr C mX9_at (27, L, q_fv M a j.toNat :: st, M) x := g_iald (show decode cX9_at 26 = .ok (.iaload, 1) by decide +kernel) hk h0 h1
set_option maxRecDepth 20000 in
theorem kX9_at_27 {C : QC} {x : QP} {M : QM} {st : List CV} {L : QL} {z : Int} : Rr C mX9_at (27, L, [qi z], M) x = x (some (qi z)) M := g_iret (show decode cX9_at 27 = .ok (.ireturn, 1) by decide +kernel) rfl
set_option maxRecDepth 20000 in
theorem kX9_at_28 {C : QC} {x : QP} {M : QM} {st : List CV} {L : QL} {l0 l1 l2 : Option CV} {z : Int} : Rr C mX9_at (28, [l0, l1, some (qi z)], st, M) x = Rr C mX9_at (31, [l0, q_cut l1, some (qi (z + (-1)))], st, M) x := g_pl (show decode cX9_at 28 = .ok (.iinc 2 (-1), 3) by decide +kernel) rfl
set_option maxRecDepth 20000 in
theorem kX9_at_31 {C : QC} {x : QP} {M : QM} {st : List CV} {L : QL} : Rr C mX9_at (31, L, st, M) x = Rr C mX9_at (7, L, st, M) x := g_pl (show decode cX9_at 31 = .ok (.goto (-24), 3) by decide +kernel) rfl
set_option maxRecDepth 20000 in
theorem kX9_at_34 {C : QC} {x : QP} {M : QM} {st : List CV} {L : QL} : Rr C mX9_at (34, L, st, M) x = Rr C mX9_at (36, L, qi (-5) :: st, M) x := g_pl (show decode cX9_at 34 = .ok (.bipush (-5), 2) by decide +kernel) rfl
set_option maxRecDepth 20000 in
theorem kX9_at_36 {C : QC} {x : QP} {M : QM} {st : List CV} {L : QL} {z : Int} : Rr C mX9_at (36, L, [qi z], M) x = x (some (qi z)) M := g_iret (show decode cX9_at 36 = .ok (.ireturn, 1) by decide +kernel) rfl
set_option maxRecDepth 20000 in
theorem eX9_at {d : Nat} {M : QM} {x : QP} {a : Nat} {v0 : Int} : q_T (d + 1) iX9_at [qr a, qi v0] M x = Rr (q_C d) mX9_at (0, [some (qr a), some (qi v0), none], [], M) x := g_entryT (e := _) rfl (Nat.le_of_ble_eq_true rfl) rfl rfl
def mX9_put : QI := (9, cX9_put, false, none)
set_option maxRecDepth 20000 in
theorem kX9_put_0 {C : QC} {x : QP} {M : QM} {st : List CV} {L : QL} {l0 l1 l2 : Option CV} {r : Option Nat} : Rr C mX9_put (0, [some (.inr (.inr r)), l1, l2], st, M) x = Rr C mX9_put (1, [some (.inr (.inr r)), l1, l2], .inr (.inr r) :: st, M) x := g_pl (show decode cX9_put 0 = .ok (.aload_n 0, 1) by decide +kernel) rfl
set_option maxRecDepth 20000 in
theorem kX9_put_1 {C : QC} {x : QP} {M : QM} {st : List CV} {L : QL} {a : Nat} (hk : q_kd M a = (1, 9)) : Rr C mX9_put (1, L, qr a :: st, M) x = Rr C mX9_put (4, L, q_fv M a 2 :: st, M) x := g_getf (ow := 9) (e := (9, 2, RX9, 240, 0)) (show decode cX9_put 1 = .ok (.getfield 18, 3) by decide +kernel) rfl hk
set_option maxRecDepth 20000 in
theorem kX9_put_4 {C : QC} {x : QP} {M : QM} {st : List CV} {L : QL} {a : Int} (ha1 : -2147483648 ≤ a) (ha2 : a < 2147483648) : Rr C mX9_put (4, L, qi a :: st, M) x = (if 0 < a then Rr C mX9_put (7, L, st, M) x else Rr C mX9_put (35, L, st, M) x) := (g_if (show decode cX9_put 4 = .ok (.ifCond .le 31, 3) by decide +kernel) rfl ha1 ha2).trans (g_itn c_le)
set_option maxRecDepth 20000 in
theorem kX9_put_7 {C : QC} {x : QP} {M : QM} {st : List CV} {L : QL} {l0 l1 l2 : Option CV} {r : Option Nat} : Rr C mX9_put (7, [some (.inr (.inr r)), l1, l2], st, M) x = Rr C mX9_put (8, [some (.inr (.inr r)), l1, l2], .inr (.inr r) :: st, M) x := g_pl (show decode cX9_put 7 = .ok (.aload_n 0, 1) by decide +kernel) rfl
set_option maxRecDepth 20000 in
theorem kX9_put_8 {C : QC} {x : QP} {M : QM} {st : List CV} {L : QL} {a : Nat} (hk : q_kd M a = (1, 9)) : Rr C mX9_put (8, L, qr a :: st, M) x = Rr C mX9_put (11, L, q_fv M a 0 :: st, M) x := g_getf (ow := 9) (e := (9, 0, RX9, 238, 0)) (show decode cX9_put 8 = .ok (.getfield 9, 3) by decide +kernel) rfl hk
set_option maxRecDepth 20000 in
theorem kX9_put_11 {C : QC} {x : QP} {M : QM} {st : List CV} {L : QL} {l0 l1 l2 : Option CV} {r : Option Nat} : Rr C mX9_put (11, [some (.inr (.inr r)), l1, l2], st, M) x = Rr C mX9_put (12, [some (.inr (.inr r)), l1, l2], .inr (.inr r) :: st, M) x := g_pl (show decode cX9_put 11 = .ok (.aload_n 0, 1) by decide +kernel) rfl
set_option maxRecDepth 20000 in
theorem kX9_put_12 {C : QC} {x : QP} {M : QM} {st : List CV} {L : QL} {a : Nat} (hk : q_kd M a = (1, 9)) : Rr C mX9_put (12, L, qr a :: st, M) x = Rr C mX9_put (15, L, q_fv M a 2 :: st, M) x := g_getf (ow := 9) (e := (9, 2, RX9, 240, 0)) (show decode cX9_put 12 = .ok (.getfield 18, 3) by decide +kernel) rfl hk
set_option maxRecDepth 20000 in
theorem kX9_put_15 {C : QC} {x : QP} {M : QM} {st : List CV} {L : QL} : Rr C mX9_put (15, L, st, M) x = Rr C mX9_put (16, L, qi 1 :: st, M) x := g_pl (show decode cX9_put 15 = .ok (.iconst 1, 1) by decide +kernel) rfl
set_option maxRecDepth 20000 in
theorem kX9_put_16 {C : QC} {x : QP} {M : QM} {st : List CV} {L : QL} {a b : Int} : Rr C mX9_put (16, L, qi b :: qi a :: st, M) x = Rr C mX9_put (17, L, qi (a - b) :: st, M) x := g_pl (show decode cX9_put 16 = .ok (.isub, 1) by decide +kernel) rfl
set_option maxRecDepth 20000 in
theorem kX9_put_17 {C : QC} {x : QP} {M : QM} {st : List CV} {L : QL} {a : Nat} {j : Int} (hk : (q_kd M a).1 = 2) (h0 : 0 ≤ j) (h1 : j < ((q_kd M a).2 : Int)) : Rr C mX9_put (17, L, qi j :: qr a :: st, M) x = Rr C mX9_put (18, L, q_fv M a j.toNat :: st, M) x := g_iald (show decode cX9_put 17 = .ok (.iaload, 1) by decide +kernel) hk h0 h1
set_option maxRecDepth 20000 in
theorem kX9_put_18 {C : QC} {x : QP} {M : QM} {st : List CV} {L : QL} {l0 l1 l2 : Option CV} {z : Int} : Rr C mX9_put (18, [l0, some (qi z), l2], st, M) x = Rr C mX9_put (19, [l0, some (qi z), l2], qi z :: st, M) x := g_pl (show decode cX9_put 18 = .ok (.iload_n 1, 1) by decide +kernel) rfl
set_option maxRecDepth 20000 in
theorem kX9_put_19 {C : QC} {x : QP} {M : QM} {st : List CV} {L : QL} {a b : Int} (ha1 : -2147483648 ≤ a) (ha2 : a < 2147483648) (hb1 : -2147483648 ≤ b) (hb2 : b < 2147483648) : Rr C mX9_put (19, L, qi b :: qi a :: st, M) x = (if a < b then Rr C mX9_put (35, L, st, M) x else Rr C mX9_put (22, L, st, M) x) := (g_icmp (show decode cX9_put 19 = .ok (.if_icmp .lt 16, 3) by decide +kernel) rfl ha1 ha2 hb1 hb2).trans (g_ite c_lt)
set_option maxRecDepth 20000 in
theorem kX9_put_22 {C : QC} {x : QP} {M : QM} {st : List CV} {L : QL} {l0 l1 l2 : Option CV} {r : Option Nat} : Rr C mX9_put (22, [some (.inr (.inr r)), l1, l2], st, M) x = Rr C mX9_put (23, [some (.inr (.inr r)), l1, l2], .inr (.inr r) :: st, M) x := g_pl (show decode cX9_put 22 = .ok (.aload_n 0, 1) by decide +kernel) rfl
set_option maxRecDepth 20000 in
theorem kX9_put_23i {C : QC} {x : QP} {M : QM} {st : List CV} {L : QL} {a : Int} : Rr C mX9_put (23, L, qi a :: st, M) x = Rr C mX9_put (24, L, qi a :: qi a :: st, M) x := g_pl (show decode cX9_put 23 = .ok (.dup, 1) by decide +kernel) rfl
set_option maxRecDepth 20000 in
theorem kX9_put_23r {C : QC} {x : QP} {M : QM} {st : List CV} {L : QL} {a : Option Nat} : Rr C mX9_put (23, L, .inr (.inr a) :: st, M) x = Rr C mX9_put (24, L, .inr (.inr a) :: .inr (.inr a) :: st, M) x := g_pl (show decode cX9_put 23 = .ok (.dup, 1) by decide +kernel) rfl
set_option maxRecDepth 20000 in
theorem kX9_put_24 {C : QC} {x : QP} {M : QM} {st : List CV} {L : QL} {a : Nat} (hk : q_kd M a = (1, 9)) : Rr C mX9_put (24, L, qr a :: st, M) x = Rr C mX9_put (27, L, q_fv M a 2 :: st, M) x := g_getf (ow := 9) (e := (9, 2, RX9, 240, 0)) (show decode cX9_put 24 = .ok (.getfield 18, 3) by decide +kernel) rfl hk
set_option maxRecDepth 20000 in
theorem kX9_put_27 {C : QC} {x : QP} {M : QM} {st : List CV} {L : QL} : Rr C mX9_put (27, L, st, M) x = Rr C mX9_put (28, L, qi 1 :: st, M) x := g_pl (show decode cX9_put 27 = .ok (.iconst 1, 1) by decide +kernel) rfl
set_option maxRecDepth 20000 in
theorem kX9_put_28 {C : QC} {x : QP} {M : QM} {st : List CV} {L : QL} {a b : Int} : Rr C mX9_put (28, L, qi b :: qi a :: st, M) x = Rr C mX9_put (29, L, qi (a - b) :: st, M) x := g_pl (show decode cX9_put 28 = .ok (.isub, 1) by decide +kernel) rfl
set_option maxRecDepth 20000 in
theorem kX9_put_29 {C : QC} {x : QP} {M : QM} {st : List CV} {L : QL} {z : Int} {a : Nat} (hk : q_kd M a = (1, 9)) : Rr C mX9_put (29, L, qi z :: qr a :: st, M) x = Rr C mX9_put (32, L, st, q_wr M a 2 (qi z)) x := g_putf (ow := 9) (ini := false) (e := (9, 2, RX9, 240, 0)) (r := (RX9, TX9, 3)) (t := tyX9) (show decode cX9_put 29 = .ok (.putfield 18, 3) by decide +kernel) rfl rfl rfl rfl (by decide +kernel) hk
set_option maxRecDepth 20000 in
theorem kX9_put_32 {C : QC} {x : QP} {M : QM} {st : List CV} {L : QL} : Rr C mX9_put (32, L, st, M) x = Rr C mX9_put (0, L, st, M) x := g_pl (show decode cX9_put 32 = .ok (.goto (-32), 3) by decide +kernel) rfl
set_option maxRecDepth 20000 in
theorem kX9_put_35 {C : QC} {x : QP} {M : QM} {st : List CV} {L : QL} {l0 l1 l2 : Option CV} {r : Option Nat} : Rr C mX9_put (35, [some (.inr (.inr r)), l1, l2], st, M) x = Rr C mX9_put (36, [some (.inr (.inr r)), l1, l2], .inr (.inr r) :: st, M) x := g_pl (show decode cX9_put 35 = .ok (.aload_n 0, 1) by decide +kernel) rfl
set_option maxRecDepth 20000 in
theorem kX9_put_36 {C : QC} {x : QP} {M : QM} {st : List CV} {L : QL} {l0 l1 l2 : Option CV} {r : Option Nat} : Rr C mX9_put (36, [some (.inr (.inr r)), l1, l2], st, M) x = Rr C mX9_put (37, [some (.inr (.inr r)), l1, l2], .inr (.inr r) :: st, M) x := g_pl (show decode cX9_put 36 = .ok (.aload_n 0, 1) by decide +kernel) rfl
set_option maxRecDepth 20000 in
theorem kX9_put_37 {C : QC} {x : QP} {M : QM} {st : List CV} {L : QL} {a : Nat} (hk : q_kd M a = (1, 9)) : Rr C mX9_put (37, L, qr a :: st, M) x = Rr C mX9_put (40, L, q_fv M a 2 :: st, M) x := g_getf (ow := 9) (e := (9, 2, RX9, 240, 0)) (show decode cX9_put 37 = .ok (.getfield 18, 3) by decide +kernel) rfl hk
set_option maxRecDepth 20000 in
theorem kX9_put_40 {C : QC} {x : QP} {M : QM} {st : List CV} {L : QL} {l0 l1 l2 : Option CV} {z : Int} : Rr C mX9_put (40, [l0, some (qi z), l2], st, M) x = Rr C mX9_put (41, [l0, some (qi z), l2], qi z :: st, M) x := g_pl (show decode cX9_put 40 = .ok (.iload_n 1, 1) by decide +kernel) rfl
set_option maxRecDepth 20000 in
theorem kX9_put_41 {C : QC} {x : QP} {M : QM} {st : List CV} {L : QL} {l0 l1 l2 : Option CV} {z : Int} : Rr C mX9_put (41, [l0, l1, some (qi z)], st, M) x = Rr C mX9_put (42, [l0, l1, some (qi z)], qi z :: st, M) x := g_pl (show decode cX9_put 41 = .ok (.iload_n 2, 1) by decide +kernel) rfl
set_option maxRecDepth 20000 in
theorem kX9_put_42 {C : QC} {x : QP} {M : QM} {L : QL} {rest : List CV} {a0 a1 a2 : CV} {M1 : QM} {b : Nat} (hb : q_kd M b = (1, 9)) (hC : C iX9_insert [qr b, a0, a1, a2] M none M1) (hw : (rest.map q_wd).sum ≤ 8) (k : Rr C mX9_put (45, L, rest, M1) x) : Rr C mX9_put (42, L, a2 :: a1 :: a0 :: qr b :: rest, M) x := g_cv (ow := 9) (e := (0, 75, 9, [723, 725, 8, 87])) (as := [a0, a1, a2]) (show decode cX9_put 42 = .ok (.invokevirtual 22, 3) by decide +kernel) rfl rfl rfl (Or.inl rfl) rfl hb hC hw k
set_option maxRecDepth 20000 in
theorem kX9_put_45 {C : QC} {x : QP} {M : QM} {st : List CV} {L : QL} : Rr C mX9_put (45, L, [], M) x = x none M := g_vret (show decode cX9_put 45 = .ok (.return_, 1) by decide +kernel)
set_option maxRecDepth 20000 in
theorem eX9_put {d : Nat} {M : QM} {x : QP} {a : Nat} {v0 : Int} {v1 : Int} : q_T (d + 1) iX9_put [qr a, qi v0, qi v1] M x = Rr (q_C d) mX9_put (0, [some (qr a), some (qi v0), some (qi v1)], [], M) x := g_entryT (e := _) rfl (Nat.le_of_ble_eq_true rfl) rfl rfl
def mX9_replace : QI := (9, cX9_replace, false, none)
set_option maxRecDepth 20000 in
theorem kX9_replace_0 {C : QC} {x : QP} {M : QM} {st : List CV} {L : QL} {l0 l1 l2 l3 l4 : Option CV} {r : Option Nat} : Rr C mX9_replace (0, [some (.inr (.inr r)), l1, l2, l3, l4], st, M) x = Rr C mX9_replace (1, [some (.inr (.inr r)), l1, l2, l3, l4], .inr (.inr r) :: st, M) x := g_pl (show decode cX9_replace 0 = .ok (.aload_n 0, 1) by decide +kernel) rfl
set_option maxRecDepth 20000 in
theorem kX9_replace_1 {C : QC} {x : QP} {M : QM} {st : List CV} {L : QL} {a : Nat} (hk : q_kd M a = (1, 9)) : Rr C mX9_replace (1, L, qr a :: st, M) x = Rr C mX9_replace (4, L, q_fv M a 2 :: st, M) x := g_getf (ow := 9) (e := (9, 2, RX9, 240, 0)) (show decode cX9_replace 1 = .ok (.getfield 18, 3) by decide +kernel) rfl hk
set_option maxRecDepth 20000 in
theorem kX9_replace_4 {C : QC} {x : QP} {M : QM} {st : List CV} {L : QL} : Rr C mX9_replace (4, L, st, M) x = Rr C mX9_replace (5, L, qi 1 :: st, M) x := g_pl (show decode cX9_replace 4 = .ok (.iconst 1, 1) by decide +kernel) rfl
set_option maxRecDepth 20000 in
theorem kX9_replace_5 {C : QC} {x : QP} {M : QM} {st : List CV} {L : QL} {a b : Int} : Rr C mX9_replace (5, L, qi b :: qi a :: st, M) x = Rr C mX9_replace (6, L, qi (a - b) :: st, M) x := g_pl (show decode cX9_replace 5 = .ok (.isub, 1) by decide +kernel) rfl
set_option maxRecDepth 20000 in
theorem kX9_replace_6 {C : QC} {x : QP} {M : QM} {st : List CV} {L : QL} {l0 l1 l2 l3 l4 : Option CV} {z : Int} : Rr C mX9_replace (6, [l0, l1, l2, l3, l4], qi z :: st, M) x = Rr C mX9_replace (8, [l0, l1, l2, q_cut l3, some (qi z)], st, M) x := g_pl (show decode cX9_replace 6 = .ok (.istore 4, 2) by decide +kernel) rfl
set_option maxRecDepth 20000 in
theorem kX9_replace_8 {C : QC} {x : QP} {M : QM} {st : List CV} {L : QL} {l0 l1 l2 l3 l4 : Option CV} {z : Int} : Rr C mX9_replace (8, [l0, l1, l2, l3, some (qi z)], st, M) x = Rr C mX9_replace (10, [l0, l1, l2, l3, some (qi z)], qi z :: st, M) x := g_pl (show decode cX9_replace 8 = .ok (.iload 4, 2) by decide +kernel) rfl
set_option maxRecDepth 20000 in
theorem kX9_replace_10 {C : QC} {x : QP} {M : QM} {st : List CV} {L : QL} {a : Int} (ha1 : -2147483648 ≤ a) (ha2 : a < 2147483648) : Rr C mX9_replace (10, L, qi a :: st, M) x = (if a < 0 then Rr C mX9_replace (75, L, st, M) x else Rr C mX9_replace (13, L, st, M) x) := (g_if (show decode cX9_replace 10 = .ok (.ifCond .lt 65, 3) by decide +kernel) rfl ha1 ha2).trans (g_ite c_lt)
set_option maxRecDepth 20000 in
theorem kX9_replace_13 {C : QC} {x : QP} {M : QM} {st : List CV} {L : QL} {l0 l1 l2 l3 l4 : Option CV} {r : Option Nat} : Rr C mX9_replace (13, [some (.inr (.inr r)), l1, l2, l3, l4], st, M) x = Rr C mX9_replace (14, [some (.inr (.inr r)), l1, l2, l3, l4], .inr (.inr r) :: st, M) x := g_pl (show decode cX9_replace 13 = .ok (.aload_n 0, 1) by decide +kernel) rfl
set_option maxRecDepth 20000 in
theorem kX9_replace_14 {C : QC} {x : QP} {M : QM} {st : List CV} {L : QL} {a : Nat} (hk : q_kd M a = (1, 9)) : Rr C mX9_replace (14, L, qr a :: st, M) x = Rr C mX9_replace (17, L, q_fv M a 1 :: st, M) x := g_getf (ow := 9) (e := (9, 1, RX9, 239, 0)) (show decode cX9_replace 14 = .ok (.getfield 15, 3) by decide +kernel) rfl hk
set_option maxRecDepth 20000 in
theorem kX9_replace_17 {C : QC} {x : QP} {M : QM} {st : List CV} {L : QL} {l0 l1 l2 l3 l4 : Option CV} {z : Int} : Rr C mX9_replace (17, [l0, l1, l2, l3, some (qi z)], st, M) x = Rr C mX9_replace (19, [l0, l1, l2, l3, some (qi z)], qi z :: st, M) x := g_pl (show decode cX9_replace 17 = .ok (.iload 4, 2) by decide +kernel) rfl
set_option maxRecDepth 20000 in
theorem kX9_replace_19 {C : QC} {x : QP} {M : QM} {st : List CV} {L : QL} {a : Nat} {j : Int} (hk : (q_kd M a).1 = 2) (h0 : 0 ≤ j) (h1 : j < ((q_kd M a).2 : Int)) : Rr C mX9_replace (19, L, qi j :: qr a :: st, M) x = Rr C mX9_replace (20, L, q_fv M a j.toNat :: st, M) x := g_iald (show decode cX9_replace 19 = .ok (.iaload, 1) by decide +kernel) hk h0 h1
set_option maxRecDepth 20000 in
theorem kX9_replace_20 {C : QC} {x : QP} {M : QM} {st : List CV} {L : QL} {l0 l1 l2 l3 l4 : Option CV} {z : Int} : Rr C mX9_replace (20, [l0, l1, some (qi z), l3, l4], st, M) x = Rr C mX9_replace (21, [l0, l1, some (qi z), l3, l4], qi z :: st, M) x := g_pl (show decode cX9_replace 20 = .ok (.iload_n 2, 1) by decide +kernel) rfl
set_option maxRecDepth 20000 in
theorem kX9_replace_21 {C : QC} {x : QP} {M : QM} {st : List CV} {L : QL} {a b : Int} (ha1 : -2147483648 ≤ a) (ha2 : a < 2147483648) (hb1 : -2147483648 ≤ b) (hb2 : b < 2147483648) : Rr C mX9_replace (21, L, qi b :: qi a :: st, M) x = (if a = b then Rr C mX9_replace (24, L, st, M) x else Rr C mX9_replace (69, L, st, M) x) := (g_icmp (show decode cX9_replace 21 = .ok (.if_icmp .ne 48, 3) by decide +kernel) rfl ha1 ha2 hb1 hb2).trans (g_itn c_ne)
set_option maxRecDepth 20000 in
theorem kX9_replace_24 {C : QC} {x : QP} {M : QM} {st : List CV} {L : QL} {l0 l1 l2 l3 l4 : Option CV} {r : Option Nat} : Rr C mX9_replace (24, [some (.inr (.inr r)), l1, l2, l3, l4], st, M) x = Rr C mX9_replace (25, [some (.inr (.inr r)), l1, l2, l3, l4], .inr (.inr r) :: st, M) x := g_pl (show decode cX9_replace 24 = .ok (.aload_n 0, 1) by decide +kernel) rfl
set_option maxRecDepth 20000 in
theorem kX9_replace_25 {C : QC} {x : QP} {M : QM} {st : List CV} {L : QL} {l0 l1 l2 l3 l4 : Option CV} {z : Int} : Rr C mX9_replace (25, [l0, l1, l2, l3, some (qi z)], st, M) x = Rr C mX9_replace (27, [l0, l1, l2, l3, some (qi z)], qi z :: st, M) x := g_pl (show decode cX9_replace 25 = .ok (.iload 4, 2) by decide +kernel) rfl
set_option maxRecDepth 20000 in
theorem kX9_replace_27 {C : QC} {x : QP} {M : QM} {L : QL} {rest : List CV} {a0 : CV} {v : CV} {M1 : QM} {b : Nat} (hb : q_kd M b = (1, 9)) (hC : C iX9_stopOf [qr b, a0] M (some v) M1) (hw : (rest.map q_wd).sum ≤ 8) (k : Rr C mX9_replace (30, L, v :: rest, M1) x) : Rr C mX9_replace (27, L, a0 :: qr b :: rest, M) x := g_cv (ow := 9) (e := (0, 42, 9, [551, 553, 1, 87])) (as := [a0]) (show decode cX9_replace 27 = .ok (.invokevirtual 26, 3) by decide +kernel) rfl rfl rfl (Or.inl rfl) rfl hb hC hw k
set_option maxRecDepth 20000 in
theorem kX9_replace_30 {C : QC} {x : QP} {M : QM} {st : List CV} {L : QL} {l0 l1 l2 l3 l4 : Option CV} {z : Int} : Rr C mX9_replace (30, [l0, some (qi z), l2, l3, l4], st, M) x = Rr C mX9_replace (31, [l0, some (qi z), l2, l3, l4], qi z :: st, M) x := g_pl (show decode cX9_replace 30 = .ok (.iload_n 1, 1) by decide +kernel) rfl
set_option maxRecDepth 20000 in
theorem kX9_replace_31 {C : QC} {x : QP} {M : QM} {st : List CV} {L : QL} {a b : Int} (ha1 : -2147483648 ≤ a) (ha2 : a < 2147483648) (hb1 : -2147483648 ≤ b) (hb2 : b < 2147483648) : Rr C mX9_replace (31, L, qi b :: qi a :: st, M) x = (if b < a then Rr C mX9_replace (37, L, st, M) x else Rr C mX9_replace (34, L, st, M) x) := (g_icmp (show decode cX9_replace 31 = .ok (.if_icmp .gt 6, 3) by decide +kernel) rfl ha1 ha2 hb1 hb2).trans (g_ite c_gt)
set_option maxRecDepth 20000 in
theorem kX9_replace_34 {C : QC} {x : QP} {M : QM} {st : List CV} {L : QL} : Rr C mX9_replace (34, L, st, M) x = Rr C mX9_replace (69, L, st, M) x := g_pl (show decode cX9_replace 34 = .ok (.goto 35, 3) by decide +kernel) rfl
set_option maxRecDepth 20000 in
theorem kX9_replace_37 {C : QC} {x : QP} {M : QM} {st : List CV} {L : QL} {l0 l1 l2 l3 l4 : Option CV} {r : Option Nat} : Rr C mX9_replace (37, [some (.inr (.inr r)), l1, l2, l3, l4], st, M) x = Rr C mX9_replace (38, [some (.inr (.inr r)), l1, l2, l3, l4], .inr (.inr r) :: st, M) x := g_pl (show decode cX9_replace 37 = .ok (.aload_n 0, 1) by decide +kernel) rfl
set_option maxRecDepth 20000 in
theorem kX9_replace_38 {C : QC} {x : QP} {M : QM} {st : List CV} {L : QL} {a : Nat} (hk : q_kd M a = (1, 9)) : Rr C mX9_replace (38, L, qr a :: st, M) x = Rr C mX9_replace (41, L, q_fv M a 0 :: st, M) x := g_getf (ow := 9) (e := (9, 0, RX9, 238, 0)) (show decode cX9_replace 38 = .ok (.getfield 9, 3) by decide +kernel) rfl hk
set_option maxRecDepth 20000 in
theorem kX9_replace_41 {C : QC} {x : QP} {M : QM} {st : List CV} {L : QL} {l0 l1 l2 l3 l4 : Option CV} {z : Int} : Rr C mX9_replace (41, [l0, l1, l2, l3, some (qi z)], st, M) x = Rr C mX9_replace (43, [l0, l1, l2, l3, some (qi z)], qi z :: st, M) x := g_pl (show decode cX9_replace 41 = .ok (.iload 4, 2) by decide +kernel) rfl
set_option maxRecDepth 20000 in
theorem kX9_replace_43 {C : QC} {x : QP} {M : QM} {st : List CV} {L : QL} {a : Nat} {j : Int} (hk : (q_kd M a).1 = 2) (h0 : 0 ≤ j) (h1 : j < ((q_kd M a).2 : Int)) : Rr C mX9_replace (43, L, qi j :: qr a :: st, M) x = Rr C mX9_replace (44, L, q_fv M a j.toNat :: st, M) x := g_iald (show decode cX9_replace 43 = .ok (.iaload, 1) by decide +kernel) hk h0 h1
set_option maxRecDepth 20000 in
theorem kX9_replace_44 {C : QC} {x : QP} {M : QM} {st : List CV} {L : QL} {l0 l1 l2 l3 l4 : Option CV} {z : Int} : Rr C mX9_replace (44, [l0, some (qi z), l2, l3, l4], st, M) x = Rr C mX9_replace (45, [l0, some (qi z), l2, l3, l4], qi z :: st, M) x := g_pl (show decode cX9_replace 44 = .ok (.iload_n 1, 1) by decide +kernel) rfl
set_option maxRecDepth 20000 in
theorem kX9_replace_45 {C : QC} {x : QP} {M : QM} {st : List CV} {L : QL} {a b : Int} (ha1 : -2147483648 ≤ a) (ha2 : a < 2147483648) (hb1 : -2147483648 ≤ b) (hb2 : b < 2147483648) : Rr C mX9_replace (45, L, qi b :: qi a :: st, M) x = (if a < b then Rr C mX9_replace (59, L, st, M) x else Rr C mX9_replace (48, L, st, M) x) := (g_icmp (show decode cX9_replace 45 = .ok (.if_icmp .lt 14, 3) by decide +kernel) rfl ha1 ha2 hb1 hb2).trans (g_ite c_lt)
set_option maxRecDepth 20000 in
theorem kX9_replace_48 {C : QC} {x : QP} {M : QM} {st : List CV} {L : QL} {l0 l1 l2 l3 l4 : Option CV} {r : Option Nat} : Rr C mX9_replace (48, [some (.inr (.inr r)), l1, l2, l3, l4], st, M) x = Rr C mX9_replace (49, [some (.inr (.inr r)), l1, l2, l3, l4], .inr (.inr r) :: st, M) x := g_pl (show decode cX9_replace 48 = .ok (.aload_n 0, 1) by decide +kernel) rfl
set_option maxRecDepth 20000 in
theorem kX9_replace_49 {C : QC} {x : QP} {M : QM} {st : List CV} {L : QL} {a : Nat} (hk : q_kd M a = (1, 9)) : Rr C mX9_replace (49, L, qr a :: st, M) x = Rr C mX9_replace (52, L, q_fv M a 1 :: st, M) x := g_getf (ow := 9) (e := (9, 1, RX9, 239, 0)) (show decode cX9_replace 49 = .ok (.getfield 15, 3) by decide +kernel) rfl hk
set_option maxRecDepth 20000 in
theorem kX9_replace_52 {C : QC} {x : QP} {M : QM} {st : List CV} {L : QL} {l0 l1 l2 l3 l4 : Option CV} {z : Int} : Rr C mX9_replace (52, [l0, l1, l2, l3, some (qi z)], st, M) x = Rr C mX9_replace (54, [l0, l1, l2, l3, some (qi z)], qi z :: st, M) x := g_pl (show decode cX9_replace 52 = .ok (.iload 4, 2) by decide +kernel) rfl
set_option maxRecDepth 20000 in
theorem kX9_replace_54 {C : QC} {x : QP} {M : QM} {st : List CV} {L : QL} {l0 l1 l2 l3 l4 : Option CV} {z : Int} : Rr C mX9_replace (54, [l0, l1, l2, some (qi z), l4], st, M) x = Rr C mX9_replace (55, [l0, l1, l2, some (qi z), l4], qi z :: st, M) x := g_pl (show decode cX9_replace 54 = .ok (.iload_n 3, 1) by decide +kernel) rfl
set_option maxRecDepth 20000 in
theorem kX9_replace_55 {C : QC} {x : QP} {M : QM} {st : List CV} {L : QL} {a : Nat} {j v : Int} (hk : (q_kd M a).1 = 2) (h0 : 0 ≤ j) (h1 : j < ((q_kd M a).2 : Int)) : Rr C mX9_replace (55, L, qi v :: qi j :: qr a :: st, M) x = Rr C mX9_replace (56, L, st, q_wr M a j.toNat (qi v)) x := g_iast (show decode cX9_replace 55 = .ok (.iastore, 1) by decide +kernel) hk h0 h1
set_option maxRecDepth 20000 in
theorem kX9_replace_56 {C : QC} {x : QP} {M : QM} {st : List CV} {L : QL} : Rr C mX9_replace (56, L, st, M) x = Rr C mX9_replace (69, L, st, M) x := g_pl (show decode cX9_replace 56 = .ok (.goto 13, 3) by decide +kernel) rfl
set_option maxRecDepth 20000 in
theorem kX9_replace_59 {C : QC} {x : QP} {M : QM} {st : List CV} {L : QL} {l0 l1 l2 l3 l4 : Option CV} {r : Option Nat} : Rr C mX9_replace (59, [some (.inr (.inr r)), l1, l2, l3, l4], st, M) x = Rr C mX9_replace (60, [some (.inr (.inr r)), l1, l2, l3, l4], .inr (.inr r) :: st, M) x := g_pl (show decode cX9_replace 59 = .ok (.aload_n 0, 1) by decide +kernel) rfl
set_option maxRecDepth 20000 in
theorem kX9_replace_60 {C : QC} {x : QP} {M : QM} {st : List CV} {L : QL} {l0 l1 l2 l3 l4 : Option CV} {z : Int} : Rr C mX9_replace (60, [l0, l1, l2, l3, some (qi z)], st, M) x = Rr C mX9_replace (62, [l0, l1, l2, l3, some (qi z)], qi z :: st, M) x := g_pl (show decode cX9_replace 60 = .ok (.iload 4, 2) by decide +kernel) rfl
set_option maxRecDepth 20000 in
theorem kX9_replace_62 {C : QC} {x : QP} {M : QM} {st : List CV} {L : QL} : Rr C mX9_replace (62, L, st, M) x = Rr C mX9_replace (63, L, qi 1 :: st, M) x := g_pl (show decode cX9_replace 62 = .ok (.iconst 1, 1) by decide +kernel) rfl
set_option maxRecDepth 20000 in
theorem kX9_replace_63 {C : QC} {x : QP} {M : QM} {st : List CV} {L : QL} {a b : Int} : Rr C mX9_replace (63, L, qi b :: qi a :: st, M) x = Rr C mX9_replace (64, L, qi (a + b) :: st, M) x := g_pl (show decode cX9_replace 63 = .ok (.iadd, 1) by decide +kernel) rfl
set_option maxRecDepth 20000 in
theorem kX9_replace_64 {C : QC} {x : QP} {M : QM} {st : List CV} {L : QL} {l0 l1 l2 l3 l4 : Option CV} {z : Int} : Rr C mX9_replace (64, [l0, some (qi z), l2, l3, l4], st, M) x = Rr C mX9_replace (65, [l0, some (qi z), l2, l3, l4], qi z :: st, M) x := g_pl (show decode cX9_replace 64 = .ok (.iload_n 1, 1) by decide +kernel) rfl
set_option maxRecDepth 20000 in
theorem kX9_replace_65 {C : QC} {x : QP} {M : QM} {st : List CV} {L : QL} {l0 l1 l2 l3 l4 : Option CV} {z : Int} : Rr C mX9_replace (65, [l0, l1, l2, some (qi z), l4], st, M) x = Rr C mX9_replace (66, [l0, l1, l2, some (qi z), l4], qi z :: st, M) x := g_pl (show decode cX9_replace 65 = .ok (.iload_n 3, 1) by decide +kernel) rfl
set_option maxRecDepth 20000 in
theorem kX9_replace_66 {C : QC} {x : QP} {M : QM} {L : QL} {rest : List CV} {a0 a1 a2 : CV} {M1 : QM} {b : Nat} (hb : q_kd M b = (1, 9)) (hC : C iX9_insert [qr b, a0, a1, a2] M none M1) (hw : (rest.map q_wd).sum ≤ 8) (k : Rr C mX9_replace (69, L, rest, M1) x) : Rr C mX9_replace (66, L, a2 :: a1 :: a0 :: qr b :: rest, M) x := g_cv (ow := 9) (e := (0, 75, 9, [723, 725, 8, 87])) (as := [a0, a1, a2]) (show decode cX9_replace 66 = .ok (.invokevirtual 22, 3) by decide +kernel) rfl rfl rfl (Or.inl rfl) rfl hb hC hw k
set_option maxRecDepth 20000 in
theorem kX9_replace_69 {C : QC} {x : QP} {M : QM} {st : List CV} {L : QL} {l0 l1 l2 l3 l4 : Option CV} {z : Int} : Rr C mX9_replace (69, [l0, l1, l2, l3, some (qi z)], st, M) x = Rr C mX9_replace (72, [l0, l1, l2, q_cut l3, some (qi (z + (-1)))], st, M) x := g_pl (show decode cX9_replace 69 = .ok (.iinc 4 (-1), 3) by decide +kernel) rfl
set_option maxRecDepth 20000 in
theorem kX9_replace_72 {C : QC} {x : QP} {M : QM} {st : List CV} {L : QL} : Rr C mX9_replace (72, L, st, M) x = Rr C mX9_replace (8, L, st, M) x := g_pl (show decode cX9_replace 72 = .ok (.goto (-64), 3) by decide +kernel) rfl
set_option maxRecDepth 20000 in
theorem kX9_replace_75 {C : QC} {x : QP} {M : QM} {st : List CV} {L : QL} : Rr C mX9_replace (75, L, [], M) x = x none M := g_vret (show decode cX9_replace 75 = .ok (.return_, 1) by decide +kernel)
set_option maxRecDepth 20000 in
theorem eX9_replace {d : Nat} {M : QM} {x : QP} {a : Nat} {v0 : Int} {v1 : Int} {v2 : Int} : q_T (d + 1) iX9_replace [qr a, qi v0, qi v1, qi v2] M x = Rr (q_C d) mX9_replace (0, [some (qr a), some (qi v0), some (qi v1), some (qi v2), none], [], M) x := g_entryT (e := _) rfl (Nat.le_of_ble_eq_true rfl) rfl rfl
def mX9_firstDayWith : QI := (9, cX9_firstDayWith, false, some .int)
set_option maxRecDepth 20000 in
theorem kX9_firstDayWith_0 {C : QC} {x : QP} {M : QM} {st : List CV} {L : QL} : Rr C mX9_firstDayWith (0, L, st, M) x = Rr C mX9_firstDayWith (1, L, qi 0 :: st, M) x := g_pl (show decode cX9_firstDayWith 0 = .ok (.iconst 0, 1) by decide +kernel) rfl
set_option maxRecDepth 20000 in
theorem kX9_firstDayWith_1 {C : QC} {x : QP} {M : QM} {st : List CV} {L : QL} {l0 l1 l2 l3 l4 l5 : Option CV} {z : Int} : Rr C mX9_firstDayWith (1, [l0, l1, l2, l3, l4, l5], qi z :: st, M) x = Rr C mX9_firstDayWith (3, [l0, l1, l2, q_cut l3, some (qi z), l5], st, M) x := g_pl (show decode cX9_firstDayWith 1 = .ok (.istore 4, 2) by decide +kernel) rfl
set_option maxRecDepth 20000 in
theorem kX9_firstDayWith_3 {C : QC} {x : QP} {M : QM} {st : List CV} {L : QL} {l0 l1 l2 l3 l4 l5 : Option CV} {z : Int} : Rr C mX9_firstDayWith (3, [l0, l1, l2, l3, some (qi z), l5], st, M) x = Rr C mX9_firstDayWith (5, [l0, l1, l2, l3, some (qi z), l5], qi z :: st, M) x := g_pl (show decode cX9_firstDayWith 3 = .ok (.iload 4, 2) by decide +kernel) rfl
set_option maxRecDepth 20000 in
theorem kX9_firstDayWith_5 {C : QC} {x : QP} {M : QM} {st : List CV} {L : QL} {l0 l1 l2 l3 l4 l5 : Option CV} {r : Option Nat} : Rr C mX9_firstDayWith (5, [some (.inr (.inr r)), l1, l2, l3, l4, l5], st, M) x = Rr C mX9_firstDayWith (6, [some (.inr (.inr r)), l1, l2, l3, l4, l5], .inr (.inr r) :: st, M) x := g_pl (show decode cX9_firstDayWith 5 = .ok (.aload_n 0, 1) by decide +kernel) rfl
set_option maxRecDepth 20000 in
theorem kX9_firstDayWith_6 {C : QC} {x : QP} {M : QM} {st : List CV} {L : QL} {a : Nat} (hk : q_kd M a = (1, 9)) : Rr C mX9_firstDayWith (6, L, qr a :: st, M) x = Rr C mX9_firstDayWith (9, L, q_fv M a 2 :: st, M) x := g_getf (ow := 9) (e := (9, 2, RX9, 240, 0)) (show decode cX9_firstDayWith 6 = .ok (.getfield 18, 3) by decide +kernel) rfl hk
set_option maxRecDepth 20000 in
theorem kX9_firstDayWith_9 {C : QC} {x : QP} {M : QM} {st : List CV} {L : QL} {a b : Int} (ha1 : -2147483648 ≤ a) (ha2 : a < 2147483648) (hb1 : -2147483648 ≤ b) (hb2 : b < 2147483648) : Rr C mX9_firstDayWith (9, L, qi b :: qi a :: st, M) x = (if a < b then Rr C mX9_firstDayWith (12, L, st, M) x else Rr C mX9_firstDayWith (60, L, st, M) x) := (g_icmp (show decode cX9_firstDayWith 9 = .ok (.if_icmp .ge 51, 3) by decide +kernel) rfl ha1 ha2 hb1 hb2).trans (g_itn c_ge)
set_option maxRecDepth 20000 in
theorem kX9_firstDayWith_12 {C : QC} {x : QP} {M : QM} {st : List CV} {L : QL} {l0 l1 l2 l3 l4 l5 : Option CV} {r : Option Nat} : Rr C mX9_firstDayWith (12, [some (.inr (.inr r)), l1, l2, l3, l4, l5], st, M) x = Rr C mX9_firstDayWith (13, [some (.inr (.inr r)), l1, l2, l3, l4, l5], .inr (.inr r) :: st, M) x := g_pl (show decode cX9_firstDayWith 12 = .ok (.aload_n 0, 1) by decide +kernel) rfl
set_option maxRecDepth 20000 in
theorem kX9_firstDayWith_13 {C : QC} {x : QP} {M : QM} {st : List CV} {L : QL} {a : Nat} (hk : q_kd M a = (1, 9)) : Rr C mX9_firstDayWith (13, L, qr a :: st, M) x = Rr C mX9_firstDayWith (16, L, q_fv M a 0 :: st, M) x := g_getf (ow := 9) (e := (9, 0, RX9, 238, 0)) (show decode cX9_firstDayWith 13 = .ok (.getfield 9, 3) by decide +kernel) rfl hk
set_option maxRecDepth 20000 in
theorem kX9_firstDayWith_16 {C : QC} {x : QP} {M : QM} {st : List CV} {L : QL} {l0 l1 l2 l3 l4 l5 : Option CV} {z : Int} : Rr C mX9_firstDayWith (16, [l0, l1, l2, l3, some (qi z), l5], st, M) x = Rr C mX9_firstDayWith (18, [l0, l1, l2, l3, some (qi z), l5], qi z :: st, M) x := g_pl (show decode cX9_firstDayWith 16 = .ok (.iload 4, 2) by decide +kernel) rfl
set_option maxRecDepth 20000 in
theorem kX9_firstDayWith_18 {C : QC} {x : QP} {M : QM} {st : List CV} {L : QL} {a : Nat} {j : Int} (hk : (q_kd M a).1 = 2) (h0 : 0 ≤ j) (h1 : j < ((q_kd M a).2 : Int)) : Rr C mX9_firstDayWith (18, L, qi j :: qr a :: st, M) x = Rr C mX9_firstDayWith (19, L, q_fv M a j.toNat :: st, M) x := g_iald (show decode cX9_firstDayWith 18 = .ok (.iaload, 1) by decide +kernel) hk h0 h1
set_option maxRecDepth 20000 in
theorem kX9_firstDayWith_19 {C : QC} {x : QP} {M : QM} {st : List CV} {L : QL} {l0 l1 l2 l3 l4 l5 : Option CV} {z : Int} : Rr C mX9_firstDayWith (19, [l0, l1, some (qi z), l3, l4, l5], st, M) x = Rr C mX9_firstDayWith (20, [l0, l1, some (qi z), l3, l4, l5], qi z :: st, M) x := g_pl (show decode cX9_firstDayWith 19 = .ok (.iload_n 2, 1) by decide +kernel) rfl
set_option maxRecDepth 20000 in
theorem kX9_firstDayWith_20 {C : QC} {x : QP} {M : QM} {st : List CV} {L : QL} {a b : Int} (ha1 : -2147483648 ≤ a) (ha2 : a < 2147483648) (hb1 : -2147483648 ≤ b) (hb2 : b < 2147483648) (hw : (st.map q_wd).sum ≤ 8) : Rr C mX9_firstDayWith (20, L, qi b :: qi a :: st, M) x = Rr C mX9_firstDayWith (23, L, qi (max a b) :: st, M) x := g_mx (ow := 9) (e := (0, 548)) (show decode cX9_firstDayWith 20 = .ok (.invokestatic 30, 3) by decide +kernel) rfl rfl ha1 ha2 hb1 hb2 hw
set_option maxRecDepth 20000 in
theorem kX9_firstDayWith_23 {C : QC} {x : QP} {M : QM} {st : List CV} {L : QL} {l0 l1 l2 l3 l4 l5 : Option CV} {z : Int} : Rr C mX9_firstDayWith (23, [l0, l1, l2, l3, l4, l5], qi z :: st, M) x = Rr C mX9_firstDayWith (25, [l0, l1, l2, l3, q_cut l4, some (qi z)], st, M) x := g_pl (show decode cX9_firstDayWith 23 = .ok (.istore 5, 2) by decide +kernel) rfl
set_option maxRecDepth 20000 in
theorem kX9_firstDayWith_25 {C : QC} {x : QP} {M : QM} {st : List CV} {L : QL} {l0 l1 l2 l3 l4 l5 : Option CV} {r : Option Nat} : Rr C mX9_firstDayWith (25, [some (.inr (.inr r)), l1, l2, l3, l4, l5], st, M) x = Rr C mX9_firstDayWith (26, [some (.inr (.inr r)), l1, l2, l3, l4, l5], .inr (.inr r) :: st, M) x := g_pl (show decode cX9_firstDayWith 25 = .ok (.aload_n 0, 1) by decide +kernel) rfl
set_option maxRecDepth 20000 in
theorem kX9_firstDayWith_26 {C : QC} {x : QP} {M : QM} {st : List CV} {L : QL} {a : Nat} (hk : q_kd M a = (1, 9)) : Rr C mX9_firstDayWith (26, L, qr a :: st, M) x = Rr C mX9_firstDayWith (29, L, q_fv M a 1 :: st, M) x := g_getf (ow := 9) (e := (9, 1, RX9, 239, 0)) (show decode cX9_firstDayWith 26 = .ok (.getfield 15, 3) by decide +kernel) rfl hk
set_option maxRecDepth 20000 in
theorem kX9_firstDayWith_29 {C : QC} {x : QP} {M : QM} {st : List CV} {L : QL} {l0 l1 l2 l3 l4 l5 : Option CV} {z : Int} : Rr C mX9_firstDayWith (29, [l0, l1, l2, l3, some (qi z), l5], st, M) x = Rr C mX9_firstDayWith (31, [l0, l1, l2, l3, some (qi z), l5], qi z :: st, M) x := g_pl (show decode cX9_firstDayWith 29 = .ok (.iload 4, 2) by decide +kernel) rfl
set_option maxRecDepth 20000 in
theorem kX9_firstDayWith_31 {C : QC} {x : QP} {M : QM} {st : List CV} {L : QL} {a : Nat} {j : Int} (hk : (q_kd M a).1 = 2) (h0 : 0 ≤ j) (h1 : j < ((q_kd M a).2 : Int)) : Rr C mX9_firstDayWith (31, L, qi j :: qr a :: st, M) x = Rr C mX9_firstDayWith (32, L, q_fv M a j.toNat :: st, M) x := g_iald (show decode cX9_firstDayWith 31 = .ok (.iaload, 1) by decide +kernel) hk h0 h1
set_option maxRecDepth 20000 in
theorem kX9_firstDayWith_32 {C : QC} {x : QP} {M : QM} {st : List CV} {L : QL} {l0 l1 l2 l3 l4 l5 : Option CV} {z : Int} : Rr C mX9_firstDayWith (32, [l0, some (qi z), l2, l3, l4, l5], st, M) x = Rr C mX9_firstDayWith (33, [l0, some (qi z), l2, l3, l4, l5], qi z :: st, M) x := g_pl (show decode cX9_firstDayWith 32 = .ok (.iload_n 1, 1) by decide +kernel) rfl
set_option maxRecDepth 20000 in
theorem kX9_firstDayWith_33 {C : QC} {x : QP} {M : QM} {st : List CV} {L : QL} {a b : Int} (ha1 : -2147483648 ≤ a) (ha2 : a < 2147483648) (hb1 : -2147483648 ≤ b) (hb2 : b < 2147483648) : Rr C mX9_firstDayWith (33, L, qi b :: qi a :: st, M) x = (if a = b then Rr C mX9_firstDayWith (36, L, st, M) x else Rr C mX9_firstDayWith (54, L, st, M) x) := (g_icmp (show decode cX9_firstDayWith 33 = .ok (.if_icmp .ne 21, 3) by decide +kernel) rfl ha1 ha2 hb1 hb2).trans (g_itn c_ne)
set_option maxRecDepth 20000 in
theorem kX9_firstDayWith_36 {C : QC} {x : QP} {M : QM} {st : List CV} {L : QL} {l0 l1 l2 l3 l4 l5 : Option CV} {z : Int} : Rr C mX9_firstDayWith (36, [l0, l1, l2, l3, l4, some (qi z)], st, M) x = Rr C mX9_firstDayWith (38, [l0, l1, l2, l3, l4, some (qi z)], qi z :: st, M) x := g_pl (show decode cX9_firstDayWith 36 = .ok (.iload 5, 2) by decide +kernel) rfl
set_option maxRecDepth 20000 in
theorem kX9_firstDayWith_38 {C : QC} {x : QP} {M : QM} {st : List CV} {L : QL} {l0 l1 l2 l3 l4 l5 : Option CV} {r : Option Nat} : Rr C mX9_firstDayWith (38, [some (.inr (.inr r)), l1, l2, l3, l4, l5], st, M) x = Rr C mX9_firstDayWith (39, [some (.inr (.inr r)), l1, l2, l3, l4, l5], .inr (.inr r) :: st, M) x := g_pl (show decode cX9_firstDayWith 38 = .ok (.aload_n 0, 1) by decide +kernel) rfl
set_option maxRecDepth 20000 in
theorem kX9_firstDayWith_39 {C : QC} {x : QP} {M : QM} {st : List CV} {L : QL} {l0 l1 l2 l3 l4 l5 : Option CV} {z : Int} : Rr C mX9_firstDayWith (39, [l0, l1, l2, l3, some (qi z), l5], st, M) x = Rr C mX9_firstDayWith (41, [l0, l1, l2, l3, some (qi z), l5], qi z :: st, M) x := g_pl (show decode cX9_firstDayWith 39 = .ok (.iload 4, 2) by decide +kernel) rfl
set_option maxRecDepth 20000 in
theorem kX9_firstDayWith_41 {C : QC} {x : QP} {M : QM} {L : QL} {rest : List CV} {a0 : CV} {v : CV} {M1 : QM} {b : Nat} (hb : q_kd M b = (1, 9)) (hC : C iX9_stopOf [qr b, a0] M (some v) M1) (hw : (rest.map q_wd).sum ≤ 8) (k : Rr C mX9_firstDayWith (44, L, v :: rest, M1) x) : Rr C mX9_firstDayWith (41, L, a0 :: qr b :: rest, M) x := g_cv (ow := 9) (e := (0, 42, 9, [551, 553, 1, 87])) (as := [a0]) (show decode cX9_firstDayWith 41 = .ok (.invokevirtual 26, 3) by decide +kernel) rfl rfl rfl (Or.inl rfl) rfl hb hC hw k
set_option maxRecDepth 20000 in
theorem kX9_firstDayWith_44 {C : QC} {x : QP} {M : QM} {st : List CV} {L : QL} {l0 l1 l2 l3 l4 l5 : Option CV} {z : Int} : Rr C mX9_firstDayWith (44, [l0, l1, l2, some (qi z), l4, l5], st, M) x = Rr C mX9_firstDayWith (45, [l0, l1, l2, some (qi z), l4, l5], qi z :: st, M) x := g_pl (show decode cX9_firstDayWith 44 = .ok (.iload_n 3, 1) by decide +kernel) rfl
set_option maxRecDepth 20000 in
theorem kX9_firstDayWith_45 {C : QC} {x : QP} {M : QM} {st : List CV} {L : QL} {a b : Int} (ha1 : -2147483648 ≤ a) (ha2 : a < 2147483648) (hb1 : -2147483648 ≤ b) (hb2 : b < 2147483648) (hw : (st.map q_wd).sum ≤ 8) : Rr C mX9_firstDayWith (45, L, qi b :: qi a :: st, M) x = Rr C mX9_firstDayWith (48, L, qi (min a b) :: st, M) x := g_mx (ow := 9) (e := (1, 555)) (show decode cX9_firstDayWith 45 = .ok (.invokestatic 36, 3) by decide +kernel) rfl rfl ha1 ha2 hb1 hb2 hw
set_option maxRecDepth 20000 in
theorem kX9_firstDayWith_48 {C : QC} {x : QP} {M : QM} {st : List CV} {L : QL} {a b : Int} (ha1 : -2147483648 ≤ a) (ha2 : a < 2147483648) (hb1 : -2147483648 ≤ b) (hb2 : b < 2147483648) : Rr C mX9_firstDayWith (48, L, qi b :: qi a :: st, M) x = (if a < b then Rr C mX9_firstDayWith (51, L, st, M) x else Rr C mX9_firstDayWith (54, L, st, M) x) := (g_icmp (show decode cX9_firstDayWith 48 = .ok (.if_icmp .ge 6, 3) by decide +kernel) rfl ha1 ha2 hb1 hb2).trans (g_itn c_ge)
set_option maxRecDepth 20000 in
theorem kX9_firstDayWith_51 {C : QC} {x : QP} {M : QM} {st : List CV} {L : QL} {l0 l1 l2 l3 l4 l5 : Option CV} {z : Int} : Rr C mX9_firstDayWith (51, [l0, l1, l2, l3, l4, some (qi z)], st, M) x = Rr C mX9_firstDayWith (53, [l0, l1, l2, l3, l4, some (qi z)], qi z :: st, M) x := g_pl (show decode cX9_firstDayWith 51 = .ok (.iload 5, 2) by decide +kernel) rfl
set_option maxRecDepth 20000 in
theorem kX9_firstDayWith_53 {C : QC} {x : QP} {M : QM} {st : List CV} {L : QL} {z : Int} : Rr C mX9_firstDayWith (53, L, [qi z], M) x = x (some (qi z)) M := g_iret (show decode cX9_firstDayWith 53 = .ok (.ireturn, 1) by decide +kernel) rfl
set_option maxRecDepth 20000 in
theorem kX9_firstDayWith_54 {C : QC} {x : QP} {M : QM} {st : List CV} {L : QL} {l0 l1 l2 l3 l4 l5 : Option CV} {z : Int} : Rr C mX9_firstDayWith (54, [l0, l1, l2, l3, some (qi z), l5], st, M) x = Rr C mX9_firstDayWith (57, [l0, l1, l2, q_cut l3, some (qi (z + 1)), l5], st, M) x := g_pl (show decode cX9_firstDayWith 54 = .ok (.iinc 4 1, 3) by decide +kernel) rfl
set_option maxRecDepth 20000 in
theorem kX9_firstDayWith_57 {C : QC} {x : QP} {M : QM} {st : List CV} {L : QL} : Rr C mX9_firstDayWith (57, L, st, M) x = Rr C mX9_firstDayWith (3, L, st, M) x := g_pl (show decode cX9_firstDayWith 57 = .ok (.goto (-54), 3) by decide +kernel) rfl
set_option maxRecDepth 20000 in
theorem kX9_firstDayWith_60 {C : QC} {x : QP} {M : QM} {st : List CV} {L : QL} : Rr C mX9_firstDayWith (60, L, st, M) x = Rr C mX9_firstDayWith (61, L, qi (-1) :: st, M) x := g_pl (show decode cX9_firstDayWith 60 = .ok (.iconst (-1), 1) by decide +kernel) rfl
set_option maxRecDepth 20000 in
theorem kX9_firstDayWith_61 {C : QC} {x : QP} {M : QM} {st : List CV} {L : QL} {z : Int} : Rr C mX9_firstDayWith (61, L, [qi z], M) x = x (some (qi z)) M := g_iret (show decode cX9_firstDayWith 61 = .ok (.ireturn, 1) by decide +kernel) rfl
set_option maxRecDepth 20000 in
theorem eX9_firstDayWith {d : Nat} {M : QM} {x : QP} {a : Nat} {v0 : Int} {v1 : Int} {v2 : Int} : q_T (d + 1) iX9_firstDayWith [qr a, qi v0, qi v1, qi v2] M x = Rr (q_C d) mX9_firstDayWith (0, [some (qr a), some (qi v0), some (qi v1), some (qi v2), none, none], [], M) x := g_entryT (e := _) rfl (Nat.le_of_ble_eq_true rfl) rfl rfl
def mX9_stopOf : QI := (9, cX9_stopOf, false, some .int)
set_option maxRecDepth 20000 in
theorem kX9_stopOf_0 {C : QC} {x : QP} {M : QM} {st : List CV} {L : QL} {l0 l1 : Option CV} {z : Int} : Rr C mX9_stopOf (0, [l0, some (qi z)], st, M) x = Rr C mX9_stopOf (1, [l0, some (qi z)], qi z :: st, M) x := g_pl (show decode cX9_stopOf 0 = .ok (.iload_n 1, 1) by decide +kernel) rfl
set_option maxRecDepth 20000 in
theorem kX9_stopOf_1 {C : QC} {x : QP} {M : QM} {st : List CV} {L : QL} : Rr C mX9_stopOf (1, L, st, M) x = Rr C mX9_stopOf (2, L, qi 1 :: st, M) x := g_pl (show decode cX9_stopOf 1 = .ok (.iconst 1, 1) by decide +kernel) rfl
set_option maxRecDepth 20000 in
theorem kX9_stopOf_2 {C : QC} {x : QP} {M : QM} {st : List CV} {L : QL} {a b : Int} : Rr C mX9_stopOf (2, L, qi b :: qi a :: st, M) x = Rr C mX9_stopOf (3, L, qi (a + b) :: st, M) x := g_pl (show decode cX9_stopOf 2 = .ok (.iadd, 1) by decide +kernel) rfl
set_option maxRecDepth 20000 in
theorem kX9_stopOf_3 {C : QC} {x : QP} {M : QM} {st : List CV} {L : QL} {l0 l1 : Option CV} {r : Option Nat} : Rr C mX9_stopOf (3, [some (.inr (.inr r)), l1], st, M) x = Rr C mX9_stopOf (4, [some (.inr (.inr r)), l1], .inr (.inr r) :: st, M) x := g_pl (show decode cX9_stopOf 3 = .ok (.aload_n 0, 1) by decide +kernel) rfl
set_option maxRecDepth 20000 in
theorem kX9_stopOf_4 {C : QC} {x : QP} {M : QM} {st : List CV} {L : QL} {a : Nat} (hk : q_kd M a = (1, 9)) : Rr C mX9_stopOf (4, L, qr a :: st, M) x = Rr C mX9_stopOf (7, L, q_fv M a 2 :: st, M) x := g_getf (ow := 9) (e := (9, 2, RX9, 240, 0)) (show decode cX9_stopOf 4 = .ok (.getfield 18, 3) by decide +kernel) rfl hk
set_option maxRecDepth 20000 in
theorem kX9_stopOf_7 {C : QC} {x : QP} {M : QM} {st : List CV} {L : QL} {a b : Int} (ha1 : -2147483648 ≤ a) (ha2 : a < 2147483648) (hb1 : -2147483648 ≤ b) (hb2 : b < 2147483648) : Rr C mX9_stopOf (7, L, qi b :: qi a :: st, M) x = (if a < b then Rr C mX9_stopOf (10, L, st, M) x else Rr C mX9_stopOf (21, L, st, M) x) := (g_icmp (show decode cX9_stopOf 7 = .ok (.if_icmp .ge 14, 3) by decide +kernel) rfl ha1 ha2 hb1 hb2).trans (g_itn c_ge)
set_option maxRecDepth 20000 in
theorem kX9_stopOf_10 {C : QC} {x : QP} {M : QM} {st : List CV} {L : QL} {l0 l1 : Option CV} {r : Option Nat} : Rr C mX9_stopOf (10, [some (.inr (.inr r)), l1], st, M) x = Rr C mX9_stopOf (11, [some (.inr (.inr r)), l1], .inr (.inr r) :: st, M) x := g_pl (show decode cX9_stopOf 10 = .ok (.aload_n 0, 1) by decide +kernel) rfl
set_option maxRecDepth 20000 in
theorem kX9_stopOf_11 {C : QC} {x : QP} {M : QM} {st : List CV} {L : QL} {a : Nat} (hk : q_kd M a = (1, 9)) : Rr C mX9_stopOf (11, L, qr a :: st, M) x = Rr C mX9_stopOf (14, L, q_fv M a 0 :: st, M) x := g_getf (ow := 9) (e := (9, 0, RX9, 238, 0)) (show decode cX9_stopOf 11 = .ok (.getfield 9, 3) by decide +kernel) rfl hk
set_option maxRecDepth 20000 in
theorem kX9_stopOf_14 {C : QC} {x : QP} {M : QM} {st : List CV} {L : QL} {l0 l1 : Option CV} {z : Int} : Rr C mX9_stopOf (14, [l0, some (qi z)], st, M) x = Rr C mX9_stopOf (15, [l0, some (qi z)], qi z :: st, M) x := g_pl (show decode cX9_stopOf 14 = .ok (.iload_n 1, 1) by decide +kernel) rfl
set_option maxRecDepth 20000 in
theorem kX9_stopOf_15 {C : QC} {x : QP} {M : QM} {st : List CV} {L : QL} : Rr C mX9_stopOf (15, L, st, M) x = Rr C mX9_stopOf (16, L, qi 1 :: st, M) x := g_pl (show decode cX9_stopOf 15 = .ok (.iconst 1, 1) by decide +kernel) rfl
set_option maxRecDepth 20000 in
theorem kX9_stopOf_16 {C : QC} {x : QP} {M : QM} {st : List CV} {L : QL} {a b : Int} : Rr C mX9_stopOf (16, L, qi b :: qi a :: st, M) x = Rr C mX9_stopOf (17, L, qi (a + b) :: st, M) x := g_pl (show decode cX9_stopOf 16 = .ok (.iadd, 1) by decide +kernel) rfl
set_option maxRecDepth 20000 in
theorem kX9_stopOf_17 {C : QC} {x : QP} {M : QM} {st : List CV} {L : QL} {a : Nat} {j : Int} (hk : (q_kd M a).1 = 2) (h0 : 0 ≤ j) (h1 : j < ((q_kd M a).2 : Int)) : Rr C mX9_stopOf (17, L, qi j :: qr a :: st, M) x = Rr C mX9_stopOf (18, L, q_fv M a j.toNat :: st, M) x := g_iald (show decode cX9_stopOf 17 = .ok (.iaload, 1) by decide +kernel) hk h0 h1
set_option maxRecDepth 20000 in
theorem kX9_stopOf_18 {C : QC} {x : QP} {M : QM} {st : List CV} {L : QL} : Rr C mX9_stopOf (18, L, st, M) x = Rr C mX9_stopOf (24, L, st, M) x := g_pl (show decode cX9_stopOf 18 = .ok (.goto 6, 3) by decide +kernel) rfl
set_option maxRecDepth 20000 in
theorem kX9_stopOf_21 {C : QC} {x : QP} {M : QM} {st : List CV} {L : QL} : Rr C mX9_stopOf (21, L, st, M) x = Rr C mX9_stopOf (24, L, qi 10000 :: st, M) x := g_pl (show decode cX9_stopOf 21 = .ok (.sipush 10000, 3) by decide +kernel) rfl
set_option maxRecDepth 20000 in
theorem kX9_stopOf_24 {C : QC} {x : QP} {M : QM} {st : List CV} {L : QL} {z : Int} : Rr C mX9_stopOf (24, L, [qi z], M) x = x (some (qi z)) M := g_iret (show decode cX9_stopOf 24 = .ok (.ireturn, 1) by decide +kernel) rfl
set_option maxRecDepth 20000 in
theorem eX9_stopOf {d : Nat} {M : QM} {x : QP} {a : Nat} {v0 : Int} : q_T (d + 1) iX9_stopOf [qr a, qi v0] M x = Rr (q_C d) mX9_stopOf (0, [some (qr a), some (qi v0)], [], M) x := g_entryT (e := _) rfl (Nat.le_of_ble_eq_true rfl) rfl rfl
def mX9_insert : QI := (9, cX9_insert, false, none)
set_option maxRecDepth 20000 in
theorem kX9_insert_0 {C : QC} {x : QP} {M : QM} {st : List CV} {L : QL} {l0 l1 l2 l3 l4 : Option CV} {r : Option Nat} : Rr C mX9_insert (0, [some (.inr (.inr r)), l1, l2, l3, l4], st, M) x = Rr C mX9_insert (1, [some (.inr (.inr r)), l1, l2, l3, l4], .inr (.inr r) :: st, M) x := g_pl (show decode cX9_insert 0 = .ok (.aload_n 0, 1) by decide +kernel) rfl
set_option maxRecDepth 20000 in
theorem kX9_insert_1 {C : QC} {x : QP} {M : QM} {st : List CV} {L : QL} {a : Nat} (hk : q_kd M a = (1, 9)) : Rr C mX9_insert (1, L, qr a :: st, M) x = Rr C mX9_insert (4, L, q_fv M a 2 :: st, M) x := g_getf (ow := 9) (e := (9, 2, RX9, 240, 0)) (show decode cX9_insert 1 = .ok (.getfield 18, 3) by decide +kernel) rfl hk
set_option maxRecDepth 20000 in
theorem kX9_insert_4 {C : QC} {x : QP} {M : QM} {st : List CV} {L : QL} {l0 l1 l2 l3 l4 : Option CV} {r : Option Nat} : Rr C mX9_insert (4, [some (.inr (.inr r)), l1, l2, l3, l4], st, M) x = Rr C mX9_insert (5, [some (.inr (.inr r)), l1, l2, l3, l4], .inr (.inr r) :: st, M) x := g_pl (show decode cX9_insert 4 = .ok (.aload_n 0, 1) by decide +kernel) rfl
set_option maxRecDepth 20000 in
theorem kX9_insert_5 {C : QC} {x : QP} {M : QM} {st : List CV} {L : QL} {a : Nat} (hk : q_kd M a = (1, 9)) : Rr C mX9_insert (5, L, qr a :: st, M) x = Rr C mX9_insert (8, L, q_fv M a 0 :: st, M) x := g_getf (ow := 9) (e := (9, 0, RX9, 238, 0)) (show decode cX9_insert 5 = .ok (.getfield 9, 3) by decide +kernel) rfl hk
set_option maxRecDepth 20000 in
theorem kX9_insert_8 {C : QC} {x : QP} {M : QM} {st : List CV} {L : QL} {a : Nat} (h1 : 2 ≤ (q_kd M a).1) (h2 : (q_kd M a).1 ≤ 9) : Rr C mX9_insert (8, L, qr a :: st, M) x = Rr C mX9_insert (9, L, qi (q_kd M a).2 :: st, M) x := g_alen (show decode cX9_insert 8 = .ok (.arraylength, 1) by decide +kernel) h1 h2
set_option maxRecDepth 20000 in
theorem kX9_insert_9 {C : QC} {x : QP} {M : QM} {st : List CV} {L : QL} {a b : Int} (ha1 : -2147483648 ≤ a) (ha2 : a < 2147483648) (hb1 : -2147483648 ≤ b) (hb2 : b < 2147483648) : Rr C mX9_insert (9, L, qi b :: qi a :: st, M) x = (if a < b then Rr C mX9_insert (50, L, st, M) x else Rr C mX9_insert (12, L, st, M) x) := (g_icmp (show decode cX9_insert 9 = .ok (.if_icmp .lt 41, 3) by decide +kernel) rfl ha1 ha2 hb1 hb2).trans (g_ite c_lt)
set_option maxRecDepth 20000 in
theorem kX9_insert_12 {C : QC} {x : QP} {M : QM} {st : List CV} {L : QL} {l0 l1 l2 l3 l4 : Option CV} {r : Option Nat} : Rr C mX9_insert (12, [some (.inr (.inr r)), l1, l2, l3, l4], st, M) x = Rr C mX9_insert (13, [some (.inr (.inr r)), l1, l2, l3, l4], .inr (.inr r) :: st, M) x := g_pl (show decode cX9_insert 12 = .ok (.aload_n 0, 1) by decide +kernel) rfl
set_option maxRecDepth 20000 in
theorem kX9_insert_13 {C : QC} {x : QP} {M : QM} {st : List CV} {L : QL} {l0 l1 l2 l3 l4 : Option CV} {r : Option Nat} : Rr C mX9_insert (13, [some (.inr (.inr r)), l1, l2, l3, l4], st, M) x = Rr C mX9_insert (14, [some (.inr (.inr r)), l1, l2, l3, l4], .inr (.inr r) :: st, M) x := g_pl (show decode cX9_insert 13 = .ok (.aload_n 0, 1) by decide +kernel) rfl
set_option maxRecDepth 20000 in
theorem kX9_insert_14 {C : QC} {x : QP} {M : QM} {st : List CV} {L : QL} {a : Nat} (hk : q_kd M a = (1, 9)) : Rr C mX9_insert (14, L, qr a :: st, M) x = Rr C mX9_insert (17, L, q_fv M a 0 :: st, M) x := g_getf (ow := 9) (e := (9, 0, RX9, 238, 0)) (show decode cX9_insert 14 = .ok (.getfield 9, 3) by decide +kernel) rfl hk
set_option maxRecDepth 20000 in
theorem kX9_insert_17 {C : QC} {x : QP} {M : QM} {st : List CV} {L : QL} : Rr C mX9_insert (17, L, st, M) x = Rr C mX9_insert (18, L, qi 2 :: st, M) x := g_pl (show decode cX9_insert 17 = .ok (.iconst 2, 1) by decide +kernel) rfl
set_option maxRecDepth 20000 in
theorem kX9_insert_18 {C : QC} {x : QP} {M : QM} {st : List CV} {L : QL} {l0 l1 l2 l3 l4 : Option CV} {r : Option Nat} : Rr C mX9_insert (18, [some (.inr (.inr r)), l1, l2, l3, l4], st, M) x = Rr C mX9_insert (19, [some (.inr (.inr r)), l1, l2, l3, l4], .inr (.inr r) :: st, M) x := g_pl (show decode cX9_insert 18 = .ok (.aload_n 0, 1) by decide +kernel) rfl
set_option maxRecDepth 20000 in
theorem kX9_insert_19 {C : QC} {x : QP} {M : QM} {st : List CV} {L : QL} {a : Nat} (hk : q_kd M a = (1, 9)) : Rr C mX9_insert (19, L, qr a :: st, M) x = Rr C mX9_insert (22, L, q_fv M a 2 :: st, M) x := g_getf (ow := 9) (e := (9, 2, RX9, 240, 0)) (show decode cX9_insert 19 = .ok (.getfield 18, 3) by decide +kernel) rfl hk
set_option maxRecDepth 20000 in
theorem kX9_insert_22 {C : QC} {x : QP} {M : QM} {st : List CV} {L : QL} {a b : Int} : Rr C mX9_insert (22, L, qi b :: qi a :: st, M) x = Rr C mX9_insert (23, L, qi (a * b) :: st, M) x := g_pl (show decode cX9_insert 22 = .ok (.imul, 1) by decide +kernel) rfl
set_option maxRecDepth 20000 in
theorem kX9_insert_23 {C : QC} {x : QP} {M : QM} {st : List CV} {L : QL} : Rr C mX9_insert (23, L, st, M) x = Rr C mX9_insert (24, L, qi 1 :: st, M) x := g_pl (show decode cX9_insert 23 = .ok (.iconst 1, 1) by decide +kernel) rfl
set_option maxRecDepth 20000 in
theorem kX9_insert_24 {C : QC} {x : QP} {M : QM} {st : List CV} {L : QL} {a b : Int} : Rr C mX9_insert (24, L, qi b :: qi a :: st, M) x = Rr C mX9_insert (25, L, qi (a + b) :: st, M) x := g_pl (show decode cX9_insert 24 = .ok (.iadd, 1) by decide +kernel) rfl
set_option maxRecDepth 20000 in
theorem kX9_insert_25 {C : QC} {x : QP} {M : QM} {L : QL} {rest : List CV} {a0 a1 : CV} {v : CV} {M1 : QM} (hC : C iJ7_copyOf_59c91 [a0, a1] M (some v) M1) (hw : (rest.map q_wd).sum ≤ 8) (k : Rr C mX9_insert (28, L, v :: rest, M1) x) : Rr C mX9_insert (25, L, a1 :: a0 :: rest, M) x := g_cs (ow := 9) (e := (1, 61, 0, [727, 658, 101])) (as := [a0, a1]) (show decode cX9_insert 25 = .ok (.invokestatic 39, 3) by decide +kernel) rfl rfl rfl rfl (Or.inl rfl) rfl hC hw k
set_option maxRecDepth 20000 in
theorem kX9_insert_28 {C : QC} {x : QP} {M : QM} {st : List CV} {L : QL} {z : Option Nat} {a : Nat} (hk : q_kd M a = (1, 9)) : Rr C mX9_insert (28, L, .inr (.inr z) :: qr a :: st, M) x = Rr C mX9_insert (31, L, st, q_wr M a 0 (.inr (.inr z))) x := g_putf (ow := 9) (ini := false) (e := (9, 0, RX9, 238, 0)) (r := (RX9, TX9, 3)) (t := tyX9) (show decode cX9_insert 28 = .ok (.putfield 9, 3) by decide +kernel) rfl rfl rfl rfl (by decide +kernel) hk
set_option maxRecDepth 20000 in
theorem kX9_insert_31 {C : QC} {x : QP} {M : QM} {st : List CV} {L : QL} {l0 l1 l2 l3 l4 : Option CV} {r : Option Nat} : Rr C mX9_insert (31, [some (.inr (.inr r)), l1, l2, l3, l4], st, M) x = Rr C mX9_insert (32, [some (.inr (.inr r)), l1, l2, l3, l4], .inr (.inr r) :: st, M) x := g_pl (show decode cX9_insert 31 = .ok (.aload_n 0, 1) by decide +kernel) rfl
set_option maxRecDepth 20000 in
theorem kX9_insert_32 {C : QC} {x : QP} {M : QM} {st : List CV} {L : QL} {l0 l1 l2 l3 l4 : Option CV} {r : Option Nat} : Rr C mX9_insert (32, [some (.inr (.inr r)), l1, l2, l3, l4], st, M) x = Rr C mX9_insert (33, [some (.inr (.inr r)), l1, l2, l3, l4], .inr (.inr r) :: st, M) x := g_pl (show decode cX9_insert 32 = .ok (.aload_n 0, 1) by decide +kernel) rfl
set_option maxRecDepth 20000 in
theorem kX9_insert_33 {C : QC} {x : QP} {M : QM} {st : List CV} {L : QL} {a : Nat} (hk : q_kd M a = (1, 9)) : Rr C mX9_insert (33, L, qr a :: st, M) x = Rr C mX9_insert (36, L, q_fv M a 1 :: st, M) x := g_getf (ow := 9) (e := (9, 1, RX9, 239, 0)) (show decode cX9_insert 33 = .ok (.getfield 15, 3) by decide +kernel) rfl hk
set_option maxRecDepth 20000 in
theorem kX9_insert_36 {C : QC} {x : QP} {M : QM} {st : List CV} {L : QL} : Rr C mX9_insert (36, L, st, M) x = Rr C mX9_insert (37, L, qi 2 :: st, M) x := g_pl (show decode cX9_insert 36 = .ok (.iconst 2, 1) by decide +kernel) rfl
set_option maxRecDepth 20000 in
theorem kX9_insert_37 {C : QC} {x : QP} {M : QM} {st : List CV} {L : QL} {l0 l1 l2 l3 l4 : Option CV} {r : Option Nat} : Rr C mX9_insert (37, [some (.inr (.inr r)), l1, l2, l3, l4], st, M) x = Rr C mX9_insert (38, [some (.inr (.inr r)), l1, l2, l3, l4], .inr (.inr r) :: st, M) x := g_pl (show decode cX9_insert 37 = .ok (.aload_n 0, 1) by decide +kernel) rfl
set_option maxRecDepth 20000 in
theorem kX9_insert_38 {C : QC} {x : QP} {M : QM} {st : List CV} {L : QL} {a : Nat} (hk : q_kd M a = (1, 9)) : Rr C mX9_insert (38, L, qr a :: st, M) x = Rr C mX9_insert (41, L, q_fv M a 2 :: st, M) x := g_getf (ow := 9) (e := (9, 2, RX9, 240, 0)) (show decode cX9_insert 38 = .ok (.getfield 18, 3) by decide +kernel) rfl hk
set_option maxRecDepth 20000 in
theorem kX9_insert_41 {C : QC} {x : QP} {M : QM} {st : List CV} {L : QL} {a b : Int} : Rr C mX9_insert (41, L, qi b :: qi a :: st, M) x = Rr C mX9_insert (42, L, qi (a * b) :: st, M) x := g_pl (show decode cX9_insert 41 = .ok (.imul, 1) by decide +kernel) rfl
set_option maxRecDepth 20000 in
theorem kX9_insert_42 {C : QC} {x : QP} {M : QM} {st : List CV} {L : QL} : Rr C mX9_insert (42, L, st, M) x = Rr C mX9_insert (43, L, qi 1 :: st, M) x := g_pl (show decode cX9_insert 42 = .ok (.iconst 1, 1) by decide +kernel) rfl
set_option maxRecDepth 20000 in
theorem kX9_insert_43 {C : QC} {x : QP} {M : QM} {st : List CV} {L : QL} {a b : Int} : Rr C mX9_insert (43, L, qi b :: qi a :: st, M) x = Rr C mX9_insert (44, L, qi (a + b) :: st, M) x := g_pl (show decode cX9_insert 43 = .ok (.iadd, 1) by decide +kernel) rfl
set_option maxRecDepth 20000 in
theorem kX9_insert_44 {C : QC} {x : QP} {M : QM} {L : QL} {rest : List CV} {a0 a1 : CV} {v : CV} {M1 : QM} (hC : C iJ7_copyOf_59c91 [a0, a1] M (some v) M1) (hw : (rest.map q_wd).sum ≤ 8) (k : Rr C mX9_insert (47, L, v :: rest, M1) x) : Rr C mX9_insert (44, L, a1 :: a0 :: rest, M) x := g_cs (ow := 9) (e := (1, 61, 0, [727, 658, 101])) (as := [a0, a1]) (show decode cX9_insert 44 = .ok (.invokestatic 39, 3) by decide +kernel) rfl rfl rfl rfl (Or.inl rfl) rfl hC hw k
set_option maxRecDepth 20000 in
theorem kX9_insert_47 {C : QC} {x : QP} {M : QM} {st : List CV} {L : QL} {z : Option Nat} {a : Nat} (hk : q_kd M a = (1, 9)) : Rr C mX9_insert (47, L, .inr (.inr z) :: qr a :: st, M) x = Rr C mX9_insert (50, L, st, q_wr M a 1 (.inr (.inr z))) x := g_putf (ow := 9) (ini := false) (e := (9, 1, RX9, 239, 0)) (r := (RX9, TX9, 3)) (t := tyX9) (show decode cX9_insert 47 = .ok (.putfield 15, 3) by decide +kernel) rfl rfl rfl rfl (by decide +kernel) hk
set_option maxRecDepth 20000 in
theorem kX9_insert_50 {C : QC} {x : QP} {M : QM} {st : List CV} {L : QL} {l0 l1 l2 l3 l4 : Option CV} {r : Option Nat} : Rr C mX9_insert (50, [some (.inr (.inr r)), l1, l2, l3, l4], st, M) x = Rr C mX9_insert (51, [some (.inr (.inr r)), l1, l2, l3, l4], .inr (.inr r) :: st, M) x := g_pl (show decode cX9_insert 50 = .ok (.aload_n 0, 1) by decide +kernel) rfl
set_option maxRecDepth 20000 in
theorem kX9_insert_51 {C : QC} {x : QP} {M : QM} {st : List CV} {L : QL} {a : Nat} (hk : q_kd M a = (1, 9)) : Rr C mX9_insert (51, L, qr a :: st, M) x = Rr C mX9_insert (54, L, q_fv M a 2 :: st, M) x := g_getf (ow := 9) (e := (9, 2, RX9, 240, 0)) (show decode cX9_insert 51 = .ok (.getfield 18, 3) by decide +kernel) rfl hk
set_option maxRecDepth 20000 in
theorem kX9_insert_54 {C : QC} {x : QP} {M : QM} {st : List CV} {L : QL} {l0 l1 l2 l3 l4 : Option CV} {z : Int} : Rr C mX9_insert (54, [l0, l1, l2, l3, l4], qi z :: st, M) x = Rr C mX9_insert (56, [l0, l1, l2, q_cut l3, some (qi z)], st, M) x := g_pl (show decode cX9_insert 54 = .ok (.istore 4, 2) by decide +kernel) rfl
set_option maxRecDepth 20000 in
theorem kX9_insert_56 {C : QC} {x : QP} {M : QM} {st : List CV} {L : QL} {l0 l1 l2 l3 l4 : Option CV} {z : Int} : Rr C mX9_insert (56, [l0, l1, l2, l3, some (qi z)], st, M) x = Rr C mX9_insert (58, [l0, l1, l2, l3, some (qi z)], qi z :: st, M) x := g_pl (show decode cX9_insert 56 = .ok (.iload 4, 2) by decide +kernel) rfl
set_option maxRecDepth 20000 in
theorem kX9_insert_58 {C : QC} {x : QP} {M : QM} {st : List CV} {L : QL} {l0 l1 l2 l3 l4 : Option CV} {z : Int} : Rr C mX9_insert (58, [l0, some (qi z), l2, l3, l4], st, M) x = Rr C mX9_insert (59, [l0, some (qi z), l2, l3, l4], qi z :: st, M) x := g_pl (show decode cX9_insert 58 = .ok (.iload_n 1, 1) by decide +kernel) rfl
set_option maxRecDepth 20000 in
theorem kX9_insert_59 {C : QC} {x : QP} {M : QM} {st : List CV} {L : QL} {a b : Int} (ha1 : -2147483648 ≤ a) (ha2 : a < 2147483648) (hb1 : -2147483648 ≤ b) (hb2 : b < 2147483648) : Rr C mX9_insert (59, L, qi b :: qi a :: st, M) x = (if b < a then Rr C mX9_insert (62, L, st, M) x else Rr C mX9_insert (100, L, st, M) x) := (g_icmp (show decode cX9_insert 59 = .ok (.if_icmp .le 41, 3) by decide +kernel) rfl ha1 ha2 hb1 hb2).trans (g_itn c_le)
set_option maxRecDepth 20000 in
theorem kX9_insert_62 {C : QC} {x : QP} {M : QM} {st : List CV} {L : QL} {l0 l1 l2 l3 l4 : Option CV} {r : Option Nat} : Rr C mX9_insert (62, [some (.inr (.inr r)), l1, l2, l3, l4], st, M) x = Rr C mX9_insert (63, [some (.inr (.inr r)), l1, l2, l3, l4], .inr (.inr r) :: st, M) x := g_pl (show decode cX9_insert 62 = .ok (.aload_n 0, 1) by decide +kernel) rfl
set_option maxRecDepth 20000 in
theorem kX9_insert_63 {C : QC} {x : QP} {M : QM} {st : List CV} {L : QL} {a : Nat} (hk : q_kd M a = (1, 9)) : Rr C mX9_insert (63, L, qr a :: st, M) x = Rr C mX9_insert (66, L, q_fv M a 0 :: st, M) x := g_getf (ow := 9) (e := (9, 0, RX9, 238, 0)) (show decode cX9_insert 63 = .ok (.getfield 9, 3) by decide +kernel) rfl hk
set_option maxRecDepth 20000 in
theorem kX9_insert_66 {C : QC} {x : QP} {M : QM} {st : List CV} {L : QL} {l0 l1 l2 l3 l4 : Option CV} {z : Int} : Rr C mX9_insert (66, [l0, l1, l2, l3, some (qi z)], st, M) x = Rr C mX9_insert (68, [l0, l1, l2, l3, some (qi z)], qi z :: st, M) x := g_pl (show decode cX9_insert 66 = .ok (.iload 4, 2) by decide +kernel) rfl
set_option maxRecDepth 20000 in
theorem kX9_insert_68 {C : QC} {x : QP} {M : QM} {st : List CV} {L : QL} {l0 l1 l2 l3 l4 : Option CV} {r : Option Nat} : Rr C mX9_insert (68, [some (.inr (.inr r)), l1, l2, l3, l4], st, M) x = Rr C mX9_insert (69, [some (.inr (.inr r)), l1, l2, l3, l4], .inr (.inr r) :: st, M) x := g_pl (show decode cX9_insert 68 = .ok (.aload_n 0, 1) by decide +kernel) rfl
set_option maxRecDepth 20000 in
theorem kX9_insert_69 {C : QC} {x : QP} {M : QM} {st : List CV} {L : QL} {a : Nat} (hk : q_kd M a = (1, 9)) : Rr C mX9_insert (69, L, qr a :: st, M) x = Rr C mX9_insert (72, L, q_fv M a 0 :: st, M) x := g_getf (ow := 9) (e := (9, 0, RX9, 238, 0)) (show decode cX9_insert 69 = .ok (.getfield 9, 3) by decide +kernel) rfl hk
set_option maxRecDepth 20000 in
theorem kX9_insert_72 {C : QC} {x : QP} {M : QM} {st : List CV} {L : QL} {l0 l1 l2 l3 l4 : Option CV} {z : Int} : Rr C mX9_insert (72, [l0, l1, l2, l3, some (qi z)], st, M) x = Rr C mX9_insert (74, [l0, l1, l2, l3, some (qi z)], qi z :: st, M) x := g_pl (show decode cX9_insert 72 = .ok (.iload 4, 2) by decide +kernel) rfl
set_option maxRecDepth 20000 in
theorem kX9_insert_74 {C : QC} {x : QP} {M : QM} {st : List CV} {L : QL} : Rr C mX9_insert (74, L, st, M) x = Rr C mX9_insert (75, L, qi 1 :: st, M) x := g_pl (show decode cX9_insert 74 = .ok (.iconst 1, 1) by decide +kernel) rfl
set_option maxRecDepth 20000 in
theorem kX9_insert_75 {C : QC} {x : QP} {M : QM} {st : List CV} {L : QL} {a b : Int} : Rr C mX9_insert (75, L, qi b :: qi a :: st, M) x = Rr C mX9_insert (76, L, qi (a - b) :: st, M) x := g_pl (show decode cX9_insert 75 = .ok (.isub, 1) by decide +kernel) rfl
set_option maxRecDepth 20000 in
theorem kX9_insert_76 {C : QC} {x : QP} {M : QM} {st : List CV} {L : QL} {a : Nat} {j : Int} (hk : (q_kd M a).1 = 2) (h0 : 0 ≤ j) (h1 : j < ((q_kd M a).2 : Int)) : Rr C mX9_insert (76, L, qi j :: qr a :: st, M) x = Rr C mX9_insert (77, L, q_fv M a j.toNat :: st, M) x := g_iald (show decode cX9_insert 76 = .ok (.iaload, 1) by decide +kernel) hk h0 h1
set_option maxRecDepth 20000 in
theorem kX9_insert_77 {C : QC} {x : QP} {M : QM} {st : List CV} {L : QL} {a : Nat} {j v : Int} (hk : (q_kd M a).1 = 2) (h0 : 0 ≤ j) (h1 : j < ((q_kd M a).2 : Int)) : Rr C mX9_insert (77, L, qi v :: qi j :: qr a :: st, M) x = Rr C mX9_insert (78, L, st, q_wr M a j.toNat (qi v)) x := g_iast (show decode cX9_insert 77 = .ok (.iastore, 1) by decide +kernel) hk h0 h1
set_option maxRecDepth 20000 in
theorem kX9_insert_78 {C : QC} {x : QP} {M : QM} {st : List CV} {L : QL} {l0 l1 l2 l3 l4 : Option CV} {r : Option Nat} : Rr C mX9_insert (78, [some (.inr (.inr r)), l1, l2, l3, l4], st, M) x = Rr C mX9_insert (79, [some (.inr (.inr r)), l1, l2, l3, l4], .inr (.inr r) :: st, M) x := g_pl (show decode cX9_insert 78 = .ok (.aload_n 0, 1) by decide +kernel) rfl
set_option maxRecDepth 20000 in
theorem kX9_insert_79 {C : QC} {x : QP} {M : QM} {st : List CV} {L : QL} {a : Nat} (hk : q_kd M a = (1, 9)) : Rr C mX9_insert (79, L, qr a :: st, M) x = Rr C mX9_insert (82, L, q_fv M a 1 :: st, M) x := g_getf (ow := 9) (e := (9, 1, RX9, 239, 0)) (show decode cX9_insert 79 = .ok (.getfield 15, 3) by decide +kernel) rfl hk
set_option maxRecDepth 20000 in
theorem kX9_insert_82 {C : QC} {x : QP} {M : QM} {st : List CV} {L : QL} {l0 l1 l2 l3 l4 : Option CV} {z : Int} : Rr C mX9_insert (82, [l0, l1, l2, l3, some (qi z)], st, M) x = Rr C mX9_insert (84, [l0, l1, l2, l3, some (qi z)], qi z :: st, M) x := g_pl (show decode cX9_insert 82 = .ok (.iload 4, 2) by decide +kernel) rfl
set_option maxRecDepth 20000 in
theorem kX9_insert_84 {C : QC} {x : QP} {M : QM} {st : List CV} {L : QL} {l0 l1 l2 l3 l4 : Option CV} {r : Option Nat} : Rr C mX9_insert (84, [some (.inr (.inr r)), l1, l2, l3, l4], st, M) x = Rr C mX9_insert (85, [some (.inr (.inr r)), l1, l2, l3, l4], .inr (.inr r) :: st, M) x := g_pl (show decode cX9_insert 84 = .ok (.aload_n 0, 1) by decide +kernel) rfl
set_option maxRecDepth 20000 in
theorem kX9_insert_85 {C : QC} {x : QP} {M : QM} {st : List CV} {L : QL} {a : Nat} (hk : q_kd M a = (1, 9)) : Rr C mX9_insert (85, L, qr a :: st, M) x = Rr C mX9_insert (88, L, q_fv M a 1 :: st, M) x := g_getf (ow := 9) (e := (9, 1, RX9, 239, 0)) (show decode cX9_insert 85 = .ok (.getfield 15, 3) by decide +kernel) rfl hk
set_option maxRecDepth 20000 in
theorem kX9_insert_88 {C : QC} {x : QP} {M : QM} {st : List CV} {L : QL} {l0 l1 l2 l3 l4 : Option CV} {z : Int} : Rr C mX9_insert (88, [l0, l1, l2, l3, some (qi z)], st, M) x = Rr C mX9_insert (90, [l0, l1, l2, l3, some (qi z)], qi z :: st, M) x := g_pl (show decode cX9_insert 88 = .ok (.iload 4, 2) by decide +kernel) rfl
set_option maxRecDepth 20000 in
theorem kX9_insert_90 {C : QC} {x : QP} {M : QM} {st : List CV} {L : QL} : Rr C mX9_insert (90, L, st, M) x = Rr C mX9_insert (91, L, qi 1 :: st, M) x := g_pl (show decode cX9_insert 90 = .ok (.iconst 1, 1) by decide +kernel) rfl
set_option maxRecDepth 20000 in
theorem kX9_insert_91 {C : QC} {x : QP} {M : QM} {st : List CV} {L : QL} {a b : Int} : Rr C mX9_insert (91, L, qi b :: qi a :: st, M) x = Rr C mX9_insert (92, L, qi (a - b) :: st, M) x := g_pl (show decode cX9_insert 91 = .ok (.isub, 1) by decide +kernel) rfl
set_option maxRecDepth 20000 in
theorem kX9_insert_92 {C : QC} {x : QP} {M : QM} {st : List CV} {L : QL} {a : Nat} {j : Int} (hk : (q_kd M a).1 = 2) (h0 : 0 ≤ j) (h1 : j < ((q_kd M a).2 : Int)) : Rr C mX9_insert (92, L, qi j :: qr a :: st, M) x = Rr C mX9_insert (93, L, q_fv M a j.toNat :: st, M) x := g_iald (show decode cX9_insert 92 = .ok (.iaload, 1) by decide +kernel) hk h0 h1
set_option maxRecDepth 20000 in
theorem kX9_insert_93 {C : QC} {x : QP} {M : QM} {st : List CV} {L : QL} {a : Nat} {j v : Int} (hk : (q_kd M a).1 = 2) (h0 : 0 ≤ j) (h1 : j < ((q_kd M a).2 : Int)) : Rr C mX9_insert (93, L, qi v :: qi j :: qr a :: st, M) x = Rr C mX9_insert (94, L, st, q_wr M a j.toNat (qi v)) x := g_iast (show decode cX9_insert 93 = .ok (.iastore, 1) by decide +kernel) hk h0 h1
set_option maxRecDepth 20000 in
theorem kX9_insert_94 {C : QC} {x : QP} {M : QM} {st : List CV} {L : QL} {l0 l1 l2 l3 l4 : Option CV} {z : Int} : Rr C mX9_insert (94, [l0, l1, l2, l3, some (qi z)], st, M) x = Rr C mX9_insert (97, [l0, l1, l2, q_cut l3, some (qi (z + (-1)))], st, M) x := g_pl (show decode cX9_insert 94 = .ok (.iinc 4 (-1), 3) by decide +kernel) rfl
set_option maxRecDepth 20000 in
theorem kX9_insert_97 {C : QC} {x : QP} {M : QM} {st : List CV} {L : QL} : Rr C mX9_insert (97, L, st, M) x = Rr C mX9_insert (56, L, st, M) x := g_pl (show decode cX9_insert 97 = .ok (.goto (-41), 3) by decide +kernel) rfl
set_option maxRecDepth 20000 in
theorem kX9_insert_100 {C : QC} {x : QP} {M : QM} {st : List CV} {L : QL} {l0 l1 l2 l3 l4 : Option CV} {r : Option Nat} : Rr C mX9_insert (100, [some (.inr (.inr r)), l1, l2, l3, l4], st, M) x = Rr C mX9_insert (101, [some (.inr (.inr r)), l1, l2, l3, l4], .inr (.inr r) :: st, M) x := g_pl (show decode cX9_insert 100 = .ok (.aload_n 0, 1) by decide +kernel) rfl
set_option maxRecDepth 20000 in
theorem kX9_insert_101 {C : QC} {x : QP} {M : QM} {st : List CV} {L : QL} {a : Nat} (hk : q_kd M a = (1, 9)) : Rr C mX9_insert (101, L, qr a :: st, M) x = Rr C mX9_insert (104, L, q_fv M a 0 :: st, M) x := g_getf (ow := 9) (e := (9, 0, RX9, 238, 0)) (show decode cX9_insert 101 = .ok (.getfield 9, 3) by decide +kernel) rfl hk
set_option maxRecDepth 20000 in
theorem kX9_insert_104 {C : QC} {x : QP} {M : QM} {st : List CV} {L : QL} {l0 l1 l2 l3 l4 : Option CV} {z : Int} : Rr C mX9_insert (104, [l0, some (qi z), l2, l3, l4], st, M) x = Rr C mX9_insert (105, [l0, some (qi z), l2, l3, l4], qi z :: st, M) x := g_pl (show decode cX9_insert 104 = .ok (.iload_n 1, 1) by decide +kernel) rfl
set_option maxRecDepth 20000 in
theorem kX9_insert_105 {C : QC} {x : QP} {M : QM} {st : List CV} {L : QL} {l0 l1 l2 l3 l4 : Option CV} {z : Int} : Rr C mX9_insert (105, [l0, l1, some (qi z), l3, l4], st, M) x = Rr C mX9_insert (106, [l0, l1, some (qi z), l3, l4], qi z :: st, M) x := g_pl (show decode cX9_insert 105 = .ok (.iload_n 2, 1) by decide +kernel) rfl
set_option maxRecDepth 20000 in
theorem kX9_insert_106 {C : QC} {x : QP} {M : QM} {st : List CV} {L : QL} {a : Nat} {j v : Int} (hk : (q_kd M a).1 = 2) (h0 : 0 ≤ j) (h1 : j < ((q_kd M a).2 : Int)) : Rr C mX9_insert (106, L, qi v :: qi j :: qr a :: st, M) x = Rr C mX9_insert (107, L, st, q_wr M a j.toNat (qi v)) x := g_iast (show decode cX9_insert 106 = .ok (.iastore, 1) by decide +kernel) hk h0 h1
set_option maxRecDepth 20000 in
theorem kX9_insert_107 {C : QC} {x : QP} {M : QM} {st : List CV} {L : QL} {l0 l1 l2 l3 l4 : Option CV} {r : Option Nat} : Rr C mX9_insert (107, [some (.inr (.inr r)), l1, l2, l3, l4], st, M) x = Rr C mX9_insert (108, [some (.inr (.inr r)), l1, l2, l3, l4], .inr (.inr r) :: st, M) x := g_pl (show decode cX9_insert 107 = .ok (.aload_n 0, 1) by decide +kernel) rfl
set_option maxRecDepth 20000 in
theorem kX9_insert_108 {C : QC} {x : QP} {M : QM} {st : List CV} {L : QL} {a : Nat} (hk : q_kd M a = (1, 9)) : Rr C mX9_insert (108, L, qr a :: st, M) x = Rr C mX9_insert (111, L, q_fv M a 1 :: st, M) x := g_getf (ow := 9) (e := (9, 1, RX9, 239, 0)) (show decode cX9_insert 108 = .ok (.getfield 15, 3) by decide +kernel) rfl hk
set_option maxRecDepth 20000 in
theorem kX9_insert_111 {C : QC} {x : QP} {M : QM} {st : List CV} {L : QL} {l0 l1 l2 l3 l4 : Option CV} {z : Int} : Rr C mX9_insert (111, [l0, some (qi z), l2, l3, l4], st, M) x = Rr C mX9_insert (112, [l0, some (qi z), l2, l3, l4], qi z :: st, M) x := g_pl (show decode cX9_insert 111 = .ok (.iload_n 1, 1) by decide +kernel) rfl
set_option maxRecDepth 20000 in
theorem kX9_insert_112 {C : QC} {x : QP} {M : QM} {st : List CV} {L : QL} {l0 l1 l2 l3 l4 : Option CV} {z : Int} : Rr C mX9_insert (112, [l0, l1, l2, some (qi z), l4], st, M) x = Rr C mX9_insert (113, [l0, l1, l2, some (qi z), l4], qi z :: st, M) x := g_pl (show decode cX9_insert 112 = .ok (.iload_n 3, 1) by decide +kernel) rfl
set_option maxRecDepth 20000 in
theorem kX9_insert_113 {C : QC} {x : QP} {M : QM} {st : List CV} {L : QL} {a : Nat} {j v : Int} (hk : (q_kd M a).1 = 2) (h0 : 0 ≤ j) (h1 : j < ((q_kd M a).2 : Int)) : Rr C mX9_insert (113, L, qi v :: qi j :: qr a :: st, M) x = Rr C mX9_insert (114, L, st, q_wr M a j.toNat (qi v)) x := g_iast (show decode cX9_insert 113 = .ok (.iastore, 1) by decide +kernel) hk h0 h1
set_option maxRecDepth 20000 in
theorem kX9_insert_114 {C : QC} {x : QP} {M : QM} {st : List CV} {L : QL} {l0 l1 l2 l3 l4 : Option CV} {r : Option Nat} : Rr C mX9_insert (114, [some (.inr (.inr r)), l1, l2, l3, l4], st, M) x = Rr C mX9_insert (115, [some (.inr (.inr r)), l1, l2, l3, l4], .inr (.inr r) :: st, M) x := g_pl (show decode cX9_insert 114 = .ok (.aload_n 0, 1) by decide +kernel) rfl
set_option maxRecDepth 20000 in
theorem kX9_insert_115i {C : QC} {x : QP} {M : QM} {st : List CV} {L : QL} {a : Int} : Rr C mX9_insert (115, L, qi a :: st, M) x = Rr C mX9_insert (116, L, qi a :: qi a :: st, M) x := g_pl (show decode cX9_insert 115 = .ok (.dup, 1) by decide +kernel) rfl
set_option maxRecDepth 20000 in
theorem kX9_insert_115r {C : QC} {x : QP} {M : QM} {st : List CV} {L : QL} {a : Option Nat} : Rr C mX9_insert (115, L, .inr (.inr a) :: st, M) x = Rr C mX9_insert (116, L, .inr (.inr a) :: .inr (.inr a) :: st, M) x := g_pl (show decode cX9_insert 115 = .ok (.dup, 1) by decide +kernel) rfl
set_option maxRecDepth 20000 in
theorem kX9_insert_116 {C : QC} {x : QP} {M : QM} {st : List CV} {L : QL} {a : Nat} (hk : q_kd M a = (1, 9)) : Rr C mX9_insert (116, L, qr a :: st, M) x = Rr C mX9_insert (119, L, q_fv M a 2 :: st, M) x := g_getf (ow := 9) (e := (9, 2, RX9, 240, 0)) (show decode cX9_insert 116 = .ok (.getfield 18, 3) by decide +kernel) rfl hk
set_option maxRecDepth 20000 in
theorem kX9_insert_119 {C : QC} {x : QP} {M : QM} {st : List CV} {L : QL} : Rr C mX9_insert (119, L, st, M) x = Rr C mX9_insert (120, L, qi 1 :: st, M) x := g_pl (show decode cX9_insert 119 = .ok (.iconst 1, 1) by decide +kernel) rfl
set_option maxRecDepth 20000 in
theorem kX9_insert_120 {C : QC} {x : QP} {M : QM} {st : List CV} {L : QL} {a b : Int} : Rr C mX9_insert (120, L, qi b :: qi a :: st, M) x = Rr C mX9_insert (121, L, qi (a + b) :: st, M) x := g_pl (show decode cX9_insert 120 = .ok (.iadd, 1) by decide +kernel) rfl
set_option maxRecDepth 20000 in
theorem kX9_insert_121 {C : QC} {x : QP} {M : QM} {st : List CV} {L : QL} {z : Int} {a : Nat} (hk : q_kd M a = (1, 9)) : Rr C mX9_insert (121, L, qi z :: qr a :: st, M) x = Rr C mX9_insert (124, L, st, q_wr M a 2 (qi z)) x := g_putf (ow := 9) (ini := false) (e := (9, 2, RX9, 240, 0)) (r := (RX9, TX9, 3)) (t := tyX9) (show decode cX9_insert 121 = .ok (.putfield 18, 3) by decide +kernel) rfl rfl rfl rfl (by decide +kernel) hk
set_option maxRecDepth 20000 in
theorem kX9_insert_124 {C : QC} {x : QP} {M : QM} {st : List CV} {L : QL} : Rr C mX9_insert (124, L, [], M) x = x none M := g_vret (show decode cX9_insert 124 = .ok (.return_, 1) by decide +kernel)
set_option maxRecDepth 20000 in
theorem eX9_insert {d : Nat} {M : QM} {x : QP} {a : Nat} {v0 : Int} {v1 : Int} {v2 : Int} : q_T (d + 1) iX9_insert [qr a, qi v0, qi v1, qi v2] M x = Rr (q_C d) mX9_insert (0, [some (qr a), some (qi v0), some (qi v1), some (qi v2), none], [], M) x := g_entryT (e := _) rfl (Nat.le_of_ble_eq_true rfl) rfl rfl
def mX10_with : QI := (10, cX10_with, false, some .long)
set_option maxRecDepth 20000 in
theorem kX10_with_0 {C : QC} {x : QP} {M : QM} {st : List CV} {L : QL} {l0 l1 l2 l3 : Option CV} {z : Int} : Rr C mX10_with (0, [some (ql z), l1, l2, l3], st, M) x = Rr C mX10_with (1, [some (ql z), l1, l2, l3], ql z :: st, M) x := g_pl (show decode cX10_with 0 = .ok (.lload_n 0, 1) by decide +kernel) rfl
set_option maxRecDepth 20000 in
theorem kX10_with_1 {C : QC} {x : QP} {M : QM} {st : List CV} {L : QL} {l0 l1 l2 l3 : Option CV} {z : Int} : Rr C mX10_with (1, [l0, l1, l2, some (qi z)], st, M) x = Rr C mX10_with (2, [l0, l1, l2, some (qi z)], qi z :: st, M) x := g_pl (show decode cX10_with 1 = .ok (.iload_n 3, 1) by decide +kernel) rfl
set_option maxRecDepth 20000 in
theorem kX10_with_2 {C : QC} {x : QP} {M : QM} {st : List CV} {L : QL} {a : Int} : Rr C mX10_with (2, L, qi a :: st, M) x = Rr C mX10_with (3, L, ql (q_i2l a) :: st, M) x := g_pl (show decode cX10_with 2 = .ok (.i2l, 1) by decide +kernel) rfl
set_option maxRecDepth 20000 in
theorem kX10_with_3 {C : QC} {x : QP} {M : QM} {st : List CV} {L : QL} : Rr C mX10_with (3, L, st, M) x = Rr C mX10_with (4, L, qi 5 :: st, M) x := g_pl (show decode cX10_with 3 = .ok (.iconst 5, 1) by decide +kernel) rfl
set_option maxRecDepth 20000 in
theorem kX10_with_4 {C : QC} {x : QP} {M : QM} {st : List CV} {L : QL} {l0 l1 l2 l3 : Option CV} {z : Int} : Rr C mX10_with (4, [l0, l1, some (qi z), l3], st, M) x = Rr C mX10_with (5, [l0, l1, some (qi z), l3], qi z :: st, M) x := g_pl (show decode cX10_with 4 = .ok (.iload_n 2, 1) by decide +kernel) rfl
set_option maxRecDepth 20000 in
theorem kX10_with_5 {C : QC} {x : QP} {M : QM} {st : List CV} {L : QL} {a b : Int} : Rr C mX10_with (5, L, qi b :: qi a :: st, M) x = Rr C mX10_with (6, L, qi (a * b) :: st, M) x := g_pl (show decode cX10_with 5 = .ok (.imul, 1) by decide +kernel) rfl
set_option maxRecDepth 20000 in
theorem kX10_with_6 {C : QC} {x : QP} {M : QM} {st : List CV} {L : QL} {a b : Int} : Rr C mX10_with (6, L, qi b :: ql a :: st, M) x = Rr C mX10_with (7, L, ql (q_lshl a b) :: st, M) x := g_pl (show decode cX10_with 6 = .ok (.lshl, 1) by decide +kernel) rfl
set_option maxRecDepth 20000 in
theorem kX10_with_7 {C : QC} {x : QP} {M : QM} {st : List CV} {L : QL} {a b : Int} : Rr C mX10_with (7, L, ql b :: ql a :: st, M) x = Rr C mX10_with (8, L, ql (q_lor a b) :: st, M) x := g_pl (show decode cX10_with 7 = .ok (.lor, 1) by decide +kernel) rfl
set_option maxRecDepth 20000 in
theorem kX10_with_8 {C : QC} {x : QP} {M : QM} {st : List CV} {L : QL} {z : Int} : Rr C mX10_with (8, L, [ql z], M) x = x (some (ql z)) M := g_lret (show decode cX10_with 8 = .ok (.lreturn, 1) by decide +kernel)
set_option maxRecDepth 20000 in
theorem eX10_with {d : Nat} {M : QM} {x : QP} {v0 : Int} {v1 : Int} {v2 : Int} : q_T (d + 1) iX10_with [ql v0, qi v1, qi v2] M x = Rr (q_C d) mX10_with (0, [some (ql v0), none, some (qi v1), some (qi v2)], [], M) x := g_entryT (e := _) rfl (Nat.le_of_ble_eq_true rfl) rfl rfl
def mX10_letterOf : QI := (10, cX10_letterOf, false, some .int)
set_option maxRecDepth 20000 in
theorem kX10_letterOf_0 {C : QC} {x : QP} {M : QM} {st : List CV} {L : QL} {l0 l1 l2 : Option CV} {z : Int} : Rr C mX10_letterOf (0, [l0, l1, some (qi z)], st, M) x = Rr C mX10_letterOf (1, [l0, l1, some (qi z)], qi z :: st, M) x := g_pl (show decode cX10_letterOf 0 = .ok (.iload_n 2, 1) by decide +kernel) rfl
set_option maxRecDepth 20000 in
theorem kX10_letterOf_1 {C : QC} {x : QP} {M : QM} {st : List CV} {L : QL} {a : Int} (ha1 : -2147483648 ≤ a) (ha2 : a < 2147483648) : Rr C mX10_letterOf (1, L, qi a :: st, M) x = (if a < 0 then Rr C mX10_letterOf (10, L, st, M) x else Rr C mX10_letterOf (4, L, st, M) x) := (g_if (show decode cX10_letterOf 1 = .ok (.ifCond .lt 9, 3) by decide +kernel) rfl ha1 ha2).trans (g_ite c_lt)
set_option maxRecDepth 20000 in
theorem kX10_letterOf_4 {C : QC} {x : QP} {M : QM} {st : List CV} {L : QL} {l0 l1 l2 : Option CV} {z : Int} : Rr C mX10_letterOf (4, [l0, l1, some (qi z)], st, M) x = Rr C mX10_letterOf (5, [l0, l1, some (qi z)], qi z :: st, M) x := g_pl (show decode cX10_letterOf 4 = .ok (.iload_n 2, 1) by decide +kernel) rfl
set_option maxRecDepth 20000 in
theorem kX10_letterOf_5 {C : QC} {x : QP} {M : QM} {st : List CV} {L : QL} : Rr C mX10_letterOf (5, L, st, M) x = Rr C mX10_letterOf (7, L, qi 8 :: st, M) x := g_pl (show decode cX10_letterOf 5 = .ok (.bipush 8, 2) by decide +kernel) rfl
set_option maxRecDepth 20000 in
theorem kX10_letterOf_7 {C : QC} {x : QP} {M : QM} {st : List CV} {L : QL} {a b : Int} (ha1 : -2147483648 ≤ a) (ha2 : a < 2147483648) (hb1 : -2147483648 ≤ b) (hb2 : b < 2147483648) : Rr C mX10_letterOf (7, L, qi b :: qi a :: st, M) x = (if a < b then Rr C mX10_letterOf (14, L, st, M) x else Rr C mX10_letterOf (10, L, st, M) x) := (g_icmp (show decode cX10_letterOf 7 = .ok (.if_icmp .lt 7, 3) by decide +kernel) rfl ha1 ha2 hb1 hb2).trans (g_ite c_lt)
set_option maxRecDepth 20000 in
theorem kX10_letterOf_10 {C : QC} {x : QP} {M : QM} {st : List CV} {L : QL} : Rr C mX10_letterOf (10, L, st, M) x = Rr C mX10_letterOf (11, L, qi 0 :: st, M) x := g_pl (show decode cX10_letterOf 10 = .ok (.iconst 0, 1) by decide +kernel) rfl
set_option maxRecDepth 20000 in
theorem kX10_letterOf_11 {C : QC} {x : QP} {M : QM} {st : List CV} {L : QL} : Rr C mX10_letterOf (11, L, st, M) x = Rr C mX10_letterOf (24, L, st, M) x := g_pl (show decode cX10_letterOf 11 = .ok (.goto 13, 3) by decide +kernel) rfl
set_option maxRecDepth 20000 in
theorem kX10_letterOf_14 {C : QC} {x : QP} {M : QM} {st : List CV} {L : QL} {l0 l1 l2 : Option CV} {z : Int} : Rr C mX10_letterOf (14, [some (ql z), l1, l2], st, M) x = Rr C mX10_letterOf (15, [some (ql z), l1, l2], ql z :: st, M) x := g_pl (show decode cX10_letterOf 14 = .ok (.lload_n 0, 1) by decide +kernel) rfl
set_option maxRecDepth 20000 in
theorem kX10_letterOf_15 {C : QC} {x : QP} {M : QM} {st : List CV} {L : QL} : Rr C mX10_letterOf (15, L, st, M) x = Rr C mX10_letterOf (16, L, qi 5 :: st, M) x := g_pl (show decode cX10_letterOf 15 = .ok (.iconst 5, 1) by decide +kernel) rfl
set_option maxRecDepth 20000 in
theorem kX10_letterOf_16 {C : QC} {x : QP} {M : QM} {st : List CV} {L : QL} {l0 l1 l2 : Option CV} {z : Int} : Rr C mX10_letterOf (16, [l0, l1, some (qi z)], st, M) x = Rr C mX10_letterOf (17, [l0, l1, some (qi z)], qi z :: st, M) x := g_pl (show decode cX10_letterOf 16 = .ok (.iload_n 2, 1) by decide +kernel) rfl
set_option maxRecDepth 20000 in
theorem kX10_letterOf_17 {C : QC} {x : QP} {M : QM} {st : List CV} {L : QL} {a b : Int} : Rr C mX10_letterOf (17, L, qi b :: qi a :: st, M) x = Rr C mX10_letterOf (18, L, qi (a * b) :: st, M) x := g_pl (show decode cX10_letterOf 17 = .ok (.imul, 1) by decide +kernel) rfl
set_option maxRecDepth 20000 in
theorem kX10_letterOf_18 {C : QC} {x : QP} {M : QM} {st : List CV} {L : QL} {a b : Int} : Rr C mX10_letterOf (18, L, qi b :: ql a :: st, M) x = Rr C mX10_letterOf (19, L, ql (q_lshr a b) :: st, M) x := g_pl (show decode cX10_letterOf 18 = .ok (.lshr, 1) by decide +kernel) rfl
set_option maxRecDepth 20000 in
theorem kX10_letterOf_19 {C : QC} {x : QP} {M : QM} {st : List CV} {L : QL} : Rr C mX10_letterOf (19, L, st, M) x = Rr C mX10_letterOf (22, L, ql 31 :: st, M) x := g_ldc2 (ow := 10) (e := (31, 693)) (show decode cX10_letterOf 19 = .ok (.ldc2_w 9, 3) by decide +kernel) rfl
set_option maxRecDepth 20000 in
theorem kX10_letterOf_22 {C : QC} {x : QP} {M : QM} {st : List CV} {L : QL} {a b : Int} : Rr C mX10_letterOf (22, L, ql b :: ql a :: st, M) x = Rr C mX10_letterOf (23, L, ql (q_land a b) :: st, M) x := g_pl (show decode cX10_letterOf 22 = .ok (.land, 1) by decide +kernel) rfl
set_option maxRecDepth 20000 in
theorem kX10_letterOf_23 {C : QC} {x : QP} {M : QM} {st : List CV} {L : QL} {a : Int} : Rr C mX10_letterOf (23, L, ql a :: st, M) x = Rr C mX10_letterOf (24, L, qi (q_l2i a) :: st, M) x := g_pl (show decode cX10_letterOf 23 = .ok (.l2i, 1) by decide +kernel) rfl
set_option maxRecDepth 20000 in
theorem kX10_letterOf_24 {C : QC} {x : QP} {M : QM} {st : List CV} {L : QL} {z : Int} : Rr C mX10_letterOf (24, L, [qi z], M) x = x (some (qi z)) M := g_iret (show decode cX10_letterOf 24 = .ok (.ireturn, 1) by decide +kernel) rfl
set_option maxRecDepth 20000 in
theorem eX10_letterOf {d : Nat} {M : QM} {x : QP} {v0 : Int} {v1 : Int} : q_T (d + 1) iX10_letterOf [ql v0, qi v1] M x = Rr (q_C d) mX10_letterOf (0, [some (ql v0), none, some (qi v1)], [], M) x := g_entryT (e := _) rfl (Nat.le_of_ble_eq_true rfl) rfl rfl
def mX10_lengthOf : QI := (10, cX10_lengthOf, false, some .int)
set_option maxRecDepth 20000 in
theorem kX10_lengthOf_0 {C : QC} {x : QP} {M : QM} {st : List CV} {L : QL} : Rr C mX10_lengthOf (0, L, st, M) x = Rr C mX10_lengthOf (1, L, qi 0 :: st, M) x := g_pl (show decode cX10_lengthOf 0 = .ok (.iconst 0, 1) by decide +kernel) rfl
set_option maxRecDepth 20000 in
theorem kX10_lengthOf_1 {C : QC} {x : QP} {M : QM} {st : List CV} {L : QL} {l0 l1 l2 l3 : Option CV} {z : Int} : Rr C mX10_lengthOf (1, [l0, l1, l2, l3], qi z :: st, M) x = Rr C mX10_lengthOf (2, [l0, q_cut l1, some (qi z), l3], st, M) x := g_pl (show decode cX10_lengthOf 1 = .ok (.istore_n 2, 1) by decide +kernel) rfl
set_option maxRecDepth 20000 in
theorem kX10_lengthOf_2 {C : QC} {x : QP} {M : QM} {st : List CV} {L : QL} : Rr C mX10_lengthOf (2, L, st, M) x = Rr C mX10_lengthOf (3, L, qi 0 :: st, M) x := g_pl (show decode cX10_lengthOf 2 = .ok (.iconst 0, 1) by decide +kernel) rfl
set_option maxRecDepth 20000 in
theorem kX10_lengthOf_3 {C : QC} {x : QP} {M : QM} {st : List CV} {L : QL} {l0 l1 l2 l3 : Option CV} {z : Int} : Rr C mX10_lengthOf (3, [l0, l1, l2, l3], qi z :: st, M) x = Rr C mX10_lengthOf (4, [l0, l1, q_cut l2, some (qi z)], st, M) x := g_pl (show decode cX10_lengthOf 3 = .ok (.istore_n 3, 1) by decide +kernel) rfl
set_option maxRecDepth 20000 in
theorem kX10_lengthOf_4 {C : QC} {x : QP} {M : QM} {st : List CV} {L : QL} {l0 l1 l2 l3 : Option CV} {z : Int} : Rr C mX10_lengthOf (4, [l0, l1, l2, some (qi z)], st, M) x = Rr C mX10_lengthOf (5, [l0, l1, l2, some (qi z)], qi z :: st, M) x := g_pl (show decode cX10_lengthOf 4 = .ok (.iload_n 3, 1) by decide +kernel) rfl
set_option maxRecDepth 20000 in
theorem kX10_lengthOf_5 {C : QC} {x : QP} {M : QM} {st : List CV} {L : QL} : Rr C mX10_lengthOf (5, L, st, M) x = Rr C mX10_lengthOf (7, L, qi 8 :: st, M) x := g_pl (show decode cX10_lengthOf 5 = .ok (.bipush 8, 2) by decide +kernel) rfl
set_option maxRecDepth 20000 in
theorem kX10_lengthOf_7 {C : QC} {x : QP} {M : QM} {st : List CV} {L : QL} {a b : Int} (ha1 : -2147483648 ≤ a) (ha2 : a < 2147483648) (hb1 : -2147483648 ≤ b) (hb2 : b < 2147483648) : Rr C mX10_lengthOf (7, L, qi b :: qi a :: st, M) x = (if a < b then Rr C mX10_lengthOf (10, L, st, M) x else Rr C mX10_lengthOf (27, L, st, M) x) := (g_icmp (show decode cX10_lengthOf 7 = .ok (.if_icmp .ge 20, 3) by decide +kernel) rfl ha1 ha2 hb1 hb2).trans (g_itn c_ge)
set_option maxRecDepth 20000 in
theorem kX10_lengthOf_10 {C : QC} {x : QP} {M : QM} {st : List CV} {L : QL} {l0 l1 l2 l3 : Option CV} {z : Int} : Rr C mX10_lengthOf (10, [some (ql z), l1, l2, l3], st, M) x = Rr C mX10_lengthOf (11, [some (ql z), l1, l2, l3], ql z :: st, M) x := g_pl (show decode cX10_lengthOf 10 = .ok (.lload_n 0, 1) by decide +kernel) rfl
set_option maxRecDepth 20000 in
theorem kX10_lengthOf_11 {C : QC} {x : QP} {M : QM} {st : List CV} {L : QL} {l0 l1 l2 l3 : Option CV} {z : Int} : Rr C mX10_lengthOf (11, [l0, l1, l2, some (qi z)], st, M) x = Rr C mX10_lengthOf (12, [l0, l1, l2, some (qi z)], qi z :: st, M) x := g_pl (show decode cX10_lengthOf 11 = .ok (.iload_n 3, 1) by decide +kernel) rfl
set_option maxRecDepth 20000 in
theorem kX10_lengthOf_12 {C : QC} {x : QP} {M : QM} {L : QL} {rest : List CV} {a0 a1 : CV} {v : CV} {M1 : QM} (hC : C iX10_letterOf [a0, a1] M (some v) M1) (hw : (rest.map q_wd).sum ≤ 8) (k : Rr C mX10_lengthOf (15, L, v :: rest, M1) x) : Rr C mX10_lengthOf (12, L, a1 :: a0 :: rest, M) x := g_cs (ow := 10) (e := (1, 68, 0, [690, 691, 95])) (as := [a0, a1]) (show decode cX10_lengthOf 12 = .ok (.invokestatic 11, 3) by decide +kernel) rfl rfl rfl rfl (Or.inl rfl) rfl hC hw k
set_option maxRecDepth 20000 in
theorem kX10_lengthOf_15 {C : QC} {x : QP} {M : QM} {st : List CV} {L : QL} {a : Int} (ha1 : -2147483648 ≤ a) (ha2 : a < 2147483648) : Rr C mX10_lengthOf (15, L, qi a :: st, M) x = (if a = 0 then Rr C mX10_lengthOf (21, L, st, M) x else Rr C mX10_lengthOf (18, L, st, M) x) := (g_if (show decode cX10_lengthOf 15 = .ok (.ifCond .eq 6, 3) by decide +kernel) rfl ha1 ha2).trans (g_ite c_eq)
set_option maxRecDepth 20000 in
theorem kX10_lengthOf_18 {C : QC} {x : QP} {M : QM} {st : List CV} {L : QL} {l0 l1 l2 l3 : Option CV} {z : Int} : Rr C mX10_lengthOf (18, [l0, l1, some (qi z), l3], st, M) x = Rr C mX10_lengthOf (21, [l0, q_cut l1, some (qi (z + 1)), l3], st, M) x := g_pl (show decode cX10_lengthOf 18 = .ok (.iinc 2 1, 3) by decide +kernel) rfl
set_option maxRecDepth 20000 in
theorem kX10_lengthOf_21 {C : QC} {x : QP} {M : QM} {st : List CV} {L : QL} {l0 l1 l2 l3 : Option CV} {z : Int} : Rr C mX10_lengthOf (21, [l0, l1, l2, some (qi z)], st, M) x = Rr C mX10_lengthOf (24, [l0, l1, q_cut l2, some (qi (z + 1))], st, M) x := g_pl (show decode cX10_lengthOf 21 = .ok (.iinc 3 1, 3) by decide +kernel) rfl
set_option maxRecDepth 20000 in
theorem kX10_lengthOf_24 {C : QC} {x : QP} {M : QM} {st : List CV} {L : QL} : Rr C mX10_lengthOf (24, L, st, M) x = Rr C mX10_lengthOf (4, L, st, M) x := g_pl (show decode cX10_lengthOf 24 = .ok (.goto (-20), 3) by decide +kernel) rfl
set_option maxRecDepth 20000 in
theorem kX10_lengthOf_27 {C : QC} {x : QP} {M : QM} {st : List CV} {L : QL} {l0 l1 l2 l3 : Option CV} {z : Int} : Rr C mX10_lengthOf (27, [l0, l1, some (qi z), l3], st, M) x = Rr C mX10_lengthOf (28, [l0, l1, some (qi z), l3], qi z :: st, M) x := g_pl (show decode cX10_lengthOf 27 = .ok (.iload_n 2, 1) by decide +kernel) rfl
set_option maxRecDepth 20000 in
theorem kX10_lengthOf_28 {C : QC} {x : QP} {M : QM} {st : List CV} {L : QL} {z : Int} : Rr C mX10_lengthOf (28, L, [qi z], M) x = x (some (qi z)) M := g_iret (show decode cX10_lengthOf 28 = .ok (.ireturn, 1) by decide +kernel) rfl
set_option maxRecDepth 20000 in
theorem eX10_lengthOf {d : Nat} {M : QM} {x : QP} {v0 : Int} : q_T (d + 1) iX10_lengthOf [ql v0] M x = Rr (q_C d) mX10_lengthOf (0, [some (ql v0), none, none, none], [], M) x := g_entryT (e := _) rfl (Nat.le_of_ble_eq_true rfl) rfl rfl
def mX10_isLetter : QI := (10, cX10_isLetter, false, some .boolean)
set_option maxRecDepth 20000 in
theorem kX10_isLetter_0 {C : QC} {x : QP} {M : QM} {st : List CV} {L : QL} {z : Int} : Rr C mX10_isLetter (0, [some (qi z)], st, M) x = Rr C mX10_isLetter (1, [some (qi z)], qi z :: st, M) x := g_pl (show decode cX10_isLetter 0 = .ok (.iload_n 0, 1) by decide +kernel) rfl
set_option maxRecDepth 20000 in
theorem kX10_isLetter_1 {C : QC} {x : QP} {M : QM} {st : List CV} {L : QL} : Rr C mX10_isLetter (1, L, st, M) x = Rr C mX10_isLetter (3, L, qi 97 :: st, M) x := g_pl (show decode cX10_isLetter 1 = .ok (.bipush 97, 2) by decide +kernel) rfl
set_option maxRecDepth 20000 in
theorem kX10_isLetter_3 {C : QC} {x : QP} {M : QM} {st : List CV} {L : QL} {a b : Int} (ha1 : -2147483648 ≤ a) (ha2 : a < 2147483648) (hb1 : -2147483648 ≤ b) (hb2 : b < 2147483648) : Rr C mX10_isLetter (3, L, qi b :: qi a :: st, M) x = (if a < b then Rr C mX10_isLetter (16, L, st, M) x else Rr C mX10_isLetter (6, L, st, M) x) := (g_icmp (show decode cX10_isLetter 3 = .ok (.if_icmp .lt 13, 3) by decide +kernel) rfl ha1 ha2 hb1 hb2).trans (g_ite c_lt)
set_option maxRecDepth 20000 in
theorem kX10_isLetter_6 {C : QC} {x : QP} {M : QM} {st : List CV} {L : QL} {z : Int} : Rr C mX10_isLetter (6, [some (qi z)], st, M) x = Rr C mX10_isLetter (7, [some (qi z)], qi z :: st, M) x := g_pl (show decode cX10_isLetter 6 = .ok (.iload_n 0, 1) by decide +kernel) rfl
set_option maxRecDepth 20000 in
theorem kX10_isLetter_7 {C : QC} {x : QP} {M : QM} {st : List CV} {L : QL} : Rr C mX10_isLetter (7, L, st, M) x = Rr C mX10_isLetter (9, L, qi 122 :: st, M) x := g_pl (show decode cX10_isLetter 7 = .ok (.bipush 122, 2) by decide +kernel) rfl
set_option maxRecDepth 20000 in
theorem kX10_isLetter_9 {C : QC} {x : QP} {M : QM} {st : List CV} {L : QL} {a b : Int} (ha1 : -2147483648 ≤ a) (ha2 : a < 2147483648) (hb1 : -2147483648 ≤ b) (hb2 : b < 2147483648) : Rr C mX10_isLetter (9, L, qi b :: qi a :: st, M) x = (if b < a then Rr C mX10_isLetter (16, L, st, M) x else Rr C mX10_isLetter (12, L, st, M) x) := (g_icmp (show decode cX10_isLetter 9 = .ok (.if_icmp .gt 7, 3) by decide +kernel) rfl ha1 ha2 hb1 hb2).trans (g_ite c_gt)
set_option maxRecDepth 20000 in
theorem kX10_isLetter_12 {C : QC} {x : QP} {M : QM} {st : List CV} {L : QL} : Rr C mX10_isLetter (12, L, st, M) x = Rr C mX10_isLetter (13, L, qi 1 :: st, M) x := g_pl (show decode cX10_isLetter 12 = .ok (.iconst 1, 1) by decide +kernel) rfl
set_option maxRecDepth 20000 in
theorem kX10_isLetter_13 {C : QC} {x : QP} {M : QM} {st : List CV} {L : QL} : Rr C mX10_isLetter (13, L, st, M) x = Rr C mX10_isLetter (17, L, st, M) x := g_pl (show decode cX10_isLetter 13 = .ok (.goto 4, 3) by decide +kernel) rfl
set_option maxRecDepth 20000 in
theorem kX10_isLetter_16 {C : QC} {x : QP} {M : QM} {st : List CV} {L : QL} : Rr C mX10_isLetter (16, L, st, M) x = Rr C mX10_isLetter (17, L, qi 0 :: st, M) x := g_pl (show decode cX10_isLetter 16 = .ok (.iconst 0, 1) by decide +kernel) rfl
set_option maxRecDepth 20000 in
theorem kX10_isLetter_17 {C : QC} {x : QP} {M : QM} {st : List CV} {L : QL} {z : Int} (hz : z = 0 ∨ z = 1) : Rr C mX10_isLetter (17, L, [qi z], M) x = x (some (qi z)) M := g_iret (show decode cX10_isLetter 17 = .ok (.ireturn, 1) by decide +kernel) (by rcases hz with rfl | rfl <;> rfl)
set_option maxRecDepth 20000 in
theorem eX10_isLetter {d : Nat} {M : QM} {x : QP} {v0 : Int} : q_T (d + 1) iX10_isLetter [qi v0] M x = Rr (q_C d) mX10_isLetter (0, [some (qi v0)], [], M) x := g_entryT (e := _) rfl (Nat.le_of_ble_eq_true rfl) rfl rfl
def mX11_init : QI := (11, cX11_init, true, none)
set_option maxRecDepth 20000 in
theorem kX11_init_0 {C : QC} {x : QP} {M : QM} {st : List CV} {L : QL} {l0 l1 : Option CV} {r : Option Nat} : Rr C mX11_init (0, [some (.inr (.inr r)), l1], st, M) x = Rr C mX11_init (1, [some (.inr (.inr r)), l1], .inr (.inr r) :: st, M) x := g_pl (show decode cX11_init 0 = .ok (.aload_n 0, 1) by decide +kernel) rfl
set_option maxRecDepth 20000 in
theorem kX11_init_1 {C : QC} {x : QP} {M : QM} {st : List CV} {L : QL} {a : Nat} (hw : (st.map q_wd).sum ≤ 8) : Rr C mX11_init (1, L, qr a :: st, M) x = Rr C mX11_init (4, L, st, M) x := g_obj (ow := 11) (e := 179) (show decode cX11_init 1 = .ok (.invokespecial 3, 3) by decide +kernel) rfl hw
set_option maxRecDepth 20000 in
theorem kX11_init_4 {C : QC} {x : QP} {M : QM} {st : List CV} {L : QL} {l0 l1 : Option CV} {r : Option Nat} : Rr C mX11_init (4, [some (.inr (.inr r)), l1], st, M) x = Rr C mX11_init (5, [some (.inr (.inr r)), l1], .inr (.inr r) :: st, M) x := g_pl (show decode cX11_init 4 = .ok (.aload_n 0, 1) by decide +kernel) rfl
set_option maxRecDepth 20000 in
theorem kX11_init_5 {C : QC} {x : QP} {M : QM} {st : List CV} {L : QL} : Rr C mX11_init (5, L, st, M) x = Rr C mX11_init (8, L, qr (q_top M) :: st, q_al M (1, 0) 7 (fun k => q_dv (tyX0 k))) x := g_new (ow := 11) (e := (0, 180, 181, 84)) (r := (RX0, TX0, 7)) (t := tyX0) (show decode cX11_init 5 = .ok (.new 9, 3) by decide +kernel) rfl rfl rfl
set_option maxRecDepth 20000 in
theorem kX11_init_8i {C : QC} {x : QP} {M : QM} {st : List CV} {L : QL} {a : Int} : Rr C mX11_init (8, L, qi a :: st, M) x = Rr C mX11_init (9, L, qi a :: qi a :: st, M) x := g_pl (show decode cX11_init 8 = .ok (.dup, 1) by decide +kernel) rfl
set_option maxRecDepth 20000 in
theorem kX11_init_8r {C : QC} {x : QP} {M : QM} {st : List CV} {L : QL} {a : Option Nat} : Rr C mX11_init (8, L, .inr (.inr a) :: st, M) x = Rr C mX11_init (9, L, .inr (.inr a) :: .inr (.inr a) :: st, M) x := g_pl (show decode cX11_init 8 = .ok (.dup, 1) by decide +kernel) rfl
set_option maxRecDepth 20000 in
theorem kX11_init_9 {C : QC} {x : QP} {M : QM} {L : QL} {rest : List CV} {M1 : QM} {b : Nat} (hC : C iX0_init [qr b] M none M1) (hw : (rest.map q_wd).sum ≤ 8) (k : Rr C mX11_init (12, L, rest, M1) x) : Rr C mX11_init (9, L, qr b :: rest, M) x := g_ci (ow := 11) (e := (4, 7, 0, [2, 183, 84])) (as := []) (show decode cX11_init 9 = .ok (.invokespecial 11, 3) by decide +kernel) rfl rfl rfl (Or.inl (Or.inr rfl)) rfl hC hw k
set_option maxRecDepth 20000 in
theorem kX11_init_12 {C : QC} {x : QP} {M : QM} {st : List CV} {L : QL} {z : Option Nat} {a : Nat} (hk : q_kd M a = (1, 11)) : Rr C mX11_init (12, L, .inr (.inr z) :: qr a :: st, M) x = Rr C mX11_init (15, L, st, q_wr M a 0 (.inr (.inr z))) x := g_putf (ow := 11) (ini := true) (e := (11, 0, RX11, 314, 0)) (r := (RX11, TX11, 5)) (t := tyX11) (show decode cX11_init 12 = .ok (.putfield 12, 3) by decide +kernel) rfl rfl rfl rfl (by decide +kernel) hk
set_option maxRecDepth 20000 in
theorem kX11_init_15 {C : QC} {x : QP} {M : QM} {st : List CV} {L : QL} {l0 l1 : Option CV} {r : Option Nat} : Rr C mX11_init (15, [some (.inr (.inr r)), l1], st, M) x = Rr C mX11_init (16, [some (.inr (.inr r)), l1], .inr (.inr r) :: st, M) x := g_pl (show decode cX11_init 15 = .ok (.aload_n 0, 1) by decide +kernel) rfl
set_option maxRecDepth 20000 in
theorem kX11_init_16 {C : QC} {x : QP} {M : QM} {st : List CV} {L : QL} : Rr C mX11_init (16, L, st, M) x = Rr C mX11_init (17, L, qi 0 :: st, M) x := g_pl (show decode cX11_init 16 = .ok (.iconst 0, 1) by decide +kernel) rfl
set_option maxRecDepth 20000 in
theorem kX11_init_17 {C : QC} {x : QP} {M : QM} {st : List CV} {L : QL} {z : Int} {a : Nat} (hk : q_kd M a = (1, 11)) : Rr C mX11_init (17, L, qi z :: qr a :: st, M) x = Rr C mX11_init (20, L, st, q_wr M a 1 (qi z)) x := g_putf (ow := 11) (ini := true) (e := (11, 1, RX11, 316, 0)) (r := (RX11, TX11, 5)) (t := tyX11) (show decode cX11_init 17 = .ok (.putfield 18, 3) by decide +kernel) rfl rfl rfl rfl (by decide +kernel) hk
set_option maxRecDepth 20000 in
theorem kX11_init_20 {C : QC} {x : QP} {M : QM} {st : List CV} {L : QL} {l0 l1 : Option CV} {r : Option Nat} : Rr C mX11_init (20, [some (.inr (.inr r)), l1], st, M) x = Rr C mX11_init (21, [some (.inr (.inr r)), l1], .inr (.inr r) :: st, M) x := g_pl (show decode cX11_init 20 = .ok (.aload_n 0, 1) by decide +kernel) rfl
set_option maxRecDepth 20000 in
theorem kX11_init_21 {C : QC} {x : QP} {M : QM} {st : List CV} {L : QL} : Rr C mX11_init (21, L, st, M) x = Rr C mX11_init (22, L, qi 0 :: st, M) x := g_pl (show decode cX11_init 21 = .ok (.iconst 0, 1) by decide +kernel) rfl
set_option maxRecDepth 20000 in
theorem kX11_init_22 {C : QC} {x : QP} {M : QM} {st : List CV} {L : QL} {z : Int} {a : Nat} (hk : q_kd M a = (1, 11)) : Rr C mX11_init (22, L, qi z :: qr a :: st, M) x = Rr C mX11_init (25, L, st, q_wr M a 2 (qi z)) x := g_putf (ow := 11) (ini := true) (e := (11, 2, RX11, 318, 0)) (r := (RX11, TX11, 5)) (t := tyX11) (show decode cX11_init 22 = .ok (.putfield 22, 3) by decide +kernel) rfl rfl rfl rfl (by decide +kernel) hk
set_option maxRecDepth 20000 in
theorem kX11_init_25 {C : QC} {x : QP} {M : QM} {st : List CV} {L : QL} {l0 l1 : Option CV} {r : Option Nat} : Rr C mX11_init (25, [some (.inr (.inr r)), l1], st, M) x = Rr C mX11_init (26, [some (.inr (.inr r)), l1], .inr (.inr r) :: st, M) x := g_pl (show decode cX11_init 25 = .ok (.aload_n 0, 1) by decide +kernel) rfl
set_option maxRecDepth 20000 in
theorem kX11_init_26 {C : QC} {x : QP} {M : QM} {st : List CV} {L : QL} : Rr C mX11_init (26, L, st, M) x = Rr C mX11_init (28, L, qi 20 :: st, M) x := g_pl (show decode cX11_init 26 = .ok (.bipush 20, 2) by decide +kernel) rfl
set_option maxRecDepth 20000 in
theorem kX11_init_28 {C : QC} {x : QP} {M : QM} {st : List CV} {L : QL} {n : Int} (h0 : 0 ≤ n) (h1 : n ≤ 60000000) : Rr C mX11_init (28, L, qi n :: st, M) x = Rr C mX11_init (31, L, qr (q_top M) :: st, q_al M (6, n.toNat) n.toNat (fun _ => qn)) x := g_anew (ow := 11) (e := (6, 208)) (show decode cX11_init 28 = .ok (.anewarray 25, 3) by decide +kernel) rfl (Or.inr rfl) h0 h1
set_option maxRecDepth 20000 in
theorem kX11_init_31 {C : QC} {x : QP} {M : QM} {st : List CV} {L : QL} {z : Option Nat} {a : Nat} (hk : q_kd M a = (1, 11)) : Rr C mX11_init (31, L, .inr (.inr z) :: qr a :: st, M) x = Rr C mX11_init (34, L, st, q_wr M a 3 (.inr (.inr z))) x := g_putf (ow := 11) (ini := true) (e := (11, 3, RX11, 320, 0)) (r := (RX11, TX11, 5)) (t := tyX11) (show decode cX11_init 31 = .ok (.putfield 27, 3) by decide +kernel) rfl rfl rfl rfl (by decide +kernel) hk
set_option maxRecDepth 20000 in
theorem kX11_init_34 {C : QC} {x : QP} {M : QM} {st : List CV} {L : QL} {l0 l1 : Option CV} {r : Option Nat} : Rr C mX11_init (34, [some (.inr (.inr r)), l1], st, M) x = Rr C mX11_init (35, [some (.inr (.inr r)), l1], .inr (.inr r) :: st, M) x := g_pl (show decode cX11_init 34 = .ok (.aload_n 0, 1) by decide +kernel) rfl
set_option maxRecDepth 20000 in
theorem kX11_init_35 {C : QC} {x : QP} {M : QM} {st : List CV} {L : QL} : Rr C mX11_init (35, L, st, M) x = Rr C mX11_init (36, L, qi 0 :: st, M) x := g_pl (show decode cX11_init 35 = .ok (.iconst 0, 1) by decide +kernel) rfl
set_option maxRecDepth 20000 in
theorem kX11_init_36 {C : QC} {x : QP} {M : QM} {st : List CV} {L : QL} {z : Int} {a : Nat} (hk : q_kd M a = (1, 11)) : Rr C mX11_init (36, L, qi z :: qr a :: st, M) x = Rr C mX11_init (39, L, st, q_wr M a 4 (qi z)) x := g_putf (ow := 11) (ini := true) (e := (11, 4, RX11, 321, 0)) (r := (RX11, TX11, 5)) (t := tyX11) (show decode cX11_init 36 = .ok (.putfield 31, 3) by decide +kernel) rfl rfl rfl rfl (by decide +kernel) hk
set_option maxRecDepth 20000 in
theorem kX11_init_39 {C : QC} {x : QP} {M : QM} {st : List CV} {L : QL} : Rr C mX11_init (39, L, st, M) x = Rr C mX11_init (40, L, qi 0 :: st, M) x := g_pl (show decode cX11_init 39 = .ok (.iconst 0, 1) by decide +kernel) rfl
set_option maxRecDepth 20000 in
theorem kX11_init_40 {C : QC} {x : QP} {M : QM} {st : List CV} {L : QL} {l0 l1 : Option CV} {z : Int} : Rr C mX11_init (40, [l0, l1], qi z :: st, M) x = Rr C mX11_init (41, [q_cut l0, some (qi z)], st, M) x := g_pl (show decode cX11_init 40 = .ok (.istore_n 1, 1) by decide +kernel) rfl
set_option maxRecDepth 20000 in
theorem kX11_init_41 {C : QC} {x : QP} {M : QM} {st : List CV} {L : QL} {l0 l1 : Option CV} {z : Int} : Rr C mX11_init (41, [l0, some (qi z)], st, M) x = Rr C mX11_init (42, [l0, some (qi z)], qi z :: st, M) x := g_pl (show decode cX11_init 41 = .ok (.iload_n 1, 1) by decide +kernel) rfl
set_option maxRecDepth 20000 in
theorem kX11_init_42 {C : QC} {x : QP} {M : QM} {st : List CV} {L : QL} : Rr C mX11_init (42, L, st, M) x = Rr C mX11_init (44, L, qi 20 :: st, M) x := g_pl (show decode cX11_init 42 = .ok (.bipush 20, 2) by decide +kernel) rfl
set_option maxRecDepth 20000 in
theorem kX11_init_44 {C : QC} {x : QP} {M : QM} {st : List CV} {L : QL} {a b : Int} (ha1 : -2147483648 ≤ a) (ha2 : a < 2147483648) (hb1 : -2147483648 ≤ b) (hb2 : b < 2147483648) : Rr C mX11_init (44, L, qi b :: qi a :: st, M) x = (if a < b then Rr C mX11_init (47, L, st, M) x else Rr C mX11_init (66, L, st, M) x) := (g_icmp (show decode cX11_init 44 = .ok (.if_icmp .ge 22, 3) by decide +kernel) rfl ha1 ha2 hb1 hb2).trans (g_itn c_ge)
set_option maxRecDepth 20000 in
theorem kX11_init_47 {C : QC} {x : QP} {M : QM} {st : List CV} {L : QL} {l0 l1 : Option CV} {r : Option Nat} : Rr C mX11_init (47, [some (.inr (.inr r)), l1], st, M) x = Rr C mX11_init (48, [some (.inr (.inr r)), l1], .inr (.inr r) :: st, M) x := g_pl (show decode cX11_init 47 = .ok (.aload_n 0, 1) by decide +kernel) rfl
set_option maxRecDepth 20000 in
theorem kX11_init_48 {C : QC} {x : QP} {M : QM} {st : List CV} {L : QL} {a : Nat} (hk : q_kd M a = (1, 11)) : Rr C mX11_init (48, L, qr a :: st, M) x = Rr C mX11_init (51, L, q_fv M a 3 :: st, M) x := g_getf (ow := 11) (e := (11, 3, RX11, 320, 0)) (show decode cX11_init 48 = .ok (.getfield 27, 3) by decide +kernel) rfl hk
set_option maxRecDepth 20000 in
theorem kX11_init_51 {C : QC} {x : QP} {M : QM} {st : List CV} {L : QL} {l0 l1 : Option CV} {z : Int} : Rr C mX11_init (51, [l0, some (qi z)], st, M) x = Rr C mX11_init (52, [l0, some (qi z)], qi z :: st, M) x := g_pl (show decode cX11_init 51 = .ok (.iload_n 1, 1) by decide +kernel) rfl
set_option maxRecDepth 20000 in
theorem kX11_init_52 {C : QC} {x : QP} {M : QM} {st : List CV} {L : QL} : Rr C mX11_init (52, L, st, M) x = Rr C mX11_init (55, L, qr (q_top M) :: st, q_al M (1, 4) 9 (fun k => q_dv (tyX4 k))) x := g_new (ow := 11) (e := (4, 208, 210, 85)) (r := (RX4, TX4, 9)) (t := tyX4) (show decode cX11_init 52 = .ok (.new 25, 3) by decide +kernel) rfl rfl rfl
set_option maxRecDepth 20000 in
theorem kX11_init_55i {C : QC} {x : QP} {M : QM} {st : List CV} {L : QL} {a : Int} : Rr C mX11_init (55, L, qi a :: st, M) x = Rr C mX11_init (56, L, qi a :: qi a :: st, M) x := g_pl (show decode cX11_init 55 = .ok (.dup, 1) by decide +kernel) rfl
set_option maxRecDepth 20000 in
theorem kX11_init_55r {C : QC} {x : QP} {M : QM} {st : List CV} {L : QL} {a : Option Nat} : Rr C mX11_init (55, L, .inr (.inr a) :: st, M) x = Rr C mX11_init (56, L, .inr (.inr a) :: .inr (.inr a) :: st, M) x := g_pl (show decode cX11_init 55 = .ok (.dup, 1) by decide +kernel) rfl
set_option maxRecDepth 20000 in
theorem kX11_init_56 {C : QC} {x : QP} {M : QM} {L : QL} {rest : List CV} {M1 : QM} {b : Nat} (hC : C iX4_init [qr b] M none M1) (hw : (rest.map q_wd).sum ≤ 8) (k : Rr C mX11_init (59, L, rest, M1) x) : Rr C mX11_init (56, L, qr b :: rest, M) x := g_ci (ow := 11) (e := (4, 8, 0, [3, 212, 85])) (as := []) (show decode cX11_init 56 = .ok (.invokespecial 34, 3) by decide +kernel) rfl rfl rfl (Or.inl (Or.inr rfl)) rfl hC hw k
set_option maxRecDepth 20000 in
theorem kX11_init_595 {C : QC} {x : QP} {M : QM} {st : List CV} {L : QL} {a b : Nat} {j : Int} (hb : q_kd M b = (1, 3)) (hk : (q_kd M a).1 = 5) (h0 : 0 ≤ j) (h1 : j < ((q_kd M a).2 : Int)) : Rr C mX11_init (59, L, qr b :: qi j :: qr a :: st, M) x = Rr C mX11_init (60, L, st, q_wr M a j.toNat (qr b)) x := g_aast5 (show decode cX11_init 59 = .ok (.aastore, 1) by decide +kernel) hb hk h0 h1
set_option maxRecDepth 20000 in
theorem kX11_init_596 {C : QC} {x : QP} {M : QM} {st : List CV} {L : QL} {a b : Nat} {j : Int} (hb : q_kd M b = (1, 4)) (hk : (q_kd M a).1 = 6) (h0 : 0 ≤ j) (h1 : j < ((q_kd M a).2 : Int)) : Rr C mX11_init (59, L, qr b :: qi j :: qr a :: st, M) x = Rr C mX11_init (60, L, st, q_wr M a j.toNat (qr b)) x := g_aast6 (show decode cX11_init 59 = .ok (.aastore, 1) by decide +kernel) hb hk h0 h1
set_option maxRecDepth 20000 in
theorem kX11_init_59n {C : QC} {x : QP} {M : QM} {st : List CV} {L : QL} {a : Nat} {j : Int} (hk : (q_kd M a).1 = 5) (h0 : 0 ≤ j) (h1 : j < ((q_kd M a).2 : Int)) : Rr C mX11_init (59, L, qn :: qi j :: qr a :: st, M) x = Rr C mX11_init (60, L, st, q_wr M a j.toNat qn) x := g_aastN (show decode cX11_init 59 = .ok (.aastore, 1) by decide +kernel) hk h0 h1
set_option maxRecDepth 20000 in
theorem kX11_init_60 {C : QC} {x : QP} {M : QM} {st : List CV} {L : QL} {l0 l1 : Option CV} {z : Int} : Rr C mX11_init (60, [l0, some (qi z)], st, M) x = Rr C mX11_init (63, [q_cut l0, some (qi (z + 1))], st, M) x := g_pl (show decode cX11_init 60 = .ok (.iinc 1 1, 3) by decide +kernel) rfl
set_option maxRecDepth 20000 in
theorem kX11_init_63 {C : QC} {x : QP} {M : QM} {st : List CV} {L : QL} : Rr C mX11_init (63, L, st, M) x = Rr C mX11_init (41, L, st, M) x := g_pl (show decode cX11_init 63 = .ok (.goto (-22), 3) by decide +kernel) rfl
set_option maxRecDepth 20000 in
theorem kX11_init_66 {C : QC} {x : QP} {M : QM} {st : List CV} {L : QL} : Rr C mX11_init (66, L, [], M) x = x none M := g_vret (show decode cX11_init 66 = .ok (.return_, 1) by decide +kernel)
set_option maxRecDepth 20000 in
theorem eX11_init {d : Nat} {M : QM} {x : QP} {a : Nat} : q_T (d + 1) iX11_init [qr a] M x = Rr (q_C d) mX11_init (0, [some (qr a), none], [], M) x := g_entryT (e := _) rfl (Nat.le_of_ble_eq_true rfl) rfl rfl
def mX11_size : QI := (11, cX11_size, false, some .int)
set_option maxRecDepth 20000 in
theorem kX11_size_0 {C : QC} {x : QP} {M : QM} {st : List CV} {L : QL} {r : Option Nat} : Rr C mX11_size (0, [some (.inr (.inr r))], st, M) x = Rr C mX11_size (1, [some (.inr (.inr r))], .inr (.inr r) :: st, M) x := g_pl (show decode cX11_size 0 = .ok (.aload_n 0, 1) by decide +kernel) rfl
set_option maxRecDepth 20000 in
theorem kX11_size_1 {C : QC} {x : QP} {M : QM} {st : List CV} {L : QL} {a : Nat} (hk : q_kd M a = (1, 11)) : Rr C mX11_size (1, L, qr a :: st, M) x = Rr C mX11_size (4, L, q_fv M a 4 :: st, M) x := g_getf (ow := 11) (e := (11, 4, RX11, 321, 0)) (show decode cX11_size 1 = .ok (.getfield 31, 3) by decide +kernel) rfl hk
set_option maxRecDepth 20000 in
theorem kX11_size_4 {C : QC} {x : QP} {M : QM} {st : List CV} {L : QL} {z : Int} : Rr C mX11_size (4, L, [qi z], M) x = x (some (qi z)) M := g_iret (show decode cX11_size 4 = .ok (.ireturn, 1) by decide +kernel) rfl
set_option maxRecDepth 20000 in
theorem eX11_size {d : Nat} {M : QM} {x : QP} {a : Nat} : q_T (d + 1) iX11_size [qr a] M x = Rr (q_C d) mX11_size (0, [some (qr a)], [], M) x := g_entryT (e := _) rfl (Nat.le_of_ble_eq_true rfl) rfl rfl
def mX11_isFull : QI := (11, cX11_isFull, false, some .boolean)
set_option maxRecDepth 20000 in
theorem kX11_isFull_0 {C : QC} {x : QP} {M : QM} {st : List CV} {L : QL} {r : Option Nat} : Rr C mX11_isFull (0, [some (.inr (.inr r))], st, M) x = Rr C mX11_isFull (1, [some (.inr (.inr r))], .inr (.inr r) :: st, M) x := g_pl (show decode cX11_isFull 0 = .ok (.aload_n 0, 1) by decide +kernel) rfl
set_option maxRecDepth 20000 in
theorem kX11_isFull_1 {C : QC} {x : QP} {M : QM} {st : List CV} {L : QL} {a : Nat} (hk : q_kd M a = (1, 11)) : Rr C mX11_isFull (1, L, qr a :: st, M) x = Rr C mX11_isFull (4, L, q_fv M a 4 :: st, M) x := g_getf (ow := 11) (e := (11, 4, RX11, 321, 0)) (show decode cX11_isFull 1 = .ok (.getfield 31, 3) by decide +kernel) rfl hk
set_option maxRecDepth 20000 in
theorem kX11_isFull_4 {C : QC} {x : QP} {M : QM} {st : List CV} {L : QL} {r : Option Nat} : Rr C mX11_isFull (4, [some (.inr (.inr r))], st, M) x = Rr C mX11_isFull (5, [some (.inr (.inr r))], .inr (.inr r) :: st, M) x := g_pl (show decode cX11_isFull 4 = .ok (.aload_n 0, 1) by decide +kernel) rfl
set_option maxRecDepth 20000 in
theorem kX11_isFull_5 {C : QC} {x : QP} {M : QM} {st : List CV} {L : QL} {a : Nat} (hk : q_kd M a = (1, 11)) : Rr C mX11_isFull (5, L, qr a :: st, M) x = Rr C mX11_isFull (8, L, q_fv M a 3 :: st, M) x := g_getf (ow := 11) (e := (11, 3, RX11, 320, 0)) (show decode cX11_isFull 5 = .ok (.getfield 27, 3) by decide +kernel) rfl hk
set_option maxRecDepth 20000 in
theorem kX11_isFull_8 {C : QC} {x : QP} {M : QM} {st : List CV} {L : QL} {a : Nat} (h1 : 2 ≤ (q_kd M a).1) (h2 : (q_kd M a).1 ≤ 9) : Rr C mX11_isFull (8, L, qr a :: st, M) x = Rr C mX11_isFull (9, L, qi (q_kd M a).2 :: st, M) x := g_alen (show decode cX11_isFull 8 = .ok (.arraylength, 1) by decide +kernel) h1 h2
set_option maxRecDepth 20000 in
theorem kX11_isFull_9 {C : QC} {x : QP} {M : QM} {st : List CV} {L : QL} {a b : Int} (ha1 : -2147483648 ≤ a) (ha2 : a < 2147483648) (hb1 : -2147483648 ≤ b) (hb2 : b < 2147483648) : Rr C mX11_isFull (9, L, qi b :: qi a :: st, M) x = (if a < b then Rr C mX11_isFull (16, L, st, M) x else Rr C mX11_isFull (12, L, st, M) x) := (g_icmp (show decode cX11_isFull 9 = .ok (.if_icmp .lt 7, 3) by decide +kernel) rfl ha1 ha2 hb1 hb2).trans (g_ite c_lt)
set_option maxRecDepth 20000 in
theorem kX11_isFull_12 {C : QC} {x : QP} {M : QM} {st : List CV} {L : QL} : Rr C mX11_isFull (12, L, st, M) x = Rr C mX11_isFull (13, L, qi 1 :: st, M) x := g_pl (show decode cX11_isFull 12 = .ok (.iconst 1, 1) by decide +kernel) rfl
set_option maxRecDepth 20000 in
theorem kX11_isFull_13 {C : QC} {x : QP} {M : QM} {st : List CV} {L : QL} : Rr C mX11_isFull (13, L, st, M) x = Rr C mX11_isFull (17, L, st, M) x := g_pl (show decode cX11_isFull 13 = .ok (.goto 4, 3) by decide +kernel) rfl
set_option maxRecDepth 20000 in
theorem kX11_isFull_16 {C : QC} {x : QP} {M : QM} {st : List CV} {L : QL} : Rr C mX11_isFull (16, L, st, M) x = Rr C mX11_isFull (17, L, qi 0 :: st, M) x := g_pl (show decode cX11_isFull 16 = .ok (.iconst 0, 1) by decide +kernel) rfl
set_option maxRecDepth 20000 in
theorem kX11_isFull_17 {C : QC} {x : QP} {M : QM} {st : List CV} {L : QL} {z : Int} (hz : z = 0 ∨ z = 1) : Rr C mX11_isFull (17, L, [qi z], M) x = x (some (qi z)) M := g_iret (show decode cX11_isFull 17 = .ok (.ireturn, 1) by decide +kernel) (by rcases hz with rfl | rfl <;> rfl)
set_option maxRecDepth 20000 in
theorem eX11_isFull {d : Nat} {M : QM} {x : QP} {a : Nat} : q_T (d + 1) iX11_isFull [qr a] M x = Rr (q_C d) mX11_isFull (0, [some (qr a)], [], M) x := g_entryT (e := _) rfl (Nat.le_of_ble_eq_true rfl) rfl rfl
def mX11_place : QI := (11, cX11_place, false, some (.object "PlaceRegister$Place"))
set_option maxRecDepth 20000 in
theorem kX11_place_0 {C : QC} {x : QP} {M : QM} {st : List CV} {L : QL} {l0 l1 : Option CV} {z : Int} : Rr C mX11_place (0, [l0, some (qi z)], st, M) x = Rr C mX11_place (1, [l0, some (qi z)], qi z :: st, M) x := g_pl (show decode cX11_place 0 = .ok (.iload_n 1, 1) by decide +kernel) rfl
set_option maxRecDepth 20000 in
theorem kX11_place_1 {C : QC} {x : QP} {M : QM} {st : List CV} {L : QL} {a : Int} (ha1 : -2147483648 ≤ a) (ha2 : a < 2147483648) : Rr C mX11_place (1, L, qi a :: st, M) x = (if a < 0 then Rr C mX11_place (30, L, st, M) x else Rr C mX11_place (4, L, st, M) x) := (g_if (show decode cX11_place 1 = .ok (.ifCond .lt 29, 3) by decide +kernel) rfl ha1 ha2).trans (g_ite c_lt)
set_option maxRecDepth 20000 in
theorem kX11_place_4 {C : QC} {x : QP} {M : QM} {st : List CV} {L : QL} {l0 l1 : Option CV} {z : Int} : Rr C mX11_place (4, [l0, some (qi z)], st, M) x = Rr C mX11_place (5, [l0, some (qi z)], qi z :: st, M) x := g_pl (show decode cX11_place 4 = .ok (.iload_n 1, 1) by decide +kernel) rfl
set_option maxRecDepth 20000 in
theorem kX11_place_5 {C : QC} {x : QP} {M : QM} {st : List CV} {L : QL} {l0 l1 : Option CV} {r : Option Nat} : Rr C mX11_place (5, [some (.inr (.inr r)), l1], st, M) x = Rr C mX11_place (6, [some (.inr (.inr r)), l1], .inr (.inr r) :: st, M) x := g_pl (show decode cX11_place 5 = .ok (.aload_n 0, 1) by decide +kernel) rfl
set_option maxRecDepth 20000 in
theorem kX11_place_6 {C : QC} {x : QP} {M : QM} {st : List CV} {L : QL} {a : Nat} (hk : q_kd M a = (1, 11)) : Rr C mX11_place (6, L, qr a :: st, M) x = Rr C mX11_place (9, L, q_fv M a 4 :: st, M) x := g_getf (ow := 11) (e := (11, 4, RX11, 321, 0)) (show decode cX11_place 6 = .ok (.getfield 31, 3) by decide +kernel) rfl hk
set_option maxRecDepth 20000 in
theorem kX11_place_9 {C : QC} {x : QP} {M : QM} {st : List CV} {L : QL} {a b : Int} (ha1 : -2147483648 ≤ a) (ha2 : a < 2147483648) (hb1 : -2147483648 ≤ b) (hb2 : b < 2147483648) : Rr C mX11_place (9, L, qi b :: qi a :: st, M) x = (if a < b then Rr C mX11_place (12, L, st, M) x else Rr C mX11_place (30, L, st, M) x) := (g_icmp (show decode cX11_place 9 = .ok (.if_icmp .ge 21, 3) by decide +kernel) rfl ha1 ha2 hb1 hb2).trans (g_itn c_ge)
set_option maxRecDepth 20000 in
theorem kX11_place_12 {C : QC} {x : QP} {M : QM} {st : List CV} {L : QL} {l0 l1 : Option CV} {z : Int} : Rr C mX11_place (12, [l0, some (qi z)], st, M) x = Rr C mX11_place (13, [l0, some (qi z)], qi z :: st, M) x := g_pl (show decode cX11_place 12 = .ok (.iload_n 1, 1) by decide +kernel) rfl
set_option maxRecDepth 20000 in
theorem kX11_place_13 {C : QC} {x : QP} {M : QM} {st : List CV} {L : QL} {l0 l1 : Option CV} {r : Option Nat} : Rr C mX11_place (13, [some (.inr (.inr r)), l1], st, M) x = Rr C mX11_place (14, [some (.inr (.inr r)), l1], .inr (.inr r) :: st, M) x := g_pl (show decode cX11_place 13 = .ok (.aload_n 0, 1) by decide +kernel) rfl
set_option maxRecDepth 20000 in
theorem kX11_place_14 {C : QC} {x : QP} {M : QM} {st : List CV} {L : QL} {a : Nat} (hk : q_kd M a = (1, 11)) : Rr C mX11_place (14, L, qr a :: st, M) x = Rr C mX11_place (17, L, q_fv M a 3 :: st, M) x := g_getf (ow := 11) (e := (11, 3, RX11, 320, 0)) (show decode cX11_place 14 = .ok (.getfield 27, 3) by decide +kernel) rfl hk
set_option maxRecDepth 20000 in
theorem kX11_place_17 {C : QC} {x : QP} {M : QM} {st : List CV} {L : QL} {a : Nat} (h1 : 2 ≤ (q_kd M a).1) (h2 : (q_kd M a).1 ≤ 9) : Rr C mX11_place (17, L, qr a :: st, M) x = Rr C mX11_place (18, L, qi (q_kd M a).2 :: st, M) x := g_alen (show decode cX11_place 17 = .ok (.arraylength, 1) by decide +kernel) h1 h2
set_option maxRecDepth 20000 in
theorem kX11_place_18 {C : QC} {x : QP} {M : QM} {st : List CV} {L : QL} {a b : Int} (ha1 : -2147483648 ≤ a) (ha2 : a < 2147483648) (hb1 : -2147483648 ≤ b) (hb2 : b < 2147483648) : Rr C mX11_place (18, L, qi b :: qi a :: st, M) x = (if a < b then Rr C mX11_place (21, L, st, M) x else Rr C mX11_place (30, L, st, M) x) := (g_icmp (show decode cX11_place 18 = .ok (.if_icmp .ge 12, 3) by decide +kernel) rfl ha1 ha2 hb1 hb2).trans (g_itn c_ge)
set_option maxRecDepth 20000 in
theorem kX11_place_21 {C : QC} {x : QP} {M : QM} {st : List CV} {L : QL} {l0 l1 : Option CV} {r : Option Nat} : Rr C mX11_place (21, [some (.inr (.inr r)), l1], st, M) x = Rr C mX11_place (22, [some (.inr (.inr r)), l1], .inr (.inr r) :: st, M) x := g_pl (show decode cX11_place 21 = .ok (.aload_n 0, 1) by decide +kernel) rfl
set_option maxRecDepth 20000 in
theorem kX11_place_22 {C : QC} {x : QP} {M : QM} {st : List CV} {L : QL} {a : Nat} (hk : q_kd M a = (1, 11)) : Rr C mX11_place (22, L, qr a :: st, M) x = Rr C mX11_place (25, L, q_fv M a 3 :: st, M) x := g_getf (ow := 11) (e := (11, 3, RX11, 320, 0)) (show decode cX11_place 22 = .ok (.getfield 27, 3) by decide +kernel) rfl hk
set_option maxRecDepth 20000 in
theorem kX11_place_25 {C : QC} {x : QP} {M : QM} {st : List CV} {L : QL} {l0 l1 : Option CV} {z : Int} : Rr C mX11_place (25, [l0, some (qi z)], st, M) x = Rr C mX11_place (26, [l0, some (qi z)], qi z :: st, M) x := g_pl (show decode cX11_place 25 = .ok (.iload_n 1, 1) by decide +kernel) rfl
set_option maxRecDepth 20000 in
theorem kX11_place_26 {C : QC} {x : QP} {M : QM} {st : List CV} {L : QL} {a : Nat} {j : Int} (hk : (q_kd M a).1 = 5 ∨ (q_kd M a).1 = 6) (h0 : 0 ≤ j) (h1 : j < ((q_kd M a).2 : Int)) : Rr C mX11_place (26, L, qi j :: qr a :: st, M) x = Rr C mX11_place (27, L, q_fv M a j.toNat :: st, M) x := g_aald (show decode cX11_place 26 = .ok (.aaload, 1) by decide +kernel) hk h0 h1
set_option maxRecDepth 20000 in
theorem kX11_place_27 {C : QC} {x : QP} {M : QM} {st : List CV} {L : QL} : Rr C mX11_place (27, L, st, M) x = Rr C mX11_place (31, L, st, M) x := g_pl (show decode cX11_place 27 = .ok (.goto 4, 3) by decide +kernel) rfl
set_option maxRecDepth 20000 in
theorem kX11_place_30 {C : QC} {x : QP} {M : QM} {st : List CV} {L : QL} : Rr C mX11_place (30, L, st, M) x = Rr C mX11_place (31, L, qn :: st, M) x := g_pl (show decode cX11_place 30 = .ok (.aconst_null, 1) by decide +kernel) rfl
set_option maxRecDepth 20000 in
theorem kX11_place_31 {C : QC} {x : QP} {M : QM} {st : List CV} {L : QL} {r : Option Nat} : Rr C mX11_place (31, L, [.inr (.inr r)], M) x = x (some (.inr (.inr r))) M := g_areto (show decode cX11_place 31 = .ok (.areturn, 1) by decide +kernel)
set_option maxRecDepth 20000 in
theorem eX11_place {d : Nat} {M : QM} {x : QP} {a : Nat} {v0 : Int} : q_T (d + 1) iX11_place [qr a, qi v0] M x = Rr (q_C d) mX11_place (0, [some (qr a), some (qi v0)], [], M) x := g_entryT (e := _) rfl (Nat.le_of_ble_eq_true rfl) rfl rfl
def mX11_clear : QI := (11, cX11_clear, false, none)
set_option maxRecDepth 20000 in
theorem kX11_clear_0 {C : QC} {x : QP} {M : QM} {st : List CV} {L : QL} {r : Option Nat} : Rr C mX11_clear (0, [some (.inr (.inr r))], st, M) x = Rr C mX11_clear (1, [some (.inr (.inr r))], .inr (.inr r) :: st, M) x := g_pl (show decode cX11_clear 0 = .ok (.aload_n 0, 1) by decide +kernel) rfl
set_option maxRecDepth 20000 in
theorem kX11_clear_1 {C : QC} {x : QP} {M : QM} {st : List CV} {L : QL} : Rr C mX11_clear (1, L, st, M) x = Rr C mX11_clear (2, L, qi 0 :: st, M) x := g_pl (show decode cX11_clear 1 = .ok (.iconst 0, 1) by decide +kernel) rfl
set_option maxRecDepth 20000 in
theorem kX11_clear_2 {C : QC} {x : QP} {M : QM} {st : List CV} {L : QL} {z : Int} {a : Nat} (hk : q_kd M a = (1, 11)) : Rr C mX11_clear (2, L, qi z :: qr a :: st, M) x = Rr C mX11_clear (5, L, st, q_wr M a 4 (qi z)) x := g_putf (ow := 11) (ini := false) (e := (11, 4, RX11, 321, 0)) (r := (RX11, TX11, 5)) (t := tyX11) (show decode cX11_clear 2 = .ok (.putfield 31, 3) by decide +kernel) rfl rfl rfl rfl (by decide +kernel) hk
set_option maxRecDepth 20000 in
theorem kX11_clear_5 {C : QC} {x : QP} {M : QM} {st : List CV} {L : QL} {r : Option Nat} : Rr C mX11_clear (5, [some (.inr (.inr r))], st, M) x = Rr C mX11_clear (6, [some (.inr (.inr r))], .inr (.inr r) :: st, M) x := g_pl (show decode cX11_clear 5 = .ok (.aload_n 0, 1) by decide +kernel) rfl
set_option maxRecDepth 20000 in
theorem kX11_clear_6 {C : QC} {x : QP} {M : QM} {st : List CV} {L : QL} : Rr C mX11_clear (6, L, st, M) x = Rr C mX11_clear (7, L, qi 0 :: st, M) x := g_pl (show decode cX11_clear 6 = .ok (.iconst 0, 1) by decide +kernel) rfl
set_option maxRecDepth 20000 in
theorem kX11_clear_7 {C : QC} {x : QP} {M : QM} {st : List CV} {L : QL} {z : Int} {a : Nat} (hk : q_kd M a = (1, 11)) : Rr C mX11_clear (7, L, qi z :: qr a :: st, M) x = Rr C mX11_clear (10, L, st, q_wr M a 1 (qi z)) x := g_putf (ow := 11) (ini := false) (e := (11, 1, RX11, 316, 0)) (r := (RX11, TX11, 5)) (t := tyX11) (show decode cX11_clear 7 = .ok (.putfield 18, 3) by decide +kernel) rfl rfl rfl rfl (by decide +kernel) hk
set_option maxRecDepth 20000 in
theorem kX11_clear_10 {C : QC} {x : QP} {M : QM} {st : List CV} {L : QL} {r : Option Nat} : Rr C mX11_clear (10, [some (.inr (.inr r))], st, M) x = Rr C mX11_clear (11, [some (.inr (.inr r))], .inr (.inr r) :: st, M) x := g_pl (show decode cX11_clear 10 = .ok (.aload_n 0, 1) by decide +kernel) rfl
set_option maxRecDepth 20000 in
theorem kX11_clear_11 {C : QC} {x : QP} {M : QM} {st : List CV} {L : QL} : Rr C mX11_clear (11, L, st, M) x = Rr C mX11_clear (12, L, qi 0 :: st, M) x := g_pl (show decode cX11_clear 11 = .ok (.iconst 0, 1) by decide +kernel) rfl
set_option maxRecDepth 20000 in
theorem kX11_clear_12 {C : QC} {x : QP} {M : QM} {st : List CV} {L : QL} {z : Int} {a : Nat} (hk : q_kd M a = (1, 11)) : Rr C mX11_clear (12, L, qi z :: qr a :: st, M) x = Rr C mX11_clear (15, L, st, q_wr M a 2 (qi z)) x := g_putf (ow := 11) (ini := false) (e := (11, 2, RX11, 318, 0)) (r := (RX11, TX11, 5)) (t := tyX11) (show decode cX11_clear 12 = .ok (.putfield 22, 3) by decide +kernel) rfl rfl rfl rfl (by decide +kernel) hk
set_option maxRecDepth 20000 in
theorem kX11_clear_15 {C : QC} {x : QP} {M : QM} {st : List CV} {L : QL} {r : Option Nat} : Rr C mX11_clear (15, [some (.inr (.inr r))], st, M) x = Rr C mX11_clear (16, [some (.inr (.inr r))], .inr (.inr r) :: st, M) x := g_pl (show decode cX11_clear 15 = .ok (.aload_n 0, 1) by decide +kernel) rfl
set_option maxRecDepth 20000 in
theorem kX11_clear_16 {C : QC} {x : QP} {M : QM} {st : List CV} {L : QL} {a : Nat} (hk : q_kd M a = (1, 11)) : Rr C mX11_clear (16, L, qr a :: st, M) x = Rr C mX11_clear (19, L, q_fv M a 0 :: st, M) x := g_getf (ow := 11) (e := (11, 0, RX11, 314, 0)) (show decode cX11_clear 16 = .ok (.getfield 12, 3) by decide +kernel) rfl hk
set_option maxRecDepth 20000 in
theorem kX11_clear_19 {C : QC} {x : QP} {M : QM} {L : QL} {rest : List CV} {M1 : QM} {b : Nat} (hb : q_kd M b = (1, 0)) (hC : C iX0_clear [qr b] M none M1) (hw : (rest.map q_wd).sum ≤ 8) (k : Rr C mX11_clear (22, L, rest, M1) x) : Rr C mX11_clear (19, L, qr b :: rest, M) x := g_cv (ow := 11) (e := (0, 106, 0, [854, 855, 856, 84])) (as := []) (show decode cX11_clear 19 = .ok (.invokevirtual 35, 3) by decide +kernel) rfl rfl rfl (Or.inl rfl) rfl hb hC hw k
set_option maxRecDepth 20000 in
theorem kX11_clear_22 {C : QC} {x : QP} {M : QM} {st : List CV} {L : QL} : Rr C mX11_clear (22, L, [], M) x = x none M := g_vret (show decode cX11_clear 22 = .ok (.return_, 1) by decide +kernel)
set_option maxRecDepth 20000 in
theorem eX11_clear {d : Nat} {M : QM} {x : QP} {a : Nat} : q_T (d + 1) iX11_clear [qr a] M x = Rr (q_C d) mX11_clear (0, [some (qr a)], [], M) x := g_entryT (e := _) rfl (Nat.le_of_ble_eq_true rfl) rfl rfl
def mX11_carryOut : QI := (11, cX11_carryOut, false, some .int)
set_option maxRecDepth 20000 in
theorem kX11_carryOut_0 {C : QC} {x : QP} {M : QM} {st : List CV} {L : QL} {l0 l1 l2 : Option CV} {r : Option Nat} : Rr C mX11_carryOut (0, [l0, some (.inr (.inr r)), l2], st, M) x = Rr C mX11_carryOut (1, [l0, some (.inr (.inr r)), l2], .inr (.inr r) :: st, M) x := g_pl (show decode cX11_carryOut 0 = .ok (.aload_n 1, 1) by decide +kernel) rfl
set_option maxRecDepth 20000 in
theorem kX11_carryOut_1r {C : QC} {x : QP} {M : QM} {st : List CV} {L : QL} {a : Nat} : Rr C mX11_carryOut (1, L, qr a :: st, M) x = Rr C mX11_carryOut (7, L, st, M) x := g_pl (show decode cX11_carryOut 1 = .ok (.ifnonnull 6, 3) by decide +kernel) rfl
set_option maxRecDepth 20000 in
theorem kX11_carryOut_1n {C : QC} {x : QP} {M : QM} {st : List CV} {L : QL} : Rr C mX11_carryOut (1, L, qn :: st, M) x = Rr C mX11_carryOut (4, L, st, M) x := g_pl (show decode cX11_carryOut 1 = .ok (.ifnonnull 6, 3) by decide +kernel) rfl
set_option maxRecDepth 20000 in
theorem kX11_carryOut_4 {C : QC} {x : QP} {M : QM} {st : List CV} {L : QL} : Rr C mX11_carryOut (4, L, st, M) x = Rr C mX11_carryOut (6, L, qi (-3) :: st, M) x := g_pl (show decode cX11_carryOut 4 = .ok (.bipush (-3), 2) by decide +kernel) rfl
set_option maxRecDepth 20000 in
theorem kX11_carryOut_6 {C : QC} {x : QP} {M : QM} {st : List CV} {L : QL} {z : Int} : Rr C mX11_carryOut (6, L, [qi z], M) x = x (some (qi z)) M := g_iret (show decode cX11_carryOut 6 = .ok (.ireturn, 1) by decide +kernel) rfl
set_option maxRecDepth 20000 in
theorem kX11_carryOut_7 {C : QC} {x : QP} {M : QM} {st : List CV} {L : QL} {l0 l1 l2 : Option CV} {r : Option Nat} : Rr C mX11_carryOut (7, [l0, some (.inr (.inr r)), l2], st, M) x = Rr C mX11_carryOut (8, [l0, some (.inr (.inr r)), l2], .inr (.inr r) :: st, M) x := g_pl (show decode cX11_carryOut 7 = .ok (.aload_n 1, 1) by decide +kernel) rfl
set_option maxRecDepth 20000 in
theorem kX11_carryOut_8 {C : QC} {x : QP} {M : QM} {st : List CV} {L : QL} {a : Nat} (hk : q_kd M a = (1, 3)) : Rr C mX11_carryOut (8, L, qr a :: st, M) x = Rr C mX11_carryOut (11, L, q_fv M a 0 :: st, M) x := g_getf (ow := 11) (e := (3, 0, RX3, 459, 0)) (show decode cX11_carryOut 8 = .ok (.getfield 38, 3) by decide +kernel) rfl hk
set_option maxRecDepth 20000 in
theorem kX11_carryOut_11 {C : QC} {x : QP} {M : QM} {st : List CV} {L : QL} {a : Int} (ha1 : -2147483648 ≤ a) (ha2 : a < 2147483648) : Rr C mX11_carryOut (11, L, qi a :: st, M) x = (if a = 0 then Rr C mX11_carryOut (60, L, st, M) x else if a = 1 then Rr C mX11_carryOut (141, L, st, M) x else if a = 2 then Rr C mX11_carryOut (141, L, st, M) x else if a = 3 then Rr C mX11_carryOut (141, L, st, M) x else if a = 4 then Rr C mX11_carryOut (141, L, st, M) x else if a = 5 then Rr C mX11_carryOut (141, L, st, M) x else if a = 6 then Rr C mX11_carryOut (93, L, st, M) x else if a = 7 then Rr C mX11_carryOut (109, L, st, M) x else if a = 8 then Rr C mX11_carryOut (129, L, st, M) x else Rr C mX11_carryOut (141, L, st, M) x) := by
  by_cases h0 : a = 0
  · subst h0; rw [if_pos rfl]; exact g_tsI (show decode cX11_carryOut 11 = .ok (.tableswitch 130 0 8 #[49, 130, 130, 130, 130, 130, 82, 98, 118], 49) by decide +kernel) (by decide) (by decide) rfl rfl
  rw [if_neg h0]
  by_cases h1 : a = 1
  · subst h1; rw [if_pos rfl]; exact g_tsI (show decode cX11_carryOut 11 = .ok (.tableswitch 130 0 8 #[49, 130, 130, 130, 130, 130, 82, 98, 118], 49) by decide +kernel) (by decide) (by decide) rfl rfl
  rw [if_neg h1]
  by_cases h2 : a = 2
  · subst h2; rw [if_pos rfl]; exact g_tsI (show decode cX11_carryOut 11 = .ok (.tableswitch 130 0 8 #[49, 130, 130, 130, 130, 130, 82, 98, 118], 49) by decide +kernel) (by decide) (by decide) rfl rfl
  rw [if_neg h2]
  by_cases h3 : a = 3
  · subst h3; rw [if_pos rfl]; exact g_tsI (show decode cX11_carryOut 11 = .ok (.tableswitch 130 0 8 #[49, 130, 130, 130, 130, 130, 82, 98, 118], 49) by decide +kernel) (by decide) (by decide) rfl rfl
  rw [if_neg h3]
  by_cases h4 : a = 4
  · subst h4; rw [if_pos rfl]; exact g_tsI (show decode cX11_carryOut 11 = .ok (.tableswitch 130 0 8 #[49, 130, 130, 130, 130, 130, 82, 98, 118], 49) by decide +kernel) (by decide) (by decide) rfl rfl
  rw [if_neg h4]
  by_cases h5 : a = 5
  · subst h5; rw [if_pos rfl]; exact g_tsI (show decode cX11_carryOut 11 = .ok (.tableswitch 130 0 8 #[49, 130, 130, 130, 130, 130, 82, 98, 118], 49) by decide +kernel) (by decide) (by decide) rfl rfl
  rw [if_neg h5]
  by_cases h6 : a = 6
  · subst h6; rw [if_pos rfl]; exact g_tsI (show decode cX11_carryOut 11 = .ok (.tableswitch 130 0 8 #[49, 130, 130, 130, 130, 130, 82, 98, 118], 49) by decide +kernel) (by decide) (by decide) rfl rfl
  rw [if_neg h6]
  by_cases h7 : a = 7
  · subst h7; rw [if_pos rfl]; exact g_tsI (show decode cX11_carryOut 11 = .ok (.tableswitch 130 0 8 #[49, 130, 130, 130, 130, 130, 82, 98, 118], 49) by decide +kernel) (by decide) (by decide) rfl rfl
  rw [if_neg h7]
  by_cases h8 : a = 8
  · subst h8; rw [if_pos rfl]; exact g_tsI (show decode cX11_carryOut 11 = .ok (.tableswitch 130 0 8 #[49, 130, 130, 130, 130, 130, 82, 98, 118], 49) by decide +kernel) (by decide) (by decide) rfl rfl
  rw [if_neg h8]
  exact g_tsO (show decode cX11_carryOut 11 = .ok (.tableswitch 130 0 8 #[49, 130, 130, 130, 130, 130, 82, 98, 118], 49) by decide +kernel) ⟨ha1, ha2⟩ (by omega) rfl
set_option maxRecDepth 20000 in
theorem kX11_carryOut_60 {C : QC} {x : QP} {M : QM} {st : List CV} {L : QL} {l0 l1 l2 : Option CV} {r : Option Nat} : Rr C mX11_carryOut (60, [some (.inr (.inr r)), l1, l2], st, M) x = Rr C mX11_carryOut (61, [some (.inr (.inr r)), l1, l2], .inr (.inr r) :: st, M) x := g_pl (show decode cX11_carryOut 60 = .ok (.aload_n 0, 1) by decide +kernel) rfl
set_option maxRecDepth 20000 in
theorem kX11_carryOut_61 {C : QC} {x : QP} {M : QM} {st : List CV} {L : QL} {l0 l1 l2 : Option CV} {r : Option Nat} : Rr C mX11_carryOut (61, [l0, some (.inr (.inr r)), l2], st, M) x = Rr C mX11_carryOut (62, [l0, some (.inr (.inr r)), l2], .inr (.inr r) :: st, M) x := g_pl (show decode cX11_carryOut 61 = .ok (.aload_n 1, 1) by decide +kernel) rfl
set_option maxRecDepth 20000 in
theorem kX11_carryOut_62 {C : QC} {x : QP} {M : QM} {st : List CV} {L : QL} {a : Nat} (hk : q_kd M a = (1, 3)) : Rr C mX11_carryOut (62, L, qr a :: st, M) x = Rr C mX11_carryOut (65, L, q_fv M a 1 :: st, M) x := g_getf (ow := 11) (e := (3, 1, RX3, 462, 0)) (show decode cX11_carryOut 62 = .ok (.getfield 43, 3) by decide +kernel) rfl hk
set_option maxRecDepth 20000 in
theorem kX11_carryOut_65 {C : QC} {x : QP} {M : QM} {st : List CV} {L : QL} {l0 l1 l2 : Option CV} {r : Option Nat} : Rr C mX11_carryOut (65, [l0, some (.inr (.inr r)), l2], st, M) x = Rr C mX11_carryOut (66, [l0, some (.inr (.inr r)), l2], .inr (.inr r) :: st, M) x := g_pl (show decode cX11_carryOut 65 = .ok (.aload_n 1, 1) by decide +kernel) rfl
set_option maxRecDepth 20000 in
theorem kX11_carryOut_66 {C : QC} {x : QP} {M : QM} {st : List CV} {L : QL} {a : Nat} (hk : q_kd M a = (1, 3)) : Rr C mX11_carryOut (66, L, qr a :: st, M) x = Rr C mX11_carryOut (69, L, q_fv M a 1 :: st, M) x := g_getf (ow := 11) (e := (3, 1, RX3, 462, 0)) (show decode cX11_carryOut 66 = .ok (.getfield 43, 3) by decide +kernel) rfl hk
set_option maxRecDepth 20000 in
theorem kX11_carryOut_69 {C : QC} {x : QP} {M : QM} {st : List CV} {L : QL} {a : Int} (ha1 : -2147483648 ≤ a) (ha2 : a < 2147483648) : Rr C mX11_carryOut (69, L, qi a :: st, M) x = (if a = 0 then Rr C mX11_carryOut (72, L, st, M) x else Rr C mX11_carryOut (77, L, st, M) x) := (g_if (show decode cX11_carryOut 69 = .ok (.ifCond .ne 8, 3) by decide +kernel) rfl ha1 ha2).trans (g_itn c_ne)
set_option maxRecDepth 20000 in
theorem kX11_carryOut_72 {C : QC} {x : QP} {M : QM} {st : List CV} {L : QL} : Rr C mX11_carryOut (72, L, st, M) x = Rr C mX11_carryOut (74, L, qi (-5) :: st, M) x := g_pl (show decode cX11_carryOut 72 = .ok (.bipush (-5), 2) by decide +kernel) rfl
set_option maxRecDepth 20000 in
theorem kX11_carryOut_74 {C : QC} {x : QP} {M : QM} {st : List CV} {L : QL} : Rr C mX11_carryOut (74, L, st, M) x = Rr C mX11_carryOut (81, L, st, M) x := g_pl (show decode cX11_carryOut 74 = .ok (.goto 7, 3) by decide +kernel) rfl
set_option maxRecDepth 20000 in
theorem kX11_carryOut_77 {C : QC} {x : QP} {M : QM} {st : List CV} {L : QL} {l0 l1 l2 : Option CV} {r : Option Nat} : Rr C mX11_carryOut (77, [l0, some (.inr (.inr r)), l2], st, M) x = Rr C mX11_carryOut (78, [l0, some (.inr (.inr r)), l2], .inr (.inr r) :: st, M) x := g_pl (show decode cX11_carryOut 77 = .ok (.aload_n 1, 1) by decide +kernel) rfl
set_option maxRecDepth 20000 in
theorem kX11_carryOut_78 {C : QC} {x : QP} {M : QM} {st : List CV} {L : QL} {a : Nat} (hk : q_kd M a = (1, 3)) : Rr C mX11_carryOut (78, L, qr a :: st, M) x = Rr C mX11_carryOut (81, L, q_fv M a 2 :: st, M) x := g_getf (ow := 11) (e := (3, 2, RX3, 465, 0)) (show decode cX11_carryOut 78 = .ok (.getfield 46, 3) by decide +kernel) rfl hk
set_option maxRecDepth 20000 in
theorem kX11_carryOut_81 {C : QC} {x : QP} {M : QM} {st : List CV} {L : QL} {l0 l1 l2 : Option CV} {r : Option Nat} : Rr C mX11_carryOut (81, [l0, some (.inr (.inr r)), l2], st, M) x = Rr C mX11_carryOut (82, [l0, some (.inr (.inr r)), l2], .inr (.inr r) :: st, M) x := g_pl (show decode cX11_carryOut 81 = .ok (.aload_n 1, 1) by decide +kernel) rfl
set_option maxRecDepth 20000 in
theorem kX11_carryOut_82 {C : QC} {x : QP} {M : QM} {st : List CV} {L : QL} {a : Nat} (hk : q_kd M a = (1, 3)) : Rr C mX11_carryOut (82, L, qr a :: st, M) x = Rr C mX11_carryOut (85, L, q_fv M a 3 :: st, M) x := g_getf (ow := 11) (e := (3, 3, RX3, 468, 0)) (show decode cX11_carryOut 82 = .ok (.getfield 49, 3) by decide +kernel) rfl hk
set_option maxRecDepth 20000 in
theorem kX11_carryOut_85 {C : QC} {x : QP} {M : QM} {st : List CV} {L : QL} {l0 l1 l2 : Option CV} {r : Option Nat} : Rr C mX11_carryOut (85, [l0, some (.inr (.inr r)), l2], st, M) x = Rr C mX11_carryOut (86, [l0, some (.inr (.inr r)), l2], .inr (.inr r) :: st, M) x := g_pl (show decode cX11_carryOut 85 = .ok (.aload_n 1, 1) by decide +kernel) rfl
set_option maxRecDepth 20000 in
theorem kX11_carryOut_86 {C : QC} {x : QP} {M : QM} {st : List CV} {L : QL} {a : Nat} (hk : q_kd M a = (1, 3)) : Rr C mX11_carryOut (86, L, qr a :: st, M) x = Rr C mX11_carryOut (89, L, q_fv M a 4 :: st, M) x := g_getf (ow := 11) (e := (3, 4, RX3, 471, 0)) (show decode cX11_carryOut 86 = .ok (.getfield 52, 3) by decide +kernel) rfl hk
set_option maxRecDepth 20000 in
theorem kX11_carryOut_89 {C : QC} {x : QP} {M : QM} {L : QL} {rest : List CV} {a0 a1 a2 a3 : CV} {v : CV} {M1 : QM} {b : Nat} (hb : q_kd M b = (1, 11)) (hC : C iX11_settle [qr b, a0, a1, a2, a3] M (some v) M1) (hw : (rest.map q_wd).sum ≤ 8) (k : Rr C mX11_carryOut (92, L, v :: rest, M1) x) : Rr C mX11_carryOut (89, L, a3 :: a2 :: a1 :: a0 :: qr b :: rest, M) x := g_cv (ow := 11) (e := (0, 54, 11, [628, 630, 6, 83])) (as := [a0, a1, a2, a3]) (show decode cX11_carryOut 89 = .ok (.invokevirtual 56, 3) by decide +kernel) rfl rfl rfl (Or.inl rfl) rfl hb hC hw k
set_option maxRecDepth 20000 in
theorem kX11_carryOut_92 {C : QC} {x : QP} {M : QM} {st : List CV} {L : QL} {z : Int} : Rr C mX11_carryOut (92, L, [qi z], M) x = x (some (qi z)) M := g_iret (show decode cX11_carryOut 92 = .ok (.ireturn, 1) by decide +kernel) rfl
set_option maxRecDepth 20000 in
theorem kX11_carryOut_93 {C : QC} {x : QP} {M : QM} {st : List CV} {L : QL} {l0 l1 l2 : Option CV} {r : Option Nat} : Rr C mX11_carryOut (93, [some (.inr (.inr r)), l1, l2], st, M) x = Rr C mX11_carryOut (94, [some (.inr (.inr r)), l1, l2], .inr (.inr r) :: st, M) x := g_pl (show decode cX11_carryOut 93 = .ok (.aload_n 0, 1) by decide +kernel) rfl
set_option maxRecDepth 20000 in
theorem kX11_carryOut_94 {C : QC} {x : QP} {M : QM} {st : List CV} {L : QL} {a : Nat} (hk : q_kd M a = (1, 11)) : Rr C mX11_carryOut (94, L, qr a :: st, M) x = Rr C mX11_carryOut (97, L, q_fv M a 0 :: st, M) x := g_getf (ow := 11) (e := (11, 0, RX11, 314, 0)) (show decode cX11_carryOut 94 = .ok (.getfield 12, 3) by decide +kernel) rfl hk
set_option maxRecDepth 20000 in
theorem kX11_carryOut_97 {C : QC} {x : QP} {M : QM} {st : List CV} {L : QL} {l0 l1 l2 : Option CV} {r : Option Nat} : Rr C mX11_carryOut (97, [l0, some (.inr (.inr r)), l2], st, M) x = Rr C mX11_carryOut (98, [l0, some (.inr (.inr r)), l2], .inr (.inr r) :: st, M) x := g_pl (show decode cX11_carryOut 97 = .ok (.aload_n 1, 1) by decide +kernel) rfl
set_option maxRecDepth 20000 in
theorem kX11_carryOut_98 {C : QC} {x : QP} {M : QM} {st : List CV} {L : QL} {a : Nat} (hk : q_kd M a = (1, 3)) : Rr C mX11_carryOut (98, L, qr a :: st, M) x = Rr C mX11_carryOut (101, L, q_fv M a 1 :: st, M) x := g_getf (ow := 11) (e := (3, 1, RX3, 462, 0)) (show decode cX11_carryOut 98 = .ok (.getfield 43, 3) by decide +kernel) rfl hk
set_option maxRecDepth 20000 in
theorem kX11_carryOut_101 {C : QC} {x : QP} {M : QM} {st : List CV} {L : QL} {l0 l1 l2 : Option CV} {r : Option Nat} : Rr C mX11_carryOut (101, [l0, some (.inr (.inr r)), l2], st, M) x = Rr C mX11_carryOut (102, [l0, some (.inr (.inr r)), l2], .inr (.inr r) :: st, M) x := g_pl (show decode cX11_carryOut 101 = .ok (.aload_n 1, 1) by decide +kernel) rfl
set_option maxRecDepth 20000 in
theorem kX11_carryOut_102 {C : QC} {x : QP} {M : QM} {st : List CV} {L : QL} {a : Nat} (hk : q_kd M a = (1, 3)) : Rr C mX11_carryOut (102, L, qr a :: st, M) x = Rr C mX11_carryOut (105, L, q_fv M a 2 :: st, M) x := g_getf (ow := 11) (e := (3, 2, RX3, 465, 0)) (show decode cX11_carryOut 102 = .ok (.getfield 46, 3) by decide +kernel) rfl hk
set_option maxRecDepth 20000 in
theorem kX11_carryOut_105 {C : QC} {x : QP} {M : QM} {L : QL} {rest : List CV} {a0 a1 : CV} {v : CV} {M1 : QM} {b : Nat} (hb : q_kd M b = (1, 0)) (hC : C iX0_addLeaf [qr b, a0, a1] M (some v) M1) (hw : (rest.map q_wd).sum ≤ 8) (k : Rr C mX11_carryOut (108, L, v :: rest, M1) x) : Rr C mX11_carryOut (105, L, a1 :: a0 :: qr b :: rest, M) x := g_cv (ow := 11) (e := (0, 59, 0, [649, 650, 651, 84])) (as := [a0, a1]) (show decode cX11_carryOut 105 = .ok (.invokevirtual 60, 3) by decide +kernel) rfl rfl rfl (Or.inl rfl) rfl hb hC hw k
set_option maxRecDepth 20000 in
theorem kX11_carryOut_108 {C : QC} {x : QP} {M : QM} {st : List CV} {L : QL} {z : Int} : Rr C mX11_carryOut (108, L, [qi z], M) x = x (some (qi z)) M := g_iret (show decode cX11_carryOut 108 = .ok (.ireturn, 1) by decide +kernel) rfl
set_option maxRecDepth 20000 in
theorem kX11_carryOut_109 {C : QC} {x : QP} {M : QM} {st : List CV} {L : QL} {l0 l1 l2 : Option CV} {r : Option Nat} : Rr C mX11_carryOut (109, [some (.inr (.inr r)), l1, l2], st, M) x = Rr C mX11_carryOut (110, [some (.inr (.inr r)), l1, l2], .inr (.inr r) :: st, M) x := g_pl (show decode cX11_carryOut 109 = .ok (.aload_n 0, 1) by decide +kernel) rfl
set_option maxRecDepth 20000 in
theorem kX11_carryOut_110 {C : QC} {x : QP} {M : QM} {st : List CV} {L : QL} {a : Nat} (hk : q_kd M a = (1, 11)) : Rr C mX11_carryOut (110, L, qr a :: st, M) x = Rr C mX11_carryOut (113, L, q_fv M a 0 :: st, M) x := g_getf (ow := 11) (e := (11, 0, RX11, 314, 0)) (show decode cX11_carryOut 110 = .ok (.getfield 12, 3) by decide +kernel) rfl hk
set_option maxRecDepth 20000 in
theorem kX11_carryOut_113 {C : QC} {x : QP} {M : QM} {st : List CV} {L : QL} {l0 l1 l2 : Option CV} {r : Option Nat} : Rr C mX11_carryOut (113, [l0, some (.inr (.inr r)), l2], st, M) x = Rr C mX11_carryOut (114, [l0, some (.inr (.inr r)), l2], .inr (.inr r) :: st, M) x := g_pl (show decode cX11_carryOut 113 = .ok (.aload_n 1, 1) by decide +kernel) rfl
set_option maxRecDepth 20000 in
theorem kX11_carryOut_114 {C : QC} {x : QP} {M : QM} {st : List CV} {L : QL} {a : Nat} (hk : q_kd M a = (1, 3)) : Rr C mX11_carryOut (114, L, qr a :: st, M) x = Rr C mX11_carryOut (117, L, q_fv M a 3 :: st, M) x := g_getf (ow := 11) (e := (3, 3, RX3, 468, 0)) (show decode cX11_carryOut 114 = .ok (.getfield 49, 3) by decide +kernel) rfl hk
set_option maxRecDepth 20000 in
theorem kX11_carryOut_117 {C : QC} {x : QP} {M : QM} {st : List CV} {L : QL} {l0 l1 l2 : Option CV} {r : Option Nat} : Rr C mX11_carryOut (117, [l0, some (.inr (.inr r)), l2], st, M) x = Rr C mX11_carryOut (118, [l0, some (.inr (.inr r)), l2], .inr (.inr r) :: st, M) x := g_pl (show decode cX11_carryOut 117 = .ok (.aload_n 1, 1) by decide +kernel) rfl
set_option maxRecDepth 20000 in
theorem kX11_carryOut_118 {C : QC} {x : QP} {M : QM} {st : List CV} {L : QL} {a : Nat} (hk : q_kd M a = (1, 3)) : Rr C mX11_carryOut (118, L, qr a :: st, M) x = Rr C mX11_carryOut (121, L, q_fv M a 1 :: st, M) x := g_getf (ow := 11) (e := (3, 1, RX3, 462, 0)) (show decode cX11_carryOut 118 = .ok (.getfield 43, 3) by decide +kernel) rfl hk
set_option maxRecDepth 20000 in
theorem kX11_carryOut_121 {C : QC} {x : QP} {M : QM} {st : List CV} {L : QL} {l0 l1 l2 : Option CV} {r : Option Nat} : Rr C mX11_carryOut (121, [l0, some (.inr (.inr r)), l2], st, M) x = Rr C mX11_carryOut (122, [l0, some (.inr (.inr r)), l2], .inr (.inr r) :: st, M) x := g_pl (show decode cX11_carryOut 121 = .ok (.aload_n 1, 1) by decide +kernel) rfl
set_option maxRecDepth 20000 in
theorem kX11_carryOut_122 {C : QC} {x : QP} {M : QM} {st : List CV} {L : QL} {a : Nat} (hk : q_kd M a = (1, 3)) : Rr C mX11_carryOut (122, L, qr a :: st, M) x = Rr C mX11_carryOut (125, L, q_fv M a 2 :: st, M) x := g_getf (ow := 11) (e := (3, 2, RX3, 465, 0)) (show decode cX11_carryOut 122 = .ok (.getfield 46, 3) by decide +kernel) rfl hk
set_option maxRecDepth 20000 in
theorem kX11_carryOut_125 {C : QC} {x : QP} {M : QM} {L : QL} {rest : List CV} {a0 a1 a2 : CV} {v : CV} {M1 : QM} {b : Nat} (hb : q_kd M b = (1, 0)) (hC : C iX0_addJoined [qr b, a0, a1, a2] M (some v) M1) (hw : (rest.map q_wd).sum ≤ 8) (k : Rr C mX11_carryOut (128, L, v :: rest, M1) x) : Rr C mX11_carryOut (125, L, a2 :: a1 :: a0 :: qr b :: rest, M) x := g_cv (ow := 11) (e := (0, 62, 0, [667, 668, 669, 84])) (as := [a0, a1, a2]) (show decode cX11_carryOut 125 = .ok (.invokevirtual 64, 3) by decide +kernel) rfl rfl rfl (Or.inl rfl) rfl hb hC hw k
set_option maxRecDepth 20000 in
theorem kX11_carryOut_128 {C : QC} {x : QP} {M : QM} {st : List CV} {L : QL} {z : Int} : Rr C mX11_carryOut (128, L, [qi z], M) x = x (some (qi z)) M := g_iret (show decode cX11_carryOut 128 = .ok (.ireturn, 1) by decide +kernel) rfl
set_option maxRecDepth 20000 in
theorem kX11_carryOut_129 {C : QC} {x : QP} {M : QM} {st : List CV} {L : QL} {l0 l1 l2 : Option CV} {r : Option Nat} : Rr C mX11_carryOut (129, [some (.inr (.inr r)), l1, l2], st, M) x = Rr C mX11_carryOut (130, [some (.inr (.inr r)), l1, l2], .inr (.inr r) :: st, M) x := g_pl (show decode cX11_carryOut 129 = .ok (.aload_n 0, 1) by decide +kernel) rfl
set_option maxRecDepth 20000 in
theorem kX11_carryOut_130 {C : QC} {x : QP} {M : QM} {st : List CV} {L : QL} {a : Nat} (hk : q_kd M a = (1, 11)) : Rr C mX11_carryOut (130, L, qr a :: st, M) x = Rr C mX11_carryOut (133, L, q_fv M a 0 :: st, M) x := g_getf (ow := 11) (e := (11, 0, RX11, 314, 0)) (show decode cX11_carryOut 130 = .ok (.getfield 12, 3) by decide +kernel) rfl hk
set_option maxRecDepth 20000 in
theorem kX11_carryOut_133 {C : QC} {x : QP} {M : QM} {st : List CV} {L : QL} {l0 l1 l2 : Option CV} {r : Option Nat} : Rr C mX11_carryOut (133, [l0, some (.inr (.inr r)), l2], st, M) x = Rr C mX11_carryOut (134, [l0, some (.inr (.inr r)), l2], .inr (.inr r) :: st, M) x := g_pl (show decode cX11_carryOut 133 = .ok (.aload_n 1, 1) by decide +kernel) rfl
set_option maxRecDepth 20000 in
theorem kX11_carryOut_134 {C : QC} {x : QP} {M : QM} {st : List CV} {L : QL} {a : Nat} (hk : q_kd M a = (1, 3)) : Rr C mX11_carryOut (134, L, qr a :: st, M) x = Rr C mX11_carryOut (137, L, q_fv M a 1 :: st, M) x := g_getf (ow := 11) (e := (3, 1, RX3, 462, 0)) (show decode cX11_carryOut 134 = .ok (.getfield 43, 3) by decide +kernel) rfl hk
set_option maxRecDepth 20000 in
theorem kX11_carryOut_137 {C : QC} {x : QP} {M : QM} {L : QL} {rest : List CV} {a0 : CV} {v : CV} {M1 : QM} {b : Nat} (hb : q_kd M b = (1, 0)) (hC : C iX0_remove [qr b, a0] M (some v) M1) (hw : (rest.map q_wd).sum ≤ 8) (k : Rr C mX11_carryOut (140, L, v :: rest, M1) x) : Rr C mX11_carryOut (137, L, a0 :: qr b :: rest, M) x := g_cv (ow := 11) (e := (0, 64, 0, [675, 676, 677, 84])) (as := [a0]) (show decode cX11_carryOut 137 = .ok (.invokevirtual 68, 3) by decide +kernel) rfl rfl rfl (Or.inl rfl) rfl hb hC hw k
set_option maxRecDepth 20000 in
theorem kX11_carryOut_140 {C : QC} {x : QP} {M : QM} {st : List CV} {L : QL} {z : Int} : Rr C mX11_carryOut (140, L, [qi z], M) x = x (some (qi z)) M := g_iret (show decode cX11_carryOut 140 = .ok (.ireturn, 1) by decide +kernel) rfl
set_option maxRecDepth 20000 in
theorem kX11_carryOut_141 {C : QC} {x : QP} {M : QM} {st : List CV} {L : QL} {l0 l1 l2 : Option CV} {r : Option Nat} : Rr C mX11_carryOut (141, [some (.inr (.inr r)), l1, l2], st, M) x = Rr C mX11_carryOut (142, [some (.inr (.inr r)), l1, l2], .inr (.inr r) :: st, M) x := g_pl (show decode cX11_carryOut 141 = .ok (.aload_n 0, 1) by decide +kernel) rfl
set_option maxRecDepth 20000 in
theorem kX11_carryOut_142 {C : QC} {x : QP} {M : QM} {st : List CV} {L : QL} {l0 l1 l2 : Option CV} {r : Option Nat} : Rr C mX11_carryOut (142, [l0, some (.inr (.inr r)), l2], st, M) x = Rr C mX11_carryOut (143, [l0, some (.inr (.inr r)), l2], .inr (.inr r) :: st, M) x := g_pl (show decode cX11_carryOut 142 = .ok (.aload_n 1, 1) by decide +kernel) rfl
set_option maxRecDepth 20000 in
theorem kX11_carryOut_143 {C : QC} {x : QP} {M : QM} {st : List CV} {L : QL} {a : Nat} (hk : q_kd M a = (1, 3)) : Rr C mX11_carryOut (143, L, qr a :: st, M) x = Rr C mX11_carryOut (146, L, q_fv M a 1 :: st, M) x := g_getf (ow := 11) (e := (3, 1, RX3, 462, 0)) (show decode cX11_carryOut 143 = .ok (.getfield 43, 3) by decide +kernel) rfl hk
set_option maxRecDepth 20000 in
theorem kX11_carryOut_146 {C : QC} {x : QP} {M : QM} {L : QL} {rest : List CV} {a0 : CV} {v : CV} {M1 : QM} {b : Nat} (hb : q_kd M b = (1, 11)) (hC : C iX11_place [qr b, a0] M (some v) M1) (hw : (rest.map q_wd).sum ≤ 8) (k : Rr C mX11_carryOut (149, L, v :: rest, M1) x) : Rr C mX11_carryOut (146, L, a0 :: qr b :: rest, M) x := g_cv (ow := 11) (e := (0, 30, 11, [679, 504, 505, 83])) (as := [a0]) (show decode cX11_carryOut 146 = .ok (.invokevirtual 72, 3) by decide +kernel) rfl rfl rfl (Or.inl rfl) rfl hb hC hw k
set_option maxRecDepth 20000 in
theorem kX11_carryOut_149 {C : QC} {x : QP} {M : QM} {st : List CV} {L : QL} {l0 l1 l2 : Option CV} {z : Option Nat} : Rr C mX11_carryOut (149, [l0, l1, l2], .inr (.inr z) :: st, M) x = Rr C mX11_carryOut (150, [l0, q_cut l1, some (.inr (.inr z))], st, M) x := g_pl (show decode cX11_carryOut 149 = .ok (.astore_n 2, 1) by decide +kernel) rfl
set_option maxRecDepth 20000 in
theorem kX11_carryOut_150 {C : QC} {x : QP} {M : QM} {st : List CV} {L : QL} {l0 l1 l2 : Option CV} {r : Option Nat} : Rr C mX11_carryOut (150, [l0, l1, some (.inr (.inr r))], st, M) x = Rr C mX11_carryOut (151, [l0, l1, some (.inr (.inr r))], .inr (.inr r) :: st, M) x := g_pl (show decode cX11_carryOut 150 = .ok (.aload_n 2, 1) by decide +kernel) rfl
set_option maxRecDepth 20000 in
theorem kX11_carryOut_151r {C : QC} {x : QP} {M : QM} {st : List CV} {L : QL} {a : Nat} : Rr C mX11_carryOut (151, L, qr a :: st, M) x = Rr C mX11_carryOut (157, L, st, M) x := g_pl (show decode cX11_carryOut 151 = .ok (.ifnonnull 6, 3) by decide +kernel) rfl
set_option maxRecDepth 20000 in
theorem kX11_carryOut_151n {C : QC} {x : QP} {M : QM} {st : List CV} {L : QL} : Rr C mX11_carryOut (151, L, qn :: st, M) x = Rr C mX11_carryOut (154, L, st, M) x := g_pl (show decode cX11_carryOut 151 = .ok (.ifnonnull 6, 3) by decide +kernel) rfl
set_option maxRecDepth 20000 in
theorem kX11_carryOut_154 {C : QC} {x : QP} {M : QM} {st : List CV} {L : QL} : Rr C mX11_carryOut (154, L, st, M) x = Rr C mX11_carryOut (156, L, qi (-3) :: st, M) x := g_pl (show decode cX11_carryOut 154 = .ok (.bipush (-3), 2) by decide +kernel) rfl
set_option maxRecDepth 20000 in
theorem kX11_carryOut_156 {C : QC} {x : QP} {M : QM} {st : List CV} {L : QL} {z : Int} : Rr C mX11_carryOut (156, L, [qi z], M) x = x (some (qi z)) M := g_iret (show decode cX11_carryOut 156 = .ok (.ireturn, 1) by decide +kernel) rfl
set_option maxRecDepth 20000 in
theorem kX11_carryOut_157 {C : QC} {x : QP} {M : QM} {st : List CV} {L : QL} {l0 l1 l2 : Option CV} {r : Option Nat} : Rr C mX11_carryOut (157, [l0, some (.inr (.inr r)), l2], st, M) x = Rr C mX11_carryOut (158, [l0, some (.inr (.inr r)), l2], .inr (.inr r) :: st, M) x := g_pl (show decode cX11_carryOut 157 = .ok (.aload_n 1, 1) by decide +kernel) rfl
set_option maxRecDepth 20000 in
theorem kX11_carryOut_158 {C : QC} {x : QP} {M : QM} {st : List CV} {L : QL} {a : Nat} (hk : q_kd M a = (1, 3)) : Rr C mX11_carryOut (158, L, qr a :: st, M) x = Rr C mX11_carryOut (161, L, q_fv M a 0 :: st, M) x := g_getf (ow := 11) (e := (3, 0, RX3, 459, 0)) (show decode cX11_carryOut 158 = .ok (.getfield 38, 3) by decide +kernel) rfl hk
set_option maxRecDepth 20000 in
theorem kX11_carryOut_161 {C : QC} {x : QP} {M : QM} {st : List CV} {L : QL} {a : Int} (ha1 : -2147483648 ≤ a) (ha2 : a < 2147483648) : Rr C mX11_carryOut (161, L, qi a :: st, M) x = (if a = 1 then Rr C mX11_carryOut (192, L, st, M) x else if a = 2 then Rr C mX11_carryOut (205, L, st, M) x else if a = 3 then Rr C mX11_carryOut (218, L, st, M) x else if a = 4 then Rr C mX11_carryOut (236, L, st, M) x else Rr C mX11_carryOut (254, L, st, M) x) := by
  by_cases h0 : a = 1
  · subst h0; rw [if_pos rfl]; exact g_tsI (show decode cX11_carryOut 161 = .ok (.tableswitch 93 1 4 #[31, 44, 57, 75], 31) by decide +kernel) (by decide) (by decide) rfl rfl
  rw [if_neg h0]
  by_cases h1 : a = 2
  · subst h1; rw [if_pos rfl]; exact g_tsI (show decode cX11_carryOut 161 = .ok (.tableswitch 93 1 4 #[31, 44, 57, 75], 31) by decide +kernel) (by decide) (by decide) rfl rfl
  rw [if_neg h1]
  by_cases h2 : a = 3
  · subst h2; rw [if_pos rfl]; exact g_tsI (show decode cX11_carryOut 161 = .ok (.tableswitch 93 1 4 #[31, 44, 57, 75], 31) by decide +kernel) (by decide) (by decide) rfl rfl
  rw [if_neg h2]
  by_cases h3 : a = 4
  · subst h3; rw [if_pos rfl]; exact g_tsI (show decode cX11_carryOut 161 = .ok (.tableswitch 93 1 4 #[31, 44, 57, 75], 31) by decide +kernel) (by decide) (by decide) rfl rfl
  rw [if_neg h3]
  exact g_tsO (show decode cX11_carryOut 161 = .ok (.tableswitch 93 1 4 #[31, 44, 57, 75], 31) by decide +kernel) ⟨ha1, ha2⟩ (by omega) rfl
set_option maxRecDepth 20000 in
theorem kX11_carryOut_192 {C : QC} {x : QP} {M : QM} {st : List CV} {L : QL} {l0 l1 l2 : Option CV} {r : Option Nat} : Rr C mX11_carryOut (192, [l0, l1, some (.inr (.inr r))], st, M) x = Rr C mX11_carryOut (193, [l0, l1, some (.inr (.inr r))], .inr (.inr r) :: st, M) x := g_pl (show decode cX11_carryOut 192 = .ok (.aload_n 2, 1) by decide +kernel) rfl
set_option maxRecDepth 20000 in
theorem kX11_carryOut_193 {C : QC} {x : QP} {M : QM} {st : List CV} {L : QL} {l0 l1 l2 : Option CV} {r : Option Nat} : Rr C mX11_carryOut (193, [l0, some (.inr (.inr r)), l2], st, M) x = Rr C mX11_carryOut (194, [l0, some (.inr (.inr r)), l2], .inr (.inr r) :: st, M) x := g_pl (show decode cX11_carryOut 193 = .ok (.aload_n 1, 1) by decide +kernel) rfl
set_option maxRecDepth 20000 in
theorem kX11_carryOut_194 {C : QC} {x : QP} {M : QM} {st : List CV} {L : QL} {a : Nat} (hk : q_kd M a = (1, 3)) : Rr C mX11_carryOut (194, L, qr a :: st, M) x = Rr C mX11_carryOut (197, L, q_fv M a 3 :: st, M) x := g_getf (ow := 11) (e := (3, 3, RX3, 468, 0)) (show decode cX11_carryOut 194 = .ok (.getfield 49, 3) by decide +kernel) rfl hk
set_option maxRecDepth 20000 in
theorem kX11_carryOut_197 {C : QC} {x : QP} {M : QM} {st : List CV} {L : QL} {l0 l1 l2 : Option CV} {r : Option Nat} : Rr C mX11_carryOut (197, [l0, some (.inr (.inr r)), l2], st, M) x = Rr C mX11_carryOut (198, [l0, some (.inr (.inr r)), l2], .inr (.inr r) :: st, M) x := g_pl (show decode cX11_carryOut 197 = .ok (.aload_n 1, 1) by decide +kernel) rfl
set_option maxRecDepth 20000 in
theorem kX11_carryOut_198 {C : QC} {x : QP} {M : QM} {st : List CV} {L : QL} {a : Nat} (hk : q_kd M a = (1, 3)) : Rr C mX11_carryOut (198, L, qr a :: st, M) x = Rr C mX11_carryOut (201, L, q_fv M a 4 :: st, M) x := g_getf (ow := 11) (e := (3, 4, RX3, 471, 0)) (show decode cX11_carryOut 198 = .ok (.getfield 52, 3) by decide +kernel) rfl hk
set_option maxRecDepth 20000 in
theorem kX11_carryOut_201 {C : QC} {x : QP} {M : QM} {L : QL} {rest : List CV} {a0 a1 a2 : CV} {v : CV} {M1 : QM} (hC : C iX11_giveName [a0, a1, a2] M (some v) M1) (hw : (rest.map q_wd).sum ≤ 8) (k : Rr C mX11_carryOut (204, L, v :: rest, M1) x) : Rr C mX11_carryOut (201, L, a2 :: a1 :: a0 :: rest, M) x := g_cs (ow := 11) (e := (1, 65, 0, [680, 681, 83])) (as := [a0, a1, a2]) (show decode cX11_carryOut 201 = .ok (.invokestatic 76, 3) by decide +kernel) rfl rfl rfl rfl (Or.inl rfl) rfl hC hw k
set_option maxRecDepth 20000 in
theorem kX11_carryOut_204 {C : QC} {x : QP} {M : QM} {st : List CV} {L : QL} {z : Int} : Rr C mX11_carryOut (204, L, [qi z], M) x = x (some (qi z)) M := g_iret (show decode cX11_carryOut 204 = .ok (.ireturn, 1) by decide +kernel) rfl
set_option maxRecDepth 20000 in
theorem kX11_carryOut_205 {C : QC} {x : QP} {M : QM} {st : List CV} {L : QL} {l0 l1 l2 : Option CV} {r : Option Nat} : Rr C mX11_carryOut (205, [l0, l1, some (.inr (.inr r))], st, M) x = Rr C mX11_carryOut (206, [l0, l1, some (.inr (.inr r))], .inr (.inr r) :: st, M) x := g_pl (show decode cX11_carryOut 205 = .ok (.aload_n 2, 1) by decide +kernel) rfl
set_option maxRecDepth 20000 in
theorem kX11_carryOut_206 {C : QC} {x : QP} {M : QM} {st : List CV} {L : QL} {l0 l1 l2 : Option CV} {r : Option Nat} : Rr C mX11_carryOut (206, [l0, some (.inr (.inr r)), l2], st, M) x = Rr C mX11_carryOut (207, [l0, some (.inr (.inr r)), l2], .inr (.inr r) :: st, M) x := g_pl (show decode cX11_carryOut 206 = .ok (.aload_n 1, 1) by decide +kernel) rfl
set_option maxRecDepth 20000 in
theorem kX11_carryOut_207 {C : QC} {x : QP} {M : QM} {st : List CV} {L : QL} {a : Nat} (hk : q_kd M a = (1, 3)) : Rr C mX11_carryOut (207, L, qr a :: st, M) x = Rr C mX11_carryOut (210, L, q_fv M a 2 :: st, M) x := g_getf (ow := 11) (e := (3, 2, RX3, 465, 0)) (show decode cX11_carryOut 207 = .ok (.getfield 46, 3) by decide +kernel) rfl hk
set_option maxRecDepth 20000 in
theorem kX11_carryOut_210 {C : QC} {x : QP} {M : QM} {st : List CV} {L : QL} {l0 l1 l2 : Option CV} {r : Option Nat} : Rr C mX11_carryOut (210, [l0, some (.inr (.inr r)), l2], st, M) x = Rr C mX11_carryOut (211, [l0, some (.inr (.inr r)), l2], .inr (.inr r) :: st, M) x := g_pl (show decode cX11_carryOut 210 = .ok (.aload_n 1, 1) by decide +kernel) rfl
set_option maxRecDepth 20000 in
theorem kX11_carryOut_211 {C : QC} {x : QP} {M : QM} {st : List CV} {L : QL} {a : Nat} (hk : q_kd M a = (1, 3)) : Rr C mX11_carryOut (211, L, qr a :: st, M) x = Rr C mX11_carryOut (214, L, q_fv M a 3 :: st, M) x := g_getf (ow := 11) (e := (3, 3, RX3, 468, 0)) (show decode cX11_carryOut 211 = .ok (.getfield 49, 3) by decide +kernel) rfl hk
set_option maxRecDepth 20000 in
theorem kX11_carryOut_214 {C : QC} {x : QP} {M : QM} {L : QL} {rest : List CV} {a0 a1 a2 : CV} {v : CV} {M1 : QM} (hC : C iX11_giveParent [a0, a1, a2] M (some v) M1) (hw : (rest.map q_wd).sum ≤ 8) (k : Rr C mX11_carryOut (217, L, v :: rest, M1) x) : Rr C mX11_carryOut (214, L, a2 :: a1 :: a0 :: rest, M) x := g_cs (ow := 11) (e := (1, 73, 0, [715, 716, 83])) (as := [a0, a1, a2]) (show decode cX11_carryOut 214 = .ok (.invokestatic 80, 3) by decide +kernel) rfl rfl rfl rfl (Or.inl rfl) rfl hC hw k
set_option maxRecDepth 20000 in
theorem kX11_carryOut_217 {C : QC} {x : QP} {M : QM} {st : List CV} {L : QL} {z : Int} : Rr C mX11_carryOut (217, L, [qi z], M) x = x (some (qi z)) M := g_iret (show decode cX11_carryOut 217 = .ok (.ireturn, 1) by decide +kernel) rfl
set_option maxRecDepth 20000 in
theorem kX11_carryOut_218 {C : QC} {x : QP} {M : QM} {st : List CV} {L : QL} {l0 l1 l2 : Option CV} {r : Option Nat} : Rr C mX11_carryOut (218, [some (.inr (.inr r)), l1, l2], st, M) x = Rr C mX11_carryOut (219, [some (.inr (.inr r)), l1, l2], .inr (.inr r) :: st, M) x := g_pl (show decode cX11_carryOut 218 = .ok (.aload_n 0, 1) by decide +kernel) rfl
set_option maxRecDepth 20000 in
theorem kX11_carryOut_219 {C : QC} {x : QP} {M : QM} {st : List CV} {L : QL} {l0 l1 l2 : Option CV} {r : Option Nat} : Rr C mX11_carryOut (219, [l0, some (.inr (.inr r)), l2], st, M) x = Rr C mX11_carryOut (220, [l0, some (.inr (.inr r)), l2], .inr (.inr r) :: st, M) x := g_pl (show decode cX11_carryOut 219 = .ok (.aload_n 1, 1) by decide +kernel) rfl
set_option maxRecDepth 20000 in
theorem kX11_carryOut_220 {C : QC} {x : QP} {M : QM} {st : List CV} {L : QL} {a : Nat} (hk : q_kd M a = (1, 3)) : Rr C mX11_carryOut (220, L, qr a :: st, M) x = Rr C mX11_carryOut (223, L, q_fv M a 1 :: st, M) x := g_getf (ow := 11) (e := (3, 1, RX3, 462, 0)) (show decode cX11_carryOut 220 = .ok (.getfield 43, 3) by decide +kernel) rfl hk
set_option maxRecDepth 20000 in
theorem kX11_carryOut_223 {C : QC} {x : QP} {M : QM} {st : List CV} {L : QL} {l0 l1 l2 : Option CV} {r : Option Nat} : Rr C mX11_carryOut (223, [l0, l1, some (.inr (.inr r))], st, M) x = Rr C mX11_carryOut (224, [l0, l1, some (.inr (.inr r))], .inr (.inr r) :: st, M) x := g_pl (show decode cX11_carryOut 223 = .ok (.aload_n 2, 1) by decide +kernel) rfl
set_option maxRecDepth 20000 in
theorem kX11_carryOut_224 {C : QC} {x : QP} {M : QM} {st : List CV} {L : QL} {l0 l1 l2 : Option CV} {r : Option Nat} : Rr C mX11_carryOut (224, [l0, some (.inr (.inr r)), l2], st, M) x = Rr C mX11_carryOut (225, [l0, some (.inr (.inr r)), l2], .inr (.inr r) :: st, M) x := g_pl (show decode cX11_carryOut 224 = .ok (.aload_n 1, 1) by decide +kernel) rfl
set_option maxRecDepth 20000 in
theorem kX11_carryOut_225 {C : QC} {x : QP} {M : QM} {st : List CV} {L : QL} {a : Nat} (hk : q_kd M a = (1, 3)) : Rr C mX11_carryOut (225, L, qr a :: st, M) x = Rr C mX11_carryOut (228, L, q_fv M a 3 :: st, M) x := g_getf (ow := 11) (e := (3, 3, RX3, 468, 0)) (show decode cX11_carryOut 225 = .ok (.getfield 49, 3) by decide +kernel) rfl hk
set_option maxRecDepth 20000 in
theorem kX11_carryOut_228 {C : QC} {x : QP} {M : QM} {st : List CV} {L : QL} {l0 l1 l2 : Option CV} {r : Option Nat} : Rr C mX11_carryOut (228, [l0, some (.inr (.inr r)), l2], st, M) x = Rr C mX11_carryOut (229, [l0, some (.inr (.inr r)), l2], .inr (.inr r) :: st, M) x := g_pl (show decode cX11_carryOut 228 = .ok (.aload_n 1, 1) by decide +kernel) rfl
set_option maxRecDepth 20000 in
theorem kX11_carryOut_229 {C : QC} {x : QP} {M : QM} {st : List CV} {L : QL} {a : Nat} (hk : q_kd M a = (1, 3)) : Rr C mX11_carryOut (229, L, qr a :: st, M) x = Rr C mX11_carryOut (232, L, q_fv M a 4 :: st, M) x := g_getf (ow := 11) (e := (3, 4, RX3, 471, 0)) (show decode cX11_carryOut 229 = .ok (.getfield 52, 3) by decide +kernel) rfl hk
set_option maxRecDepth 20000 in
theorem kX11_carryOut_232 {C : QC} {x : QP} {M : QM} {L : QL} {rest : List CV} {a0 a1 a2 a3 : CV} {v : CV} {M1 : QM} {b : Nat} (hb : q_kd M b = (1, 11)) (hC : C iX11_splitOff [qr b, a0, a1, a2, a3] M (some v) M1) (hw : (rest.map q_wd).sum ≤ 8) (k : Rr C mX11_carryOut (235, L, v :: rest, M1) x) : Rr C mX11_carryOut (232, L, a3 :: a2 :: a1 :: a0 :: qr b :: rest, M) x := g_cv (ow := 11) (e := (0, 76, 11, [728, 730, 9, 83])) (as := [a0, a1, a2, a3]) (show decode cX11_carryOut 232 = .ok (.invokevirtual 84, 3) by decide +kernel) rfl rfl rfl (Or.inl rfl) rfl hb hC hw k
set_option maxRecDepth 20000 in
theorem kX11_carryOut_235 {C : QC} {x : QP} {M : QM} {st : List CV} {L : QL} {z : Int} : Rr C mX11_carryOut (235, L, [qi z], M) x = x (some (qi z)) M := g_iret (show decode cX11_carryOut 235 = .ok (.ireturn, 1) by decide +kernel) rfl
set_option maxRecDepth 20000 in
theorem kX11_carryOut_236 {C : QC} {x : QP} {M : QM} {st : List CV} {L : QL} {l0 l1 l2 : Option CV} {r : Option Nat} : Rr C mX11_carryOut (236, [some (.inr (.inr r)), l1, l2], st, M) x = Rr C mX11_carryOut (237, [some (.inr (.inr r)), l1, l2], .inr (.inr r) :: st, M) x := g_pl (show decode cX11_carryOut 236 = .ok (.aload_n 0, 1) by decide +kernel) rfl
set_option maxRecDepth 20000 in
theorem kX11_carryOut_237 {C : QC} {x : QP} {M : QM} {st : List CV} {L : QL} {l0 l1 l2 : Option CV} {r : Option Nat} : Rr C mX11_carryOut (237, [l0, some (.inr (.inr r)), l2], st, M) x = Rr C mX11_carryOut (238, [l0, some (.inr (.inr r)), l2], .inr (.inr r) :: st, M) x := g_pl (show decode cX11_carryOut 237 = .ok (.aload_n 1, 1) by decide +kernel) rfl
set_option maxRecDepth 20000 in
theorem kX11_carryOut_238 {C : QC} {x : QP} {M : QM} {st : List CV} {L : QL} {a : Nat} (hk : q_kd M a = (1, 3)) : Rr C mX11_carryOut (238, L, qr a :: st, M) x = Rr C mX11_carryOut (241, L, q_fv M a 1 :: st, M) x := g_getf (ow := 11) (e := (3, 1, RX3, 462, 0)) (show decode cX11_carryOut 238 = .ok (.getfield 43, 3) by decide +kernel) rfl hk
set_option maxRecDepth 20000 in
theorem kX11_carryOut_241 {C : QC} {x : QP} {M : QM} {st : List CV} {L : QL} {l0 l1 l2 : Option CV} {r : Option Nat} : Rr C mX11_carryOut (241, [l0, l1, some (.inr (.inr r))], st, M) x = Rr C mX11_carryOut (242, [l0, l1, some (.inr (.inr r))], .inr (.inr r) :: st, M) x := g_pl (show decode cX11_carryOut 241 = .ok (.aload_n 2, 1) by decide +kernel) rfl
set_option maxRecDepth 20000 in
theorem kX11_carryOut_242 {C : QC} {x : QP} {M : QM} {st : List CV} {L : QL} {l0 l1 l2 : Option CV} {r : Option Nat} : Rr C mX11_carryOut (242, [l0, some (.inr (.inr r)), l2], st, M) x = Rr C mX11_carryOut (243, [l0, some (.inr (.inr r)), l2], .inr (.inr r) :: st, M) x := g_pl (show decode cX11_carryOut 242 = .ok (.aload_n 1, 1) by decide +kernel) rfl
set_option maxRecDepth 20000 in
theorem kX11_carryOut_243 {C : QC} {x : QP} {M : QM} {st : List CV} {L : QL} {a : Nat} (hk : q_kd M a = (1, 3)) : Rr C mX11_carryOut (243, L, qr a :: st, M) x = Rr C mX11_carryOut (246, L, q_fv M a 2 :: st, M) x := g_getf (ow := 11) (e := (3, 2, RX3, 465, 0)) (show decode cX11_carryOut 243 = .ok (.getfield 46, 3) by decide +kernel) rfl hk
set_option maxRecDepth 20000 in
theorem kX11_carryOut_246 {C : QC} {x : QP} {M : QM} {st : List CV} {L : QL} {l0 l1 l2 : Option CV} {r : Option Nat} : Rr C mX11_carryOut (246, [l0, some (.inr (.inr r)), l2], st, M) x = Rr C mX11_carryOut (247, [l0, some (.inr (.inr r)), l2], .inr (.inr r) :: st, M) x := g_pl (show decode cX11_carryOut 246 = .ok (.aload_n 1, 1) by decide +kernel) rfl
set_option maxRecDepth 20000 in
theorem kX11_carryOut_247 {C : QC} {x : QP} {M : QM} {st : List CV} {L : QL} {a : Nat} (hk : q_kd M a = (1, 3)) : Rr C mX11_carryOut (247, L, qr a :: st, M) x = Rr C mX11_carryOut (250, L, q_fv M a 3 :: st, M) x := g_getf (ow := 11) (e := (3, 3, RX3, 468, 0)) (show decode cX11_carryOut 247 = .ok (.getfield 49, 3) by decide +kernel) rfl hk
set_option maxRecDepth 20000 in
theorem kX11_carryOut_250 {C : QC} {x : QP} {M : QM} {L : QL} {rest : List CV} {a0 a1 a2 a3 : CV} {v : CV} {M1 : QM} {b : Nat} (hb : q_kd M b = (1, 11)) (hC : C iX11_takeIn [qr b, a0, a1, a2, a3] M (some v) M1) (hw : (rest.map q_wd).sum ≤ 8) (k : Rr C mX11_carryOut (253, L, v :: rest, M1) x) : Rr C mX11_carryOut (250, L, a3 :: a2 :: a1 :: a0 :: qr b :: rest, M) x := g_cv (ow := 11) (e := (0, 77, 11, [732, 734, 10, 83])) (as := [a0, a1, a2, a3]) (show decode cX11_carryOut 250 = .ok (.invokevirtual 88, 3) by decide +kernel) rfl rfl rfl (Or.inl rfl) rfl hb hC hw k
set_option maxRecDepth 20000 in
theorem kX11_carryOut_253 {C : QC} {x : QP} {M : QM} {st : List CV} {L : QL} {z : Int} : Rr C mX11_carryOut (253, L, [qi z], M) x = x (some (qi z)) M := g_iret (show decode cX11_carryOut 253 = .ok (.ireturn, 1) by decide +kernel) rfl
set_option maxRecDepth 20000 in
theorem kX11_carryOut_254 {C : QC} {x : QP} {M : QM} {st : List CV} {L : QL} {l0 l1 l2 : Option CV} {r : Option Nat} : Rr C mX11_carryOut (254, [l0, l1, some (.inr (.inr r))], st, M) x = Rr C mX11_carryOut (255, [l0, l1, some (.inr (.inr r))], .inr (.inr r) :: st, M) x := g_pl (show decode cX11_carryOut 254 = .ok (.aload_n 2, 1) by decide +kernel) rfl
set_option maxRecDepth 20000 in
theorem kX11_carryOut_255 {C : QC} {x : QP} {M : QM} {st : List CV} {L : QL} {l0 l1 l2 : Option CV} {r : Option Nat} : Rr C mX11_carryOut (255, [l0, some (.inr (.inr r)), l2], st, M) x = Rr C mX11_carryOut (256, [l0, some (.inr (.inr r)), l2], .inr (.inr r) :: st, M) x := g_pl (show decode cX11_carryOut 255 = .ok (.aload_n 1, 1) by decide +kernel) rfl
set_option maxRecDepth 20000 in
theorem kX11_carryOut_256 {C : QC} {x : QP} {M : QM} {st : List CV} {L : QL} {a : Nat} (hk : q_kd M a = (1, 3)) : Rr C mX11_carryOut (256, L, qr a :: st, M) x = Rr C mX11_carryOut (259, L, q_fv M a 3 :: st, M) x := g_getf (ow := 11) (e := (3, 3, RX3, 468, 0)) (show decode cX11_carryOut 256 = .ok (.getfield 49, 3) by decide +kernel) rfl hk
set_option maxRecDepth 20000 in
theorem kX11_carryOut_259 {C : QC} {x : QP} {M : QM} {st : List CV} {L : QL} {z : Int} {a : Nat} (hk : q_kd M a = (1, 4)) : Rr C mX11_carryOut (259, L, qi z :: qr a :: st, M) x = Rr C mX11_carryOut (262, L, st, q_wr M a 2 (qi z)) x := g_putf (ow := 11) (ini := false) (e := (4, 2, RX4, 275, 0)) (r := (RX4, TX4, 9)) (t := tyX4) (show decode cX11_carryOut 259 = .ok (.putfield 92, 3) by decide +kernel) rfl rfl rfl rfl (by decide +kernel) hk
set_option maxRecDepth 20000 in
theorem kX11_carryOut_262 {C : QC} {x : QP} {M : QM} {st : List CV} {L : QL} {l0 l1 l2 : Option CV} {r : Option Nat} : Rr C mX11_carryOut (262, [l0, l1, some (.inr (.inr r))], st, M) x = Rr C mX11_carryOut (263, [l0, l1, some (.inr (.inr r))], .inr (.inr r) :: st, M) x := g_pl (show decode cX11_carryOut 262 = .ok (.aload_n 2, 1) by decide +kernel) rfl
set_option maxRecDepth 20000 in
theorem kX11_carryOut_263 {C : QC} {x : QP} {M : QM} {st : List CV} {L : QL} {l0 l1 l2 : Option CV} {r : Option Nat} : Rr C mX11_carryOut (263, [l0, some (.inr (.inr r)), l2], st, M) x = Rr C mX11_carryOut (264, [l0, some (.inr (.inr r)), l2], .inr (.inr r) :: st, M) x := g_pl (show decode cX11_carryOut 263 = .ok (.aload_n 1, 1) by decide +kernel) rfl
set_option maxRecDepth 20000 in
theorem kX11_carryOut_264 {C : QC} {x : QP} {M : QM} {st : List CV} {L : QL} {a : Nat} (hk : q_kd M a = (1, 3)) : Rr C mX11_carryOut (264, L, qr a :: st, M) x = Rr C mX11_carryOut (267, L, q_fv M a 3 :: st, M) x := g_getf (ow := 11) (e := (3, 3, RX3, 468, 0)) (show decode cX11_carryOut 264 = .ok (.getfield 49, 3) by decide +kernel) rfl hk
set_option maxRecDepth 20000 in
theorem kX11_carryOut_267 {C : QC} {x : QP} {M : QM} {st : List CV} {L : QL} : Rr C mX11_carryOut (267, L, st, M) x = Rr C mX11_carryOut (268, L, qi 4 :: st, M) x := g_pl (show decode cX11_carryOut 267 = .ok (.iconst 4, 1) by decide +kernel) rfl
set_option maxRecDepth 20000 in
theorem kX11_carryOut_268 {C : QC} {x : QP} {M : QM} {st : List CV} {L : QL} : Rr C mX11_carryOut (268, L, st, M) x = Rr C mX11_carryOut (270, L, qi (-5) :: st, M) x := g_pl (show decode cX11_carryOut 268 = .ok (.bipush (-5), 2) by decide +kernel) rfl
set_option maxRecDepth 20000 in
theorem kX11_carryOut_270 {C : QC} {x : QP} {M : QM} {L : QL} {rest : List CV} {a0 a1 a2 : CV} {M1 : QM} {b : Nat} (hb : q_kd M b = (1, 4)) (hC : C iX4_remember [qr b, a0, a1, a2] M none M1) (hw : (rest.map q_wd).sum ≤ 8) (k : Rr C mX11_carryOut (273, L, rest, M1) x) : Rr C mX11_carryOut (270, L, a2 :: a1 :: a0 :: qr b :: rest, M) x := g_cv (ow := 11) (e := (0, 71, 4, [707, 708, 709, 85])) (as := [a0, a1, a2]) (show decode cX11_carryOut 270 = .ok (.invokevirtual 97, 3) by decide +kernel) rfl rfl rfl (Or.inl rfl) rfl hb hC hw k
set_option maxRecDepth 20000 in
theorem kX11_carryOut_273 {C : QC} {x : QP} {M : QM} {st : List CV} {L : QL} {l0 l1 l2 : Option CV} {r : Option Nat} : Rr C mX11_carryOut (273, [l0, some (.inr (.inr r)), l2], st, M) x = Rr C mX11_carryOut (274, [l0, some (.inr (.inr r)), l2], .inr (.inr r) :: st, M) x := g_pl (show decode cX11_carryOut 273 = .ok (.aload_n 1, 1) by decide +kernel) rfl
set_option maxRecDepth 20000 in
theorem kX11_carryOut_274 {C : QC} {x : QP} {M : QM} {st : List CV} {L : QL} {a : Nat} (hk : q_kd M a = (1, 3)) : Rr C mX11_carryOut (274, L, qr a :: st, M) x = Rr C mX11_carryOut (277, L, q_fv M a 3 :: st, M) x := g_getf (ow := 11) (e := (3, 3, RX3, 468, 0)) (show decode cX11_carryOut 274 = .ok (.getfield 49, 3) by decide +kernel) rfl hk
set_option maxRecDepth 20000 in
theorem kX11_carryOut_277 {C : QC} {x : QP} {M : QM} {st : List CV} {L : QL} {l0 l1 l2 : Option CV} {r : Option Nat} : Rr C mX11_carryOut (277, [l0, l1, some (.inr (.inr r))], st, M) x = Rr C mX11_carryOut (278, [l0, l1, some (.inr (.inr r))], .inr (.inr r) :: st, M) x := g_pl (show decode cX11_carryOut 277 = .ok (.aload_n 2, 1) by decide +kernel) rfl
set_option maxRecDepth 20000 in
theorem kX11_carryOut_278 {C : QC} {x : QP} {M : QM} {st : List CV} {L : QL} {a : Nat} (hk : q_kd M a = (1, 4)) : Rr C mX11_carryOut (278, L, qr a :: st, M) x = Rr C mX11_carryOut (281, L, q_fv M a 1 :: st, M) x := g_getf (ow := 11) (e := (4, 1, RX4, 272, 0)) (show decode cX11_carryOut 278 = .ok (.getfield 101, 3) by decide +kernel) rfl hk
set_option maxRecDepth 20000 in
theorem kX11_carryOut_281 {C : QC} {x : QP} {M : QM} {st : List CV} {L : QL} {a b : Int} : Rr C mX11_carryOut (281, L, qi b :: qi a :: st, M) x = Rr C mX11_carryOut (282, L, qi (a - b) :: st, M) x := g_pl (show decode cX11_carryOut 281 = .ok (.isub, 1) by decide +kernel) rfl
set_option maxRecDepth 20000 in
theorem kX11_carryOut_282 {C : QC} {x : QP} {M : QM} {st : List CV} {L : QL} {z : Int} : Rr C mX11_carryOut (282, L, [qi z], M) x = x (some (qi z)) M := g_iret (show decode cX11_carryOut 282 = .ok (.ireturn, 1) by decide +kernel) rfl
set_option maxRecDepth 20000 in
theorem eX11_carryOut {d : Nat} {M : QM} {x : QP} {a : Nat} {v0 : Option Nat} : q_T (d + 1) iX11_carryOut [qr a, .inr (.inr v0)] M x = Rr (q_C d) mX11_carryOut (0, [some (qr a), some (.inr (.inr v0)), none], [], M) x := g_entryT (e := _) rfl (Nat.le_of_ble_eq_true rfl) rfl rfl
def mX11_settle : QI := (11, cX11_settle, false, some .int)
set_option maxRecDepth 20000 in
theorem kX11_settle_0 {C : QC} {x : QP} {M : QM} {st : List CV} {L : QL} {l0 l1 l2 l3 l4 l5 l6 : Option CV} {r : Option Nat} : Rr C mX11_settle (0, [some (.inr (.inr r)), l1, l2, l3, l4, l5, l6], st, M) x = Rr C mX11_settle (1, [some (.inr (.inr r)), l1, l2, l3, l4, l5, l6], .inr (.inr r) :: st, M) x := g_pl (show decode cX11_settle 0 = .ok (.aload_n 0, 1) by decide +kernel) rfl
set_option maxRecDepth 20000 in
theorem kX11_settle_1 {C : QC} {x : QP} {M : QM} {L : QL} {rest : List CV} {v : CV} {M1 : QM} {b : Nat} (hb : q_kd M b = (1, 11)) (hC : C iX11_isFull [qr b] M (some v) M1) (hw : (rest.map q_wd).sum ≤ 8) (k : Rr C mX11_settle (4, L, v :: rest, M1) x) : Rr C mX11_settle (1, L, qr b :: rest, M) x := g_cv (ow := 11) (e := (0, 28, 11, [632, 497, 498, 83])) (as := []) (show decode cX11_settle 1 = .ok (.invokevirtual 104, 3) by decide +kernel) rfl rfl rfl (Or.inl rfl) rfl hb hC hw k
set_option maxRecDepth 20000 in
theorem kX11_settle_4 {C : QC} {x : QP} {M : QM} {st : List CV} {L : QL} {a : Int} (ha1 : -2147483648 ≤ a) (ha2 : a < 2147483648) : Rr C mX11_settle (4, L, qi a :: st, M) x = (if a = 0 then Rr C mX11_settle (10, L, st, M) x else Rr C mX11_settle (7, L, st, M) x) := (g_if (show decode cX11_settle 4 = .ok (.ifCond .eq 6, 3) by decide +kernel) rfl ha1 ha2).trans (g_ite c_eq)
set_option maxRecDepth 20000 in
theorem kX11_settle_7 {C : QC} {x : QP} {M : QM} {st : List CV} {L : QL} : Rr C mX11_settle (7, L, st, M) x = Rr C mX11_settle (9, L, qi (-3) :: st, M) x := g_pl (show decode cX11_settle 7 = .ok (.bipush (-3), 2) by decide +kernel) rfl
set_option maxRecDepth 20000 in
theorem kX11_settle_9 {C : QC} {x : QP} {M : QM} {st : List CV} {L : QL} {z : Int} : Rr C mX11_settle (9, L, [qi z], M) x = x (some (qi z)) M := g_iret (show decode cX11_settle 9 = .ok (.ireturn, 1) by decide +kernel) rfl
set_option maxRecDepth 20000 in
theorem kX11_settle_10 {C : QC} {x : QP} {M : QM} {st : List CV} {L : QL} {l0 l1 l2 l3 l4 l5 l6 : Option CV} {r : Option Nat} : Rr C mX11_settle (10, [some (.inr (.inr r)), l1, l2, l3, l4, l5, l6], st, M) x = Rr C mX11_settle (11, [some (.inr (.inr r)), l1, l2, l3, l4, l5, l6], .inr (.inr r) :: st, M) x := g_pl (show decode cX11_settle 10 = .ok (.aload_n 0, 1) by decide +kernel) rfl
set_option maxRecDepth 20000 in
theorem kX11_settle_11 {C : QC} {x : QP} {M : QM} {st : List CV} {L : QL} {a : Nat} (hk : q_kd M a = (1, 11)) : Rr C mX11_settle (11, L, qr a :: st, M) x = Rr C mX11_settle (14, L, q_fv M a 3 :: st, M) x := g_getf (ow := 11) (e := (11, 3, RX11, 320, 0)) (show decode cX11_settle 11 = .ok (.getfield 27, 3) by decide +kernel) rfl hk
set_option maxRecDepth 20000 in
theorem kX11_settle_14 {C : QC} {x : QP} {M : QM} {st : List CV} {L : QL} {l0 l1 l2 l3 l4 l5 l6 : Option CV} {r : Option Nat} : Rr C mX11_settle (14, [some (.inr (.inr r)), l1, l2, l3, l4, l5, l6], st, M) x = Rr C mX11_settle (15, [some (.inr (.inr r)), l1, l2, l3, l4, l5, l6], .inr (.inr r) :: st, M) x := g_pl (show decode cX11_settle 14 = .ok (.aload_n 0, 1) by decide +kernel) rfl
set_option maxRecDepth 20000 in
theorem kX11_settle_15 {C : QC} {x : QP} {M : QM} {st : List CV} {L : QL} {a : Nat} (hk : q_kd M a = (1, 11)) : Rr C mX11_settle (15, L, qr a :: st, M) x = Rr C mX11_settle (18, L, q_fv M a 4 :: st, M) x := g_getf (ow := 11) (e := (11, 4, RX11, 321, 0)) (show decode cX11_settle 15 = .ok (.getfield 31, 3) by decide +kernel) rfl hk
set_option maxRecDepth 20000 in
theorem kX11_settle_18 {C : QC} {x : QP} {M : QM} {st : List CV} {L : QL} {a : Nat} {j : Int} (hk : (q_kd M a).1 = 5 ∨ (q_kd M a).1 = 6) (h0 : 0 ≤ j) (h1 : j < ((q_kd M a).2 : Int)) : Rr C mX11_settle (18, L, qi j :: qr a :: st, M) x = Rr C mX11_settle (19, L, q_fv M a j.toNat :: st, M) x := g_aald (show decode cX11_settle 18 = .ok (.aaload, 1) by decide +kernel) hk h0 h1
set_option maxRecDepth 20000 in
theorem kX11_settle_19 {C : QC} {x : QP} {M : QM} {st : List CV} {L : QL} {l0 l1 l2 l3 l4 l5 l6 : Option CV} {z : Option Nat} : Rr C mX11_settle (19, [l0, l1, l2, l3, l4, l5, l6], .inr (.inr z) :: st, M) x = Rr C mX11_settle (21, [l0, l1, l2, l3, l4, q_cut l5, some (.inr (.inr z))], st, M) x := g_pl (show decode cX11_settle 19 = .ok (.astore 6, 2) by decide +kernel) rfl
set_option maxRecDepth 20000 in
theorem kX11_settle_21 {C : QC} {x : QP} {M : QM} {st : List CV} {L : QL} {l0 l1 l2 l3 l4 l5 l6 : Option CV} {r : Option Nat} : Rr C mX11_settle (21, [l0, l1, l2, l3, l4, l5, some (.inr (.inr r))], st, M) x = Rr C mX11_settle (23, [l0, l1, l2, l3, l4, l5, some (.inr (.inr r))], .inr (.inr r) :: st, M) x := g_pl (show decode cX11_settle 21 = .ok (.aload 6, 2) by decide +kernel) rfl
set_option maxRecDepth 20000 in
theorem kX11_settle_23r {C : QC} {x : QP} {M : QM} {st : List CV} {L : QL} {a : Nat} : Rr C mX11_settle (23, L, qr a :: st, M) x = Rr C mX11_settle (29, L, st, M) x := g_pl (show decode cX11_settle 23 = .ok (.ifnonnull 6, 3) by decide +kernel) rfl
set_option maxRecDepth 20000 in
theorem kX11_settle_23n {C : QC} {x : QP} {M : QM} {st : List CV} {L : QL} : Rr C mX11_settle (23, L, qn :: st, M) x = Rr C mX11_settle (26, L, st, M) x := g_pl (show decode cX11_settle 23 = .ok (.ifnonnull 6, 3) by decide +kernel) rfl
set_option maxRecDepth 20000 in
theorem kX11_settle_26 {C : QC} {x : QP} {M : QM} {st : List CV} {L : QL} : Rr C mX11_settle (26, L, st, M) x = Rr C mX11_settle (28, L, qi (-3) :: st, M) x := g_pl (show decode cX11_settle 26 = .ok (.bipush (-3), 2) by decide +kernel) rfl
set_option maxRecDepth 20000 in
theorem kX11_settle_28 {C : QC} {x : QP} {M : QM} {st : List CV} {L : QL} {z : Int} : Rr C mX11_settle (28, L, [qi z], M) x = x (some (qi z)) M := g_iret (show decode cX11_settle 28 = .ok (.ireturn, 1) by decide +kernel) rfl
set_option maxRecDepth 20000 in
theorem kX11_settle_29 {C : QC} {x : QP} {M : QM} {st : List CV} {L : QL} {l0 l1 l2 l3 l4 l5 l6 : Option CV} {r : Option Nat} : Rr C mX11_settle (29, [l0, l1, l2, l3, l4, l5, some (.inr (.inr r))], st, M) x = Rr C mX11_settle (31, [l0, l1, l2, l3, l4, l5, some (.inr (.inr r))], .inr (.inr r) :: st, M) x := g_pl (show decode cX11_settle 29 = .ok (.aload 6, 2) by decide +kernel) rfl
set_option maxRecDepth 20000 in
theorem kX11_settle_31 {C : QC} {x : QP} {M : QM} {st : List CV} {L : QL} {l0 l1 l2 l3 l4 l5 l6 : Option CV} {z : Int} : Rr C mX11_settle (31, [l0, some (qi z), l2, l3, l4, l5, l6], st, M) x = Rr C mX11_settle (32, [l0, some (qi z), l2, l3, l4, l5, l6], qi z :: st, M) x := g_pl (show decode cX11_settle 31 = .ok (.iload_n 1, 1) by decide +kernel) rfl
set_option maxRecDepth 20000 in
theorem kX11_settle_32 {C : QC} {x : QP} {M : QM} {st : List CV} {L : QL} {l0 l1 l2 l3 l4 l5 l6 : Option CV} {z : Int} : Rr C mX11_settle (32, [l0, l1, some (qi z), l3, l4, l5, l6], st, M) x = Rr C mX11_settle (33, [l0, l1, some (qi z), l3, l4, l5, l6], qi z :: st, M) x := g_pl (show decode cX11_settle 32 = .ok (.iload_n 2, 1) by decide +kernel) rfl
set_option maxRecDepth 20000 in
theorem kX11_settle_33 {C : QC} {x : QP} {M : QM} {st : List CV} {L : QL} {l0 l1 l2 l3 l4 l5 l6 : Option CV} {z : Int} : Rr C mX11_settle (33, [l0, l1, l2, some (qi z), l4, l5, l6], st, M) x = Rr C mX11_settle (34, [l0, l1, l2, some (qi z), l4, l5, l6], qi z :: st, M) x := g_pl (show decode cX11_settle 33 = .ok (.iload_n 3, 1) by decide +kernel) rfl
set_option maxRecDepth 20000 in
theorem kX11_settle_34 {C : QC} {x : QP} {M : QM} {st : List CV} {L : QL} {l0 l1 l2 l3 l4 l5 l6 : Option CV} {z : Int} : Rr C mX11_settle (34, [l0, l1, l2, l3, some (ql z), l5, l6], st, M) x = Rr C mX11_settle (36, [l0, l1, l2, l3, some (ql z), l5, l6], ql z :: st, M) x := g_pl (show decode cX11_settle 34 = .ok (.lload 4, 2) by decide +kernel) rfl
set_option maxRecDepth 20000 in
theorem kX11_settle_36 {C : QC} {x : QP} {M : QM} {L : QL} {rest : List CV} {a0 a1 a2 a3 : CV} {M1 : QM} {b : Nat} (hb : q_kd M b = (1, 4)) (hC : C iX4_begin [qr b, a0, a1, a2, a3] M none M1) (hw : (rest.map q_wd).sum ≤ 8) (k : Rr C mX11_settle (39, L, rest, M1) x) : Rr C mX11_settle (36, L, a3 :: a2 :: a1 :: a0 :: qr b :: rest, M) x := g_cv (ow := 11) (e := (0, 55, 4, [633, 634, 635, 85])) (as := [a0, a1, a2, a3]) (show decode cX11_settle 36 = .ok (.invokevirtual 108, 3) by decide +kernel) rfl rfl rfl (Or.inl rfl) rfl hb hC hw k
set_option maxRecDepth 20000 in
theorem kX11_settle_39 {C : QC} {x : QP} {M : QM} {st : List CV} {L : QL} {l0 l1 l2 l3 l4 l5 l6 : Option CV} {r : Option Nat} : Rr C mX11_settle (39, [some (.inr (.inr r)), l1, l2, l3, l4, l5, l6], st, M) x = Rr C mX11_settle (40, [some (.inr (.inr r)), l1, l2, l3, l4, l5, l6], .inr (.inr r) :: st, M) x := g_pl (show decode cX11_settle 39 = .ok (.aload_n 0, 1) by decide +kernel) rfl
set_option maxRecDepth 20000 in
theorem kX11_settle_40i {C : QC} {x : QP} {M : QM} {st : List CV} {L : QL} {a : Int} : Rr C mX11_settle (40, L, qi a :: st, M) x = Rr C mX11_settle (41, L, qi a :: qi a :: st, M) x := g_pl (show decode cX11_settle 40 = .ok (.dup, 1) by decide +kernel) rfl
set_option maxRecDepth 20000 in
theorem kX11_settle_40r {C : QC} {x : QP} {M : QM} {st : List CV} {L : QL} {a : Option Nat} : Rr C mX11_settle (40, L, .inr (.inr a) :: st, M) x = Rr C mX11_settle (41, L, .inr (.inr a) :: .inr (.inr a) :: st, M) x := g_pl (show decode cX11_settle 40 = .ok (.dup, 1) by decide +kernel) rfl
set_option maxRecDepth 20000 in
theorem kX11_settle_41 {C : QC} {x : QP} {M : QM} {st : List CV} {L : QL} {a : Nat} (hk : q_kd M a = (1, 11)) : Rr C mX11_settle (41, L, qr a :: st, M) x = Rr C mX11_settle (44, L, q_fv M a 4 :: st, M) x := g_getf (ow := 11) (e := (11, 4, RX11, 321, 0)) (show decode cX11_settle 41 = .ok (.getfield 31, 3) by decide +kernel) rfl hk
set_option maxRecDepth 20000 in
theorem kX11_settle_44 {C : QC} {x : QP} {M : QM} {st : List CV} {L : QL} : Rr C mX11_settle (44, L, st, M) x = Rr C mX11_settle (45, L, qi 1 :: st, M) x := g_pl (show decode cX11_settle 44 = .ok (.iconst 1, 1) by decide +kernel) rfl
set_option maxRecDepth 20000 in
theorem kX11_settle_45 {C : QC} {x : QP} {M : QM} {st : List CV} {L : QL} {a b : Int} : Rr C mX11_settle (45, L, qi b :: qi a :: st, M) x = Rr C mX11_settle (46, L, qi (a + b) :: st, M) x := g_pl (show decode cX11_settle 45 = .ok (.iadd, 1) by decide +kernel) rfl
set_option maxRecDepth 20000 in
theorem kX11_settle_46 {C : QC} {x : QP} {M : QM} {st : List CV} {L : QL} {z : Int} {a : Nat} (hk : q_kd M a = (1, 11)) : Rr C mX11_settle (46, L, qi z :: qr a :: st, M) x = Rr C mX11_settle (49, L, st, q_wr M a 4 (qi z)) x := g_putf (ow := 11) (ini := false) (e := (11, 4, RX11, 321, 0)) (r := (RX11, TX11, 5)) (t := tyX11) (show decode cX11_settle 46 = .ok (.putfield 31, 3) by decide +kernel) rfl rfl rfl rfl (by decide +kernel) hk
set_option maxRecDepth 20000 in
theorem kX11_settle_49 {C : QC} {x : QP} {M : QM} {st : List CV} {L : QL} {l0 l1 l2 l3 l4 l5 l6 : Option CV} {r : Option Nat} : Rr C mX11_settle (49, [some (.inr (.inr r)), l1, l2, l3, l4, l5, l6], st, M) x = Rr C mX11_settle (50, [some (.inr (.inr r)), l1, l2, l3, l4, l5, l6], .inr (.inr r) :: st, M) x := g_pl (show decode cX11_settle 49 = .ok (.aload_n 0, 1) by decide +kernel) rfl
set_option maxRecDepth 20000 in
theorem kX11_settle_50 {C : QC} {x : QP} {M : QM} {st : List CV} {L : QL} {a : Nat} (hk : q_kd M a = (1, 11)) : Rr C mX11_settle (50, L, qr a :: st, M) x = Rr C mX11_settle (53, L, q_fv M a 4 :: st, M) x := g_getf (ow := 11) (e := (11, 4, RX11, 321, 0)) (show decode cX11_settle 50 = .ok (.getfield 31, 3) by decide +kernel) rfl hk
set_option maxRecDepth 20000 in
theorem kX11_settle_53 {C : QC} {x : QP} {M : QM} {st : List CV} {L : QL} : Rr C mX11_settle (53, L, st, M) x = Rr C mX11_settle (54, L, qi 1 :: st, M) x := g_pl (show decode cX11_settle 53 = .ok (.iconst 1, 1) by decide +kernel) rfl
set_option maxRecDepth 20000 in
theorem kX11_settle_54 {C : QC} {x : QP} {M : QM} {st : List CV} {L : QL} {a b : Int} : Rr C mX11_settle (54, L, qi b :: qi a :: st, M) x = Rr C mX11_settle (55, L, qi (a - b) :: st, M) x := g_pl (show decode cX11_settle 54 = .ok (.isub, 1) by decide +kernel) rfl
set_option maxRecDepth 20000 in
theorem kX11_settle_55 {C : QC} {x : QP} {M : QM} {st : List CV} {L : QL} {z : Int} : Rr C mX11_settle (55, L, [qi z], M) x = x (some (qi z)) M := g_iret (show decode cX11_settle 55 = .ok (.ireturn, 1) by decide +kernel) rfl
set_option maxRecDepth 20000 in
theorem eX11_settle {d : Nat} {M : QM} {x : QP} {a : Nat} {v0 : Int} {v1 : Int} {v2 : Int} {v3 : Int} : q_T (d + 1) iX11_settle [qr a, qi v0, qi v1, qi v2, ql v3] M x = Rr (q_C d) mX11_settle (0, [some (qr a), some (qi v0), some (qi v1), some (qi v2), some (ql v3), none, none], [], M) x := g_entryT (e := _) rfl (Nat.le_of_ble_eq_true rfl) rfl rfl
def mX11_giveName : QI := (11, cX11_giveName, false, some .int)
set_option maxRecDepth 20000 in
theorem kX11_giveName_0 {C : QC} {x : QP} {M : QM} {st : List CV} {L : QL} {l0 l1 l2 l3 l4 : Option CV} {r : Option Nat} : Rr C mX11_giveName (0, [some (.inr (.inr r)), l1, l2, l3, l4], st, M) x = Rr C mX11_giveName (1, [some (.inr (.inr r)), l1, l2, l3, l4], .inr (.inr r) :: st, M) x := g_pl (show decode cX11_giveName 0 = .ok (.aload_n 0, 1) by decide +kernel) rfl
set_option maxRecDepth 20000 in
theorem kX11_giveName_1 {C : QC} {x : QP} {M : QM} {st : List CV} {L : QL} {a : Nat} (hk : q_kd M a = (1, 4)) : Rr C mX11_giveName (1, L, qr a :: st, M) x = Rr C mX11_giveName (4, L, q_fv M a 6 :: st, M) x := g_getf (ow := 11) (e := (4, 6, RX4, 286, 0)) (show decode cX11_giveName 1 = .ok (.getfield 112, 3) by decide +kernel) rfl hk
set_option maxRecDepth 20000 in
theorem kX11_giveName_4 {C : QC} {x : QP} {M : QM} {st : List CV} {L : QL} {l0 l1 l2 l3 l4 : Option CV} {z : Int} : Rr C mX11_giveName (4, [l0, some (qi z), l2, l3, l4], st, M) x = Rr C mX11_giveName (5, [l0, some (qi z), l2, l3, l4], qi z :: st, M) x := g_pl (show decode cX11_giveName 4 = .ok (.iload_n 1, 1) by decide +kernel) rfl
set_option maxRecDepth 20000 in
theorem kX11_giveName_5 {C : QC} {x : QP} {M : QM} {L : QL} {rest : List CV} {a0 : CV} {v : CV} {M1 : QM} {b : Nat} (hb : q_kd M b = (1, 2)) (hC : C iX2_at [qr b, a0] M (some v) M1) (hw : (rest.map q_wd).sum ≤ 8) (k : Rr C mX11_giveName (8, L, v :: rest, M1) x) : Rr C mX11_giveName (5, L, a0 :: qr b :: rest, M) x := g_cv (ow := 11) (e := (0, 66, 2, [683, 684, 685, 86])) (as := [a0]) (show decode cX11_giveName 5 = .ok (.invokevirtual 116, 3) by decide +kernel) rfl rfl rfl (Or.inl rfl) rfl hb hC hw k
set_option maxRecDepth 20000 in
theorem kX11_giveName_8 {C : QC} {x : QP} {M : QM} {L : QL} {rest : List CV} {a0 : CV} {v : CV} {M1 : QM} (hC : C iX10_lengthOf [a0] M (some v) M1) (hw : (rest.map q_wd).sum ≤ 8) (k : Rr C mX11_giveName (11, L, v :: rest, M1) x) : Rr C mX11_giveName (8, L, a0 :: rest, M) x := g_cs (ow := 11) (e := (1, 67, 0, [687, 688, 95])) (as := [a0]) (show decode cX11_giveName 8 = .ok (.invokestatic 122, 3) by decide +kernel) rfl rfl rfl rfl (Or.inl rfl) rfl hC hw k
set_option maxRecDepth 20000 in
theorem kX11_giveName_11 {C : QC} {x : QP} {M : QM} {st : List CV} {L : QL} {l0 l1 l2 l3 l4 : Option CV} {z : Int} : Rr C mX11_giveName (11, [l0, l1, l2, l3, l4], qi z :: st, M) x = Rr C mX11_giveName (13, [l0, l1, l2, q_cut l3, some (qi z)], st, M) x := g_pl (show decode cX11_giveName 11 = .ok (.istore 4, 2) by decide +kernel) rfl
set_option maxRecDepth 20000 in
theorem kX11_giveName_13 {C : QC} {x : QP} {M : QM} {st : List CV} {L : QL} {l0 l1 l2 l3 l4 : Option CV} {r : Option Nat} : Rr C mX11_giveName (13, [some (.inr (.inr r)), l1, l2, l3, l4], st, M) x = Rr C mX11_giveName (14, [some (.inr (.inr r)), l1, l2, l3, l4], .inr (.inr r) :: st, M) x := g_pl (show decode cX11_giveName 13 = .ok (.aload_n 0, 1) by decide +kernel) rfl
set_option maxRecDepth 20000 in
theorem kX11_giveName_14 {C : QC} {x : QP} {M : QM} {st : List CV} {L : QL} {a : Nat} (hk : q_kd M a = (1, 4)) : Rr C mX11_giveName (14, L, qr a :: st, M) x = Rr C mX11_giveName (17, L, q_fv M a 6 :: st, M) x := g_getf (ow := 11) (e := (4, 6, RX4, 286, 0)) (show decode cX11_giveName 14 = .ok (.getfield 112, 3) by decide +kernel) rfl hk
set_option maxRecDepth 20000 in
theorem kX11_giveName_17 {C : QC} {x : QP} {M : QM} {st : List CV} {L : QL} {l0 l1 l2 l3 l4 : Option CV} {z : Int} : Rr C mX11_giveName (17, [l0, some (qi z), l2, l3, l4], st, M) x = Rr C mX11_giveName (18, [l0, some (qi z), l2, l3, l4], qi z :: st, M) x := g_pl (show decode cX11_giveName 17 = .ok (.iload_n 1, 1) by decide +kernel) rfl
set_option maxRecDepth 20000 in
theorem kX11_giveName_18 {C : QC} {x : QP} {M : QM} {st : List CV} {L : QL} {l0 l1 l2 l3 l4 : Option CV} {z : Int} : Rr C mX11_giveName (18, [l0, l1, some (ql z), l3, l4], st, M) x = Rr C mX11_giveName (19, [l0, l1, some (ql z), l3, l4], ql z :: st, M) x := g_pl (show decode cX11_giveName 18 = .ok (.lload_n 2, 1) by decide +kernel) rfl
set_option maxRecDepth 20000 in
theorem kX11_giveName_19 {C : QC} {x : QP} {M : QM} {L : QL} {rest : List CV} {a0 a1 : CV} {M1 : QM} {b : Nat} (hb : q_kd M b = (1, 2)) (hC : C iX2_append [qr b, a0, a1] M none M1) (hw : (rest.map q_wd).sum ≤ 8) (k : Rr C mX11_giveName (22, L, rest, M1) x) : Rr C mX11_giveName (19, L, a1 :: a0 :: qr b :: rest, M) x := g_cv (ow := 11) (e := (0, 69, 2, [694, 695, 696, 86])) (as := [a0, a1]) (show decode cX11_giveName 19 = .ok (.invokevirtual 128, 3) by decide +kernel) rfl rfl rfl (Or.inl rfl) rfl hb hC hw k
set_option maxRecDepth 20000 in
theorem kX11_giveName_22 {C : QC} {x : QP} {M : QM} {st : List CV} {L : QL} {l0 l1 l2 l3 l4 : Option CV} {r : Option Nat} : Rr C mX11_giveName (22, [some (.inr (.inr r)), l1, l2, l3, l4], st, M) x = Rr C mX11_giveName (23, [some (.inr (.inr r)), l1, l2, l3, l4], .inr (.inr r) :: st, M) x := g_pl (show decode cX11_giveName 22 = .ok (.aload_n 0, 1) by decide +kernel) rfl
set_option maxRecDepth 20000 in
theorem kX11_giveName_23 {C : QC} {x : QP} {M : QM} {st : List CV} {L : QL} {l0 l1 l2 l3 l4 : Option CV} {z : Int} : Rr C mX11_giveName (23, [l0, some (qi z), l2, l3, l4], st, M) x = Rr C mX11_giveName (24, [l0, some (qi z), l2, l3, l4], qi z :: st, M) x := g_pl (show decode cX11_giveName 23 = .ok (.iload_n 1, 1) by decide +kernel) rfl
set_option maxRecDepth 20000 in
theorem kX11_giveName_24 {C : QC} {x : QP} {M : QM} {st : List CV} {L : QL} : Rr C mX11_giveName (24, L, st, M) x = Rr C mX11_giveName (25, L, qi 1 :: st, M) x := g_pl (show decode cX11_giveName 24 = .ok (.iconst 1, 1) by decide +kernel) rfl
set_option maxRecDepth 20000 in
theorem kX11_giveName_25 {C : QC} {x : QP} {M : QM} {st : List CV} {L : QL} {l0 l1 l2 l3 l4 : Option CV} {z : Int} : Rr C mX11_giveName (25, [l0, l1, some (ql z), l3, l4], st, M) x = Rr C mX11_giveName (26, [l0, l1, some (ql z), l3, l4], ql z :: st, M) x := g_pl (show decode cX11_giveName 25 = .ok (.lload_n 2, 1) by decide +kernel) rfl
set_option maxRecDepth 20000 in
theorem kX11_giveName_26 {C : QC} {x : QP} {M : QM} {L : QL} {rest : List CV} {a0 : CV} {v : CV} {M1 : QM} (hC : C iX10_lengthOf [a0] M (some v) M1) (hw : (rest.map q_wd).sum ≤ 8) (k : Rr C mX11_giveName (29, L, v :: rest, M1) x) : Rr C mX11_giveName (26, L, a0 :: rest, M) x := g_cs (ow := 11) (e := (1, 67, 0, [687, 688, 95])) (as := [a0]) (show decode cX11_giveName 26 = .ok (.invokestatic 122, 3) by decide +kernel) rfl rfl rfl rfl (Or.inl rfl) rfl hC hw k
set_option maxRecDepth 20000 in
theorem kX11_giveName_29 {C : QC} {x : QP} {M : QM} {L : QL} {rest : List CV} {a0 a1 a2 : CV} {M1 : QM} {b : Nat} (hb : q_kd M b = (1, 4)) (hC : C iX4_remember [qr b, a0, a1, a2] M none M1) (hw : (rest.map q_wd).sum ≤ 8) (k : Rr C mX11_giveName (32, L, rest, M1) x) : Rr C mX11_giveName (29, L, a2 :: a1 :: a0 :: qr b :: rest, M) x := g_cv (ow := 11) (e := (0, 71, 4, [707, 708, 709, 85])) (as := [a0, a1, a2]) (show decode cX11_giveName 29 = .ok (.invokevirtual 97, 3) by decide +kernel) rfl rfl rfl (Or.inl rfl) rfl hb hC hw k
set_option maxRecDepth 20000 in
theorem kX11_giveName_32 {C : QC} {x : QP} {M : QM} {st : List CV} {L : QL} {l0 l1 l2 l3 l4 : Option CV} {z : Int} : Rr C mX11_giveName (32, [l0, l1, l2, l3, some (qi z)], st, M) x = Rr C mX11_giveName (34, [l0, l1, l2, l3, some (qi z)], qi z :: st, M) x := g_pl (show decode cX11_giveName 32 = .ok (.iload 4, 2) by decide +kernel) rfl
set_option maxRecDepth 20000 in
theorem kX11_giveName_34 {C : QC} {x : QP} {M : QM} {st : List CV} {L : QL} {z : Int} : Rr C mX11_giveName (34, L, [qi z], M) x = x (some (qi z)) M := g_iret (show decode cX11_giveName 34 = .ok (.ireturn, 1) by decide +kernel) rfl
set_option maxRecDepth 20000 in
theorem eX11_giveName {d : Nat} {M : QM} {x : QP} {v0 : Option Nat} {v1 : Int} {v2 : Int} : q_T (d + 1) iX11_giveName [.inr (.inr v0), qi v1, ql v2] M x = Rr (q_C d) mX11_giveName (0, [some (.inr (.inr v0)), some (qi v1), some (ql v2), none, none], [], M) x := g_entryT (e := _) rfl (Nat.le_of_ble_eq_true rfl) rfl rfl
def mX11_giveParent : QI := (11, cX11_giveParent, false, some .int)
set_option maxRecDepth 20000 in
theorem kX11_giveParent_0 {C : QC} {x : QP} {M : QM} {st : List CV} {L : QL} {l0 l1 l2 l3 : Option CV} {r : Option Nat} : Rr C mX11_giveParent (0, [some (.inr (.inr r)), l1, l2, l3], st, M) x = Rr C mX11_giveParent (1, [some (.inr (.inr r)), l1, l2, l3], .inr (.inr r) :: st, M) x := g_pl (show decode cX11_giveParent 0 = .ok (.aload_n 0, 1) by decide +kernel) rfl
set_option maxRecDepth 20000 in
theorem kX11_giveParent_1 {C : QC} {x : QP} {M : QM} {st : List CV} {L : QL} {a : Nat} (hk : q_kd M a = (1, 4)) : Rr C mX11_giveParent (1, L, qr a :: st, M) x = Rr C mX11_giveParent (4, L, q_fv M a 7 :: st, M) x := g_getf (ow := 11) (e := (4, 7, RX4, 290, 0)) (show decode cX11_giveParent 1 = .ok (.getfield 132, 3) by decide +kernel) rfl hk
set_option maxRecDepth 20000 in
theorem kX11_giveParent_4 {C : QC} {x : QP} {M : QM} {st : List CV} {L : QL} {l0 l1 l2 l3 : Option CV} {z : Int} : Rr C mX11_giveParent (4, [l0, l1, some (qi z), l3], st, M) x = Rr C mX11_giveParent (5, [l0, l1, some (qi z), l3], qi z :: st, M) x := g_pl (show decode cX11_giveParent 4 = .ok (.iload_n 2, 1) by decide +kernel) rfl
set_option maxRecDepth 20000 in
theorem kX11_giveParent_5 {C : QC} {x : QP} {M : QM} {L : QL} {rest : List CV} {a0 : CV} {v : CV} {M1 : QM} {b : Nat} (hb : q_kd M b = (1, 9)) (hC : C iX9_at [qr b, a0] M (some v) M1) (hw : (rest.map q_wd).sum ≤ 8) (k : Rr C mX11_giveParent (8, L, v :: rest, M1) x) : Rr C mX11_giveParent (5, L, a0 :: qr b :: rest, M) x := g_cv (ow := 11) (e := (0, 36, 9, [718, 526, 527, 87])) (as := [a0]) (show decode cX11_giveParent 5 = .ok (.invokevirtual 136, 3) by decide +kernel) rfl rfl rfl (Or.inl rfl) rfl hb hC hw k
set_option maxRecDepth 20000 in
theorem kX11_giveParent_8 {C : QC} {x : QP} {M : QM} {st : List CV} {L : QL} {l0 l1 l2 l3 : Option CV} {z : Int} : Rr C mX11_giveParent (8, [l0, l1, l2, l3], qi z :: st, M) x = Rr C mX11_giveParent (9, [l0, l1, q_cut l2, some (qi z)], st, M) x := g_pl (show decode cX11_giveParent 8 = .ok (.istore_n 3, 1) by decide +kernel) rfl
set_option maxRecDepth 20000 in
theorem kX11_giveParent_9 {C : QC} {x : QP} {M : QM} {st : List CV} {L : QL} {l0 l1 l2 l3 : Option CV} {r : Option Nat} : Rr C mX11_giveParent (9, [some (.inr (.inr r)), l1, l2, l3], st, M) x = Rr C mX11_giveParent (10, [some (.inr (.inr r)), l1, l2, l3], .inr (.inr r) :: st, M) x := g_pl (show decode cX11_giveParent 9 = .ok (.aload_n 0, 1) by decide +kernel) rfl
set_option maxRecDepth 20000 in
theorem kX11_giveParent_10 {C : QC} {x : QP} {M : QM} {st : List CV} {L : QL} {a : Nat} (hk : q_kd M a = (1, 4)) : Rr C mX11_giveParent (10, L, qr a :: st, M) x = Rr C mX11_giveParent (13, L, q_fv M a 7 :: st, M) x := g_getf (ow := 11) (e := (4, 7, RX4, 290, 0)) (show decode cX11_giveParent 10 = .ok (.getfield 132, 3) by decide +kernel) rfl hk
set_option maxRecDepth 20000 in
theorem kX11_giveParent_13 {C : QC} {x : QP} {M : QM} {st : List CV} {L : QL} {l0 l1 l2 l3 : Option CV} {z : Int} : Rr C mX11_giveParent (13, [l0, l1, some (qi z), l3], st, M) x = Rr C mX11_giveParent (14, [l0, l1, some (qi z), l3], qi z :: st, M) x := g_pl (show decode cX11_giveParent 13 = .ok (.iload_n 2, 1) by decide +kernel) rfl
set_option maxRecDepth 20000 in
theorem kX11_giveParent_14 {C : QC} {x : QP} {M : QM} {st : List CV} {L : QL} {l0 l1 l2 l3 : Option CV} {z : Int} : Rr C mX11_giveParent (14, [l0, some (qi z), l2, l3], st, M) x = Rr C mX11_giveParent (15, [l0, some (qi z), l2, l3], qi z :: st, M) x := g_pl (show decode cX11_giveParent 14 = .ok (.iload_n 1, 1) by decide +kernel) rfl
set_option maxRecDepth 20000 in
theorem kX11_giveParent_15 {C : QC} {x : QP} {M : QM} {L : QL} {rest : List CV} {a0 a1 : CV} {M1 : QM} {b : Nat} (hb : q_kd M b = (1, 9)) (hC : C iX9_put [qr b, a0, a1] M none M1) (hw : (rest.map q_wd).sum ≤ 8) (k : Rr C mX11_giveParent (18, L, rest, M1) x) : Rr C mX11_giveParent (15, L, a1 :: a0 :: qr b :: rest, M) x := g_cv (ow := 11) (e := (0, 74, 9, [719, 720, 721, 87])) (as := [a0, a1]) (show decode cX11_giveParent 15 = .ok (.invokevirtual 140, 3) by decide +kernel) rfl rfl rfl (Or.inl rfl) rfl hb hC hw k
set_option maxRecDepth 20000 in
theorem kX11_giveParent_18 {C : QC} {x : QP} {M : QM} {st : List CV} {L : QL} {l0 l1 l2 l3 : Option CV} {r : Option Nat} : Rr C mX11_giveParent (18, [some (.inr (.inr r)), l1, l2, l3], st, M) x = Rr C mX11_giveParent (19, [some (.inr (.inr r)), l1, l2, l3], .inr (.inr r) :: st, M) x := g_pl (show decode cX11_giveParent 18 = .ok (.aload_n 0, 1) by decide +kernel) rfl
set_option maxRecDepth 20000 in
theorem kX11_giveParent_19i {C : QC} {x : QP} {M : QM} {st : List CV} {L : QL} {a : Int} : Rr C mX11_giveParent (19, L, qi a :: st, M) x = Rr C mX11_giveParent (20, L, qi a :: qi a :: st, M) x := g_pl (show decode cX11_giveParent 19 = .ok (.dup, 1) by decide +kernel) rfl
set_option maxRecDepth 20000 in
theorem kX11_giveParent_19r {C : QC} {x : QP} {M : QM} {st : List CV} {L : QL} {a : Option Nat} : Rr C mX11_giveParent (19, L, .inr (.inr a) :: st, M) x = Rr C mX11_giveParent (20, L, .inr (.inr a) :: .inr (.inr a) :: st, M) x := g_pl (show decode cX11_giveParent 19 = .ok (.dup, 1) by decide +kernel) rfl
set_option maxRecDepth 20000 in
theorem kX11_giveParent_20 {C : QC} {x : QP} {M : QM} {st : List CV} {L : QL} {a : Nat} (hk : q_kd M a = (1, 4)) : Rr C mX11_giveParent (20, L, qr a :: st, M) x = Rr C mX11_giveParent (23, L, q_fv M a 5 :: st, M) x := g_getf (ow := 11) (e := (4, 5, RX4, 283, 0)) (show decode cX11_giveParent 20 = .ok (.getfield 144, 3) by decide +kernel) rfl hk
set_option maxRecDepth 20000 in
theorem kX11_giveParent_23 {C : QC} {x : QP} {M : QM} {st : List CV} {L : QL} : Rr C mX11_giveParent (23, L, st, M) x = Rr C mX11_giveParent (24, L, qi 1 :: st, M) x := g_pl (show decode cX11_giveParent 23 = .ok (.iconst 1, 1) by decide +kernel) rfl
set_option maxRecDepth 20000 in
theorem kX11_giveParent_24 {C : QC} {x : QP} {M : QM} {st : List CV} {L : QL} {a b : Int} : Rr C mX11_giveParent (24, L, qi b :: qi a :: st, M) x = Rr C mX11_giveParent (25, L, qi (a + b) :: st, M) x := g_pl (show decode cX11_giveParent 24 = .ok (.iadd, 1) by decide +kernel) rfl
set_option maxRecDepth 20000 in
theorem kX11_giveParent_25 {C : QC} {x : QP} {M : QM} {st : List CV} {L : QL} {z : Int} {a : Nat} (hk : q_kd M a = (1, 4)) : Rr C mX11_giveParent (25, L, qi z :: qr a :: st, M) x = Rr C mX11_giveParent (28, L, st, q_wr M a 5 (qi z)) x := g_putf (ow := 11) (ini := false) (e := (4, 5, RX4, 283, 0)) (r := (RX4, TX4, 9)) (t := tyX4) (show decode cX11_giveParent 25 = .ok (.putfield 144, 3) by decide +kernel) rfl rfl rfl rfl (by decide +kernel) hk
set_option maxRecDepth 20000 in
theorem kX11_giveParent_28 {C : QC} {x : QP} {M : QM} {st : List CV} {L : QL} {l0 l1 l2 l3 : Option CV} {r : Option Nat} : Rr C mX11_giveParent (28, [some (.inr (.inr r)), l1, l2, l3], st, M) x = Rr C mX11_giveParent (29, [some (.inr (.inr r)), l1, l2, l3], .inr (.inr r) :: st, M) x := g_pl (show decode cX11_giveParent 28 = .ok (.aload_n 0, 1) by decide +kernel) rfl
set_option maxRecDepth 20000 in
theorem kX11_giveParent_29 {C : QC} {x : QP} {M : QM} {st : List CV} {L : QL} {l0 l1 l2 l3 : Option CV} {z : Int} : Rr C mX11_giveParent (29, [l0, l1, some (qi z), l3], st, M) x = Rr C mX11_giveParent (30, [l0, l1, some (qi z), l3], qi z :: st, M) x := g_pl (show decode cX11_giveParent 29 = .ok (.iload_n 2, 1) by decide +kernel) rfl
set_option maxRecDepth 20000 in
theorem kX11_giveParent_30 {C : QC} {x : QP} {M : QM} {st : List CV} {L : QL} : Rr C mX11_giveParent (30, L, st, M) x = Rr C mX11_giveParent (31, L, qi 2 :: st, M) x := g_pl (show decode cX11_giveParent 30 = .ok (.iconst 2, 1) by decide +kernel) rfl
set_option maxRecDepth 20000 in
theorem kX11_giveParent_31 {C : QC} {x : QP} {M : QM} {st : List CV} {L : QL} {l0 l1 l2 l3 : Option CV} {z : Int} : Rr C mX11_giveParent (31, [l0, some (qi z), l2, l3], st, M) x = Rr C mX11_giveParent (32, [l0, some (qi z), l2, l3], qi z :: st, M) x := g_pl (show decode cX11_giveParent 31 = .ok (.iload_n 1, 1) by decide +kernel) rfl
set_option maxRecDepth 20000 in
theorem kX11_giveParent_32 {C : QC} {x : QP} {M : QM} {L : QL} {rest : List CV} {a0 a1 a2 : CV} {M1 : QM} {b : Nat} (hb : q_kd M b = (1, 4)) (hC : C iX4_remember [qr b, a0, a1, a2] M none M1) (hw : (rest.map q_wd).sum ≤ 8) (k : Rr C mX11_giveParent (35, L, rest, M1) x) : Rr C mX11_giveParent (32, L, a2 :: a1 :: a0 :: qr b :: rest, M) x := g_cv (ow := 11) (e := (0, 71, 4, [707, 708, 709, 85])) (as := [a0, a1, a2]) (show decode cX11_giveParent 32 = .ok (.invokevirtual 97, 3) by decide +kernel) rfl rfl rfl (Or.inl rfl) rfl hb hC hw k
set_option maxRecDepth 20000 in
theorem kX11_giveParent_35 {C : QC} {x : QP} {M : QM} {st : List CV} {L : QL} {l0 l1 l2 l3 : Option CV} {z : Int} : Rr C mX11_giveParent (35, [l0, l1, l2, some (qi z)], st, M) x = Rr C mX11_giveParent (36, [l0, l1, l2, some (qi z)], qi z :: st, M) x := g_pl (show decode cX11_giveParent 35 = .ok (.iload_n 3, 1) by decide +kernel) rfl
set_option maxRecDepth 20000 in
theorem kX11_giveParent_36 {C : QC} {x : QP} {M : QM} {st : List CV} {L : QL} {z : Int} : Rr C mX11_giveParent (36, L, [qi z], M) x = x (some (qi z)) M := g_iret (show decode cX11_giveParent 36 = .ok (.ireturn, 1) by decide +kernel) rfl
set_option maxRecDepth 20000 in
theorem eX11_giveParent {d : Nat} {M : QM} {x : QP} {v0 : Option Nat} {v1 : Int} {v2 : Int} : q_T (d + 1) iX11_giveParent [.inr (.inr v0), qi v1, qi v2] M x = Rr (q_C d) mX11_giveParent (0, [some (.inr (.inr v0)), some (qi v1), some (qi v2), none], [], M) x := g_entryT (e := _) rfl (Nat.le_of_ble_eq_true rfl) rfl rfl
def mX11_splitOff : QI := (11, cX11_splitOff, false, some .int)
set_option maxRecDepth 20000 in
theorem kX11_splitOff_0 {C : QC} {x : QP} {M : QM} {st : List CV} {L : QL} {l0 l1 l2 l3 l4 l5 l6 l7 : Option CV} {r : Option Nat} : Rr C mX11_splitOff (0, [some (.inr (.inr r)), l1, l2, l3, l4, l5, l6, l7], st, M) x = Rr C mX11_splitOff (1, [some (.inr (.inr r)), l1, l2, l3, l4, l5, l6, l7], .inr (.inr r) :: st, M) x := g_pl (show decode cX11_splitOff 0 = .ok (.aload_n 0, 1) by decide +kernel) rfl
set_option maxRecDepth 20000 in
theorem kX11_splitOff_1 {C : QC} {x : QP} {M : QM} {st : List CV} {L : QL} {l0 l1 l2 l3 l4 l5 l6 l7 : Option CV} {r : Option Nat} : Rr C mX11_splitOff (1, [l0, l1, some (.inr (.inr r)), l3, l4, l5, l6, l7], st, M) x = Rr C mX11_splitOff (2, [l0, l1, some (.inr (.inr r)), l3, l4, l5, l6, l7], .inr (.inr r) :: st, M) x := g_pl (show decode cX11_splitOff 1 = .ok (.aload_n 2, 1) by decide +kernel) rfl
set_option maxRecDepth 20000 in
theorem kX11_splitOff_2 {C : QC} {x : QP} {M : QM} {st : List CV} {L : QL} {a : Nat} (hk : q_kd M a = (1, 4)) : Rr C mX11_splitOff (2, L, qr a :: st, M) x = Rr C mX11_splitOff (5, L, q_fv M a 0 :: st, M) x := g_getf (ow := 11) (e := (4, 0, RX4, 269, 0)) (show decode cX11_splitOff 2 = .ok (.getfield 147, 3) by decide +kernel) rfl hk
set_option maxRecDepth 20000 in
theorem kX11_splitOff_5 {C : QC} {x : QP} {M : QM} {st : List CV} {L : QL} {l0 l1 l2 l3 l4 l5 l6 l7 : Option CV} {r : Option Nat} : Rr C mX11_splitOff (5, [l0, l1, some (.inr (.inr r)), l3, l4, l5, l6, l7], st, M) x = Rr C mX11_splitOff (6, [l0, l1, some (.inr (.inr r)), l3, l4, l5, l6, l7], .inr (.inr r) :: st, M) x := g_pl (show decode cX11_splitOff 5 = .ok (.aload_n 2, 1) by decide +kernel) rfl
set_option maxRecDepth 20000 in
theorem kX11_splitOff_6 {C : QC} {x : QP} {M : QM} {st : List CV} {L : QL} {a : Nat} (hk : q_kd M a = (1, 4)) : Rr C mX11_splitOff (6, L, qr a :: st, M) x = Rr C mX11_splitOff (9, L, q_fv M a 7 :: st, M) x := g_getf (ow := 11) (e := (4, 7, RX4, 290, 0)) (show decode cX11_splitOff 6 = .ok (.getfield 132, 3) by decide +kernel) rfl hk
set_option maxRecDepth 20000 in
theorem kX11_splitOff_9 {C : QC} {x : QP} {M : QM} {st : List CV} {L : QL} {l0 l1 l2 l3 l4 l5 l6 l7 : Option CV} {z : Int} : Rr C mX11_splitOff (9, [l0, l1, l2, some (qi z), l4, l5, l6, l7], st, M) x = Rr C mX11_splitOff (10, [l0, l1, l2, some (qi z), l4, l5, l6, l7], qi z :: st, M) x := g_pl (show decode cX11_splitOff 9 = .ok (.iload_n 3, 1) by decide +kernel) rfl
set_option maxRecDepth 20000 in
theorem kX11_splitOff_10 {C : QC} {x : QP} {M : QM} {L : QL} {rest : List CV} {a0 : CV} {v : CV} {M1 : QM} {b : Nat} (hb : q_kd M b = (1, 9)) (hC : C iX9_at [qr b, a0] M (some v) M1) (hw : (rest.map q_wd).sum ≤ 8) (k : Rr C mX11_splitOff (13, L, v :: rest, M1) x) : Rr C mX11_splitOff (10, L, a0 :: qr b :: rest, M) x := g_cv (ow := 11) (e := (0, 36, 9, [718, 526, 527, 87])) (as := [a0]) (show decode cX11_splitOff 10 = .ok (.invokevirtual 136, 3) by decide +kernel) rfl rfl rfl (Or.inl rfl) rfl hb hC hw k
set_option maxRecDepth 20000 in
theorem kX11_splitOff_13 {C : QC} {x : QP} {M : QM} {st : List CV} {L : QL} {l0 l1 l2 l3 l4 l5 l6 l7 : Option CV} {z : Int} : Rr C mX11_splitOff (13, [l0, l1, l2, some (qi z), l4, l5, l6, l7], st, M) x = Rr C mX11_splitOff (14, [l0, l1, l2, some (qi z), l4, l5, l6, l7], qi z :: st, M) x := g_pl (show decode cX11_splitOff 13 = .ok (.iload_n 3, 1) by decide +kernel) rfl
set_option maxRecDepth 20000 in
theorem kX11_splitOff_14 {C : QC} {x : QP} {M : QM} {st : List CV} {L : QL} {l0 l1 l2 l3 l4 l5 l6 l7 : Option CV} {z : Int} : Rr C mX11_splitOff (14, [l0, l1, l2, l3, some (ql z), l5, l6, l7], st, M) x = Rr C mX11_splitOff (16, [l0, l1, l2, l3, some (ql z), l5, l6, l7], ql z :: st, M) x := g_pl (show decode cX11_splitOff 14 = .ok (.lload 4, 2) by decide +kernel) rfl
set_option maxRecDepth 20000 in
theorem kX11_splitOff_16 {C : QC} {x : QP} {M : QM} {L : QL} {rest : List CV} {a0 a1 a2 a3 : CV} {v : CV} {M1 : QM} {b : Nat} (hb : q_kd M b = (1, 11)) (hC : C iX11_settle [qr b, a0, a1, a2, a3] M (some v) M1) (hw : (rest.map q_wd).sum ≤ 8) (k : Rr C mX11_splitOff (19, L, v :: rest, M1) x) : Rr C mX11_splitOff (16, L, a3 :: a2 :: a1 :: a0 :: qr b :: rest, M) x := g_cv (ow := 11) (e := (0, 54, 11, [628, 630, 6, 83])) (as := [a0, a1, a2, a3]) (show decode cX11_splitOff 16 = .ok (.invokevirtual 56, 3) by decide +kernel) rfl rfl rfl (Or.inl rfl) rfl hb hC hw k
set_option maxRecDepth 20000 in
theorem kX11_splitOff_19 {C : QC} {x : QP} {M : QM} {st : List CV} {L : QL} {l0 l1 l2 l3 l4 l5 l6 l7 : Option CV} {z : Int} : Rr C mX11_splitOff (19, [l0, l1, l2, l3, l4, l5, l6, l7], qi z :: st, M) x = Rr C mX11_splitOff (21, [l0, l1, l2, l3, l4, q_cut l5, some (qi z), l7], st, M) x := g_pl (show decode cX11_splitOff 19 = .ok (.istore 6, 2) by decide +kernel) rfl
set_option maxRecDepth 20000 in
theorem kX11_splitOff_21 {C : QC} {x : QP} {M : QM} {st : List CV} {L : QL} {l0 l1 l2 l3 l4 l5 l6 l7 : Option CV} {r : Option Nat} : Rr C mX11_splitOff (21, [some (.inr (.inr r)), l1, l2, l3, l4, l5, l6, l7], st, M) x = Rr C mX11_splitOff (22, [some (.inr (.inr r)), l1, l2, l3, l4, l5, l6, l7], .inr (.inr r) :: st, M) x := g_pl (show decode cX11_splitOff 21 = .ok (.aload_n 0, 1) by decide +kernel) rfl
set_option maxRecDepth 20000 in
theorem kX11_splitOff_22 {C : QC} {x : QP} {M : QM} {st : List CV} {L : QL} {l0 l1 l2 l3 l4 l5 l6 l7 : Option CV} {z : Int} : Rr C mX11_splitOff (22, [l0, l1, l2, l3, l4, l5, some (qi z), l7], st, M) x = Rr C mX11_splitOff (24, [l0, l1, l2, l3, l4, l5, some (qi z), l7], qi z :: st, M) x := g_pl (show decode cX11_splitOff 22 = .ok (.iload 6, 2) by decide +kernel) rfl
set_option maxRecDepth 20000 in
theorem kX11_splitOff_24 {C : QC} {x : QP} {M : QM} {L : QL} {rest : List CV} {a0 : CV} {v : CV} {M1 : QM} {b : Nat} (hb : q_kd M b = (1, 11)) (hC : C iX11_place [qr b, a0] M (some v) M1) (hw : (rest.map q_wd).sum ≤ 8) (k : Rr C mX11_splitOff (27, L, v :: rest, M1) x) : Rr C mX11_splitOff (24, L, a0 :: qr b :: rest, M) x := g_cv (ow := 11) (e := (0, 30, 11, [679, 504, 505, 83])) (as := [a0]) (show decode cX11_splitOff 24 = .ok (.invokevirtual 72, 3) by decide +kernel) rfl rfl rfl (Or.inl rfl) rfl hb hC hw k
set_option maxRecDepth 20000 in
theorem kX11_splitOff_27 {C : QC} {x : QP} {M : QM} {st : List CV} {L : QL} {l0 l1 l2 l3 l4 l5 l6 l7 : Option CV} {z : Option Nat} : Rr C mX11_splitOff (27, [l0, l1, l2, l3, l4, l5, l6, l7], .inr (.inr z) :: st, M) x = Rr C mX11_splitOff (29, [l0, l1, l2, l3, l4, l5, q_cut l6, some (.inr (.inr z))], st, M) x := g_pl (show decode cX11_splitOff 27 = .ok (.astore 7, 2) by decide +kernel) rfl
set_option maxRecDepth 20000 in
theorem kX11_splitOff_29 {C : QC} {x : QP} {M : QM} {st : List CV} {L : QL} {l0 l1 l2 l3 l4 l5 l6 l7 : Option CV} {r : Option Nat} : Rr C mX11_splitOff (29, [l0, l1, l2, l3, l4, l5, l6, some (.inr (.inr r))], st, M) x = Rr C mX11_splitOff (31, [l0, l1, l2, l3, l4, l5, l6, some (.inr (.inr r))], .inr (.inr r) :: st, M) x := g_pl (show decode cX11_splitOff 29 = .ok (.aload 7, 2) by decide +kernel) rfl
set_option maxRecDepth 20000 in
theorem kX11_splitOff_31r {C : QC} {x : QP} {M : QM} {st : List CV} {L : QL} {a : Nat} : Rr C mX11_splitOff (31, L, qr a :: st, M) x = Rr C mX11_splitOff (37, L, st, M) x := g_pl (show decode cX11_splitOff 31 = .ok (.ifnonnull 6, 3) by decide +kernel) rfl
set_option maxRecDepth 20000 in
theorem kX11_splitOff_31n {C : QC} {x : QP} {M : QM} {st : List CV} {L : QL} : Rr C mX11_splitOff (31, L, qn :: st, M) x = Rr C mX11_splitOff (34, L, st, M) x := g_pl (show decode cX11_splitOff 31 = .ok (.ifnonnull 6, 3) by decide +kernel) rfl
set_option maxRecDepth 20000 in
theorem kX11_splitOff_34 {C : QC} {x : QP} {M : QM} {st : List CV} {L : QL} : Rr C mX11_splitOff (34, L, st, M) x = Rr C mX11_splitOff (36, L, qi (-3) :: st, M) x := g_pl (show decode cX11_splitOff 34 = .ok (.bipush (-3), 2) by decide +kernel) rfl
set_option maxRecDepth 20000 in
theorem kX11_splitOff_36 {C : QC} {x : QP} {M : QM} {st : List CV} {L : QL} {z : Int} : Rr C mX11_splitOff (36, L, [qi z], M) x = x (some (qi z)) M := g_iret (show decode cX11_splitOff 36 = .ok (.ireturn, 1) by decide +kernel) rfl
set_option maxRecDepth 20000 in
theorem kX11_splitOff_37 {C : QC} {x : QP} {M : QM} {st : List CV} {L : QL} {l0 l1 l2 l3 l4 l5 l6 l7 : Option CV} {r : Option Nat} : Rr C mX11_splitOff (37, [l0, l1, l2, l3, l4, l5, l6, some (.inr (.inr r))], st, M) x = Rr C mX11_splitOff (39, [l0, l1, l2, l3, l4, l5, l6, some (.inr (.inr r))], .inr (.inr r) :: st, M) x := g_pl (show decode cX11_splitOff 37 = .ok (.aload 7, 2) by decide +kernel) rfl
set_option maxRecDepth 20000 in
theorem kX11_splitOff_39 {C : QC} {x : QP} {M : QM} {st : List CV} {L : QL} {l0 l1 l2 l3 l4 l5 l6 l7 : Option CV} {z : Int} : Rr C mX11_splitOff (39, [l0, l1, l2, some (qi z), l4, l5, l6, l7], st, M) x = Rr C mX11_splitOff (40, [l0, l1, l2, some (qi z), l4, l5, l6, l7], qi z :: st, M) x := g_pl (show decode cX11_splitOff 39 = .ok (.iload_n 3, 1) by decide +kernel) rfl
set_option maxRecDepth 20000 in
theorem kX11_splitOff_40 {C : QC} {x : QP} {M : QM} {st : List CV} {L : QL} : Rr C mX11_splitOff (40, L, st, M) x = Rr C mX11_splitOff (41, L, qi 5 :: st, M) x := g_pl (show decode cX11_splitOff 40 = .ok (.iconst 5, 1) by decide +kernel) rfl
set_option maxRecDepth 20000 in
theorem kX11_splitOff_41 {C : QC} {x : QP} {M : QM} {st : List CV} {L : QL} {l0 l1 l2 l3 l4 l5 l6 l7 : Option CV} {z : Int} : Rr C mX11_splitOff (41, [l0, some (qi z), l2, l3, l4, l5, l6, l7], st, M) x = Rr C mX11_splitOff (42, [l0, some (qi z), l2, l3, l4, l5, l6, l7], qi z :: st, M) x := g_pl (show decode cX11_splitOff 41 = .ok (.iload_n 1, 1) by decide +kernel) rfl
set_option maxRecDepth 20000 in
theorem kX11_splitOff_42 {C : QC} {x : QP} {M : QM} {L : QL} {rest : List CV} {a0 a1 a2 : CV} {M1 : QM} {b : Nat} (hb : q_kd M b = (1, 4)) (hC : C iX4_remember [qr b, a0, a1, a2] M none M1) (hw : (rest.map q_wd).sum ≤ 8) (k : Rr C mX11_splitOff (45, L, rest, M1) x) : Rr C mX11_splitOff (42, L, a2 :: a1 :: a0 :: qr b :: rest, M) x := g_cv (ow := 11) (e := (0, 71, 4, [707, 708, 709, 85])) (as := [a0, a1, a2]) (show decode cX11_splitOff 42 = .ok (.invokevirtual 97, 3) by decide +kernel) rfl rfl rfl (Or.inl rfl) rfl hb hC hw k
set_option maxRecDepth 20000 in
theorem kX11_splitOff_45 {C : QC} {x : QP} {M : QM} {st : List CV} {L : QL} {l0 l1 l2 l3 l4 l5 l6 l7 : Option CV} {r : Option Nat} : Rr C mX11_splitOff (45, [l0, l1, some (.inr (.inr r)), l3, l4, l5, l6, l7], st, M) x = Rr C mX11_splitOff (46, [l0, l1, some (.inr (.inr r)), l3, l4, l5, l6, l7], .inr (.inr r) :: st, M) x := g_pl (show decode cX11_splitOff 45 = .ok (.aload_n 2, 1) by decide +kernel) rfl
set_option maxRecDepth 20000 in
theorem kX11_splitOff_46 {C : QC} {x : QP} {M : QM} {st : List CV} {L : QL} {l0 l1 l2 l3 l4 l5 l6 l7 : Option CV} {z : Int} : Rr C mX11_splitOff (46, [l0, l1, l2, some (qi z), l4, l5, l6, l7], st, M) x = Rr C mX11_splitOff (47, [l0, l1, l2, some (qi z), l4, l5, l6, l7], qi z :: st, M) x := g_pl (show decode cX11_splitOff 46 = .ok (.iload_n 3, 1) by decide +kernel) rfl
set_option maxRecDepth 20000 in
theorem kX11_splitOff_47 {C : QC} {x : QP} {M : QM} {st : List CV} {L : QL} : Rr C mX11_splitOff (47, L, st, M) x = Rr C mX11_splitOff (49, L, qi 7 :: st, M) x := g_pl (show decode cX11_splitOff 47 = .ok (.bipush 7, 2) by decide +kernel) rfl
set_option maxRecDepth 20000 in
theorem kX11_splitOff_49 {C : QC} {x : QP} {M : QM} {st : List CV} {L : QL} {l0 l1 l2 l3 l4 l5 l6 l7 : Option CV} {z : Int} : Rr C mX11_splitOff (49, [l0, l1, l2, l3, l4, l5, some (qi z), l7], st, M) x = Rr C mX11_splitOff (51, [l0, l1, l2, l3, l4, l5, some (qi z), l7], qi z :: st, M) x := g_pl (show decode cX11_splitOff 49 = .ok (.iload 6, 2) by decide +kernel) rfl
set_option maxRecDepth 20000 in
theorem kX11_splitOff_51 {C : QC} {x : QP} {M : QM} {L : QL} {rest : List CV} {a0 a1 a2 : CV} {M1 : QM} {b : Nat} (hb : q_kd M b = (1, 4)) (hC : C iX4_remember [qr b, a0, a1, a2] M none M1) (hw : (rest.map q_wd).sum ≤ 8) (k : Rr C mX11_splitOff (54, L, rest, M1) x) : Rr C mX11_splitOff (51, L, a2 :: a1 :: a0 :: qr b :: rest, M) x := g_cv (ow := 11) (e := (0, 71, 4, [707, 708, 709, 85])) (as := [a0, a1, a2]) (show decode cX11_splitOff 51 = .ok (.invokevirtual 97, 3) by decide +kernel) rfl rfl rfl (Or.inl rfl) rfl hb hC hw k
set_option maxRecDepth 20000 in
theorem kX11_splitOff_54 {C : QC} {x : QP} {M : QM} {st : List CV} {L : QL} {l0 l1 l2 l3 l4 l5 l6 l7 : Option CV} {r : Option Nat} : Rr C mX11_splitOff (54, [some (.inr (.inr r)), l1, l2, l3, l4, l5, l6, l7], st, M) x = Rr C mX11_splitOff (55, [some (.inr (.inr r)), l1, l2, l3, l4, l5, l6, l7], .inr (.inr r) :: st, M) x := g_pl (show decode cX11_splitOff 54 = .ok (.aload_n 0, 1) by decide +kernel) rfl
set_option maxRecDepth 20000 in
theorem kX11_splitOff_55i {C : QC} {x : QP} {M : QM} {st : List CV} {L : QL} {a : Int} : Rr C mX11_splitOff (55, L, qi a :: st, M) x = Rr C mX11_splitOff (56, L, qi a :: qi a :: st, M) x := g_pl (show decode cX11_splitOff 55 = .ok (.dup, 1) by decide +kernel) rfl
set_option maxRecDepth 20000 in
theorem kX11_splitOff_55r {C : QC} {x : QP} {M : QM} {st : List CV} {L : QL} {a : Option Nat} : Rr C mX11_splitOff (55, L, .inr (.inr a) :: st, M) x = Rr C mX11_splitOff (56, L, .inr (.inr a) :: .inr (.inr a) :: st, M) x := g_pl (show decode cX11_splitOff 55 = .ok (.dup, 1) by decide +kernel) rfl
set_option maxRecDepth 20000 in
theorem kX11_splitOff_56 {C : QC} {x : QP} {M : QM} {st : List CV} {L : QL} {a : Nat} (hk : q_kd M a = (1, 11)) : Rr C mX11_splitOff (56, L, qr a :: st, M) x = Rr C mX11_splitOff (59, L, q_fv M a 2 :: st, M) x := g_getf (ow := 11) (e := (11, 2, RX11, 318, 0)) (show decode cX11_splitOff 56 = .ok (.getfield 22, 3) by decide +kernel) rfl hk
set_option maxRecDepth 20000 in
theorem kX11_splitOff_59 {C : QC} {x : QP} {M : QM} {st : List CV} {L : QL} : Rr C mX11_splitOff (59, L, st, M) x = Rr C mX11_splitOff (60, L, qi 1 :: st, M) x := g_pl (show decode cX11_splitOff 59 = .ok (.iconst 1, 1) by decide +kernel) rfl
set_option maxRecDepth 20000 in
theorem kX11_splitOff_60 {C : QC} {x : QP} {M : QM} {st : List CV} {L : QL} {a b : Int} : Rr C mX11_splitOff (60, L, qi b :: qi a :: st, M) x = Rr C mX11_splitOff (61, L, qi (a + b) :: st, M) x := g_pl (show decode cX11_splitOff 60 = .ok (.iadd, 1) by decide +kernel) rfl
set_option maxRecDepth 20000 in
theorem kX11_splitOff_61 {C : QC} {x : QP} {M : QM} {st : List CV} {L : QL} {z : Int} {a : Nat} (hk : q_kd M a = (1, 11)) : Rr C mX11_splitOff (61, L, qi z :: qr a :: st, M) x = Rr C mX11_splitOff (64, L, st, q_wr M a 2 (qi z)) x := g_putf (ow := 11) (ini := false) (e := (11, 2, RX11, 318, 0)) (r := (RX11, TX11, 5)) (t := tyX11) (show decode cX11_splitOff 61 = .ok (.putfield 22, 3) by decide +kernel) rfl rfl rfl rfl (by decide +kernel) hk
set_option maxRecDepth 20000 in
theorem kX11_splitOff_64 {C : QC} {x : QP} {M : QM} {st : List CV} {L : QL} {l0 l1 l2 l3 l4 l5 l6 l7 : Option CV} {z : Int} : Rr C mX11_splitOff (64, [l0, l1, l2, l3, l4, l5, some (qi z), l7], st, M) x = Rr C mX11_splitOff (66, [l0, l1, l2, l3, l4, l5, some (qi z), l7], qi z :: st, M) x := g_pl (show decode cX11_splitOff 64 = .ok (.iload 6, 2) by decide +kernel) rfl
set_option maxRecDepth 20000 in
theorem kX11_splitOff_66 {C : QC} {x : QP} {M : QM} {st : List CV} {L : QL} {z : Int} : Rr C mX11_splitOff (66, L, [qi z], M) x = x (some (qi z)) M := g_iret (show decode cX11_splitOff 66 = .ok (.ireturn, 1) by decide +kernel) rfl
set_option maxRecDepth 20000 in
theorem eX11_splitOff {d : Nat} {M : QM} {x : QP} {a : Nat} {v0 : Int} {v1 : Option Nat} {v2 : Int} {v3 : Int} : q_T (d + 1) iX11_splitOff [qr a, qi v0, .inr (.inr v1), qi v2, ql v3] M x = Rr (q_C d) mX11_splitOff (0, [some (qr a), some (qi v0), some (.inr (.inr v1)), some (qi v2), some (ql v3), none, none, none], [], M) x := g_entryT (e := _) rfl (Nat.le_of_ble_eq_true rfl) rfl rfl
def mX11_takeIn : QI := (11, cX11_takeIn, false, some .int)
set_option maxRecDepth 20000 in
theorem kX11_takeIn_0 {C : QC} {x : QP} {M : QM} {st : List CV} {L : QL} {l0 l1 l2 l3 l4 l5 l6 l7 l8 l9 : Option CV} {r : Option Nat} : Rr C mX11_takeIn (0, [some (.inr (.inr r)), l1, l2, l3, l4, l5, l6, l7, l8, l9], st, M) x = Rr C mX11_takeIn (1, [some (.inr (.inr r)), l1, l2, l3, l4, l5, l6, l7, l8, l9], .inr (.inr r) :: st, M) x := g_pl (show decode cX11_takeIn 0 = .ok (.aload_n 0, 1) by decide +kernel) rfl
set_option maxRecDepth 20000 in
theorem kX11_takeIn_1 {C : QC} {x : QP} {M : QM} {st : List CV} {L : QL} {l0 l1 l2 l3 l4 l5 l6 l7 l8 l9 : Option CV} {z : Int} : Rr C mX11_takeIn (1, [l0, l1, l2, some (qi z), l4, l5, l6, l7, l8, l9], st, M) x = Rr C mX11_takeIn (2, [l0, l1, l2, some (qi z), l4, l5, l6, l7, l8, l9], qi z :: st, M) x := g_pl (show decode cX11_takeIn 1 = .ok (.iload_n 3, 1) by decide +kernel) rfl
set_option maxRecDepth 20000 in
theorem kX11_takeIn_2 {C : QC} {x : QP} {M : QM} {L : QL} {rest : List CV} {a0 : CV} {v : CV} {M1 : QM} {b : Nat} (hb : q_kd M b = (1, 11)) (hC : C iX11_place [qr b, a0] M (some v) M1) (hw : (rest.map q_wd).sum ≤ 8) (k : Rr C mX11_takeIn (5, L, v :: rest, M1) x) : Rr C mX11_takeIn (2, L, a0 :: qr b :: rest, M) x := g_cv (ow := 11) (e := (0, 30, 11, [679, 504, 505, 83])) (as := [a0]) (show decode cX11_takeIn 2 = .ok (.invokevirtual 72, 3) by decide +kernel) rfl rfl rfl (Or.inl rfl) rfl hb hC hw k
set_option maxRecDepth 20000 in
theorem kX11_takeIn_5 {C : QC} {x : QP} {M : QM} {st : List CV} {L : QL} {l0 l1 l2 l3 l4 l5 l6 l7 l8 l9 : Option CV} {z : Option Nat} : Rr C mX11_takeIn (5, [l0, l1, l2, l3, l4, l5, l6, l7, l8, l9], .inr (.inr z) :: st, M) x = Rr C mX11_takeIn (7, [l0, l1, l2, l3, q_cut l4, some (.inr (.inr z)), l6, l7, l8, l9], st, M) x := g_pl (show decode cX11_takeIn 5 = .ok (.astore 5, 2) by decide +kernel) rfl
set_option maxRecDepth 20000 in
theorem kX11_takeIn_7 {C : QC} {x : QP} {M : QM} {st : List CV} {L : QL} {l0 l1 l2 l3 l4 l5 l6 l7 l8 l9 : Option CV} {r : Option Nat} : Rr C mX11_takeIn (7, [l0, l1, l2, l3, l4, some (.inr (.inr r)), l6, l7, l8, l9], st, M) x = Rr C mX11_takeIn (9, [l0, l1, l2, l3, l4, some (.inr (.inr r)), l6, l7, l8, l9], .inr (.inr r) :: st, M) x := g_pl (show decode cX11_takeIn 7 = .ok (.aload 5, 2) by decide +kernel) rfl
set_option maxRecDepth 20000 in
theorem kX11_takeIn_9r {C : QC} {x : QP} {M : QM} {st : List CV} {L : QL} {a : Nat} : Rr C mX11_takeIn (9, L, qr a :: st, M) x = Rr C mX11_takeIn (15, L, st, M) x := g_pl (show decode cX11_takeIn 9 = .ok (.ifnonnull 6, 3) by decide +kernel) rfl
set_option maxRecDepth 20000 in
theorem kX11_takeIn_9n {C : QC} {x : QP} {M : QM} {st : List CV} {L : QL} : Rr C mX11_takeIn (9, L, qn :: st, M) x = Rr C mX11_takeIn (12, L, st, M) x := g_pl (show decode cX11_takeIn 9 = .ok (.ifnonnull 6, 3) by decide +kernel) rfl
set_option maxRecDepth 20000 in
theorem kX11_takeIn_12 {C : QC} {x : QP} {M : QM} {st : List CV} {L : QL} : Rr C mX11_takeIn (12, L, st, M) x = Rr C mX11_takeIn (14, L, qi (-3) :: st, M) x := g_pl (show decode cX11_takeIn 12 = .ok (.bipush (-3), 2) by decide +kernel) rfl
set_option maxRecDepth 20000 in
theorem kX11_takeIn_14 {C : QC} {x : QP} {M : QM} {st : List CV} {L : QL} {z : Int} : Rr C mX11_takeIn (14, L, [qi z], M) x = x (some (qi z)) M := g_iret (show decode cX11_takeIn 14 = .ok (.ireturn, 1) by decide +kernel) rfl
set_option maxRecDepth 20000 in
theorem kX11_takeIn_15 {C : QC} {x : QP} {M : QM} {st : List CV} {L : QL} {l0 l1 l2 l3 l4 l5 l6 l7 l8 l9 : Option CV} {r : Option Nat} : Rr C mX11_takeIn (15, [l0, l1, some (.inr (.inr r)), l3, l4, l5, l6, l7, l8, l9], st, M) x = Rr C mX11_takeIn (16, [l0, l1, some (.inr (.inr r)), l3, l4, l5, l6, l7, l8, l9], .inr (.inr r) :: st, M) x := g_pl (show decode cX11_takeIn 15 = .ok (.aload_n 2, 1) by decide +kernel) rfl
set_option maxRecDepth 20000 in
theorem kX11_takeIn_16 {C : QC} {x : QP} {M : QM} {st : List CV} {L : QL} {l0 l1 l2 l3 l4 l5 l6 l7 l8 l9 : Option CV} {z : Int} : Rr C mX11_takeIn (16, [l0, l1, l2, l3, some (qi z), l5, l6, l7, l8, l9], st, M) x = Rr C mX11_takeIn (18, [l0, l1, l2, l3, some (qi z), l5, l6, l7, l8, l9], qi z :: st, M) x := g_pl (show decode cX11_takeIn 16 = .ok (.iload 4, 2) by decide +kernel) rfl
set_option maxRecDepth 20000 in
theorem kX11_takeIn_18 {C : QC} {x : QP} {M : QM} {st : List CV} {L : QL} {z : Int} {a : Nat} (hk : q_kd M a = (1, 4)) : Rr C mX11_takeIn (18, L, qi z :: qr a :: st, M) x = Rr C mX11_takeIn (21, L, st, q_wr M a 2 (qi z)) x := g_putf (ow := 11) (ini := false) (e := (4, 2, RX4, 275, 0)) (r := (RX4, TX4, 9)) (t := tyX4) (show decode cX11_takeIn 18 = .ok (.putfield 92, 3) by decide +kernel) rfl rfl rfl rfl (by decide +kernel) hk
set_option maxRecDepth 20000 in
theorem kX11_takeIn_21 {C : QC} {x : QP} {M : QM} {st : List CV} {L : QL} {l0 l1 l2 l3 l4 l5 l6 l7 l8 l9 : Option CV} {r : Option Nat} : Rr C mX11_takeIn (21, [l0, l1, some (.inr (.inr r)), l3, l4, l5, l6, l7, l8, l9], st, M) x = Rr C mX11_takeIn (22, [l0, l1, some (.inr (.inr r)), l3, l4, l5, l6, l7, l8, l9], .inr (.inr r) :: st, M) x := g_pl (show decode cX11_takeIn 21 = .ok (.aload_n 2, 1) by decide +kernel) rfl
set_option maxRecDepth 20000 in
theorem kX11_takeIn_22 {C : QC} {x : QP} {M : QM} {st : List CV} {L : QL} {l0 l1 l2 l3 l4 l5 l6 l7 l8 l9 : Option CV} {z : Int} : Rr C mX11_takeIn (22, [l0, l1, l2, some (qi z), l4, l5, l6, l7, l8, l9], st, M) x = Rr C mX11_takeIn (23, [l0, l1, l2, some (qi z), l4, l5, l6, l7, l8, l9], qi z :: st, M) x := g_pl (show decode cX11_takeIn 22 = .ok (.iload_n 3, 1) by decide +kernel) rfl
set_option maxRecDepth 20000 in
theorem kX11_takeIn_23 {C : QC} {x : QP} {M : QM} {st : List CV} {L : QL} {z : Int} {a : Nat} (hk : q_kd M a = (1, 4)) : Rr C mX11_takeIn (23, L, qi z :: qr a :: st, M) x = Rr C mX11_takeIn (26, L, st, q_wr M a 3 (qi z)) x := g_putf (ow := 11) (ini := false) (e := (4, 3, RX4, 278, 0)) (r := (RX4, TX4, 9)) (t := tyX4) (show decode cX11_takeIn 23 = .ok (.putfield 150, 3) by decide +kernel) rfl rfl rfl rfl (by decide +kernel) hk
set_option maxRecDepth 20000 in
theorem kX11_takeIn_26 {C : QC} {x : QP} {M : QM} {st : List CV} {L : QL} {l0 l1 l2 l3 l4 l5 l6 l7 l8 l9 : Option CV} {r : Option Nat} : Rr C mX11_takeIn (26, [l0, l1, some (.inr (.inr r)), l3, l4, l5, l6, l7, l8, l9], st, M) x = Rr C mX11_takeIn (27, [l0, l1, some (.inr (.inr r)), l3, l4, l5, l6, l7, l8, l9], .inr (.inr r) :: st, M) x := g_pl (show decode cX11_takeIn 26 = .ok (.aload_n 2, 1) by decide +kernel) rfl
set_option maxRecDepth 20000 in
theorem kX11_takeIn_27 {C : QC} {x : QP} {M : QM} {st : List CV} {L : QL} {l0 l1 l2 l3 l4 l5 l6 l7 l8 l9 : Option CV} {z : Int} : Rr C mX11_takeIn (27, [l0, l1, l2, l3, some (qi z), l5, l6, l7, l8, l9], st, M) x = Rr C mX11_takeIn (29, [l0, l1, l2, l3, some (qi z), l5, l6, l7, l8, l9], qi z :: st, M) x := g_pl (show decode cX11_takeIn 27 = .ok (.iload 4, 2) by decide +kernel) rfl
set_option maxRecDepth 20000 in
theorem kX11_takeIn_29 {C : QC} {x : QP} {M : QM} {st : List CV} {L : QL} : Rr C mX11_takeIn (29, L, st, M) x = Rr C mX11_takeIn (30, L, qi 3 :: st, M) x := g_pl (show decode cX11_takeIn 29 = .ok (.iconst 3, 1) by decide +kernel) rfl
set_option maxRecDepth 20000 in
theorem kX11_takeIn_30 {C : QC} {x : QP} {M : QM} {st : List CV} {L : QL} {l0 l1 l2 l3 l4 l5 l6 l7 l8 l9 : Option CV} {z : Int} : Rr C mX11_takeIn (30, [l0, l1, l2, some (qi z), l4, l5, l6, l7, l8, l9], st, M) x = Rr C mX11_takeIn (31, [l0, l1, l2, some (qi z), l4, l5, l6, l7, l8, l9], qi z :: st, M) x := g_pl (show decode cX11_takeIn 30 = .ok (.iload_n 3, 1) by decide +kernel) rfl
set_option maxRecDepth 20000 in
theorem kX11_takeIn_31 {C : QC} {x : QP} {M : QM} {L : QL} {rest : List CV} {a0 a1 a2 : CV} {M1 : QM} {b : Nat} (hb : q_kd M b = (1, 4)) (hC : C iX4_remember [qr b, a0, a1, a2] M none M1) (hw : (rest.map q_wd).sum ≤ 8) (k : Rr C mX11_takeIn (34, L, rest, M1) x) : Rr C mX11_takeIn (31, L, a2 :: a1 :: a0 :: qr b :: rest, M) x := g_cv (ow := 11) (e := (0, 71, 4, [707, 708, 709, 85])) (as := [a0, a1, a2]) (show decode cX11_takeIn 31 = .ok (.invokevirtual 97, 3) by decide +kernel) rfl rfl rfl (Or.inl rfl) rfl hb hC hw k
set_option maxRecDepth 20000 in
theorem kX11_takeIn_34 {C : QC} {x : QP} {M : QM} {st : List CV} {L : QL} {l0 l1 l2 l3 l4 l5 l6 l7 l8 l9 : Option CV} {r : Option Nat} : Rr C mX11_takeIn (34, [l0, l1, l2, l3, l4, some (.inr (.inr r)), l6, l7, l8, l9], st, M) x = Rr C mX11_takeIn (36, [l0, l1, l2, l3, l4, some (.inr (.inr r)), l6, l7, l8, l9], .inr (.inr r) :: st, M) x := g_pl (show decode cX11_takeIn 34 = .ok (.aload 5, 2) by decide +kernel) rfl
set_option maxRecDepth 20000 in
theorem kX11_takeIn_36 {C : QC} {x : QP} {M : QM} {st : List CV} {L : QL} {a : Nat} (hk : q_kd M a = (1, 4)) : Rr C mX11_takeIn (36, L, qr a :: st, M) x = Rr C mX11_takeIn (39, L, q_fv M a 8 :: st, M) x := g_getf (ow := 11) (e := (4, 8, RX4, 293, 0)) (show decode cX11_takeIn 36 = .ok (.getfield 153, 3) by decide +kernel) rfl hk
set_option maxRecDepth 20000 in
theorem kX11_takeIn_39 {C : QC} {x : QP} {M : QM} {st : List CV} {L : QL} {l0 l1 l2 l3 l4 l5 l6 l7 l8 l9 : Option CV} {z : Int} : Rr C mX11_takeIn (39, [l0, l1, l2, l3, some (qi z), l5, l6, l7, l8, l9], st, M) x = Rr C mX11_takeIn (41, [l0, l1, l2, l3, some (qi z), l5, l6, l7, l8, l9], qi z :: st, M) x := g_pl (show decode cX11_takeIn 39 = .ok (.iload 4, 2) by decide +kernel) rfl
set_option maxRecDepth 20000 in
theorem kX11_takeIn_41 {C : QC} {x : QP} {M : QM} {st : List CV} {L : QL} : Rr C mX11_takeIn (41, L, st, M) x = Rr C mX11_takeIn (43, L, qi 6 :: st, M) x := g_pl (show decode cX11_takeIn 41 = .ok (.bipush 6, 2) by decide +kernel) rfl
set_option maxRecDepth 20000 in
theorem kX11_takeIn_43 {C : QC} {x : QP} {M : QM} {st : List CV} {L : QL} {l0 l1 l2 l3 l4 l5 l6 l7 l8 l9 : Option CV} {z : Int} : Rr C mX11_takeIn (43, [l0, some (qi z), l2, l3, l4, l5, l6, l7, l8, l9], st, M) x = Rr C mX11_takeIn (44, [l0, some (qi z), l2, l3, l4, l5, l6, l7, l8, l9], qi z :: st, M) x := g_pl (show decode cX11_takeIn 43 = .ok (.iload_n 1, 1) by decide +kernel) rfl
set_option maxRecDepth 20000 in
theorem kX11_takeIn_44 {C : QC} {x : QP} {M : QM} {L : QL} {rest : List CV} {a0 a1 a2 : CV} {M1 : QM} {b : Nat} (hb : q_kd M b = (1, 1)) (hC : C iX1_append [qr b, a0, a1, a2] M none M1) (hw : (rest.map q_wd).sum ≤ 8) (k : Rr C mX11_takeIn (47, L, rest, M1) x) : Rr C mX11_takeIn (44, L, a2 :: a1 :: a0 :: qr b :: rest, M) x := g_cv (ow := 11) (e := (0, 72, 1, [736, 712, 713, 88])) (as := [a0, a1, a2]) (show decode cX11_takeIn 44 = .ok (.invokevirtual 157, 3) by decide +kernel) rfl rfl rfl (Or.inl rfl) rfl hb hC hw k
set_option maxRecDepth 20000 in
theorem kX11_takeIn_47 {C : QC} {x : QP} {M : QM} {st : List CV} {L : QL} {l0 l1 l2 l3 l4 l5 l6 l7 l8 l9 : Option CV} {r : Option Nat} : Rr C mX11_takeIn (47, [some (.inr (.inr r)), l1, l2, l3, l4, l5, l6, l7, l8, l9], st, M) x = Rr C mX11_takeIn (48, [some (.inr (.inr r)), l1, l2, l3, l4, l5, l6, l7, l8, l9], .inr (.inr r) :: st, M) x := g_pl (show decode cX11_takeIn 47 = .ok (.aload_n 0, 1) by decide +kernel) rfl
set_option maxRecDepth 20000 in
theorem kX11_takeIn_48i {C : QC} {x : QP} {M : QM} {st : List CV} {L : QL} {a : Int} : Rr C mX11_takeIn (48, L, qi a :: st, M) x = Rr C mX11_takeIn (49, L, qi a :: qi a :: st, M) x := g_pl (show decode cX11_takeIn 48 = .ok (.dup, 1) by decide +kernel) rfl
set_option maxRecDepth 20000 in
theorem kX11_takeIn_48r {C : QC} {x : QP} {M : QM} {st : List CV} {L : QL} {a : Option Nat} : Rr C mX11_takeIn (48, L, .inr (.inr a) :: st, M) x = Rr C mX11_takeIn (49, L, .inr (.inr a) :: .inr (.inr a) :: st, M) x := g_pl (show decode cX11_takeIn 48 = .ok (.dup, 1) by decide +kernel) rfl
set_option maxRecDepth 20000 in
theorem kX11_takeIn_49 {C : QC} {x : QP} {M : QM} {st : List CV} {L : QL} {a : Nat} (hk : q_kd M a = (1, 11)) : Rr C mX11_takeIn (49, L, qr a :: st, M) x = Rr C mX11_takeIn (52, L, q_fv M a 1 :: st, M) x := g_getf (ow := 11) (e := (11, 1, RX11, 316, 0)) (show decode cX11_takeIn 49 = .ok (.getfield 18, 3) by decide +kernel) rfl hk
set_option maxRecDepth 20000 in
theorem kX11_takeIn_52 {C : QC} {x : QP} {M : QM} {st : List CV} {L : QL} : Rr C mX11_takeIn (52, L, st, M) x = Rr C mX11_takeIn (53, L, qi 1 :: st, M) x := g_pl (show decode cX11_takeIn 52 = .ok (.iconst 1, 1) by decide +kernel) rfl
set_option maxRecDepth 20000 in
theorem kX11_takeIn_53 {C : QC} {x : QP} {M : QM} {st : List CV} {L : QL} {a b : Int} : Rr C mX11_takeIn (53, L, qi b :: qi a :: st, M) x = Rr C mX11_takeIn (54, L, qi (a + b) :: st, M) x := g_pl (show decode cX11_takeIn 53 = .ok (.iadd, 1) by decide +kernel) rfl
set_option maxRecDepth 20000 in
theorem kX11_takeIn_54 {C : QC} {x : QP} {M : QM} {st : List CV} {L : QL} {z : Int} {a : Nat} (hk : q_kd M a = (1, 11)) : Rr C mX11_takeIn (54, L, qi z :: qr a :: st, M) x = Rr C mX11_takeIn (57, L, st, q_wr M a 1 (qi z)) x := g_putf (ow := 11) (ini := false) (e := (11, 1, RX11, 316, 0)) (r := (RX11, TX11, 5)) (t := tyX11) (show decode cX11_takeIn 54 = .ok (.putfield 18, 3) by decide +kernel) rfl rfl rfl rfl (by decide +kernel) hk
set_option maxRecDepth 20000 in
theorem kX11_takeIn_57 {C : QC} {x : QP} {M : QM} {st : List CV} {L : QL} : Rr C mX11_takeIn (57, L, st, M) x = Rr C mX11_takeIn (58, L, qi 0 :: st, M) x := g_pl (show decode cX11_takeIn 57 = .ok (.iconst 0, 1) by decide +kernel) rfl
set_option maxRecDepth 20000 in
theorem kX11_takeIn_58 {C : QC} {x : QP} {M : QM} {st : List CV} {L : QL} {l0 l1 l2 l3 l4 l5 l6 l7 l8 l9 : Option CV} {z : Int} : Rr C mX11_takeIn (58, [l0, l1, l2, l3, l4, l5, l6, l7, l8, l9], qi z :: st, M) x = Rr C mX11_takeIn (60, [l0, l1, l2, l3, l4, q_cut l5, some (qi z), l7, l8, l9], st, M) x := g_pl (show decode cX11_takeIn 58 = .ok (.istore 6, 2) by decide +kernel) rfl
set_option maxRecDepth 20000 in
theorem kX11_takeIn_60 {C : QC} {x : QP} {M : QM} {st : List CV} {L : QL} : Rr C mX11_takeIn (60, L, st, M) x = Rr C mX11_takeIn (61, L, qi 0 :: st, M) x := g_pl (show decode cX11_takeIn 60 = .ok (.iconst 0, 1) by decide +kernel) rfl
set_option maxRecDepth 20000 in
theorem kX11_takeIn_61 {C : QC} {x : QP} {M : QM} {st : List CV} {L : QL} {l0 l1 l2 l3 l4 l5 l6 l7 l8 l9 : Option CV} {z : Int} : Rr C mX11_takeIn (61, [l0, l1, l2, l3, l4, l5, l6, l7, l8, l9], qi z :: st, M) x = Rr C mX11_takeIn (63, [l0, l1, l2, l3, l4, l5, q_cut l6, some (qi z), l8, l9], st, M) x := g_pl (show decode cX11_takeIn 61 = .ok (.istore 7, 2) by decide +kernel) rfl
set_option maxRecDepth 20000 in
theorem kX11_takeIn_63 {C : QC} {x : QP} {M : QM} {st : List CV} {L : QL} {l0 l1 l2 l3 l4 l5 l6 l7 l8 l9 : Option CV} {z : Int} : Rr C mX11_takeIn (63, [l0, l1, l2, l3, l4, l5, l6, some (qi z), l8, l9], st, M) x = Rr C mX11_takeIn (65, [l0, l1, l2, l3, l4, l5, l6, some (qi z), l8, l9], qi z :: st, M) x := g_pl (show decode cX11_takeIn 63 = .ok (.iload 7, 2) by decide +kernel) rfl
set_option maxRecDepth 20000 in
theorem kX11_takeIn_65 {C : QC} {x : QP} {M : QM} {st : List CV} {L : QL} {l0 l1 l2 l3 l4 l5 l6 l7 l8 l9 : Option CV} {r : Option Nat} : Rr C mX11_takeIn (65, [some (.inr (.inr r)), l1, l2, l3, l4, l5, l6, l7, l8, l9], st, M) x = Rr C mX11_takeIn (66, [some (.inr (.inr r)), l1, l2, l3, l4, l5, l6, l7, l8, l9], .inr (.inr r) :: st, M) x := g_pl (show decode cX11_takeIn 65 = .ok (.aload_n 0, 1) by decide +kernel) rfl
set_option maxRecDepth 20000 in
theorem kX11_takeIn_66 {C : QC} {x : QP} {M : QM} {st : List CV} {L : QL} {a : Nat} (hk : q_kd M a = (1, 11)) : Rr C mX11_takeIn (66, L, qr a :: st, M) x = Rr C mX11_takeIn (69, L, q_fv M a 4 :: st, M) x := g_getf (ow := 11) (e := (11, 4, RX11, 321, 0)) (show decode cX11_takeIn 66 = .ok (.getfield 31, 3) by decide +kernel) rfl hk
set_option maxRecDepth 20000 in
theorem kX11_takeIn_69 {C : QC} {x : QP} {M : QM} {st : List CV} {L : QL} {a b : Int} (ha1 : -2147483648 ≤ a) (ha2 : a < 2147483648) (hb1 : -2147483648 ≤ b) (hb2 : b < 2147483648) : Rr C mX11_takeIn (69, L, qi b :: qi a :: st, M) x = (if a < b then Rr C mX11_takeIn (72, L, st, M) x else Rr C mX11_takeIn (139, L, st, M) x) := (g_icmp (show decode cX11_takeIn 69 = .ok (.if_icmp .ge 70, 3) by decide +kernel) rfl ha1 ha2 hb1 hb2).trans (g_itn c_ge)
set_option maxRecDepth 20000 in
theorem kX11_takeIn_72 {C : QC} {x : QP} {M : QM} {st : List CV} {L : QL} {l0 l1 l2 l3 l4 l5 l6 l7 l8 l9 : Option CV} {r : Option Nat} : Rr C mX11_takeIn (72, [some (.inr (.inr r)), l1, l2, l3, l4, l5, l6, l7, l8, l9], st, M) x = Rr C mX11_takeIn (73, [some (.inr (.inr r)), l1, l2, l3, l4, l5, l6, l7, l8, l9], .inr (.inr r) :: st, M) x := g_pl (show decode cX11_takeIn 72 = .ok (.aload_n 0, 1) by decide +kernel) rfl
set_option maxRecDepth 20000 in
theorem kX11_takeIn_73 {C : QC} {x : QP} {M : QM} {st : List CV} {L : QL} {a : Nat} (hk : q_kd M a = (1, 11)) : Rr C mX11_takeIn (73, L, qr a :: st, M) x = Rr C mX11_takeIn (76, L, q_fv M a 3 :: st, M) x := g_getf (ow := 11) (e := (11, 3, RX11, 320, 0)) (show decode cX11_takeIn 73 = .ok (.getfield 27, 3) by decide +kernel) rfl hk
set_option maxRecDepth 20000 in
theorem kX11_takeIn_76 {C : QC} {x : QP} {M : QM} {st : List CV} {L : QL} {l0 l1 l2 l3 l4 l5 l6 l7 l8 l9 : Option CV} {z : Int} : Rr C mX11_takeIn (76, [l0, l1, l2, l3, l4, l5, l6, some (qi z), l8, l9], st, M) x = Rr C mX11_takeIn (78, [l0, l1, l2, l3, l4, l5, l6, some (qi z), l8, l9], qi z :: st, M) x := g_pl (show decode cX11_takeIn 76 = .ok (.iload 7, 2) by decide +kernel) rfl
set_option maxRecDepth 20000 in
theorem kX11_takeIn_78 {C : QC} {x : QP} {M : QM} {st : List CV} {L : QL} {a : Nat} {j : Int} (hk : (q_kd M a).1 = 5 ∨ (q_kd M a).1 = 6) (h0 : 0 ≤ j) (h1 : j < ((q_kd M a).2 : Int)) : Rr C mX11_takeIn (78, L, qi j :: qr a :: st, M) x = Rr C mX11_takeIn (79, L, q_fv M a j.toNat :: st, M) x := g_aald (show decode cX11_takeIn 78 = .ok (.aaload, 1) by decide +kernel) hk h0 h1
set_option maxRecDepth 20000 in
theorem kX11_takeIn_79 {C : QC} {x : QP} {M : QM} {st : List CV} {L : QL} {l0 l1 l2 l3 l4 l5 l6 l7 l8 l9 : Option CV} {z : Option Nat} : Rr C mX11_takeIn (79, [l0, l1, l2, l3, l4, l5, l6, l7, l8, l9], .inr (.inr z) :: st, M) x = Rr C mX11_takeIn (81, [l0, l1, l2, l3, l4, l5, l6, q_cut l7, some (.inr (.inr z)), l9], st, M) x := g_pl (show decode cX11_takeIn 79 = .ok (.astore 8, 2) by decide +kernel) rfl
set_option maxRecDepth 20000 in
theorem kX11_takeIn_81 {C : QC} {x : QP} {M : QM} {st : List CV} {L : QL} {l0 l1 l2 l3 l4 l5 l6 l7 l8 l9 : Option CV} {r : Option Nat} : Rr C mX11_takeIn (81, [l0, l1, l2, l3, l4, l5, l6, l7, some (.inr (.inr r)), l9], st, M) x = Rr C mX11_takeIn (83, [l0, l1, l2, l3, l4, l5, l6, l7, some (.inr (.inr r)), l9], .inr (.inr r) :: st, M) x := g_pl (show decode cX11_takeIn 81 = .ok (.aload 8, 2) by decide +kernel) rfl
set_option maxRecDepth 20000 in
theorem kX11_takeIn_83r {C : QC} {x : QP} {M : QM} {st : List CV} {L : QL} {a : Nat} : Rr C mX11_takeIn (83, L, qr a :: st, M) x = Rr C mX11_takeIn (90, L, st, M) x := g_pl (show decode cX11_takeIn 83 = .ok (.ifnonnull 7, 3) by decide +kernel) rfl
set_option maxRecDepth 20000 in
theorem kX11_takeIn_83n {C : QC} {x : QP} {M : QM} {st : List CV} {L : QL} : Rr C mX11_takeIn (83, L, qn :: st, M) x = Rr C mX11_takeIn (86, L, st, M) x := g_pl (show decode cX11_takeIn 83 = .ok (.ifnonnull 7, 3) by decide +kernel) rfl
set_option maxRecDepth 20000 in
theorem kX11_takeIn_86 {C : QC} {x : QP} {M : QM} {st : List CV} {L : QL} : Rr C mX11_takeIn (86, L, st, M) x = Rr C mX11_takeIn (87, L, qi (-1) :: st, M) x := g_pl (show decode cX11_takeIn 86 = .ok (.iconst (-1), 1) by decide +kernel) rfl
set_option maxRecDepth 20000 in
theorem kX11_takeIn_87 {C : QC} {x : QP} {M : QM} {st : List CV} {L : QL} : Rr C mX11_takeIn (87, L, st, M) x = Rr C mX11_takeIn (98, L, st, M) x := g_pl (show decode cX11_takeIn 87 = .ok (.goto 11, 3) by decide +kernel) rfl
set_option maxRecDepth 20000 in
theorem kX11_takeIn_90 {C : QC} {x : QP} {M : QM} {st : List CV} {L : QL} {l0 l1 l2 l3 l4 l5 l6 l7 l8 l9 : Option CV} {r : Option Nat} : Rr C mX11_takeIn (90, [l0, l1, l2, l3, l4, l5, l6, l7, some (.inr (.inr r)), l9], st, M) x = Rr C mX11_takeIn (92, [l0, l1, l2, l3, l4, l5, l6, l7, some (.inr (.inr r)), l9], .inr (.inr r) :: st, M) x := g_pl (show decode cX11_takeIn 90 = .ok (.aload 8, 2) by decide +kernel) rfl
set_option maxRecDepth 20000 in
theorem kX11_takeIn_92 {C : QC} {x : QP} {M : QM} {st : List CV} {L : QL} {l0 l1 l2 l3 l4 l5 l6 l7 l8 l9 : Option CV} {z : Int} : Rr C mX11_takeIn (92, [l0, some (qi z), l2, l3, l4, l5, l6, l7, l8, l9], st, M) x = Rr C mX11_takeIn (93, [l0, some (qi z), l2, l3, l4, l5, l6, l7, l8, l9], qi z :: st, M) x := g_pl (show decode cX11_takeIn 92 = .ok (.iload_n 1, 1) by decide +kernel) rfl
set_option maxRecDepth 20000 in
theorem kX11_takeIn_93 {C : QC} {x : QP} {M : QM} {st : List CV} {L : QL} {l0 l1 l2 l3 l4 l5 l6 l7 l8 l9 : Option CV} {z : Int} : Rr C mX11_takeIn (93, [l0, l1, l2, l3, some (qi z), l5, l6, l7, l8, l9], st, M) x = Rr C mX11_takeIn (95, [l0, l1, l2, l3, some (qi z), l5, l6, l7, l8, l9], qi z :: st, M) x := g_pl (show decode cX11_takeIn 93 = .ok (.iload 4, 2) by decide +kernel) rfl
set_option maxRecDepth 20000 in
theorem kX11_takeIn_95 {C : QC} {x : QP} {M : QM} {L : QL} {rest : List CV} {a0 a1 : CV} {v : CV} {M1 : QM} {b : Nat} (hb : q_kd M b = (1, 4)) (hC : C iX4_firstDayUnder [qr b, a0, a1] M (some v) M1) (hw : (rest.map q_wd).sum ≤ 8) (k : Rr C mX11_takeIn (98, L, v :: rest, M1) x) : Rr C mX11_takeIn (95, L, a1 :: a0 :: qr b :: rest, M) x := g_cv (ow := 11) (e := (0, 39, 4, [536, 537, 538, 85])) (as := [a0, a1]) (show decode cX11_takeIn 95 = .ok (.invokevirtual 159, 3) by decide +kernel) rfl rfl rfl (Or.inl rfl) rfl hb hC hw k
set_option maxRecDepth 20000 in
theorem kX11_takeIn_98 {C : QC} {x : QP} {M : QM} {st : List CV} {L : QL} {l0 l1 l2 l3 l4 l5 l6 l7 l8 l9 : Option CV} {z : Int} : Rr C mX11_takeIn (98, [l0, l1, l2, l3, l4, l5, l6, l7, l8, l9], qi z :: st, M) x = Rr C mX11_takeIn (100, [l0, l1, l2, l3, l4, l5, l6, l7, q_cut l8, some (qi z)], st, M) x := g_pl (show decode cX11_takeIn 98 = .ok (.istore 9, 2) by decide +kernel) rfl
set_option maxRecDepth 20000 in
theorem kX11_takeIn_100 {C : QC} {x : QP} {M : QM} {st : List CV} {L : QL} {l0 l1 l2 l3 l4 l5 l6 l7 l8 l9 : Option CV} {z : Int} : Rr C mX11_takeIn (100, [l0, l1, l2, l3, l4, l5, l6, l7, l8, some (qi z)], st, M) x = Rr C mX11_takeIn (102, [l0, l1, l2, l3, l4, l5, l6, l7, l8, some (qi z)], qi z :: st, M) x := g_pl (show decode cX11_takeIn 100 = .ok (.iload 9, 2) by decide +kernel) rfl
set_option maxRecDepth 20000 in
theorem kX11_takeIn_102 {C : QC} {x : QP} {M : QM} {st : List CV} {L : QL} {a : Int} (ha1 : -2147483648 ≤ a) (ha2 : a < 2147483648) : Rr C mX11_takeIn (102, L, qi a :: st, M) x = (if a < 0 then Rr C mX11_takeIn (133, L, st, M) x else Rr C mX11_takeIn (105, L, st, M) x) := (g_if (show decode cX11_takeIn 102 = .ok (.ifCond .lt 31, 3) by decide +kernel) rfl ha1 ha2).trans (g_ite c_lt)
set_option maxRecDepth 20000 in
theorem kX11_takeIn_105 {C : QC} {x : QP} {M : QM} {st : List CV} {L : QL} {l0 l1 l2 l3 l4 l5 l6 l7 l8 l9 : Option CV} {r : Option Nat} : Rr C mX11_takeIn (105, [l0, l1, l2, l3, l4, l5, l6, l7, some (.inr (.inr r)), l9], st, M) x = Rr C mX11_takeIn (107, [l0, l1, l2, l3, l4, l5, l6, l7, some (.inr (.inr r)), l9], .inr (.inr r) :: st, M) x := g_pl (show decode cX11_takeIn 105 = .ok (.aload 8, 2) by decide +kernel) rfl
set_option maxRecDepth 20000 in
theorem kX11_takeIn_107 {C : QC} {x : QP} {M : QM} {st : List CV} {L : QL} {a : Nat} (hk : q_kd M a = (1, 4)) : Rr C mX11_takeIn (107, L, qr a :: st, M) x = Rr C mX11_takeIn (110, L, q_fv M a 7 :: st, M) x := g_getf (ow := 11) (e := (4, 7, RX4, 290, 0)) (show decode cX11_takeIn 107 = .ok (.getfield 132, 3) by decide +kernel) rfl hk
set_option maxRecDepth 20000 in
theorem kX11_takeIn_110 {C : QC} {x : QP} {M : QM} {st : List CV} {L : QL} {l0 l1 l2 l3 l4 l5 l6 l7 l8 l9 : Option CV} {z : Int} : Rr C mX11_takeIn (110, [l0, l1, l2, l3, some (qi z), l5, l6, l7, l8, l9], st, M) x = Rr C mX11_takeIn (112, [l0, l1, l2, l3, some (qi z), l5, l6, l7, l8, l9], qi z :: st, M) x := g_pl (show decode cX11_takeIn 110 = .ok (.iload 4, 2) by decide +kernel) rfl
set_option maxRecDepth 20000 in
theorem kX11_takeIn_112 {C : QC} {x : QP} {M : QM} {st : List CV} {L : QL} {l0 l1 l2 l3 l4 l5 l6 l7 l8 l9 : Option CV} {z : Int} : Rr C mX11_takeIn (112, [l0, some (qi z), l2, l3, l4, l5, l6, l7, l8, l9], st, M) x = Rr C mX11_takeIn (113, [l0, some (qi z), l2, l3, l4, l5, l6, l7, l8, l9], qi z :: st, M) x := g_pl (show decode cX11_takeIn 112 = .ok (.iload_n 1, 1) by decide +kernel) rfl
set_option maxRecDepth 20000 in
theorem kX11_takeIn_113 {C : QC} {x : QP} {M : QM} {st : List CV} {L : QL} {l0 l1 l2 l3 l4 l5 l6 l7 l8 l9 : Option CV} {z : Int} : Rr C mX11_takeIn (113, [l0, l1, l2, some (qi z), l4, l5, l6, l7, l8, l9], st, M) x = Rr C mX11_takeIn (114, [l0, l1, l2, some (qi z), l4, l5, l6, l7, l8, l9], qi z :: st, M) x := g_pl (show decode cX11_takeIn 113 = .ok (.iload_n 3, 1) by decide +kernel) rfl
set_option maxRecDepth 20000 in
theorem kX11_takeIn_114 {C : QC} {x : QP} {M : QM} {L : QL} {rest : List CV} {a0 a1 a2 : CV} {M1 : QM} {b : Nat} (hb : q_kd M b = (1, 9)) (hC : C iX9_replace [qr b, a0, a1, a2] M none M1) (hw : (rest.map q_wd).sum ≤ 8) (k : Rr C mX11_takeIn (117, L, rest, M1) x) : Rr C mX11_takeIn (114, L, a2 :: a1 :: a0 :: qr b :: rest, M) x := g_cv (ow := 11) (e := (0, 78, 9, [737, 738, 739, 87])) (as := [a0, a1, a2]) (show decode cX11_takeIn 114 = .ok (.invokevirtual 162, 3) by decide +kernel) rfl rfl rfl (Or.inl rfl) rfl hb hC hw k
set_option maxRecDepth 20000 in
theorem kX11_takeIn_117 {C : QC} {x : QP} {M : QM} {st : List CV} {L : QL} {l0 l1 l2 l3 l4 l5 l6 l7 l8 l9 : Option CV} {r : Option Nat} : Rr C mX11_takeIn (117, [l0, l1, l2, l3, l4, l5, l6, l7, some (.inr (.inr r)), l9], st, M) x = Rr C mX11_takeIn (119, [l0, l1, l2, l3, l4, l5, l6, l7, some (.inr (.inr r)), l9], .inr (.inr r) :: st, M) x := g_pl (show decode cX11_takeIn 117 = .ok (.aload 8, 2) by decide +kernel) rfl
set_option maxRecDepth 20000 in
theorem kX11_takeIn_119 {C : QC} {x : QP} {M : QM} {st : List CV} {L : QL} {a : Nat} (hk : q_kd M a = (1, 4)) : Rr C mX11_takeIn (119, L, qr a :: st, M) x = Rr C mX11_takeIn (122, L, q_fv M a 8 :: st, M) x := g_getf (ow := 11) (e := (4, 8, RX4, 293, 0)) (show decode cX11_takeIn 119 = .ok (.getfield 153, 3) by decide +kernel) rfl hk
set_option maxRecDepth 20000 in
theorem kX11_takeIn_122 {C : QC} {x : QP} {M : QM} {st : List CV} {L : QL} {l0 l1 l2 l3 l4 l5 l6 l7 l8 l9 : Option CV} {z : Int} : Rr C mX11_takeIn (122, [l0, l1, l2, l3, l4, l5, l6, l7, l8, some (qi z)], st, M) x = Rr C mX11_takeIn (124, [l0, l1, l2, l3, l4, l5, l6, l7, l8, some (qi z)], qi z :: st, M) x := g_pl (show decode cX11_takeIn 122 = .ok (.iload 9, 2) by decide +kernel) rfl
set_option maxRecDepth 20000 in
theorem kX11_takeIn_124 {C : QC} {x : QP} {M : QM} {st : List CV} {L : QL} : Rr C mX11_takeIn (124, L, st, M) x = Rr C mX11_takeIn (126, L, qi 8 :: st, M) x := g_pl (show decode cX11_takeIn 124 = .ok (.bipush 8, 2) by decide +kernel) rfl
set_option maxRecDepth 20000 in
theorem kX11_takeIn_126 {C : QC} {x : QP} {M : QM} {st : List CV} {L : QL} {l0 l1 l2 l3 l4 l5 l6 l7 l8 l9 : Option CV} {z : Int} : Rr C mX11_takeIn (126, [l0, l1, l2, some (qi z), l4, l5, l6, l7, l8, l9], st, M) x = Rr C mX11_takeIn (127, [l0, l1, l2, some (qi z), l4, l5, l6, l7, l8, l9], qi z :: st, M) x := g_pl (show decode cX11_takeIn 126 = .ok (.iload_n 3, 1) by decide +kernel) rfl
set_option maxRecDepth 20000 in
theorem kX11_takeIn_127 {C : QC} {x : QP} {M : QM} {L : QL} {rest : List CV} {a0 a1 a2 : CV} {M1 : QM} {b : Nat} (hb : q_kd M b = (1, 1)) (hC : C iX1_append [qr b, a0, a1, a2] M none M1) (hw : (rest.map q_wd).sum ≤ 8) (k : Rr C mX11_takeIn (130, L, rest, M1) x) : Rr C mX11_takeIn (127, L, a2 :: a1 :: a0 :: qr b :: rest, M) x := g_cv (ow := 11) (e := (0, 72, 1, [736, 712, 713, 88])) (as := [a0, a1, a2]) (show decode cX11_takeIn 127 = .ok (.invokevirtual 157, 3) by decide +kernel) rfl rfl rfl (Or.inl rfl) rfl hb hC hw k
set_option maxRecDepth 20000 in
theorem kX11_takeIn_130 {C : QC} {x : QP} {M : QM} {st : List CV} {L : QL} {l0 l1 l2 l3 l4 l5 l6 l7 l8 l9 : Option CV} {z : Int} : Rr C mX11_takeIn (130, [l0, l1, l2, l3, l4, l5, some (qi z), l7, l8, l9], st, M) x = Rr C mX11_takeIn (133, [l0, l1, l2, l3, l4, q_cut l5, some (qi (z + 1)), l7, l8, l9], st, M) x := g_pl (show decode cX11_takeIn 130 = .ok (.iinc 6 1, 3) by decide +kernel) rfl
set_option maxRecDepth 20000 in
theorem kX11_takeIn_133 {C : QC} {x : QP} {M : QM} {st : List CV} {L : QL} {l0 l1 l2 l3 l4 l5 l6 l7 l8 l9 : Option CV} {z : Int} : Rr C mX11_takeIn (133, [l0, l1, l2, l3, l4, l5, l6, some (qi z), l8, l9], st, M) x = Rr C mX11_takeIn (136, [l0, l1, l2, l3, l4, l5, q_cut l6, some (qi (z + 1)), l8, l9], st, M) x := g_pl (show decode cX11_takeIn 133 = .ok (.iinc 7 1, 3) by decide +kernel) rfl
set_option maxRecDepth 20000 in
theorem kX11_takeIn_136 {C : QC} {x : QP} {M : QM} {st : List CV} {L : QL} : Rr C mX11_takeIn (136, L, st, M) x = Rr C mX11_takeIn (63, L, st, M) x := g_pl (show decode cX11_takeIn 136 = .ok (.goto (-73), 3) by decide +kernel) rfl
set_option maxRecDepth 20000 in
theorem kX11_takeIn_139 {C : QC} {x : QP} {M : QM} {st : List CV} {L : QL} {l0 l1 l2 l3 l4 l5 l6 l7 l8 l9 : Option CV} {z : Int} : Rr C mX11_takeIn (139, [l0, l1, l2, l3, l4, l5, some (qi z), l7, l8, l9], st, M) x = Rr C mX11_takeIn (141, [l0, l1, l2, l3, l4, l5, some (qi z), l7, l8, l9], qi z :: st, M) x := g_pl (show decode cX11_takeIn 139 = .ok (.iload 6, 2) by decide +kernel) rfl
set_option maxRecDepth 20000 in
theorem kX11_takeIn_141 {C : QC} {x : QP} {M : QM} {st : List CV} {L : QL} {z : Int} : Rr C mX11_takeIn (141, L, [qi z], M) x = x (some (qi z)) M := g_iret (show decode cX11_takeIn 141 = .ok (.ireturn, 1) by decide +kernel) rfl
set_option maxRecDepth 20000 in
theorem eX11_takeIn {d : Nat} {M : QM} {x : QP} {a : Nat} {v0 : Int} {v1 : Option Nat} {v2 : Int} {v3 : Int} : q_T (d + 1) iX11_takeIn [qr a, qi v0, .inr (.inr v1), qi v2, qi v3] M x = Rr (q_C d) mX11_takeIn (0, [some (qr a), some (qi v0), some (.inr (.inr v1)), some (qi v2), some (qi v3), none, none, none, none, none], [], M) x := g_entryT (e := _) rfl (Nat.le_of_ble_eq_true rfl) rfl rfl
def mX11_isParentFrom : QI := (11, cX11_isParentFrom, false, some .boolean)
set_option maxRecDepth 20000 in
theorem kX11_isParentFrom_0 {C : QC} {x : QP} {M : QM} {st : List CV} {L : QL} : Rr C mX11_isParentFrom (0, L, st, M) x = Rr C mX11_isParentFrom (1, L, qi 0 :: st, M) x := g_pl (show decode cX11_isParentFrom 0 = .ok (.iconst 0, 1) by decide +kernel) rfl
set_option maxRecDepth 20000 in
theorem kX11_isParentFrom_1 {C : QC} {x : QP} {M : QM} {st : List CV} {L : QL} {l0 l1 l2 l3 l4 : Option CV} {z : Int} : Rr C mX11_isParentFrom (1, [l0, l1, l2, l3, l4], qi z :: st, M) x = Rr C mX11_isParentFrom (2, [l0, l1, q_cut l2, some (qi z), l4], st, M) x := g_pl (show decode cX11_isParentFrom 1 = .ok (.istore_n 3, 1) by decide +kernel) rfl
set_option maxRecDepth 20000 in
theorem kX11_isParentFrom_2 {C : QC} {x : QP} {M : QM} {st : List CV} {L : QL} {l0 l1 l2 l3 l4 : Option CV} {z : Int} : Rr C mX11_isParentFrom (2, [l0, l1, l2, some (qi z), l4], st, M) x = Rr C mX11_isParentFrom (3, [l0, l1, l2, some (qi z), l4], qi z :: st, M) x := g_pl (show decode cX11_isParentFrom 2 = .ok (.iload_n 3, 1) by decide +kernel) rfl
set_option maxRecDepth 20000 in
theorem kX11_isParentFrom_3 {C : QC} {x : QP} {M : QM} {st : List CV} {L : QL} {l0 l1 l2 l3 l4 : Option CV} {r : Option Nat} : Rr C mX11_isParentFrom (3, [some (.inr (.inr r)), l1, l2, l3, l4], st, M) x = Rr C mX11_isParentFrom (4, [some (.inr (.inr r)), l1, l2, l3, l4], .inr (.inr r) :: st, M) x := g_pl (show decode cX11_isParentFrom 3 = .ok (.aload_n 0, 1) by decide +kernel) rfl
set_option maxRecDepth 20000 in
theorem kX11_isParentFrom_4 {C : QC} {x : QP} {M : QM} {st : List CV} {L : QL} {a : Nat} (hk : q_kd M a = (1, 11)) : Rr C mX11_isParentFrom (4, L, qr a :: st, M) x = Rr C mX11_isParentFrom (7, L, q_fv M a 4 :: st, M) x := g_getf (ow := 11) (e := (11, 4, RX11, 321, 0)) (show decode cX11_isParentFrom 4 = .ok (.getfield 31, 3) by decide +kernel) rfl hk
set_option maxRecDepth 20000 in
theorem kX11_isParentFrom_7 {C : QC} {x : QP} {M : QM} {st : List CV} {L : QL} {a b : Int} (ha1 : -2147483648 ≤ a) (ha2 : a < 2147483648) (hb1 : -2147483648 ≤ b) (hb2 : b < 2147483648) : Rr C mX11_isParentFrom (7, L, qi b :: qi a :: st, M) x = (if a < b then Rr C mX11_isParentFrom (10, L, st, M) x else Rr C mX11_isParentFrom (41, L, st, M) x) := (g_icmp (show decode cX11_isParentFrom 7 = .ok (.if_icmp .ge 34, 3) by decide +kernel) rfl ha1 ha2 hb1 hb2).trans (g_itn c_ge)
set_option maxRecDepth 20000 in
theorem kX11_isParentFrom_10 {C : QC} {x : QP} {M : QM} {st : List CV} {L : QL} {l0 l1 l2 l3 l4 : Option CV} {r : Option Nat} : Rr C mX11_isParentFrom (10, [some (.inr (.inr r)), l1, l2, l3, l4], st, M) x = Rr C mX11_isParentFrom (11, [some (.inr (.inr r)), l1, l2, l3, l4], .inr (.inr r) :: st, M) x := g_pl (show decode cX11_isParentFrom 10 = .ok (.aload_n 0, 1) by decide +kernel) rfl
set_option maxRecDepth 20000 in
theorem kX11_isParentFrom_11 {C : QC} {x : QP} {M : QM} {st : List CV} {L : QL} {a : Nat} (hk : q_kd M a = (1, 11)) : Rr C mX11_isParentFrom (11, L, qr a :: st, M) x = Rr C mX11_isParentFrom (14, L, q_fv M a 3 :: st, M) x := g_getf (ow := 11) (e := (11, 3, RX11, 320, 0)) (show decode cX11_isParentFrom 11 = .ok (.getfield 27, 3) by decide +kernel) rfl hk
set_option maxRecDepth 20000 in
theorem kX11_isParentFrom_14 {C : QC} {x : QP} {M : QM} {st : List CV} {L : QL} {l0 l1 l2 l3 l4 : Option CV} {z : Int} : Rr C mX11_isParentFrom (14, [l0, l1, l2, some (qi z), l4], st, M) x = Rr C mX11_isParentFrom (15, [l0, l1, l2, some (qi z), l4], qi z :: st, M) x := g_pl (show decode cX11_isParentFrom 14 = .ok (.iload_n 3, 1) by decide +kernel) rfl
set_option maxRecDepth 20000 in
theorem kX11_isParentFrom_15 {C : QC} {x : QP} {M : QM} {st : List CV} {L : QL} {a : Nat} {j : Int} (hk : (q_kd M a).1 = 5 ∨ (q_kd M a).1 = 6) (h0 : 0 ≤ j) (h1 : j < ((q_kd M a).2 : Int)) : Rr C mX11_isParentFrom (15, L, qi j :: qr a :: st, M) x = Rr C mX11_isParentFrom (16, L, q_fv M a j.toNat :: st, M) x := g_aald (show decode cX11_isParentFrom 15 = .ok (.aaload, 1) by decide +kernel) hk h0 h1
set_option maxRecDepth 20000 in
theorem kX11_isParentFrom_16 {C : QC} {x : QP} {M : QM} {st : List CV} {L : QL} {l0 l1 l2 l3 l4 : Option CV} {z : Option Nat} : Rr C mX11_isParentFrom (16, [l0, l1, l2, l3, l4], .inr (.inr z) :: st, M) x = Rr C mX11_isParentFrom (18, [l0, l1, l2, q_cut l3, some (.inr (.inr z))], st, M) x := g_pl (show decode cX11_isParentFrom 16 = .ok (.astore 4, 2) by decide +kernel) rfl
set_option maxRecDepth 20000 in
theorem kX11_isParentFrom_18 {C : QC} {x : QP} {M : QM} {st : List CV} {L : QL} {l0 l1 l2 l3 l4 : Option CV} {r : Option Nat} : Rr C mX11_isParentFrom (18, [l0, l1, l2, l3, some (.inr (.inr r))], st, M) x = Rr C mX11_isParentFrom (20, [l0, l1, l2, l3, some (.inr (.inr r))], .inr (.inr r) :: st, M) x := g_pl (show decode cX11_isParentFrom 18 = .ok (.aload 4, 2) by decide +kernel) rfl
set_option maxRecDepth 20000 in
theorem kX11_isParentFrom_20r {C : QC} {x : QP} {M : QM} {st : List CV} {L : QL} {a : Nat} : Rr C mX11_isParentFrom (20, L, qr a :: st, M) x = Rr C mX11_isParentFrom (23, L, st, M) x := g_pl (show decode cX11_isParentFrom 20 = .ok (.ifnull 15, 3) by decide +kernel) rfl
set_option maxRecDepth 20000 in
theorem kX11_isParentFrom_20n {C : QC} {x : QP} {M : QM} {st : List CV} {L : QL} : Rr C mX11_isParentFrom (20, L, qn :: st, M) x = Rr C mX11_isParentFrom (35, L, st, M) x := g_pl (show decode cX11_isParentFrom 20 = .ok (.ifnull 15, 3) by decide +kernel) rfl
set_option maxRecDepth 20000 in
theorem kX11_isParentFrom_23 {C : QC} {x : QP} {M : QM} {st : List CV} {L : QL} {l0 l1 l2 l3 l4 : Option CV} {r : Option Nat} : Rr C mX11_isParentFrom (23, [l0, l1, l2, l3, some (.inr (.inr r))], st, M) x = Rr C mX11_isParentFrom (25, [l0, l1, l2, l3, some (.inr (.inr r))], .inr (.inr r) :: st, M) x := g_pl (show decode cX11_isParentFrom 23 = .ok (.aload 4, 2) by decide +kernel) rfl
set_option maxRecDepth 20000 in
theorem kX11_isParentFrom_25 {C : QC} {x : QP} {M : QM} {st : List CV} {L : QL} {l0 l1 l2 l3 l4 : Option CV} {z : Int} : Rr C mX11_isParentFrom (25, [l0, some (qi z), l2, l3, l4], st, M) x = Rr C mX11_isParentFrom (26, [l0, some (qi z), l2, l3, l4], qi z :: st, M) x := g_pl (show decode cX11_isParentFrom 25 = .ok (.iload_n 1, 1) by decide +kernel) rfl
set_option maxRecDepth 20000 in
theorem kX11_isParentFrom_26 {C : QC} {x : QP} {M : QM} {st : List CV} {L : QL} {l0 l1 l2 l3 l4 : Option CV} {z : Int} : Rr C mX11_isParentFrom (26, [l0, l1, some (qi z), l3, l4], st, M) x = Rr C mX11_isParentFrom (27, [l0, l1, some (qi z), l3, l4], qi z :: st, M) x := g_pl (show decode cX11_isParentFrom 26 = .ok (.iload_n 2, 1) by decide +kernel) rfl
set_option maxRecDepth 20000 in
theorem kX11_isParentFrom_27 {C : QC} {x : QP} {M : QM} {L : QL} {rest : List CV} {a0 a1 : CV} {v : CV} {M1 : QM} {b : Nat} (hb : q_kd M b = (1, 4)) (hC : C iX4_firstDayUnder [qr b, a0, a1] M (some v) M1) (hw : (rest.map q_wd).sum ≤ 8) (k : Rr C mX11_isParentFrom (30, L, v :: rest, M1) x) : Rr C mX11_isParentFrom (27, L, a1 :: a0 :: qr b :: rest, M) x := g_cv (ow := 11) (e := (0, 39, 4, [536, 537, 538, 85])) (as := [a0, a1]) (show decode cX11_isParentFrom 27 = .ok (.invokevirtual 159, 3) by decide +kernel) rfl rfl rfl (Or.inl rfl) rfl hb hC hw k
set_option maxRecDepth 20000 in
theorem kX11_isParentFrom_30 {C : QC} {x : QP} {M : QM} {st : List CV} {L : QL} {a : Int} (ha1 : -2147483648 ≤ a) (ha2 : a < 2147483648) : Rr C mX11_isParentFrom (30, L, qi a :: st, M) x = (if a < 0 then Rr C mX11_isParentFrom (35, L, st, M) x else Rr C mX11_isParentFrom (33, L, st, M) x) := (g_if (show decode cX11_isParentFrom 30 = .ok (.ifCond .lt 5, 3) by decide +kernel) rfl ha1 ha2).trans (g_ite c_lt)
set_option maxRecDepth 20000 in
theorem kX11_isParentFrom_33 {C : QC} {x : QP} {M : QM} {st : List CV} {L : QL} : Rr C mX11_isParentFrom (33, L, st, M) x = Rr C mX11_isParentFrom (34, L, qi 1 :: st, M) x := g_pl (show decode cX11_isParentFrom 33 = .ok (.iconst 1, 1) by decide +kernel) rfl
set_option maxRecDepth 20000 in
theorem kX11_isParentFrom_34 {C : QC} {x : QP} {M : QM} {st : List CV} {L : QL} {z : Int} (hz : z = 0 ∨ z = 1) : Rr C mX11_isParentFrom (34, L, [qi z], M) x = x (some (qi z)) M := g_iret (show decode cX11_isParentFrom 34 = .ok (.ireturn, 1) by decide +kernel) (by rcases hz with rfl | rfl <;> rfl)
set_option maxRecDepth 20000 in
theorem kX11_isParentFrom_35 {C : QC} {x : QP} {M : QM} {st : List CV} {L : QL} {l0 l1 l2 l3 l4 : Option CV} {z : Int} : Rr C mX11_isParentFrom (35, [l0, l1, l2, some (qi z), l4], st, M) x = Rr C mX11_isParentFrom (38, [l0, l1, q_cut l2, some (qi (z + 1)), l4], st, M) x := g_pl (show decode cX11_isParentFrom 35 = .ok (.iinc 3 1, 3) by decide +kernel) rfl
set_option maxRecDepth 20000 in
theorem kX11_isParentFrom_38 {C : QC} {x : QP} {M : QM} {st : List CV} {L : QL} : Rr C mX11_isParentFrom (38, L, st, M) x = Rr C mX11_isParentFrom (2, L, st, M) x := g_pl (show decode cX11_isParentFrom 38 = .ok (.goto (-36), 3) by decide +kernel) rfl
set_option maxRecDepth 20000 in
theorem kX11_isParentFrom_41 {C : QC} {x : QP} {M : QM} {st : List CV} {L : QL} : Rr C mX11_isParentFrom (41, L, st, M) x = Rr C mX11_isParentFrom (42, L, qi 0 :: st, M) x := g_pl (show decode cX11_isParentFrom 41 = .ok (.iconst 0, 1) by decide +kernel) rfl
set_option maxRecDepth 20000 in
theorem kX11_isParentFrom_42 {C : QC} {x : QP} {M : QM} {st : List CV} {L : QL} {z : Int} (hz : z = 0 ∨ z = 1) : Rr C mX11_isParentFrom (42, L, [qi z], M) x = x (some (qi z)) M := g_iret (show decode cX11_isParentFrom 42 = .ok (.ireturn, 1) by decide +kernel) (by rcases hz with rfl | rfl <;> rfl)
set_option maxRecDepth 20000 in
theorem eX11_isParentFrom {d : Nat} {M : QM} {x : QP} {a : Nat} {v0 : Int} {v1 : Int} : q_T (d + 1) iX11_isParentFrom [qr a, qi v0, qi v1] M x = Rr (q_C d) mX11_isParentFrom (0, [some (qr a), some (qi v0), some (qi v1), none, none], [], M) x := g_entryT (e := _) rfl (Nat.le_of_ble_eq_true rfl) rfl rfl
def mX11_heirOf : QI := (11, cX11_heirOf, false, some .int)
set_option maxRecDepth 20000 in
theorem kX11_heirOf_0 {C : QC} {x : QP} {M : QM} {st : List CV} {L : QL} {l0 l1 l2 l3 l4 l5 : Option CV} {z : Int} : Rr C mX11_heirOf (0, [l0, some (qi z), l2, l3, l4, l5], st, M) x = Rr C mX11_heirOf (1, [l0, some (qi z), l2, l3, l4, l5], qi z :: st, M) x := g_pl (show decode cX11_heirOf 0 = .ok (.iload_n 1, 1) by decide +kernel) rfl
set_option maxRecDepth 20000 in
theorem kX11_heirOf_1 {C : QC} {x : QP} {M : QM} {st : List CV} {L : QL} {l0 l1 l2 l3 l4 l5 : Option CV} {z : Int} : Rr C mX11_heirOf (1, [l0, l1, l2, l3, l4, l5], qi z :: st, M) x = Rr C mX11_heirOf (2, [l0, l1, q_cut l2, some (qi z), l4, l5], st, M) x := g_pl (show decode cX11_heirOf 1 = .ok (.istore_n 3, 1) by decide +kernel) rfl
set_option maxRecDepth 20000 in
theorem kX11_heirOf_2 {C : QC} {x : QP} {M : QM} {st : List CV} {L : QL} : Rr C mX11_heirOf (2, L, st, M) x = Rr C mX11_heirOf (3, L, qi 0 :: st, M) x := g_pl (show decode cX11_heirOf 2 = .ok (.iconst 0, 1) by decide +kernel) rfl
set_option maxRecDepth 20000 in
theorem kX11_heirOf_3 {C : QC} {x : QP} {M : QM} {st : List CV} {L : QL} {l0 l1 l2 l3 l4 l5 : Option CV} {z : Int} : Rr C mX11_heirOf (3, [l0, l1, l2, l3, l4, l5], qi z :: st, M) x = Rr C mX11_heirOf (5, [l0, l1, l2, q_cut l3, some (qi z), l5], st, M) x := g_pl (show decode cX11_heirOf 3 = .ok (.istore 4, 2) by decide +kernel) rfl
set_option maxRecDepth 20000 in
theorem kX11_heirOf_5 {C : QC} {x : QP} {M : QM} {st : List CV} {L : QL} {l0 l1 l2 l3 l4 l5 : Option CV} {z : Int} : Rr C mX11_heirOf (5, [l0, l1, l2, l3, some (qi z), l5], st, M) x = Rr C mX11_heirOf (7, [l0, l1, l2, l3, some (qi z), l5], qi z :: st, M) x := g_pl (show decode cX11_heirOf 5 = .ok (.iload 4, 2) by decide +kernel) rfl
set_option maxRecDepth 20000 in
theorem kX11_heirOf_7 {C : QC} {x : QP} {M : QM} {st : List CV} {L : QL} : Rr C mX11_heirOf (7, L, st, M) x = Rr C mX11_heirOf (9, L, qi 20 :: st, M) x := g_pl (show decode cX11_heirOf 7 = .ok (.bipush 20, 2) by decide +kernel) rfl
set_option maxRecDepth 20000 in
theorem kX11_heirOf_9 {C : QC} {x : QP} {M : QM} {st : List CV} {L : QL} {a b : Int} (ha1 : -2147483648 ≤ a) (ha2 : a < 2147483648) (hb1 : -2147483648 ≤ b) (hb2 : b < 2147483648) : Rr C mX11_heirOf (9, L, qi b :: qi a :: st, M) x = (if b < a then Rr C mX11_heirOf (50, L, st, M) x else Rr C mX11_heirOf (12, L, st, M) x) := (g_icmp (show decode cX11_heirOf 9 = .ok (.if_icmp .gt 41, 3) by decide +kernel) rfl ha1 ha2 hb1 hb2).trans (g_ite c_gt)
set_option maxRecDepth 20000 in
theorem kX11_heirOf_12 {C : QC} {x : QP} {M : QM} {st : List CV} {L : QL} {l0 l1 l2 l3 l4 l5 : Option CV} {r : Option Nat} : Rr C mX11_heirOf (12, [some (.inr (.inr r)), l1, l2, l3, l4, l5], st, M) x = Rr C mX11_heirOf (13, [some (.inr (.inr r)), l1, l2, l3, l4, l5], .inr (.inr r) :: st, M) x := g_pl (show decode cX11_heirOf 12 = .ok (.aload_n 0, 1) by decide +kernel) rfl
set_option maxRecDepth 20000 in
theorem kX11_heirOf_13 {C : QC} {x : QP} {M : QM} {st : List CV} {L : QL} {l0 l1 l2 l3 l4 l5 : Option CV} {z : Int} : Rr C mX11_heirOf (13, [l0, l1, l2, some (qi z), l4, l5], st, M) x = Rr C mX11_heirOf (14, [l0, l1, l2, some (qi z), l4, l5], qi z :: st, M) x := g_pl (show decode cX11_heirOf 13 = .ok (.iload_n 3, 1) by decide +kernel) rfl
set_option maxRecDepth 20000 in
theorem kX11_heirOf_14 {C : QC} {x : QP} {M : QM} {L : QL} {rest : List CV} {a0 : CV} {v : CV} {M1 : QM} {b : Nat} (hb : q_kd M b = (1, 11)) (hC : C iX11_place [qr b, a0] M (some v) M1) (hw : (rest.map q_wd).sum ≤ 8) (k : Rr C mX11_heirOf (17, L, v :: rest, M1) x) : Rr C mX11_heirOf (14, L, a0 :: qr b :: rest, M) x := g_cv (ow := 11) (e := (0, 30, 11, [679, 504, 505, 83])) (as := [a0]) (show decode cX11_heirOf 14 = .ok (.invokevirtual 72, 3) by decide +kernel) rfl rfl rfl (Or.inl rfl) rfl hb hC hw k
set_option maxRecDepth 20000 in
theorem kX11_heirOf_17 {C : QC} {x : QP} {M : QM} {st : List CV} {L : QL} {l0 l1 l2 l3 l4 l5 : Option CV} {z : Option Nat} : Rr C mX11_heirOf (17, [l0, l1, l2, l3, l4, l5], .inr (.inr z) :: st, M) x = Rr C mX11_heirOf (19, [l0, l1, l2, l3, q_cut l4, some (.inr (.inr z))], st, M) x := g_pl (show decode cX11_heirOf 17 = .ok (.astore 5, 2) by decide +kernel) rfl
set_option maxRecDepth 20000 in
theorem kX11_heirOf_19 {C : QC} {x : QP} {M : QM} {st : List CV} {L : QL} {l0 l1 l2 l3 l4 l5 : Option CV} {r : Option Nat} : Rr C mX11_heirOf (19, [l0, l1, l2, l3, l4, some (.inr (.inr r))], st, M) x = Rr C mX11_heirOf (21, [l0, l1, l2, l3, l4, some (.inr (.inr r))], .inr (.inr r) :: st, M) x := g_pl (show decode cX11_heirOf 19 = .ok (.aload 5, 2) by decide +kernel) rfl
set_option maxRecDepth 20000 in
theorem kX11_heirOf_21r {C : QC} {x : QP} {M : QM} {st : List CV} {L : QL} {a : Nat} : Rr C mX11_heirOf (21, L, qr a :: st, M) x = Rr C mX11_heirOf (27, L, st, M) x := g_pl (show decode cX11_heirOf 21 = .ok (.ifnonnull 6, 3) by decide +kernel) rfl
set_option maxRecDepth 20000 in
theorem kX11_heirOf_21n {C : QC} {x : QP} {M : QM} {st : List CV} {L : QL} : Rr C mX11_heirOf (21, L, qn :: st, M) x = Rr C mX11_heirOf (24, L, st, M) x := g_pl (show decode cX11_heirOf 21 = .ok (.ifnonnull 6, 3) by decide +kernel) rfl
set_option maxRecDepth 20000 in
theorem kX11_heirOf_24 {C : QC} {x : QP} {M : QM} {st : List CV} {L : QL} : Rr C mX11_heirOf (24, L, st, M) x = Rr C mX11_heirOf (26, L, qi (-5) :: st, M) x := g_pl (show decode cX11_heirOf 24 = .ok (.bipush (-5), 2) by decide +kernel) rfl
set_option maxRecDepth 20000 in
theorem kX11_heirOf_26 {C : QC} {x : QP} {M : QM} {st : List CV} {L : QL} {z : Int} : Rr C mX11_heirOf (26, L, [qi z], M) x = x (some (qi z)) M := g_iret (show decode cX11_heirOf 26 = .ok (.ireturn, 1) by decide +kernel) rfl
set_option maxRecDepth 20000 in
theorem kX11_heirOf_27 {C : QC} {x : QP} {M : QM} {st : List CV} {L : QL} {l0 l1 l2 l3 l4 l5 : Option CV} {z : Int} : Rr C mX11_heirOf (27, [l0, l1, some (qi z), l3, l4, l5], st, M) x = Rr C mX11_heirOf (28, [l0, l1, some (qi z), l3, l4, l5], qi z :: st, M) x := g_pl (show decode cX11_heirOf 27 = .ok (.iload_n 2, 1) by decide +kernel) rfl
set_option maxRecDepth 20000 in
theorem kX11_heirOf_28 {C : QC} {x : QP} {M : QM} {st : List CV} {L : QL} {l0 l1 l2 l3 l4 l5 : Option CV} {r : Option Nat} : Rr C mX11_heirOf (28, [l0, l1, l2, l3, l4, some (.inr (.inr r))], st, M) x = Rr C mX11_heirOf (30, [l0, l1, l2, l3, l4, some (.inr (.inr r))], .inr (.inr r) :: st, M) x := g_pl (show decode cX11_heirOf 28 = .ok (.aload 5, 2) by decide +kernel) rfl
set_option maxRecDepth 20000 in
theorem kX11_heirOf_30 {C : QC} {x : QP} {M : QM} {L : QL} {rest : List CV} {v : CV} {M1 : QM} {b : Nat} (hb : q_kd M b = (1, 4)) (hC : C iX4_end [qr b] M (some v) M1) (hw : (rest.map q_wd).sum ≤ 8) (k : Rr C mX11_heirOf (33, L, v :: rest, M1) x) : Rr C mX11_heirOf (30, L, qr b :: rest, M) x := g_cv (ow := 11) (e := (0, 40, 4, [877, 541, 542, 85])) (as := []) (show decode cX11_heirOf 30 = .ok (.invokevirtual 165, 3) by decide +kernel) rfl rfl rfl (Or.inl rfl) rfl hb hC hw k
set_option maxRecDepth 20000 in
theorem kX11_heirOf_33 {C : QC} {x : QP} {M : QM} {st : List CV} {L : QL} {a b : Int} (ha1 : -2147483648 ≤ a) (ha2 : a < 2147483648) (hb1 : -2147483648 ≤ b) (hb2 : b < 2147483648) : Rr C mX11_heirOf (33, L, qi b :: qi a :: st, M) x = (if a < b then Rr C mX11_heirOf (36, L, st, M) x else Rr C mX11_heirOf (38, L, st, M) x) := (g_icmp (show decode cX11_heirOf 33 = .ok (.if_icmp .ge 5, 3) by decide +kernel) rfl ha1 ha2 hb1 hb2).trans (g_itn c_ge)
set_option maxRecDepth 20000 in
theorem kX11_heirOf_36 {C : QC} {x : QP} {M : QM} {st : List CV} {L : QL} {l0 l1 l2 l3 l4 l5 : Option CV} {z : Int} : Rr C mX11_heirOf (36, [l0, l1, l2, some (qi z), l4, l5], st, M) x = Rr C mX11_heirOf (37, [l0, l1, l2, some (qi z), l4, l5], qi z :: st, M) x := g_pl (show decode cX11_heirOf 36 = .ok (.iload_n 3, 1) by decide +kernel) rfl
set_option maxRecDepth 20000 in
theorem kX11_heirOf_37 {C : QC} {x : QP} {M : QM} {st : List CV} {L : QL} {z : Int} : Rr C mX11_heirOf (37, L, [qi z], M) x = x (some (qi z)) M := g_iret (show decode cX11_heirOf 37 = .ok (.ireturn, 1) by decide +kernel) rfl
set_option maxRecDepth 20000 in
theorem kX11_heirOf_38 {C : QC} {x : QP} {M : QM} {st : List CV} {L : QL} {l0 l1 l2 l3 l4 l5 : Option CV} {r : Option Nat} : Rr C mX11_heirOf (38, [l0, l1, l2, l3, l4, some (.inr (.inr r))], st, M) x = Rr C mX11_heirOf (40, [l0, l1, l2, l3, l4, some (.inr (.inr r))], .inr (.inr r) :: st, M) x := g_pl (show decode cX11_heirOf 38 = .ok (.aload 5, 2) by decide +kernel) rfl
set_option maxRecDepth 20000 in
theorem kX11_heirOf_40 {C : QC} {x : QP} {M : QM} {st : List CV} {L : QL} {a : Nat} (hk : q_kd M a = (1, 4)) : Rr C mX11_heirOf (40, L, qr a :: st, M) x = Rr C mX11_heirOf (43, L, q_fv M a 3 :: st, M) x := g_getf (ow := 11) (e := (4, 3, RX4, 278, 0)) (show decode cX11_heirOf 40 = .ok (.getfield 150, 3) by decide +kernel) rfl hk
set_option maxRecDepth 20000 in
theorem kX11_heirOf_43 {C : QC} {x : QP} {M : QM} {st : List CV} {L : QL} {l0 l1 l2 l3 l4 l5 : Option CV} {z : Int} : Rr C mX11_heirOf (43, [l0, l1, l2, l3, l4, l5], qi z :: st, M) x = Rr C mX11_heirOf (44, [l0, l1, q_cut l2, some (qi z), l4, l5], st, M) x := g_pl (show decode cX11_heirOf 43 = .ok (.istore_n 3, 1) by decide +kernel) rfl
set_option maxRecDepth 20000 in
theorem kX11_heirOf_44 {C : QC} {x : QP} {M : QM} {st : List CV} {L : QL} {l0 l1 l2 l3 l4 l5 : Option CV} {z : Int} : Rr C mX11_heirOf (44, [l0, l1, l2, l3, some (qi z), l5], st, M) x = Rr C mX11_heirOf (47, [l0, l1, l2, q_cut l3, some (qi (z + 1)), l5], st, M) x := g_pl (show decode cX11_heirOf 44 = .ok (.iinc 4 1, 3) by decide +kernel) rfl
set_option maxRecDepth 20000 in
theorem kX11_heirOf_47 {C : QC} {x : QP} {M : QM} {st : List CV} {L : QL} : Rr C mX11_heirOf (47, L, st, M) x = Rr C mX11_heirOf (5, L, st, M) x := g_pl (show decode cX11_heirOf 47 = .ok (.goto (-42), 3) by decide +kernel) rfl
set_option maxRecDepth 20000 in
theorem kX11_heirOf_50 {C : QC} {x : QP} {M : QM} {st : List CV} {L : QL} : Rr C mX11_heirOf (50, L, st, M) x = Rr C mX11_heirOf (52, L, qi (-5) :: st, M) x := g_pl (show decode cX11_heirOf 50 = .ok (.bipush (-5), 2) by decide +kernel) rfl
set_option maxRecDepth 20000 in
theorem kX11_heirOf_52 {C : QC} {x : QP} {M : QM} {st : List CV} {L : QL} {z : Int} : Rr C mX11_heirOf (52, L, [qi z], M) x = x (some (qi z)) M := g_iret (show decode cX11_heirOf 52 = .ok (.ireturn, 1) by decide +kernel) rfl
set_option maxRecDepth 20000 in
theorem eX11_heirOf {d : Nat} {M : QM} {x : QP} {a : Nat} {v0 : Int} {v1 : Int} : q_T (d + 1) iX11_heirOf [qr a, qi v0, qi v1] M x = Rr (q_C d) mX11_heirOf (0, [some (qr a), some (qi v0), some (qi v1), none, none, none], [], M) x := g_entryT (e := _) rfl (Nat.le_of_ble_eq_true rfl) rfl rfl
def mX11_parentsAbove : QI := (11, cX11_parentsAbove, false, some .int)
set_option maxRecDepth 20000 in
theorem kX11_parentsAbove_0 {C : QC} {x : QP} {M : QM} {st : List CV} {L : QL} : Rr C mX11_parentsAbove (0, L, st, M) x = Rr C mX11_parentsAbove (1, L, qi 0 :: st, M) x := g_pl (show decode cX11_parentsAbove 0 = .ok (.iconst 0, 1) by decide +kernel) rfl
set_option maxRecDepth 20000 in
theorem kX11_parentsAbove_1 {C : QC} {x : QP} {M : QM} {st : List CV} {L : QL} {l0 l1 l2 l3 l4 : Option CV} {z : Int} : Rr C mX11_parentsAbove (1, [l0, l1, l2, l3, l4], qi z :: st, M) x = Rr C mX11_parentsAbove (2, [l0, l1, q_cut l2, some (qi z), l4], st, M) x := g_pl (show decode cX11_parentsAbove 1 = .ok (.istore_n 3, 1) by decide +kernel) rfl
set_option maxRecDepth 20000 in
theorem kX11_parentsAbove_2 {C : QC} {x : QP} {M : QM} {st : List CV} {L : QL} {l0 l1 l2 l3 l4 : Option CV} {r : Option Nat} : Rr C mX11_parentsAbove (2, [some (.inr (.inr r)), l1, l2, l3, l4], st, M) x = Rr C mX11_parentsAbove (3, [some (.inr (.inr r)), l1, l2, l3, l4], .inr (.inr r) :: st, M) x := g_pl (show decode cX11_parentsAbove 2 = .ok (.aload_n 0, 1) by decide +kernel) rfl
set_option maxRecDepth 20000 in
theorem kX11_parentsAbove_3 {C : QC} {x : QP} {M : QM} {st : List CV} {L : QL} {l0 l1 l2 l3 l4 : Option CV} {r : Option Nat} : Rr C mX11_parentsAbove (3, [l0, some (.inr (.inr r)), l2, l3, l4], st, M) x = Rr C mX11_parentsAbove (4, [l0, some (.inr (.inr r)), l2, l3, l4], .inr (.inr r) :: st, M) x := g_pl (show decode cX11_parentsAbove 3 = .ok (.aload_n 1, 1) by decide +kernel) rfl
set_option maxRecDepth 20000 in
theorem kX11_parentsAbove_4 {C : QC} {x : QP} {M : QM} {st : List CV} {L : QL} {a : Nat} (hk : q_kd M a = (1, 4)) : Rr C mX11_parentsAbove (4, L, qr a :: st, M) x = Rr C mX11_parentsAbove (7, L, q_fv M a 7 :: st, M) x := g_getf (ow := 11) (e := (4, 7, RX4, 290, 0)) (show decode cX11_parentsAbove 4 = .ok (.getfield 132, 3) by decide +kernel) rfl hk
set_option maxRecDepth 20000 in
theorem kX11_parentsAbove_7 {C : QC} {x : QP} {M : QM} {st : List CV} {L : QL} {l0 l1 l2 l3 l4 : Option CV} {z : Int} : Rr C mX11_parentsAbove (7, [l0, l1, some (qi z), l3, l4], st, M) x = Rr C mX11_parentsAbove (8, [l0, l1, some (qi z), l3, l4], qi z :: st, M) x := g_pl (show decode cX11_parentsAbove 7 = .ok (.iload_n 2, 1) by decide +kernel) rfl
set_option maxRecDepth 20000 in
theorem kX11_parentsAbove_8 {C : QC} {x : QP} {M : QM} {L : QL} {rest : List CV} {a0 : CV} {v : CV} {M1 : QM} {b : Nat} (hb : q_kd M b = (1, 9)) (hC : C iX9_at [qr b, a0] M (some v) M1) (hw : (rest.map q_wd).sum ≤ 8) (k : Rr C mX11_parentsAbove (11, L, v :: rest, M1) x) : Rr C mX11_parentsAbove (8, L, a0 :: qr b :: rest, M) x := g_cv (ow := 11) (e := (0, 36, 9, [718, 526, 527, 87])) (as := [a0]) (show decode cX11_parentsAbove 8 = .ok (.invokevirtual 136, 3) by decide +kernel) rfl rfl rfl (Or.inl rfl) rfl hb hC hw k
set_option maxRecDepth 20000 in
theorem kX11_parentsAbove_11 {C : QC} {x : QP} {M : QM} {L : QL} {rest : List CV} {a0 : CV} {v : CV} {M1 : QM} {b : Nat} (hb : q_kd M b = (1, 11)) (hC : C iX11_place [qr b, a0] M (some v) M1) (hw : (rest.map q_wd).sum ≤ 8) (k : Rr C mX11_parentsAbove (14, L, v :: rest, M1) x) : Rr C mX11_parentsAbove (11, L, a0 :: qr b :: rest, M) x := g_cv (ow := 11) (e := (0, 30, 11, [679, 504, 505, 83])) (as := [a0]) (show decode cX11_parentsAbove 11 = .ok (.invokevirtual 72, 3) by decide +kernel) rfl rfl rfl (Or.inl rfl) rfl hb hC hw k
set_option maxRecDepth 20000 in
theorem kX11_parentsAbove_14 {C : QC} {x : QP} {M : QM} {st : List CV} {L : QL} {l0 l1 l2 l3 l4 : Option CV} {z : Option Nat} : Rr C mX11_parentsAbove (14, [l0, l1, l2, l3, l4], .inr (.inr z) :: st, M) x = Rr C mX11_parentsAbove (16, [l0, l1, l2, q_cut l3, some (.inr (.inr z))], st, M) x := g_pl (show decode cX11_parentsAbove 14 = .ok (.astore 4, 2) by decide +kernel) rfl
set_option maxRecDepth 20000 in
theorem kX11_parentsAbove_16 {C : QC} {x : QP} {M : QM} {st : List CV} {L : QL} {l0 l1 l2 l3 l4 : Option CV} {r : Option Nat} : Rr C mX11_parentsAbove (16, [l0, l1, l2, l3, some (.inr (.inr r))], st, M) x = Rr C mX11_parentsAbove (18, [l0, l1, l2, l3, some (.inr (.inr r))], .inr (.inr r) :: st, M) x := g_pl (show decode cX11_parentsAbove 16 = .ok (.aload 4, 2) by decide +kernel) rfl
set_option maxRecDepth 20000 in
theorem kX11_parentsAbove_18r {C : QC} {x : QP} {M : QM} {st : List CV} {L : QL} {a : Nat} : Rr C mX11_parentsAbove (18, L, qr a :: st, M) x = Rr C mX11_parentsAbove (21, L, st, M) x := g_pl (show decode cX11_parentsAbove 18 = .ok (.ifnull 29, 3) by decide +kernel) rfl
set_option maxRecDepth 20000 in
theorem kX11_parentsAbove_18n {C : QC} {x : QP} {M : QM} {st : List CV} {L : QL} : Rr C mX11_parentsAbove (18, L, qn :: st, M) x = Rr C mX11_parentsAbove (47, L, st, M) x := g_pl (show decode cX11_parentsAbove 18 = .ok (.ifnull 29, 3) by decide +kernel) rfl
set_option maxRecDepth 20000 in
theorem kX11_parentsAbove_21 {C : QC} {x : QP} {M : QM} {st : List CV} {L : QL} {l0 l1 l2 l3 l4 : Option CV} {z : Int} : Rr C mX11_parentsAbove (21, [l0, l1, l2, some (qi z), l4], st, M) x = Rr C mX11_parentsAbove (22, [l0, l1, l2, some (qi z), l4], qi z :: st, M) x := g_pl (show decode cX11_parentsAbove 21 = .ok (.iload_n 3, 1) by decide +kernel) rfl
set_option maxRecDepth 20000 in
theorem kX11_parentsAbove_22 {C : QC} {x : QP} {M : QM} {st : List CV} {L : QL} : Rr C mX11_parentsAbove (22, L, st, M) x = Rr C mX11_parentsAbove (23, L, qi 4 :: st, M) x := g_pl (show decode cX11_parentsAbove 22 = .ok (.iconst 4, 1) by decide +kernel) rfl
set_option maxRecDepth 20000 in
theorem kX11_parentsAbove_23 {C : QC} {x : QP} {M : QM} {st : List CV} {L : QL} {a b : Int} (ha1 : -2147483648 ≤ a) (ha2 : a < 2147483648) (hb1 : -2147483648 ≤ b) (hb2 : b < 2147483648) : Rr C mX11_parentsAbove (23, L, qi b :: qi a :: st, M) x = (if a < b then Rr C mX11_parentsAbove (26, L, st, M) x else Rr C mX11_parentsAbove (47, L, st, M) x) := (g_icmp (show decode cX11_parentsAbove 23 = .ok (.if_icmp .ge 24, 3) by decide +kernel) rfl ha1 ha2 hb1 hb2).trans (g_itn c_ge)
set_option maxRecDepth 20000 in
theorem kX11_parentsAbove_26 {C : QC} {x : QP} {M : QM} {st : List CV} {L : QL} {l0 l1 l2 l3 l4 : Option CV} {z : Int} : Rr C mX11_parentsAbove (26, [l0, l1, l2, some (qi z), l4], st, M) x = Rr C mX11_parentsAbove (29, [l0, l1, q_cut l2, some (qi (z + 1)), l4], st, M) x := g_pl (show decode cX11_parentsAbove 26 = .ok (.iinc 3 1, 3) by decide +kernel) rfl
set_option maxRecDepth 20000 in
theorem kX11_parentsAbove_29 {C : QC} {x : QP} {M : QM} {st : List CV} {L : QL} {l0 l1 l2 l3 l4 : Option CV} {r : Option Nat} : Rr C mX11_parentsAbove (29, [some (.inr (.inr r)), l1, l2, l3, l4], st, M) x = Rr C mX11_parentsAbove (30, [some (.inr (.inr r)), l1, l2, l3, l4], .inr (.inr r) :: st, M) x := g_pl (show decode cX11_parentsAbove 29 = .ok (.aload_n 0, 1) by decide +kernel) rfl
set_option maxRecDepth 20000 in
theorem kX11_parentsAbove_30 {C : QC} {x : QP} {M : QM} {st : List CV} {L : QL} {l0 l1 l2 l3 l4 : Option CV} {r : Option Nat} : Rr C mX11_parentsAbove (30, [l0, l1, l2, l3, some (.inr (.inr r))], st, M) x = Rr C mX11_parentsAbove (32, [l0, l1, l2, l3, some (.inr (.inr r))], .inr (.inr r) :: st, M) x := g_pl (show decode cX11_parentsAbove 30 = .ok (.aload 4, 2) by decide +kernel) rfl
set_option maxRecDepth 20000 in
theorem kX11_parentsAbove_32 {C : QC} {x : QP} {M : QM} {st : List CV} {L : QL} {a : Nat} (hk : q_kd M a = (1, 4)) : Rr C mX11_parentsAbove (32, L, qr a :: st, M) x = Rr C mX11_parentsAbove (35, L, q_fv M a 7 :: st, M) x := g_getf (ow := 11) (e := (4, 7, RX4, 290, 0)) (show decode cX11_parentsAbove 32 = .ok (.getfield 132, 3) by decide +kernel) rfl hk
set_option maxRecDepth 20000 in
theorem kX11_parentsAbove_35 {C : QC} {x : QP} {M : QM} {st : List CV} {L : QL} {l0 l1 l2 l3 l4 : Option CV} {z : Int} : Rr C mX11_parentsAbove (35, [l0, l1, some (qi z), l3, l4], st, M) x = Rr C mX11_parentsAbove (36, [l0, l1, some (qi z), l3, l4], qi z :: st, M) x := g_pl (show decode cX11_parentsAbove 35 = .ok (.iload_n 2, 1) by decide +kernel) rfl
set_option maxRecDepth 20000 in
theorem kX11_parentsAbove_36 {C : QC} {x : QP} {M : QM} {L : QL} {rest : List CV} {a0 : CV} {v : CV} {M1 : QM} {b : Nat} (hb : q_kd M b = (1, 9)) (hC : C iX9_at [qr b, a0] M (some v) M1) (hw : (rest.map q_wd).sum ≤ 8) (k : Rr C mX11_parentsAbove (39, L, v :: rest, M1) x) : Rr C mX11_parentsAbove (36, L, a0 :: qr b :: rest, M) x := g_cv (ow := 11) (e := (0, 36, 9, [718, 526, 527, 87])) (as := [a0]) (show decode cX11_parentsAbove 36 = .ok (.invokevirtual 136, 3) by decide +kernel) rfl rfl rfl (Or.inl rfl) rfl hb hC hw k
set_option maxRecDepth 20000 in
theorem kX11_parentsAbove_39 {C : QC} {x : QP} {M : QM} {L : QL} {rest : List CV} {a0 : CV} {v : CV} {M1 : QM} {b : Nat} (hb : q_kd M b = (1, 11)) (hC : C iX11_place [qr b, a0] M (some v) M1) (hw : (rest.map q_wd).sum ≤ 8) (k : Rr C mX11_parentsAbove (42, L, v :: rest, M1) x) : Rr C mX11_parentsAbove (39, L, a0 :: qr b :: rest, M) x := g_cv (ow := 11) (e := (0, 30, 11, [679, 504, 505, 83])) (as := [a0]) (show decode cX11_parentsAbove 39 = .ok (.invokevirtual 72, 3) by decide +kernel) rfl rfl rfl (Or.inl rfl) rfl hb hC hw k
set_option maxRecDepth 20000 in
theorem kX11_parentsAbove_42 {C : QC} {x : QP} {M : QM} {st : List CV} {L : QL} {l0 l1 l2 l3 l4 : Option CV} {z : Option Nat} : Rr C mX11_parentsAbove (42, [l0, l1, l2, l3, l4], .inr (.inr z) :: st, M) x = Rr C mX11_parentsAbove (44, [l0, l1, l2, q_cut l3, some (.inr (.inr z))], st, M) x := g_pl (show decode cX11_parentsAbove 42 = .ok (.astore 4, 2) by decide +kernel) rfl
set_option maxRecDepth 20000 in
theorem kX11_parentsAbove_44 {C : QC} {x : QP} {M : QM} {st : List CV} {L : QL} : Rr C mX11_parentsAbove (44, L, st, M) x = Rr C mX11_parentsAbove (16, L, st, M) x := g_pl (show decode cX11_parentsAbove 44 = .ok (.goto (-28), 3) by decide +kernel) rfl
set_option maxRecDepth 20000 in
theorem kX11_parentsAbove_47 {C : QC} {x : QP} {M : QM} {st : List CV} {L : QL} {l0 l1 l2 l3 l4 : Option CV} {z : Int} : Rr C mX11_parentsAbove (47, [l0, l1, l2, some (qi z), l4], st, M) x = Rr C mX11_parentsAbove (48, [l0, l1, l2, some (qi z), l4], qi z :: st, M) x := g_pl (show decode cX11_parentsAbove 47 = .ok (.iload_n 3, 1) by decide +kernel) rfl
set_option maxRecDepth 20000 in
theorem kX11_parentsAbove_48 {C : QC} {x : QP} {M : QM} {st : List CV} {L : QL} {z : Int} : Rr C mX11_parentsAbove (48, L, [qi z], M) x = x (some (qi z)) M := g_iret (show decode cX11_parentsAbove 48 = .ok (.ireturn, 1) by decide +kernel) rfl
set_option maxRecDepth 20000 in
theorem eX11_parentsAbove {d : Nat} {M : QM} {x : QP} {a : Nat} {v0 : Option Nat} {v1 : Int} : q_T (d + 1) iX11_parentsAbove [qr a, .inr (.inr v0), qi v1] M x = Rr (q_C d) mX11_parentsAbove (0, [some (qr a), some (.inr (.inr v0)), some (qi v1), none, none], [], M) x := g_entryT (e := _) rfl (Nat.le_of_ble_eq_true rfl) rfl rfl
def mX11_isUnder : QI := (11, cX11_isUnder, false, some .boolean)
set_option maxRecDepth 20000 in
theorem kX11_isUnder_0 {C : QC} {x : QP} {M : QM} {st : List CV} {L : QL} {l0 l1 l2 l3 l4 l5 l6 : Option CV} {r : Option Nat} : Rr C mX11_isUnder (0, [l0, some (.inr (.inr r)), l2, l3, l4, l5, l6], st, M) x = Rr C mX11_isUnder (1, [l0, some (.inr (.inr r)), l2, l3, l4, l5, l6], .inr (.inr r) :: st, M) x := g_pl (show decode cX11_isUnder 0 = .ok (.aload_n 1, 1) by decide +kernel) rfl
set_option maxRecDepth 20000 in
theorem kX11_isUnder_1 {C : QC} {x : QP} {M : QM} {st : List CV} {L : QL} {a : Nat} (hk : q_kd M a = (1, 4)) : Rr C mX11_isUnder (1, L, qr a :: st, M) x = Rr C mX11_isUnder (4, L, q_fv M a 7 :: st, M) x := g_getf (ow := 11) (e := (4, 7, RX4, 290, 0)) (show decode cX11_isUnder 1 = .ok (.getfield 132, 3) by decide +kernel) rfl hk
set_option maxRecDepth 20000 in
theorem kX11_isUnder_4 {C : QC} {x : QP} {M : QM} {st : List CV} {L : QL} {l0 l1 l2 l3 l4 l5 l6 : Option CV} {z : Int} : Rr C mX11_isUnder (4, [l0, l1, l2, some (qi z), l4, l5, l6], st, M) x = Rr C mX11_isUnder (5, [l0, l1, l2, some (qi z), l4, l5, l6], qi z :: st, M) x := g_pl (show decode cX11_isUnder 4 = .ok (.iload_n 3, 1) by decide +kernel) rfl
set_option maxRecDepth 20000 in
theorem kX11_isUnder_5 {C : QC} {x : QP} {M : QM} {L : QL} {rest : List CV} {a0 : CV} {v : CV} {M1 : QM} {b : Nat} (hb : q_kd M b = (1, 9)) (hC : C iX9_at [qr b, a0] M (some v) M1) (hw : (rest.map q_wd).sum ≤ 8) (k : Rr C mX11_isUnder (8, L, v :: rest, M1) x) : Rr C mX11_isUnder (5, L, a0 :: qr b :: rest, M) x := g_cv (ow := 11) (e := (0, 36, 9, [718, 526, 527, 87])) (as := [a0]) (show decode cX11_isUnder 5 = .ok (.invokevirtual 136, 3) by decide +kernel) rfl rfl rfl (Or.inl rfl) rfl hb hC hw k
set_option maxRecDepth 20000 in
theorem kX11_isUnder_8 {C : QC} {x : QP} {M : QM} {st : List CV} {L : QL} {l0 l1 l2 l3 l4 l5 l6 : Option CV} {z : Int} : Rr C mX11_isUnder (8, [l0, l1, l2, l3, l4, l5, l6], qi z :: st, M) x = Rr C mX11_isUnder (10, [l0, l1, l2, q_cut l3, some (qi z), l5, l6], st, M) x := g_pl (show decode cX11_isUnder 8 = .ok (.istore 4, 2) by decide +kernel) rfl
set_option maxRecDepth 20000 in
theorem kX11_isUnder_10 {C : QC} {x : QP} {M : QM} {st : List CV} {L : QL} : Rr C mX11_isUnder (10, L, st, M) x = Rr C mX11_isUnder (11, L, qi 0 :: st, M) x := g_pl (show decode cX11_isUnder 10 = .ok (.iconst 0, 1) by decide +kernel) rfl
set_option maxRecDepth 20000 in
theorem kX11_isUnder_11 {C : QC} {x : QP} {M : QM} {st : List CV} {L : QL} {l0 l1 l2 l3 l4 l5 l6 : Option CV} {z : Int} : Rr C mX11_isUnder (11, [l0, l1, l2, l3, l4, l5, l6], qi z :: st, M) x = Rr C mX11_isUnder (13, [l0, l1, l2, l3, q_cut l4, some (qi z), l6], st, M) x := g_pl (show decode cX11_isUnder 11 = .ok (.istore 5, 2) by decide +kernel) rfl
set_option maxRecDepth 20000 in
theorem kX11_isUnder_13 {C : QC} {x : QP} {M : QM} {st : List CV} {L : QL} {l0 l1 l2 l3 l4 l5 l6 : Option CV} {z : Int} : Rr C mX11_isUnder (13, [l0, l1, l2, l3, l4, some (qi z), l6], st, M) x = Rr C mX11_isUnder (15, [l0, l1, l2, l3, l4, some (qi z), l6], qi z :: st, M) x := g_pl (show decode cX11_isUnder 13 = .ok (.iload 5, 2) by decide +kernel) rfl
set_option maxRecDepth 20000 in
theorem kX11_isUnder_15 {C : QC} {x : QP} {M : QM} {st : List CV} {L : QL} : Rr C mX11_isUnder (15, L, st, M) x = Rr C mX11_isUnder (16, L, qi 4 :: st, M) x := g_pl (show decode cX11_isUnder 15 = .ok (.iconst 4, 1) by decide +kernel) rfl
set_option maxRecDepth 20000 in
theorem kX11_isUnder_16 {C : QC} {x : QP} {M : QM} {st : List CV} {L : QL} {a b : Int} (ha1 : -2147483648 ≤ a) (ha2 : a < 2147483648) (hb1 : -2147483648 ≤ b) (hb2 : b < 2147483648) : Rr C mX11_isUnder (16, L, qi b :: qi a :: st, M) x = (if a < b then Rr C mX11_isUnder (19, L, st, M) x else Rr C mX11_isUnder (60, L, st, M) x) := (g_icmp (show decode cX11_isUnder 16 = .ok (.if_icmp .ge 44, 3) by decide +kernel) rfl ha1 ha2 hb1 hb2).trans (g_itn c_ge)
set_option maxRecDepth 20000 in
theorem kX11_isUnder_19 {C : QC} {x : QP} {M : QM} {st : List CV} {L : QL} {l0 l1 l2 l3 l4 l5 l6 : Option CV} {z : Int} : Rr C mX11_isUnder (19, [l0, l1, l2, l3, some (qi z), l5, l6], st, M) x = Rr C mX11_isUnder (21, [l0, l1, l2, l3, some (qi z), l5, l6], qi z :: st, M) x := g_pl (show decode cX11_isUnder 19 = .ok (.iload 4, 2) by decide +kernel) rfl
set_option maxRecDepth 20000 in
theorem kX11_isUnder_21 {C : QC} {x : QP} {M : QM} {st : List CV} {L : QL} {l0 l1 l2 l3 l4 l5 l6 : Option CV} {z : Int} : Rr C mX11_isUnder (21, [l0, l1, some (qi z), l3, l4, l5, l6], st, M) x = Rr C mX11_isUnder (22, [l0, l1, some (qi z), l3, l4, l5, l6], qi z :: st, M) x := g_pl (show decode cX11_isUnder 21 = .ok (.iload_n 2, 1) by decide +kernel) rfl
set_option maxRecDepth 20000 in
theorem kX11_isUnder_22 {C : QC} {x : QP} {M : QM} {st : List CV} {L : QL} {a b : Int} (ha1 : -2147483648 ≤ a) (ha2 : a < 2147483648) (hb1 : -2147483648 ≤ b) (hb2 : b < 2147483648) : Rr C mX11_isUnder (22, L, qi b :: qi a :: st, M) x = (if a = b then Rr C mX11_isUnder (60, L, st, M) x else Rr C mX11_isUnder (25, L, st, M) x) := (g_icmp (show decode cX11_isUnder 22 = .ok (.if_icmp .eq 38, 3) by decide +kernel) rfl ha1 ha2 hb1 hb2).trans (g_ite c_eq)
set_option maxRecDepth 20000 in
theorem kX11_isUnder_25 {C : QC} {x : QP} {M : QM} {st : List CV} {L : QL} {l0 l1 l2 l3 l4 l5 l6 : Option CV} {r : Option Nat} : Rr C mX11_isUnder (25, [some (.inr (.inr r)), l1, l2, l3, l4, l5, l6], st, M) x = Rr C mX11_isUnder (26, [some (.inr (.inr r)), l1, l2, l3, l4, l5, l6], .inr (.inr r) :: st, M) x := g_pl (show decode cX11_isUnder 25 = .ok (.aload_n 0, 1) by decide +kernel) rfl
set_option maxRecDepth 20000 in
theorem kX11_isUnder_26 {C : QC} {x : QP} {M : QM} {st : List CV} {L : QL} {l0 l1 l2 l3 l4 l5 l6 : Option CV} {z : Int} : Rr C mX11_isUnder (26, [l0, l1, l2, l3, some (qi z), l5, l6], st, M) x = Rr C mX11_isUnder (28, [l0, l1, l2, l3, some (qi z), l5, l6], qi z :: st, M) x := g_pl (show decode cX11_isUnder 26 = .ok (.iload 4, 2) by decide +kernel) rfl
set_option maxRecDepth 20000 in
theorem kX11_isUnder_28 {C : QC} {x : QP} {M : QM} {L : QL} {rest : List CV} {a0 : CV} {v : CV} {M1 : QM} {b : Nat} (hb : q_kd M b = (1, 11)) (hC : C iX11_place [qr b, a0] M (some v) M1) (hw : (rest.map q_wd).sum ≤ 8) (k : Rr C mX11_isUnder (31, L, v :: rest, M1) x) : Rr C mX11_isUnder (28, L, a0 :: qr b :: rest, M) x := g_cv (ow := 11) (e := (0, 30, 11, [679, 504, 505, 83])) (as := [a0]) (show decode cX11_isUnder 28 = .ok (.invokevirtual 72, 3) by decide +kernel) rfl rfl rfl (Or.inl rfl) rfl hb hC hw k
set_option maxRecDepth 20000 in
theorem kX11_isUnder_31 {C : QC} {x : QP} {M : QM} {st : List CV} {L : QL} {l0 l1 l2 l3 l4 l5 l6 : Option CV} {z : Option Nat} : Rr C mX11_isUnder (31, [l0, l1, l2, l3, l4, l5, l6], .inr (.inr z) :: st, M) x = Rr C mX11_isUnder (33, [l0, l1, l2, l3, l4, q_cut l5, some (.inr (.inr z))], st, M) x := g_pl (show decode cX11_isUnder 31 = .ok (.astore 6, 2) by decide +kernel) rfl
set_option maxRecDepth 20000 in
theorem kX11_isUnder_33 {C : QC} {x : QP} {M : QM} {st : List CV} {L : QL} {l0 l1 l2 l3 l4 l5 l6 : Option CV} {r : Option Nat} : Rr C mX11_isUnder (33, [l0, l1, l2, l3, l4, l5, some (.inr (.inr r))], st, M) x = Rr C mX11_isUnder (35, [l0, l1, l2, l3, l4, l5, some (.inr (.inr r))], .inr (.inr r) :: st, M) x := g_pl (show decode cX11_isUnder 33 = .ok (.aload 6, 2) by decide +kernel) rfl
set_option maxRecDepth 20000 in
theorem kX11_isUnder_35r {C : QC} {x : QP} {M : QM} {st : List CV} {L : QL} {a : Nat} : Rr C mX11_isUnder (35, L, qr a :: st, M) x = Rr C mX11_isUnder (43, L, st, M) x := g_pl (show decode cX11_isUnder 35 = .ok (.ifnonnull 8, 3) by decide +kernel) rfl
set_option maxRecDepth 20000 in
theorem kX11_isUnder_35n {C : QC} {x : QP} {M : QM} {st : List CV} {L : QL} : Rr C mX11_isUnder (35, L, qn :: st, M) x = Rr C mX11_isUnder (38, L, st, M) x := g_pl (show decode cX11_isUnder 35 = .ok (.ifnonnull 8, 3) by decide +kernel) rfl
set_option maxRecDepth 20000 in
theorem kX11_isUnder_38 {C : QC} {x : QP} {M : QM} {st : List CV} {L : QL} : Rr C mX11_isUnder (38, L, st, M) x = Rr C mX11_isUnder (40, L, qi (-5) :: st, M) x := g_pl (show decode cX11_isUnder 38 = .ok (.bipush (-5), 2) by decide +kernel) rfl
set_option maxRecDepth 20000 in
theorem kX11_isUnder_40 {C : QC} {x : QP} {M : QM} {st : List CV} {L : QL} : Rr C mX11_isUnder (40, L, st, M) x = Rr C mX11_isUnder (52, L, st, M) x := g_pl (show decode cX11_isUnder 40 = .ok (.goto 12, 3) by decide +kernel) rfl
set_option maxRecDepth 20000 in
theorem kX11_isUnder_43 {C : QC} {x : QP} {M : QM} {st : List CV} {L : QL} {l0 l1 l2 l3 l4 l5 l6 : Option CV} {r : Option Nat} : Rr C mX11_isUnder (43, [l0, l1, l2, l3, l4, l5, some (.inr (.inr r))], st, M) x = Rr C mX11_isUnder (45, [l0, l1, l2, l3, l4, l5, some (.inr (.inr r))], .inr (.inr r) :: st, M) x := g_pl (show decode cX11_isUnder 43 = .ok (.aload 6, 2) by decide +kernel) rfl
set_option maxRecDepth 20000 in
theorem kX11_isUnder_45 {C : QC} {x : QP} {M : QM} {st : List CV} {L : QL} {a : Nat} (hk : q_kd M a = (1, 4)) : Rr C mX11_isUnder (45, L, qr a :: st, M) x = Rr C mX11_isUnder (48, L, q_fv M a 7 :: st, M) x := g_getf (ow := 11) (e := (4, 7, RX4, 290, 0)) (show decode cX11_isUnder 45 = .ok (.getfield 132, 3) by decide +kernel) rfl hk
set_option maxRecDepth 20000 in
theorem kX11_isUnder_48 {C : QC} {x : QP} {M : QM} {st : List CV} {L : QL} {l0 l1 l2 l3 l4 l5 l6 : Option CV} {z : Int} : Rr C mX11_isUnder (48, [l0, l1, l2, some (qi z), l4, l5, l6], st, M) x = Rr C mX11_isUnder (49, [l0, l1, l2, some (qi z), l4, l5, l6], qi z :: st, M) x := g_pl (show decode cX11_isUnder 48 = .ok (.iload_n 3, 1) by decide +kernel) rfl
set_option maxRecDepth 20000 in
theorem kX11_isUnder_49 {C : QC} {x : QP} {M : QM} {L : QL} {rest : List CV} {a0 : CV} {v : CV} {M1 : QM} {b : Nat} (hb : q_kd M b = (1, 9)) (hC : C iX9_at [qr b, a0] M (some v) M1) (hw : (rest.map q_wd).sum ≤ 8) (k : Rr C mX11_isUnder (52, L, v :: rest, M1) x) : Rr C mX11_isUnder (49, L, a0 :: qr b :: rest, M) x := g_cv (ow := 11) (e := (0, 36, 9, [718, 526, 527, 87])) (as := [a0]) (show decode cX11_isUnder 49 = .ok (.invokevirtual 136, 3) by decide +kernel) rfl rfl rfl (Or.inl rfl) rfl hb hC hw k
set_option maxRecDepth 20000 in
theorem kX11_isUnder_52 {C : QC} {x : QP} {M : QM} {st : List CV} {L : QL} {l0 l1 l2 l3 l4 l5 l6 : Option CV} {z : Int} : Rr C mX11_isUnder (52, [l0, l1, l2, l3, l4, l5, l6], qi z :: st, M) x = Rr C mX11_isUnder (54, [l0, l1, l2, q_cut l3, some (qi z), l5, l6], st, M) x := g_pl (show decode cX11_isUnder 52 = .ok (.istore 4, 2) by decide +kernel) rfl
set_option maxRecDepth 20000 in
theorem kX11_isUnder_54 {C : QC} {x : QP} {M : QM} {st : List CV} {L : QL} {l0 l1 l2 l3 l4 l5 l6 : Option CV} {z : Int} : Rr C mX11_isUnder (54, [l0, l1, l2, l3, l4, some (qi z), l6], st, M) x = Rr C mX11_isUnder (57, [l0, l1, l2, l3, q_cut l4, some (qi (z + 1)), l6], st, M) x := g_pl (show decode cX11_isUnder 54 = .ok (.iinc 5 1, 3) by decide +kernel) rfl
set_option maxRecDepth 20000 in
theorem kX11_isUnder_57 {C : QC} {x : QP} {M : QM} {st : List CV} {L : QL} : Rr C mX11_isUnder (57, L, st, M) x = Rr C mX11_isUnder (13, L, st, M) x := g_pl (show decode cX11_isUnder 57 = .ok (.goto (-44), 3) by decide +kernel) rfl
set_option maxRecDepth 20000 in
theorem kX11_isUnder_60 {C : QC} {x : QP} {M : QM} {st : List CV} {L : QL} {l0 l1 l2 l3 l4 l5 l6 : Option CV} {z : Int} : Rr C mX11_isUnder (60, [l0, l1, l2, l3, some (qi z), l5, l6], st, M) x = Rr C mX11_isUnder (62, [l0, l1, l2, l3, some (qi z), l5, l6], qi z :: st, M) x := g_pl (show decode cX11_isUnder 60 = .ok (.iload 4, 2) by decide +kernel) rfl
set_option maxRecDepth 20000 in
theorem kX11_isUnder_62 {C : QC} {x : QP} {M : QM} {st : List CV} {L : QL} {l0 l1 l2 l3 l4 l5 l6 : Option CV} {z : Int} : Rr C mX11_isUnder (62, [l0, l1, some (qi z), l3, l4, l5, l6], st, M) x = Rr C mX11_isUnder (63, [l0, l1, some (qi z), l3, l4, l5, l6], qi z :: st, M) x := g_pl (show decode cX11_isUnder 62 = .ok (.iload_n 2, 1) by decide +kernel) rfl
set_option maxRecDepth 20000 in
theorem kX11_isUnder_63 {C : QC} {x : QP} {M : QM} {st : List CV} {L : QL} {a b : Int} (ha1 : -2147483648 ≤ a) (ha2 : a < 2147483648) (hb1 : -2147483648 ≤ b) (hb2 : b < 2147483648) : Rr C mX11_isUnder (63, L, qi b :: qi a :: st, M) x = (if a = b then Rr C mX11_isUnder (66, L, st, M) x else Rr C mX11_isUnder (70, L, st, M) x) := (g_icmp (show decode cX11_isUnder 63 = .ok (.if_icmp .ne 7, 3) by decide +kernel) rfl ha1 ha2 hb1 hb2).trans (g_itn c_ne)
set_option maxRecDepth 20000 in
theorem kX11_isUnder_66 {C : QC} {x : QP} {M : QM} {st : List CV} {L : QL} : Rr C mX11_isUnder (66, L, st, M) x = Rr C mX11_isUnder (67, L, qi 1 :: st, M) x := g_pl (show decode cX11_isUnder 66 = .ok (.iconst 1, 1) by decide +kernel) rfl
set_option maxRecDepth 20000 in
theorem kX11_isUnder_67 {C : QC} {x : QP} {M : QM} {st : List CV} {L : QL} : Rr C mX11_isUnder (67, L, st, M) x = Rr C mX11_isUnder (71, L, st, M) x := g_pl (show decode cX11_isUnder 67 = .ok (.goto 4, 3) by decide +kernel) rfl
set_option maxRecDepth 20000 in
theorem kX11_isUnder_70 {C : QC} {x : QP} {M : QM} {st : List CV} {L : QL} : Rr C mX11_isUnder (70, L, st, M) x = Rr C mX11_isUnder (71, L, qi 0 :: st, M) x := g_pl (show decode cX11_isUnder 70 = .ok (.iconst 0, 1) by decide +kernel) rfl
set_option maxRecDepth 20000 in
theorem kX11_isUnder_71 {C : QC} {x : QP} {M : QM} {st : List CV} {L : QL} {z : Int} (hz : z = 0 ∨ z = 1) : Rr C mX11_isUnder (71, L, [qi z], M) x = x (some (qi z)) M := g_iret (show decode cX11_isUnder 71 = .ok (.ireturn, 1) by decide +kernel) (by rcases hz with rfl | rfl <;> rfl)
set_option maxRecDepth 20000 in
theorem eX11_isUnder {d : Nat} {M : QM} {x : QP} {a : Nat} {v0 : Option Nat} {v1 : Int} {v2 : Int} : q_T (d + 1) iX11_isUnder [qr a, .inr (.inr v0), qi v1, qi v2] M x = Rr (q_C d) mX11_isUnder (0, [some (qr a), some (.inr (.inr v0)), some (qi v1), some (qi v2), none, none, none], [], M) x := g_entryT (e := _) rfl (Nat.le_of_ble_eq_true rfl) rfl rfl
def mX11_childrenOf : QI := (11, cX11_childrenOf, false, some .int)
set_option maxRecDepth 20000 in
theorem kX11_childrenOf_0 {C : QC} {x : QP} {M : QM} {st : List CV} {L : QL} {l0 l1 l2 : Option CV} {r : Option Nat} : Rr C mX11_childrenOf (0, [some (.inr (.inr r)), l1, l2], st, M) x = Rr C mX11_childrenOf (1, [some (.inr (.inr r)), l1, l2], .inr (.inr r) :: st, M) x := g_pl (show decode cX11_childrenOf 0 = .ok (.aload_n 0, 1) by decide +kernel) rfl
set_option maxRecDepth 20000 in
theorem kX11_childrenOf_1 {C : QC} {x : QP} {M : QM} {st : List CV} {L : QL} : Rr C mX11_childrenOf (1, L, st, M) x = Rr C mX11_childrenOf (2, L, qi 1 :: st, M) x := g_pl (show decode cX11_childrenOf 1 = .ok (.iconst 1, 1) by decide +kernel) rfl
set_option maxRecDepth 20000 in
theorem kX11_childrenOf_2 {C : QC} {x : QP} {M : QM} {st : List CV} {L : QL} {l0 l1 l2 : Option CV} {z : Int} : Rr C mX11_childrenOf (2, [l0, some (qi z), l2], st, M) x = Rr C mX11_childrenOf (3, [l0, some (qi z), l2], qi z :: st, M) x := g_pl (show decode cX11_childrenOf 2 = .ok (.iload_n 1, 1) by decide +kernel) rfl
set_option maxRecDepth 20000 in
theorem kX11_childrenOf_3 {C : QC} {x : QP} {M : QM} {st : List CV} {L : QL} {l0 l1 l2 : Option CV} {z : Int} : Rr C mX11_childrenOf (3, [l0, l1, some (qi z)], st, M) x = Rr C mX11_childrenOf (4, [l0, l1, some (qi z)], qi z :: st, M) x := g_pl (show decode cX11_childrenOf 3 = .ok (.iload_n 2, 1) by decide +kernel) rfl
set_option maxRecDepth 20000 in
theorem kX11_childrenOf_4 {C : QC} {x : QP} {M : QM} {L : QL} {rest : List CV} {a0 a1 a2 : CV} {v : CV} {M1 : QM} {b : Nat} (hb : q_kd M b = (1, 11)) (hC : C iX11_leafSet [qr b, a0, a1, a2] M (some v) M1) (hw : (rest.map q_wd).sum ≤ 8) (k : Rr C mX11_childrenOf (7, L, v :: rest, M1) x) : Rr C mX11_childrenOf (4, L, a2 :: a1 :: a0 :: qr b :: rest, M) x := g_cv (ow := 11) (e := (0, 114, 11, [893, 894, 895, 83])) (as := [a0, a1, a2]) (show decode cX11_childrenOf 4 = .ok (.invokevirtual 169, 3) by decide +kernel) rfl rfl rfl (Or.inl rfl) rfl hb hC hw k
set_option maxRecDepth 20000 in
theorem kX11_childrenOf_7 {C : QC} {x : QP} {M : QM} {L : QL} {rest : List CV} {a0 : CV} {v : CV} {M1 : QM} (hC : C iJ6_bitCount_0f7a4 [a0] M (some v) M1) (hw : (rest.map q_wd).sum ≤ 8) (k : Rr C mX11_childrenOf (10, L, v :: rest, M1) x) : Rr C mX11_childrenOf (7, L, a0 :: rest, M) x := g_cs (ow := 11) (e := (1, 117, 0, [906, 907, 105])) (as := [a0]) (show decode cX11_childrenOf 7 = .ok (.invokestatic 172, 3) by decide +kernel) rfl rfl rfl rfl (Or.inl rfl) rfl hC hw k
set_option maxRecDepth 20000 in
theorem kX11_childrenOf_10 {C : QC} {x : QP} {M : QM} {st : List CV} {L : QL} {z : Int} : Rr C mX11_childrenOf (10, L, [qi z], M) x = x (some (qi z)) M := g_iret (show decode cX11_childrenOf 10 = .ok (.ireturn, 1) by decide +kernel) rfl
set_option maxRecDepth 20000 in
theorem eX11_childrenOf {d : Nat} {M : QM} {x : QP} {a : Nat} {v0 : Int} {v1 : Int} : q_T (d + 1) iX11_childrenOf [qr a, qi v0, qi v1] M x = Rr (q_C d) mX11_childrenOf (0, [some (qr a), some (qi v0), some (qi v1)], [], M) x := g_entryT (e := _) rfl (Nat.le_of_ble_eq_true rfl) rfl rfl
def mX11_existingOn : QI := (11, cX11_existingOn, false, some .int)
set_option maxRecDepth 20000 in
theorem kX11_existingOn_0 {C : QC} {x : QP} {M : QM} {st : List CV} {L : QL} : Rr C mX11_existingOn (0, L, st, M) x = Rr C mX11_existingOn (1, L, qi 0 :: st, M) x := g_pl (show decode cX11_existingOn 0 = .ok (.iconst 0, 1) by decide +kernel) rfl
set_option maxRecDepth 20000 in
theorem kX11_existingOn_1 {C : QC} {x : QP} {M : QM} {st : List CV} {L : QL} {l0 l1 l2 l3 l4 : Option CV} {z : Int} : Rr C mX11_existingOn (1, [l0, l1, l2, l3, l4], qi z :: st, M) x = Rr C mX11_existingOn (2, [l0, q_cut l1, some (qi z), l3, l4], st, M) x := g_pl (show decode cX11_existingOn 1 = .ok (.istore_n 2, 1) by decide +kernel) rfl
set_option maxRecDepth 20000 in
theorem kX11_existingOn_2 {C : QC} {x : QP} {M : QM} {st : List CV} {L : QL} : Rr C mX11_existingOn (2, L, st, M) x = Rr C mX11_existingOn (3, L, qi 0 :: st, M) x := g_pl (show decode cX11_existingOn 2 = .ok (.iconst 0, 1) by decide +kernel) rfl
set_option maxRecDepth 20000 in
theorem kX11_existingOn_3 {C : QC} {x : QP} {M : QM} {st : List CV} {L : QL} {l0 l1 l2 l3 l4 : Option CV} {z : Int} : Rr C mX11_existingOn (3, [l0, l1, l2, l3, l4], qi z :: st, M) x = Rr C mX11_existingOn (4, [l0, l1, q_cut l2, some (qi z), l4], st, M) x := g_pl (show decode cX11_existingOn 3 = .ok (.istore_n 3, 1) by decide +kernel) rfl
set_option maxRecDepth 20000 in
theorem kX11_existingOn_4 {C : QC} {x : QP} {M : QM} {st : List CV} {L : QL} {l0 l1 l2 l3 l4 : Option CV} {z : Int} : Rr C mX11_existingOn (4, [l0, l1, l2, some (qi z), l4], st, M) x = Rr C mX11_existingOn (5, [l0, l1, l2, some (qi z), l4], qi z :: st, M) x := g_pl (show decode cX11_existingOn 4 = .ok (.iload_n 3, 1) by decide +kernel) rfl
set_option maxRecDepth 20000 in
theorem kX11_existingOn_5 {C : QC} {x : QP} {M : QM} {st : List CV} {L : QL} {l0 l1 l2 l3 l4 : Option CV} {r : Option Nat} : Rr C mX11_existingOn (5, [some (.inr (.inr r)), l1, l2, l3, l4], st, M) x = Rr C mX11_existingOn (6, [some (.inr (.inr r)), l1, l2, l3, l4], .inr (.inr r) :: st, M) x := g_pl (show decode cX11_existingOn 5 = .ok (.aload_n 0, 1) by decide +kernel) rfl
set_option maxRecDepth 20000 in
theorem kX11_existingOn_6 {C : QC} {x : QP} {M : QM} {st : List CV} {L : QL} {a : Nat} (hk : q_kd M a = (1, 11)) : Rr C mX11_existingOn (6, L, qr a :: st, M) x = Rr C mX11_existingOn (9, L, q_fv M a 4 :: st, M) x := g_getf (ow := 11) (e := (11, 4, RX11, 321, 0)) (show decode cX11_existingOn 6 = .ok (.getfield 31, 3) by decide +kernel) rfl hk
set_option maxRecDepth 20000 in
theorem kX11_existingOn_9 {C : QC} {x : QP} {M : QM} {st : List CV} {L : QL} {a b : Int} (ha1 : -2147483648 ≤ a) (ha2 : a < 2147483648) (hb1 : -2147483648 ≤ b) (hb2 : b < 2147483648) : Rr C mX11_existingOn (9, L, qi b :: qi a :: st, M) x = (if a < b then Rr C mX11_existingOn (12, L, st, M) x else Rr C mX11_existingOn (46, L, st, M) x) := (g_icmp (show decode cX11_existingOn 9 = .ok (.if_icmp .ge 37, 3) by decide +kernel) rfl ha1 ha2 hb1 hb2).trans (g_itn c_ge)
set_option maxRecDepth 20000 in
theorem kX11_existingOn_12 {C : QC} {x : QP} {M : QM} {st : List CV} {L : QL} {l0 l1 l2 l3 l4 : Option CV} {r : Option Nat} : Rr C mX11_existingOn (12, [some (.inr (.inr r)), l1, l2, l3, l4], st, M) x = Rr C mX11_existingOn (13, [some (.inr (.inr r)), l1, l2, l3, l4], .inr (.inr r) :: st, M) x := g_pl (show decode cX11_existingOn 12 = .ok (.aload_n 0, 1) by decide +kernel) rfl
set_option maxRecDepth 20000 in
theorem kX11_existingOn_13 {C : QC} {x : QP} {M : QM} {st : List CV} {L : QL} {a : Nat} (hk : q_kd M a = (1, 11)) : Rr C mX11_existingOn (13, L, qr a :: st, M) x = Rr C mX11_existingOn (16, L, q_fv M a 3 :: st, M) x := g_getf (ow := 11) (e := (11, 3, RX11, 320, 0)) (show decode cX11_existingOn 13 = .ok (.getfield 27, 3) by decide +kernel) rfl hk
set_option maxRecDepth 20000 in
theorem kX11_existingOn_16 {C : QC} {x : QP} {M : QM} {st : List CV} {L : QL} {l0 l1 l2 l3 l4 : Option CV} {z : Int} : Rr C mX11_existingOn (16, [l0, l1, l2, some (qi z), l4], st, M) x = Rr C mX11_existingOn (17, [l0, l1, l2, some (qi z), l4], qi z :: st, M) x := g_pl (show decode cX11_existingOn 16 = .ok (.iload_n 3, 1) by decide +kernel) rfl
set_option maxRecDepth 20000 in
theorem kX11_existingOn_17 {C : QC} {x : QP} {M : QM} {st : List CV} {L : QL} {a : Nat} {j : Int} (hk : (q_kd M a).1 = 5 ∨ (q_kd M a).1 = 6) (h0 : 0 ≤ j) (h1 : j < ((q_kd M a).2 : Int)) : Rr C mX11_existingOn (17, L, qi j :: qr a :: st, M) x = Rr C mX11_existingOn (18, L, q_fv M a j.toNat :: st, M) x := g_aald (show decode cX11_existingOn 17 = .ok (.aaload, 1) by decide +kernel) hk h0 h1
set_option maxRecDepth 20000 in
theorem kX11_existingOn_18 {C : QC} {x : QP} {M : QM} {st : List CV} {L : QL} {l0 l1 l2 l3 l4 : Option CV} {z : Option Nat} : Rr C mX11_existingOn (18, [l0, l1, l2, l3, l4], .inr (.inr z) :: st, M) x = Rr C mX11_existingOn (20, [l0, l1, l2, q_cut l3, some (.inr (.inr z))], st, M) x := g_pl (show decode cX11_existingOn 18 = .ok (.astore 4, 2) by decide +kernel) rfl
set_option maxRecDepth 20000 in
theorem kX11_existingOn_20 {C : QC} {x : QP} {M : QM} {st : List CV} {L : QL} {l0 l1 l2 l3 l4 : Option CV} {r : Option Nat} : Rr C mX11_existingOn (20, [l0, l1, l2, l3, some (.inr (.inr r))], st, M) x = Rr C mX11_existingOn (22, [l0, l1, l2, l3, some (.inr (.inr r))], .inr (.inr r) :: st, M) x := g_pl (show decode cX11_existingOn 20 = .ok (.aload 4, 2) by decide +kernel) rfl
set_option maxRecDepth 20000 in
theorem kX11_existingOn_22r {C : QC} {x : QP} {M : QM} {st : List CV} {L : QL} {a : Nat} : Rr C mX11_existingOn (22, L, qr a :: st, M) x = Rr C mX11_existingOn (25, L, st, M) x := g_pl (show decode cX11_existingOn 22 = .ok (.ifnull 18, 3) by decide +kernel) rfl
set_option maxRecDepth 20000 in
theorem kX11_existingOn_22n {C : QC} {x : QP} {M : QM} {st : List CV} {L : QL} : Rr C mX11_existingOn (22, L, qn :: st, M) x = Rr C mX11_existingOn (40, L, st, M) x := g_pl (show decode cX11_existingOn 22 = .ok (.ifnull 18, 3) by decide +kernel) rfl
set_option maxRecDepth 20000 in
theorem kX11_existingOn_25 {C : QC} {x : QP} {M : QM} {st : List CV} {L : QL} {l0 l1 l2 l3 l4 : Option CV} {r : Option Nat} : Rr C mX11_existingOn (25, [l0, l1, l2, l3, some (.inr (.inr r))], st, M) x = Rr C mX11_existingOn (27, [l0, l1, l2, l3, some (.inr (.inr r))], .inr (.inr r) :: st, M) x := g_pl (show decode cX11_existingOn 25 = .ok (.aload 4, 2) by decide +kernel) rfl
set_option maxRecDepth 20000 in
theorem kX11_existingOn_27 {C : QC} {x : QP} {M : QM} {st : List CV} {L : QL} {l0 l1 l2 l3 l4 : Option CV} {z : Int} : Rr C mX11_existingOn (27, [l0, some (qi z), l2, l3, l4], st, M) x = Rr C mX11_existingOn (28, [l0, some (qi z), l2, l3, l4], qi z :: st, M) x := g_pl (show decode cX11_existingOn 27 = .ok (.iload_n 1, 1) by decide +kernel) rfl
set_option maxRecDepth 20000 in
theorem kX11_existingOn_28 {C : QC} {x : QP} {M : QM} {L : QL} {rest : List CV} {a0 : CV} {v : CV} {M1 : QM} {b : Nat} (hb : q_kd M b = (1, 4)) (hC : C iX4_existsOn [qr b, a0] M (some v) M1) (hw : (rest.map q_wd).sum ≤ 8) (k : Rr C mX11_existingOn (31, L, v :: rest, M1) x) : Rr C mX11_existingOn (28, L, a0 :: qr b :: rest, M) x := g_cv (ow := 11) (e := (0, 109, 4, [897, 870, 871, 85])) (as := [a0]) (show decode cX11_existingOn 28 = .ok (.invokevirtual 177, 3) by decide +kernel) rfl rfl rfl (Or.inl rfl) rfl hb hC hw k
set_option maxRecDepth 20000 in
theorem kX11_existingOn_31 {C : QC} {x : QP} {M : QM} {st : List CV} {L : QL} {a : Int} (ha1 : -2147483648 ≤ a) (ha2 : a < 2147483648) : Rr C mX11_existingOn (31, L, qi a :: st, M) x = (if a = 0 then Rr C mX11_existingOn (40, L, st, M) x else Rr C mX11_existingOn (34, L, st, M) x) := (g_if (show decode cX11_existingOn 31 = .ok (.ifCond .eq 9, 3) by decide +kernel) rfl ha1 ha2).trans (g_ite c_eq)
set_option maxRecDepth 20000 in
theorem kX11_existingOn_34 {C : QC} {x : QP} {M : QM} {st : List CV} {L : QL} {l0 l1 l2 l3 l4 : Option CV} {z : Int} : Rr C mX11_existingOn (34, [l0, l1, some (qi z), l3, l4], st, M) x = Rr C mX11_existingOn (35, [l0, l1, some (qi z), l3, l4], qi z :: st, M) x := g_pl (show decode cX11_existingOn 34 = .ok (.iload_n 2, 1) by decide +kernel) rfl
set_option maxRecDepth 20000 in
theorem kX11_existingOn_35 {C : QC} {x : QP} {M : QM} {st : List CV} {L : QL} : Rr C mX11_existingOn (35, L, st, M) x = Rr C mX11_existingOn (36, L, qi 1 :: st, M) x := g_pl (show decode cX11_existingOn 35 = .ok (.iconst 1, 1) by decide +kernel) rfl
set_option maxRecDepth 20000 in
theorem kX11_existingOn_36 {C : QC} {x : QP} {M : QM} {st : List CV} {L : QL} {l0 l1 l2 l3 l4 : Option CV} {z : Int} : Rr C mX11_existingOn (36, [l0, l1, l2, some (qi z), l4], st, M) x = Rr C mX11_existingOn (37, [l0, l1, l2, some (qi z), l4], qi z :: st, M) x := g_pl (show decode cX11_existingOn 36 = .ok (.iload_n 3, 1) by decide +kernel) rfl
set_option maxRecDepth 20000 in
theorem kX11_existingOn_37 {C : QC} {x : QP} {M : QM} {st : List CV} {L : QL} {a b : Int} : Rr C mX11_existingOn (37, L, qi b :: qi a :: st, M) x = Rr C mX11_existingOn (38, L, qi (q_shl a b) :: st, M) x := g_pl (show decode cX11_existingOn 37 = .ok (.ishl, 1) by decide +kernel) rfl
set_option maxRecDepth 20000 in
theorem kX11_existingOn_38 {C : QC} {x : QP} {M : QM} {st : List CV} {L : QL} {a b : Int} : Rr C mX11_existingOn (38, L, qi b :: qi a :: st, M) x = Rr C mX11_existingOn (39, L, qi (q_or a b) :: st, M) x := g_pl (show decode cX11_existingOn 38 = .ok (.ior, 1) by decide +kernel) rfl
set_option maxRecDepth 20000 in
theorem kX11_existingOn_39 {C : QC} {x : QP} {M : QM} {st : List CV} {L : QL} {l0 l1 l2 l3 l4 : Option CV} {z : Int} : Rr C mX11_existingOn (39, [l0, l1, l2, l3, l4], qi z :: st, M) x = Rr C mX11_existingOn (40, [l0, q_cut l1, some (qi z), l3, l4], st, M) x := g_pl (show decode cX11_existingOn 39 = .ok (.istore_n 2, 1) by decide +kernel) rfl
set_option maxRecDepth 20000 in
theorem kX11_existingOn_40 {C : QC} {x : QP} {M : QM} {st : List CV} {L : QL} {l0 l1 l2 l3 l4 : Option CV} {z : Int} : Rr C mX11_existingOn (40, [l0, l1, l2, some (qi z), l4], st, M) x = Rr C mX11_existingOn (43, [l0, l1, q_cut l2, some (qi (z + 1)), l4], st, M) x := g_pl (show decode cX11_existingOn 40 = .ok (.iinc 3 1, 3) by decide +kernel) rfl
set_option maxRecDepth 20000 in
theorem kX11_existingOn_43 {C : QC} {x : QP} {M : QM} {st : List CV} {L : QL} : Rr C mX11_existingOn (43, L, st, M) x = Rr C mX11_existingOn (4, L, st, M) x := g_pl (show decode cX11_existingOn 43 = .ok (.goto (-39), 3) by decide +kernel) rfl
set_option maxRecDepth 20000 in
theorem kX11_existingOn_46 {C : QC} {x : QP} {M : QM} {st : List CV} {L : QL} {l0 l1 l2 l3 l4 : Option CV} {z : Int} : Rr C mX11_existingOn (46, [l0, l1, some (qi z), l3, l4], st, M) x = Rr C mX11_existingOn (47, [l0, l1, some (qi z), l3, l4], qi z :: st, M) x := g_pl (show decode cX11_existingOn 46 = .ok (.iload_n 2, 1) by decide +kernel) rfl
set_option maxRecDepth 20000 in
theorem kX11_existingOn_47 {C : QC} {x : QP} {M : QM} {st : List CV} {L : QL} {z : Int} : Rr C mX11_existingOn (47, L, [qi z], M) x = x (some (qi z)) M := g_iret (show decode cX11_existingOn 47 = .ok (.ireturn, 1) by decide +kernel) rfl
set_option maxRecDepth 20000 in
theorem eX11_existingOn {d : Nat} {M : QM} {x : QP} {a : Nat} {v0 : Int} : q_T (d + 1) iX11_existingOn [qr a, qi v0] M x = Rr (q_C d) mX11_existingOn (0, [some (qr a), some (qi v0), none, none, none], [], M) x := g_entryT (e := _) rfl (Nat.le_of_ble_eq_true rfl) rfl rfl
def mX11_leafSet : QI := (11, cX11_leafSet, false, some .int)
set_option maxRecDepth 20000 in
theorem kX11_leafSet_0 {C : QC} {x : QP} {M : QM} {st : List CV} {L : QL} : Rr C mX11_leafSet (0, L, st, M) x = Rr C mX11_leafSet (1, L, qi 0 :: st, M) x := g_pl (show decode cX11_leafSet 0 = .ok (.iconst 0, 1) by decide +kernel) rfl
set_option maxRecDepth 20000 in
theorem kX11_leafSet_1 {C : QC} {x : QP} {M : QM} {st : List CV} {L : QL} {l0 l1 l2 l3 l4 l5 l6 : Option CV} {z : Int} : Rr C mX11_leafSet (1, [l0, l1, l2, l3, l4, l5, l6], qi z :: st, M) x = Rr C mX11_leafSet (3, [l0, l1, l2, q_cut l3, some (qi z), l5, l6], st, M) x := g_pl (show decode cX11_leafSet 1 = .ok (.istore 4, 2) by decide +kernel) rfl
set_option maxRecDepth 20000 in
theorem kX11_leafSet_3 {C : QC} {x : QP} {M : QM} {st : List CV} {L : QL} : Rr C mX11_leafSet (3, L, st, M) x = Rr C mX11_leafSet (4, L, qi 0 :: st, M) x := g_pl (show decode cX11_leafSet 3 = .ok (.iconst 0, 1) by decide +kernel) rfl
set_option maxRecDepth 20000 in
theorem kX11_leafSet_4 {C : QC} {x : QP} {M : QM} {st : List CV} {L : QL} {l0 l1 l2 l3 l4 l5 l6 : Option CV} {z : Int} : Rr C mX11_leafSet (4, [l0, l1, l2, l3, l4, l5, l6], qi z :: st, M) x = Rr C mX11_leafSet (6, [l0, l1, l2, l3, q_cut l4, some (qi z), l6], st, M) x := g_pl (show decode cX11_leafSet 4 = .ok (.istore 5, 2) by decide +kernel) rfl
set_option maxRecDepth 20000 in
theorem kX11_leafSet_6 {C : QC} {x : QP} {M : QM} {st : List CV} {L : QL} {l0 l1 l2 l3 l4 l5 l6 : Option CV} {z : Int} : Rr C mX11_leafSet (6, [l0, l1, l2, l3, l4, some (qi z), l6], st, M) x = Rr C mX11_leafSet (8, [l0, l1, l2, l3, l4, some (qi z), l6], qi z :: st, M) x := g_pl (show decode cX11_leafSet 6 = .ok (.iload 5, 2) by decide +kernel) rfl
set_option maxRecDepth 20000 in
theorem kX11_leafSet_8 {C : QC} {x : QP} {M : QM} {st : List CV} {L : QL} {l0 l1 l2 l3 l4 l5 l6 : Option CV} {r : Option Nat} : Rr C mX11_leafSet (8, [some (.inr (.inr r)), l1, l2, l3, l4, l5, l6], st, M) x = Rr C mX11_leafSet (9, [some (.inr (.inr r)), l1, l2, l3, l4, l5, l6], .inr (.inr r) :: st, M) x := g_pl (show decode cX11_leafSet 8 = .ok (.aload_n 0, 1) by decide +kernel) rfl
set_option maxRecDepth 20000 in
theorem kX11_leafSet_9 {C : QC} {x : QP} {M : QM} {st : List CV} {L : QL} {a : Nat} (hk : q_kd M a = (1, 11)) : Rr C mX11_leafSet (9, L, qr a :: st, M) x = Rr C mX11_leafSet (12, L, q_fv M a 4 :: st, M) x := g_getf (ow := 11) (e := (11, 4, RX11, 321, 0)) (show decode cX11_leafSet 9 = .ok (.getfield 31, 3) by decide +kernel) rfl hk
set_option maxRecDepth 20000 in
theorem kX11_leafSet_12 {C : QC} {x : QP} {M : QM} {st : List CV} {L : QL} {a b : Int} (ha1 : -2147483648 ≤ a) (ha2 : a < 2147483648) (hb1 : -2147483648 ≤ b) (hb2 : b < 2147483648) : Rr C mX11_leafSet (12, L, qi b :: qi a :: st, M) x = (if a < b then Rr C mX11_leafSet (15, L, st, M) x else Rr C mX11_leafSet (65, L, st, M) x) := (g_icmp (show decode cX11_leafSet 12 = .ok (.if_icmp .ge 53, 3) by decide +kernel) rfl ha1 ha2 hb1 hb2).trans (g_itn c_ge)
set_option maxRecDepth 20000 in
theorem kX11_leafSet_15 {C : QC} {x : QP} {M : QM} {st : List CV} {L : QL} {l0 l1 l2 l3 l4 l5 l6 : Option CV} {r : Option Nat} : Rr C mX11_leafSet (15, [some (.inr (.inr r)), l1, l2, l3, l4, l5, l6], st, M) x = Rr C mX11_leafSet (16, [some (.inr (.inr r)), l1, l2, l3, l4, l5, l6], .inr (.inr r) :: st, M) x := g_pl (show decode cX11_leafSet 15 = .ok (.aload_n 0, 1) by decide +kernel) rfl
set_option maxRecDepth 20000 in
theorem kX11_leafSet_16 {C : QC} {x : QP} {M : QM} {st : List CV} {L : QL} {a : Nat} (hk : q_kd M a = (1, 11)) : Rr C mX11_leafSet (16, L, qr a :: st, M) x = Rr C mX11_leafSet (19, L, q_fv M a 3 :: st, M) x := g_getf (ow := 11) (e := (11, 3, RX11, 320, 0)) (show decode cX11_leafSet 16 = .ok (.getfield 27, 3) by decide +kernel) rfl hk
set_option maxRecDepth 20000 in
theorem kX11_leafSet_19 {C : QC} {x : QP} {M : QM} {st : List CV} {L : QL} {l0 l1 l2 l3 l4 l5 l6 : Option CV} {z : Int} : Rr C mX11_leafSet (19, [l0, l1, l2, l3, l4, some (qi z), l6], st, M) x = Rr C mX11_leafSet (21, [l0, l1, l2, l3, l4, some (qi z), l6], qi z :: st, M) x := g_pl (show decode cX11_leafSet 19 = .ok (.iload 5, 2) by decide +kernel) rfl
set_option maxRecDepth 20000 in
theorem kX11_leafSet_21 {C : QC} {x : QP} {M : QM} {st : List CV} {L : QL} {a : Nat} {j : Int} (hk : (q_kd M a).1 = 5 ∨ (q_kd M a).1 = 6) (h0 : 0 ≤ j) (h1 : j < ((q_kd M a).2 : Int)) : Rr C mX11_leafSet (21, L, qi j :: qr a :: st, M) x = Rr C mX11_leafSet (22, L, q_fv M a j.toNat :: st, M) x := g_aald (show decode cX11_leafSet 21 = .ok (.aaload, 1) by decide +kernel) hk h0 h1
set_option maxRecDepth 20000 in
theorem kX11_leafSet_22 {C : QC} {x : QP} {M : QM} {st : List CV} {L : QL} {l0 l1 l2 l3 l4 l5 l6 : Option CV} {z : Option Nat} : Rr C mX11_leafSet (22, [l0, l1, l2, l3, l4, l5, l6], .inr (.inr z) :: st, M) x = Rr C mX11_leafSet (24, [l0, l1, l2, l3, l4, q_cut l5, some (.inr (.inr z))], st, M) x := g_pl (show decode cX11_leafSet 22 = .ok (.astore 6, 2) by decide +kernel) rfl
set_option maxRecDepth 20000 in
theorem kX11_leafSet_24 {C : QC} {x : QP} {M : QM} {st : List CV} {L : QL} {l0 l1 l2 l3 l4 l5 l6 : Option CV} {r : Option Nat} : Rr C mX11_leafSet (24, [l0, l1, l2, l3, l4, l5, some (.inr (.inr r))], st, M) x = Rr C mX11_leafSet (26, [l0, l1, l2, l3, l4, l5, some (.inr (.inr r))], .inr (.inr r) :: st, M) x := g_pl (show decode cX11_leafSet 24 = .ok (.aload 6, 2) by decide +kernel) rfl
set_option maxRecDepth 20000 in
theorem kX11_leafSet_26r {C : QC} {x : QP} {M : QM} {st : List CV} {L : QL} {a : Nat} : Rr C mX11_leafSet (26, L, qr a :: st, M) x = Rr C mX11_leafSet (29, L, st, M) x := g_pl (show decode cX11_leafSet 26 = .ok (.ifnull 33, 3) by decide +kernel) rfl
set_option maxRecDepth 20000 in
theorem kX11_leafSet_26n {C : QC} {x : QP} {M : QM} {st : List CV} {L : QL} : Rr C mX11_leafSet (26, L, qn :: st, M) x = Rr C mX11_leafSet (59, L, st, M) x := g_pl (show decode cX11_leafSet 26 = .ok (.ifnull 33, 3) by decide +kernel) rfl
set_option maxRecDepth 20000 in
theorem kX11_leafSet_29 {C : QC} {x : QP} {M : QM} {st : List CV} {L : QL} {l0 l1 l2 l3 l4 l5 l6 : Option CV} {r : Option Nat} : Rr C mX11_leafSet (29, [l0, l1, l2, l3, l4, l5, some (.inr (.inr r))], st, M) x = Rr C mX11_leafSet (31, [l0, l1, l2, l3, l4, l5, some (.inr (.inr r))], .inr (.inr r) :: st, M) x := g_pl (show decode cX11_leafSet 29 = .ok (.aload 6, 2) by decide +kernel) rfl
set_option maxRecDepth 20000 in
theorem kX11_leafSet_31 {C : QC} {x : QP} {M : QM} {st : List CV} {L : QL} {l0 l1 l2 l3 l4 l5 l6 : Option CV} {z : Int} : Rr C mX11_leafSet (31, [l0, l1, l2, some (qi z), l4, l5, l6], st, M) x = Rr C mX11_leafSet (32, [l0, l1, l2, some (qi z), l4, l5, l6], qi z :: st, M) x := g_pl (show decode cX11_leafSet 31 = .ok (.iload_n 3, 1) by decide +kernel) rfl
set_option maxRecDepth 20000 in
theorem kX11_leafSet_32 {C : QC} {x : QP} {M : QM} {L : QL} {rest : List CV} {a0 : CV} {v : CV} {M1 : QM} {b : Nat} (hb : q_kd M b = (1, 4)) (hC : C iX4_existsOn [qr b, a0] M (some v) M1) (hw : (rest.map q_wd).sum ≤ 8) (k : Rr C mX11_leafSet (35, L, v :: rest, M1) x) : Rr C mX11_leafSet (32, L, a0 :: qr b :: rest, M) x := g_cv (ow := 11) (e := (0, 109, 4, [897, 870, 871, 85])) (as := [a0]) (show decode cX11_leafSet 32 = .ok (.invokevirtual 177, 3) by decide +kernel) rfl rfl rfl (Or.inl rfl) rfl hb hC hw k
set_option maxRecDepth 20000 in
theorem kX11_leafSet_35 {C : QC} {x : QP} {M : QM} {st : List CV} {L : QL} {a : Int} (ha1 : -2147483648 ≤ a) (ha2 : a < 2147483648) : Rr C mX11_leafSet (35, L, qi a :: st, M) x = (if a = 0 then Rr C mX11_leafSet (59, L, st, M) x else Rr C mX11_leafSet (38, L, st, M) x) := (g_if (show decode cX11_leafSet 35 = .ok (.ifCond .eq 24, 3) by decide +kernel) rfl ha1 ha2).trans (g_ite c_eq)
set_option maxRecDepth 20000 in
theorem kX11_leafSet_38 {C : QC} {x : QP} {M : QM} {st : List CV} {L : QL} {l0 l1 l2 l3 l4 l5 l6 : Option CV} {r : Option Nat} : Rr C mX11_leafSet (38, [some (.inr (.inr r)), l1, l2, l3, l4, l5, l6], st, M) x = Rr C mX11_leafSet (39, [some (.inr (.inr r)), l1, l2, l3, l4, l5, l6], .inr (.inr r) :: st, M) x := g_pl (show decode cX11_leafSet 38 = .ok (.aload_n 0, 1) by decide +kernel) rfl
set_option maxRecDepth 20000 in
theorem kX11_leafSet_39 {C : QC} {x : QP} {M : QM} {st : List CV} {L : QL} {l0 l1 l2 l3 l4 l5 l6 : Option CV} {r : Option Nat} : Rr C mX11_leafSet (39, [l0, l1, l2, l3, l4, l5, some (.inr (.inr r))], st, M) x = Rr C mX11_leafSet (41, [l0, l1, l2, l3, l4, l5, some (.inr (.inr r))], .inr (.inr r) :: st, M) x := g_pl (show decode cX11_leafSet 39 = .ok (.aload 6, 2) by decide +kernel) rfl
set_option maxRecDepth 20000 in
theorem kX11_leafSet_41 {C : QC} {x : QP} {M : QM} {st : List CV} {L : QL} {l0 l1 l2 l3 l4 l5 l6 : Option CV} {z : Int} : Rr C mX11_leafSet (41, [l0, some (qi z), l2, l3, l4, l5, l6], st, M) x = Rr C mX11_leafSet (42, [l0, some (qi z), l2, l3, l4, l5, l6], qi z :: st, M) x := g_pl (show decode cX11_leafSet 41 = .ok (.iload_n 1, 1) by decide +kernel) rfl
set_option maxRecDepth 20000 in
theorem kX11_leafSet_42 {C : QC} {x : QP} {M : QM} {st : List CV} {L : QL} {l0 l1 l2 l3 l4 l5 l6 : Option CV} {z : Int} : Rr C mX11_leafSet (42, [l0, l1, some (qi z), l3, l4, l5, l6], st, M) x = Rr C mX11_leafSet (43, [l0, l1, some (qi z), l3, l4, l5, l6], qi z :: st, M) x := g_pl (show decode cX11_leafSet 42 = .ok (.iload_n 2, 1) by decide +kernel) rfl
set_option maxRecDepth 20000 in
theorem kX11_leafSet_43 {C : QC} {x : QP} {M : QM} {st : List CV} {L : QL} {l0 l1 l2 l3 l4 l5 l6 : Option CV} {z : Int} : Rr C mX11_leafSet (43, [l0, l1, l2, some (qi z), l4, l5, l6], st, M) x = Rr C mX11_leafSet (44, [l0, l1, l2, some (qi z), l4, l5, l6], qi z :: st, M) x := g_pl (show decode cX11_leafSet 43 = .ok (.iload_n 3, 1) by decide +kernel) rfl
set_option maxRecDepth 20000 in
theorem kX11_leafSet_44 {C : QC} {x : QP} {M : QM} {L : QL} {rest : List CV} {a0 a1 a2 a3 : CV} {v : CV} {M1 : QM} {b : Nat} (hb : q_kd M b = (1, 11)) (hC : C iX11_isFitting [qr b, a0, a1, a2, a3] M (some v) M1) (hw : (rest.map q_wd).sum ≤ 8) (k : Rr C mX11_leafSet (47, L, v :: rest, M1) x) : Rr C mX11_leafSet (44, L, a3 :: a2 :: a1 :: a0 :: qr b :: rest, M) x := g_cv (ow := 11) (e := (0, 115, 11, [898, 900, 20, 83])) (as := [a0, a1, a2, a3]) (show decode cX11_leafSet 44 = .ok (.invokevirtual 181, 3) by decide +kernel) rfl rfl rfl (Or.inl rfl) rfl hb hC hw k
set_option maxRecDepth 20000 in
theorem kX11_leafSet_47 {C : QC} {x : QP} {M : QM} {st : List CV} {L : QL} {a : Int} (ha1 : -2147483648 ≤ a) (ha2 : a < 2147483648) : Rr C mX11_leafSet (47, L, qi a :: st, M) x = (if a = 0 then Rr C mX11_leafSet (59, L, st, M) x else Rr C mX11_leafSet (50, L, st, M) x) := (g_if (show decode cX11_leafSet 47 = .ok (.ifCond .eq 12, 3) by decide +kernel) rfl ha1 ha2).trans (g_ite c_eq)
set_option maxRecDepth 20000 in
theorem kX11_leafSet_50 {C : QC} {x : QP} {M : QM} {st : List CV} {L : QL} {l0 l1 l2 l3 l4 l5 l6 : Option CV} {z : Int} : Rr C mX11_leafSet (50, [l0, l1, l2, l3, some (qi z), l5, l6], st, M) x = Rr C mX11_leafSet (52, [l0, l1, l2, l3, some (qi z), l5, l6], qi z :: st, M) x := g_pl (show decode cX11_leafSet 50 = .ok (.iload 4, 2) by decide +kernel) rfl
set_option maxRecDepth 20000 in
theorem kX11_leafSet_52 {C : QC} {x : QP} {M : QM} {st : List CV} {L : QL} : Rr C mX11_leafSet (52, L, st, M) x = Rr C mX11_leafSet (53, L, qi 1 :: st, M) x := g_pl (show decode cX11_leafSet 52 = .ok (.iconst 1, 1) by decide +kernel) rfl
set_option maxRecDepth 20000 in
theorem kX11_leafSet_53 {C : QC} {x : QP} {M : QM} {st : List CV} {L : QL} {l0 l1 l2 l3 l4 l5 l6 : Option CV} {z : Int} : Rr C mX11_leafSet (53, [l0, l1, l2, l3, l4, some (qi z), l6], st, M) x = Rr C mX11_leafSet (55, [l0, l1, l2, l3, l4, some (qi z), l6], qi z :: st, M) x := g_pl (show decode cX11_leafSet 53 = .ok (.iload 5, 2) by decide +kernel) rfl
set_option maxRecDepth 20000 in
theorem kX11_leafSet_55 {C : QC} {x : QP} {M : QM} {st : List CV} {L : QL} {a b : Int} : Rr C mX11_leafSet (55, L, qi b :: qi a :: st, M) x = Rr C mX11_leafSet (56, L, qi (q_shl a b) :: st, M) x := g_pl (show decode cX11_leafSet 55 = .ok (.ishl, 1) by decide +kernel) rfl
set_option maxRecDepth 20000 in
theorem kX11_leafSet_56 {C : QC} {x : QP} {M : QM} {st : List CV} {L : QL} {a b : Int} : Rr C mX11_leafSet (56, L, qi b :: qi a :: st, M) x = Rr C mX11_leafSet (57, L, qi (q_or a b) :: st, M) x := g_pl (show decode cX11_leafSet 56 = .ok (.ior, 1) by decide +kernel) rfl
set_option maxRecDepth 20000 in
theorem kX11_leafSet_57 {C : QC} {x : QP} {M : QM} {st : List CV} {L : QL} {l0 l1 l2 l3 l4 l5 l6 : Option CV} {z : Int} : Rr C mX11_leafSet (57, [l0, l1, l2, l3, l4, l5, l6], qi z :: st, M) x = Rr C mX11_leafSet (59, [l0, l1, l2, q_cut l3, some (qi z), l5, l6], st, M) x := g_pl (show decode cX11_leafSet 57 = .ok (.istore 4, 2) by decide +kernel) rfl
set_option maxRecDepth 20000 in
theorem kX11_leafSet_59 {C : QC} {x : QP} {M : QM} {st : List CV} {L : QL} {l0 l1 l2 l3 l4 l5 l6 : Option CV} {z : Int} : Rr C mX11_leafSet (59, [l0, l1, l2, l3, l4, some (qi z), l6], st, M) x = Rr C mX11_leafSet (62, [l0, l1, l2, l3, q_cut l4, some (qi (z + 1)), l6], st, M) x := g_pl (show decode cX11_leafSet 59 = .ok (.iinc 5 1, 3) by decide +kernel) rfl
set_option maxRecDepth 20000 in
theorem kX11_leafSet_62 {C : QC} {x : QP} {M : QM} {st : List CV} {L : QL} : Rr C mX11_leafSet (62, L, st, M) x = Rr C mX11_leafSet (6, L, st, M) x := g_pl (show decode cX11_leafSet 62 = .ok (.goto (-56), 3) by decide +kernel) rfl
set_option maxRecDepth 20000 in
theorem kX11_leafSet_65 {C : QC} {x : QP} {M : QM} {st : List CV} {L : QL} {l0 l1 l2 l3 l4 l5 l6 : Option CV} {z : Int} : Rr C mX11_leafSet (65, [l0, l1, l2, l3, some (qi z), l5, l6], st, M) x = Rr C mX11_leafSet (67, [l0, l1, l2, l3, some (qi z), l5, l6], qi z :: st, M) x := g_pl (show decode cX11_leafSet 65 = .ok (.iload 4, 2) by decide +kernel) rfl
set_option maxRecDepth 20000 in
theorem kX11_leafSet_67 {C : QC} {x : QP} {M : QM} {st : List CV} {L : QL} {z : Int} : Rr C mX11_leafSet (67, L, [qi z], M) x = x (some (qi z)) M := g_iret (show decode cX11_leafSet 67 = .ok (.ireturn, 1) by decide +kernel) rfl
set_option maxRecDepth 20000 in
theorem eX11_leafSet {d : Nat} {M : QM} {x : QP} {a : Nat} {v0 : Int} {v1 : Int} {v2 : Int} : q_T (d + 1) iX11_leafSet [qr a, qi v0, qi v1, qi v2] M x = Rr (q_C d) mX11_leafSet (0, [some (qr a), some (qi v0), some (qi v1), some (qi v2), none, none, none], [], M) x := g_entryT (e := _) rfl (Nat.le_of_ble_eq_true rfl) rfl rfl
def mX11_isFitting : QI := (11, cX11_isFitting, false, some .boolean)
set_option maxRecDepth 20000 in
theorem kX11_isFitting_0 {C : QC} {x : QP} {M : QM} {st : List CV} {L : QL} {l0 l1 l2 l3 l4 : Option CV} {z : Int} : Rr C mX11_isFitting (0, [l0, l1, some (qi z), l3, l4], st, M) x = Rr C mX11_isFitting (1, [l0, l1, some (qi z), l3, l4], qi z :: st, M) x := g_pl (show decode cX11_isFitting 0 = .ok (.iload_n 2, 1) by decide +kernel) rfl
set_option maxRecDepth 20000 in
theorem kX11_isFitting_1 {C : QC} {x : QP} {M : QM} {st : List CV} {L : QL} {a : Int} (ha1 : -2147483648 ≤ a) (ha2 : a < 2147483648) : Rr C mX11_isFitting (1, L, qi a :: st, M) x = (if a = 0 then Rr C mX11_isFitting (32, L, st, M) x else if a = 1 then Rr C mX11_isFitting (46, L, st, M) x else if a = 2 then Rr C mX11_isFitting (65, L, st, M) x else if a = 3 then Rr C mX11_isFitting (87, L, st, M) x else Rr C mX11_isFitting (101, L, st, M) x) := by
  by_cases h0 : a = 0
  · subst h0; rw [if_pos rfl]; exact g_tsI (show decode cX11_isFitting 1 = .ok (.tableswitch 100 0 3 #[31, 45, 64, 86], 31) by decide +kernel) (by decide) (by decide) rfl rfl
  rw [if_neg h0]
  by_cases h1 : a = 1
  · subst h1; rw [if_pos rfl]; exact g_tsI (show decode cX11_isFitting 1 = .ok (.tableswitch 100 0 3 #[31, 45, 64, 86], 31) by decide +kernel) (by decide) (by decide) rfl rfl
  rw [if_neg h1]
  by_cases h2 : a = 2
  · subst h2; rw [if_pos rfl]; exact g_tsI (show decode cX11_isFitting 1 = .ok (.tableswitch 100 0 3 #[31, 45, 64, 86], 31) by decide +kernel) (by decide) (by decide) rfl rfl
  rw [if_neg h2]
  by_cases h3 : a = 3
  · subst h3; rw [if_pos rfl]; exact g_tsI (show decode cX11_isFitting 1 = .ok (.tableswitch 100 0 3 #[31, 45, 64, 86], 31) by decide +kernel) (by decide) (by decide) rfl rfl
  rw [if_neg h3]
  exact g_tsO (show decode cX11_isFitting 1 = .ok (.tableswitch 100 0 3 #[31, 45, 64, 86], 31) by decide +kernel) ⟨ha1, ha2⟩ (by omega) rfl
set_option maxRecDepth 20000 in
theorem kX11_isFitting_32 {C : QC} {x : QP} {M : QM} {st : List CV} {L : QL} {l0 l1 l2 l3 l4 : Option CV} {r : Option Nat} : Rr C mX11_isFitting (32, [l0, some (.inr (.inr r)), l2, l3, l4], st, M) x = Rr C mX11_isFitting (33, [l0, some (.inr (.inr r)), l2, l3, l4], .inr (.inr r) :: st, M) x := g_pl (show decode cX11_isFitting 32 = .ok (.aload_n 1, 1) by decide +kernel) rfl
set_option maxRecDepth 20000 in
theorem kX11_isFitting_33 {C : QC} {x : QP} {M : QM} {st : List CV} {L : QL} {a : Nat} (hk : q_kd M a = (1, 4)) : Rr C mX11_isFitting (33, L, qr a :: st, M) x = Rr C mX11_isFitting (36, L, q_fv M a 0 :: st, M) x := g_getf (ow := 11) (e := (4, 0, RX4, 269, 0)) (show decode cX11_isFitting 33 = .ok (.getfield 147, 3) by decide +kernel) rfl hk
set_option maxRecDepth 20000 in
theorem kX11_isFitting_36 {C : QC} {x : QP} {M : QM} {st : List CV} {L : QL} {l0 l1 l2 l3 l4 : Option CV} {z : Int} : Rr C mX11_isFitting (36, [l0, l1, l2, some (qi z), l4], st, M) x = Rr C mX11_isFitting (37, [l0, l1, l2, some (qi z), l4], qi z :: st, M) x := g_pl (show decode cX11_isFitting 36 = .ok (.iload_n 3, 1) by decide +kernel) rfl
set_option maxRecDepth 20000 in
theorem kX11_isFitting_37 {C : QC} {x : QP} {M : QM} {st : List CV} {L : QL} {a b : Int} (ha1 : -2147483648 ≤ a) (ha2 : a < 2147483648) (hb1 : -2147483648 ≤ b) (hb2 : b < 2147483648) : Rr C mX11_isFitting (37, L, qi b :: qi a :: st, M) x = (if a = b then Rr C mX11_isFitting (40, L, st, M) x else Rr C mX11_isFitting (44, L, st, M) x) := (g_icmp (show decode cX11_isFitting 37 = .ok (.if_icmp .ne 7, 3) by decide +kernel) rfl ha1 ha2 hb1 hb2).trans (g_itn c_ne)
set_option maxRecDepth 20000 in
theorem kX11_isFitting_40 {C : QC} {x : QP} {M : QM} {st : List CV} {L : QL} : Rr C mX11_isFitting (40, L, st, M) x = Rr C mX11_isFitting (41, L, qi 1 :: st, M) x := g_pl (show decode cX11_isFitting 40 = .ok (.iconst 1, 1) by decide +kernel) rfl
set_option maxRecDepth 20000 in
theorem kX11_isFitting_41 {C : QC} {x : QP} {M : QM} {st : List CV} {L : QL} : Rr C mX11_isFitting (41, L, st, M) x = Rr C mX11_isFitting (45, L, st, M) x := g_pl (show decode cX11_isFitting 41 = .ok (.goto 4, 3) by decide +kernel) rfl
set_option maxRecDepth 20000 in
theorem kX11_isFitting_44 {C : QC} {x : QP} {M : QM} {st : List CV} {L : QL} : Rr C mX11_isFitting (44, L, st, M) x = Rr C mX11_isFitting (45, L, qi 0 :: st, M) x := g_pl (show decode cX11_isFitting 44 = .ok (.iconst 0, 1) by decide +kernel) rfl
set_option maxRecDepth 20000 in
theorem kX11_isFitting_45 {C : QC} {x : QP} {M : QM} {st : List CV} {L : QL} {z : Int} (hz : z = 0 ∨ z = 1) : Rr C mX11_isFitting (45, L, [qi z], M) x = x (some (qi z)) M := g_iret (show decode cX11_isFitting 45 = .ok (.ireturn, 1) by decide +kernel) (by rcases hz with rfl | rfl <;> rfl)
set_option maxRecDepth 20000 in
theorem kX11_isFitting_46 {C : QC} {x : QP} {M : QM} {st : List CV} {L : QL} {l0 l1 l2 l3 l4 : Option CV} {r : Option Nat} : Rr C mX11_isFitting (46, [l0, some (.inr (.inr r)), l2, l3, l4], st, M) x = Rr C mX11_isFitting (47, [l0, some (.inr (.inr r)), l2, l3, l4], .inr (.inr r) :: st, M) x := g_pl (show decode cX11_isFitting 46 = .ok (.aload_n 1, 1) by decide +kernel) rfl
set_option maxRecDepth 20000 in
theorem kX11_isFitting_47 {C : QC} {x : QP} {M : QM} {st : List CV} {L : QL} {a : Nat} (hk : q_kd M a = (1, 4)) : Rr C mX11_isFitting (47, L, qr a :: st, M) x = Rr C mX11_isFitting (50, L, q_fv M a 7 :: st, M) x := g_getf (ow := 11) (e := (4, 7, RX4, 290, 0)) (show decode cX11_isFitting 47 = .ok (.getfield 132, 3) by decide +kernel) rfl hk
set_option maxRecDepth 20000 in
theorem kX11_isFitting_50 {C : QC} {x : QP} {M : QM} {st : List CV} {L : QL} {l0 l1 l2 l3 l4 : Option CV} {z : Int} : Rr C mX11_isFitting (50, [l0, l1, l2, l3, some (qi z)], st, M) x = Rr C mX11_isFitting (52, [l0, l1, l2, l3, some (qi z)], qi z :: st, M) x := g_pl (show decode cX11_isFitting 50 = .ok (.iload 4, 2) by decide +kernel) rfl
set_option maxRecDepth 20000 in
theorem kX11_isFitting_52 {C : QC} {x : QP} {M : QM} {L : QL} {rest : List CV} {a0 : CV} {v : CV} {M1 : QM} {b : Nat} (hb : q_kd M b = (1, 9)) (hC : C iX9_at [qr b, a0] M (some v) M1) (hw : (rest.map q_wd).sum ≤ 8) (k : Rr C mX11_isFitting (55, L, v :: rest, M1) x) : Rr C mX11_isFitting (52, L, a0 :: qr b :: rest, M) x := g_cv (ow := 11) (e := (0, 36, 9, [718, 526, 527, 87])) (as := [a0]) (show decode cX11_isFitting 52 = .ok (.invokevirtual 136, 3) by decide +kernel) rfl rfl rfl (Or.inl rfl) rfl hb hC hw k
set_option maxRecDepth 20000 in
theorem kX11_isFitting_55 {C : QC} {x : QP} {M : QM} {st : List CV} {L : QL} {l0 l1 l2 l3 l4 : Option CV} {z : Int} : Rr C mX11_isFitting (55, [l0, l1, l2, some (qi z), l4], st, M) x = Rr C mX11_isFitting (56, [l0, l1, l2, some (qi z), l4], qi z :: st, M) x := g_pl (show decode cX11_isFitting 55 = .ok (.iload_n 3, 1) by decide +kernel) rfl
set_option maxRecDepth 20000 in
theorem kX11_isFitting_56 {C : QC} {x : QP} {M : QM} {st : List CV} {L : QL} {a b : Int} (ha1 : -2147483648 ≤ a) (ha2 : a < 2147483648) (hb1 : -2147483648 ≤ b) (hb2 : b < 2147483648) : Rr C mX11_isFitting (56, L, qi b :: qi a :: st, M) x = (if a = b then Rr C mX11_isFitting (59, L, st, M) x else Rr C mX11_isFitting (63, L, st, M) x) := (g_icmp (show decode cX11_isFitting 56 = .ok (.if_icmp .ne 7, 3) by decide +kernel) rfl ha1 ha2 hb1 hb2).trans (g_itn c_ne)
set_option maxRecDepth 20000 in
theorem kX11_isFitting_59 {C : QC} {x : QP} {M : QM} {st : List CV} {L : QL} : Rr C mX11_isFitting (59, L, st, M) x = Rr C mX11_isFitting (60, L, qi 1 :: st, M) x := g_pl (show decode cX11_isFitting 59 = .ok (.iconst 1, 1) by decide +kernel) rfl
set_option maxRecDepth 20000 in
theorem kX11_isFitting_60 {C : QC} {x : QP} {M : QM} {st : List CV} {L : QL} : Rr C mX11_isFitting (60, L, st, M) x = Rr C mX11_isFitting (64, L, st, M) x := g_pl (show decode cX11_isFitting 60 = .ok (.goto 4, 3) by decide +kernel) rfl
set_option maxRecDepth 20000 in
theorem kX11_isFitting_63 {C : QC} {x : QP} {M : QM} {st : List CV} {L : QL} : Rr C mX11_isFitting (63, L, st, M) x = Rr C mX11_isFitting (64, L, qi 0 :: st, M) x := g_pl (show decode cX11_isFitting 63 = .ok (.iconst 0, 1) by decide +kernel) rfl
set_option maxRecDepth 20000 in
theorem kX11_isFitting_64 {C : QC} {x : QP} {M : QM} {st : List CV} {L : QL} {z : Int} (hz : z = 0 ∨ z = 1) : Rr C mX11_isFitting (64, L, [qi z], M) x = x (some (qi z)) M := g_iret (show decode cX11_isFitting 64 = .ok (.ireturn, 1) by decide +kernel) (by rcases hz with rfl | rfl <;> rfl)
set_option maxRecDepth 20000 in
theorem kX11_isFitting_65 {C : QC} {x : QP} {M : QM} {st : List CV} {L : QL} {l0 l1 l2 l3 l4 : Option CV} {r : Option Nat} : Rr C mX11_isFitting (65, [l0, some (.inr (.inr r)), l2, l3, l4], st, M) x = Rr C mX11_isFitting (66, [l0, some (.inr (.inr r)), l2, l3, l4], .inr (.inr r) :: st, M) x := g_pl (show decode cX11_isFitting 65 = .ok (.aload_n 1, 1) by decide +kernel) rfl
set_option maxRecDepth 20000 in
theorem kX11_isFitting_66 {C : QC} {x : QP} {M : QM} {st : List CV} {L : QL} {a : Nat} (hk : q_kd M a = (1, 4)) : Rr C mX11_isFitting (66, L, qr a :: st, M) x = Rr C mX11_isFitting (69, L, q_fv M a 6 :: st, M) x := g_getf (ow := 11) (e := (4, 6, RX4, 286, 0)) (show decode cX11_isFitting 66 = .ok (.getfield 112, 3) by decide +kernel) rfl hk
set_option maxRecDepth 20000 in
theorem kX11_isFitting_69 {C : QC} {x : QP} {M : QM} {st : List CV} {L : QL} {l0 l1 l2 l3 l4 : Option CV} {z : Int} : Rr C mX11_isFitting (69, [l0, l1, l2, l3, some (qi z)], st, M) x = Rr C mX11_isFitting (71, [l0, l1, l2, l3, some (qi z)], qi z :: st, M) x := g_pl (show decode cX11_isFitting 69 = .ok (.iload 4, 2) by decide +kernel) rfl
set_option maxRecDepth 20000 in
theorem kX11_isFitting_71 {C : QC} {x : QP} {M : QM} {L : QL} {rest : List CV} {a0 : CV} {v : CV} {M1 : QM} {b : Nat} (hb : q_kd M b = (1, 2)) (hC : C iX2_at [qr b, a0] M (some v) M1) (hw : (rest.map q_wd).sum ≤ 8) (k : Rr C mX11_isFitting (74, L, v :: rest, M1) x) : Rr C mX11_isFitting (71, L, a0 :: qr b :: rest, M) x := g_cv (ow := 11) (e := (0, 66, 2, [683, 684, 685, 86])) (as := [a0]) (show decode cX11_isFitting 71 = .ok (.invokevirtual 116, 3) by decide +kernel) rfl rfl rfl (Or.inl rfl) rfl hb hC hw k
set_option maxRecDepth 20000 in
theorem kX11_isFitting_74 {C : QC} {x : QP} {M : QM} {L : QL} {rest : List CV} {a0 : CV} {v : CV} {M1 : QM} (hC : C iX10_lengthOf [a0] M (some v) M1) (hw : (rest.map q_wd).sum ≤ 8) (k : Rr C mX11_isFitting (77, L, v :: rest, M1) x) : Rr C mX11_isFitting (74, L, a0 :: rest, M) x := g_cs (ow := 11) (e := (1, 67, 0, [687, 688, 95])) (as := [a0]) (show decode cX11_isFitting 74 = .ok (.invokestatic 122, 3) by decide +kernel) rfl rfl rfl rfl (Or.inl rfl) rfl hC hw k
set_option maxRecDepth 20000 in
theorem kX11_isFitting_77 {C : QC} {x : QP} {M : QM} {st : List CV} {L : QL} {l0 l1 l2 l3 l4 : Option CV} {z : Int} : Rr C mX11_isFitting (77, [l0, l1, l2, some (qi z), l4], st, M) x = Rr C mX11_isFitting (78, [l0, l1, l2, some (qi z), l4], qi z :: st, M) x := g_pl (show decode cX11_isFitting 77 = .ok (.iload_n 3, 1) by decide +kernel) rfl
set_option maxRecDepth 20000 in
theorem kX11_isFitting_78 {C : QC} {x : QP} {M : QM} {st : List CV} {L : QL} {a b : Int} (ha1 : -2147483648 ≤ a) (ha2 : a < 2147483648) (hb1 : -2147483648 ≤ b) (hb2 : b < 2147483648) : Rr C mX11_isFitting (78, L, qi b :: qi a :: st, M) x = (if a < b then Rr C mX11_isFitting (85, L, st, M) x else Rr C mX11_isFitting (81, L, st, M) x) := (g_icmp (show decode cX11_isFitting 78 = .ok (.if_icmp .lt 7, 3) by decide +kernel) rfl ha1 ha2 hb1 hb2).trans (g_ite c_lt)
set_option maxRecDepth 20000 in
theorem kX11_isFitting_81 {C : QC} {x : QP} {M : QM} {st : List CV} {L : QL} : Rr C mX11_isFitting (81, L, st, M) x = Rr C mX11_isFitting (82, L, qi 1 :: st, M) x := g_pl (show decode cX11_isFitting 81 = .ok (.iconst 1, 1) by decide +kernel) rfl
set_option maxRecDepth 20000 in
theorem kX11_isFitting_82 {C : QC} {x : QP} {M : QM} {st : List CV} {L : QL} : Rr C mX11_isFitting (82, L, st, M) x = Rr C mX11_isFitting (86, L, st, M) x := g_pl (show decode cX11_isFitting 82 = .ok (.goto 4, 3) by decide +kernel) rfl
set_option maxRecDepth 20000 in
theorem kX11_isFitting_85 {C : QC} {x : QP} {M : QM} {st : List CV} {L : QL} : Rr C mX11_isFitting (85, L, st, M) x = Rr C mX11_isFitting (86, L, qi 0 :: st, M) x := g_pl (show decode cX11_isFitting 85 = .ok (.iconst 0, 1) by decide +kernel) rfl
set_option maxRecDepth 20000 in
theorem kX11_isFitting_86 {C : QC} {x : QP} {M : QM} {st : List CV} {L : QL} {z : Int} (hz : z = 0 ∨ z = 1) : Rr C mX11_isFitting (86, L, [qi z], M) x = x (some (qi z)) M := g_iret (show decode cX11_isFitting 86 = .ok (.ireturn, 1) by decide +kernel) (by rcases hz with rfl | rfl <;> rfl)
set_option maxRecDepth 20000 in
theorem kX11_isFitting_87 {C : QC} {x : QP} {M : QM} {st : List CV} {L : QL} {l0 l1 l2 l3 l4 : Option CV} {r : Option Nat} : Rr C mX11_isFitting (87, [l0, some (.inr (.inr r)), l2, l3, l4], st, M) x = Rr C mX11_isFitting (88, [l0, some (.inr (.inr r)), l2, l3, l4], .inr (.inr r) :: st, M) x := g_pl (show decode cX11_isFitting 87 = .ok (.aload_n 1, 1) by decide +kernel) rfl
set_option maxRecDepth 20000 in
theorem kX11_isFitting_88 {C : QC} {x : QP} {M : QM} {st : List CV} {L : QL} {a : Nat} (hk : q_kd M a = (1, 4)) : Rr C mX11_isFitting (88, L, qr a :: st, M) x = Rr C mX11_isFitting (91, L, q_fv M a 1 :: st, M) x := g_getf (ow := 11) (e := (4, 1, RX4, 272, 0)) (show decode cX11_isFitting 88 = .ok (.getfield 101, 3) by decide +kernel) rfl hk
set_option maxRecDepth 20000 in
theorem kX11_isFitting_91 {C : QC} {x : QP} {M : QM} {st : List CV} {L : QL} {l0 l1 l2 l3 l4 : Option CV} {z : Int} : Rr C mX11_isFitting (91, [l0, l1, l2, some (qi z), l4], st, M) x = Rr C mX11_isFitting (92, [l0, l1, l2, some (qi z), l4], qi z :: st, M) x := g_pl (show decode cX11_isFitting 91 = .ok (.iload_n 3, 1) by decide +kernel) rfl
set_option maxRecDepth 20000 in
theorem kX11_isFitting_92 {C : QC} {x : QP} {M : QM} {st : List CV} {L : QL} {a b : Int} (ha1 : -2147483648 ≤ a) (ha2 : a < 2147483648) (hb1 : -2147483648 ≤ b) (hb2 : b < 2147483648) : Rr C mX11_isFitting (92, L, qi b :: qi a :: st, M) x = (if a < b then Rr C mX11_isFitting (99, L, st, M) x else Rr C mX11_isFitting (95, L, st, M) x) := (g_icmp (show decode cX11_isFitting 92 = .ok (.if_icmp .lt 7, 3) by decide +kernel) rfl ha1 ha2 hb1 hb2).trans (g_ite c_lt)
set_option maxRecDepth 20000 in
theorem kX11_isFitting_95 {C : QC} {x : QP} {M : QM} {st : List CV} {L : QL} : Rr C mX11_isFitting (95, L, st, M) x = Rr C mX11_isFitting (96, L, qi 1 :: st, M) x := g_pl (show decode cX11_isFitting 95 = .ok (.iconst 1, 1) by decide +kernel) rfl
set_option maxRecDepth 20000 in
theorem kX11_isFitting_96 {C : QC} {x : QP} {M : QM} {st : List CV} {L : QL} : Rr C mX11_isFitting (96, L, st, M) x = Rr C mX11_isFitting (100, L, st, M) x := g_pl (show decode cX11_isFitting 96 = .ok (.goto 4, 3) by decide +kernel) rfl
set_option maxRecDepth 20000 in
theorem kX11_isFitting_99 {C : QC} {x : QP} {M : QM} {st : List CV} {L : QL} : Rr C mX11_isFitting (99, L, st, M) x = Rr C mX11_isFitting (100, L, qi 0 :: st, M) x := g_pl (show decode cX11_isFitting 99 = .ok (.iconst 0, 1) by decide +kernel) rfl
set_option maxRecDepth 20000 in
theorem kX11_isFitting_100 {C : QC} {x : QP} {M : QM} {st : List CV} {L : QL} {z : Int} (hz : z = 0 ∨ z = 1) : Rr C mX11_isFitting (100, L, [qi z], M) x = x (some (qi z)) M := g_iret (show decode cX11_isFitting 100 = .ok (.ireturn, 1) by decide +kernel) (by rcases hz with rfl | rfl <;> rfl)
set_option maxRecDepth 20000 in
theorem kX11_isFitting_101 {C : QC} {x : QP} {M : QM} {st : List CV} {L : QL} {l0 l1 l2 l3 l4 : Option CV} {r : Option Nat} : Rr C mX11_isFitting (101, [some (.inr (.inr r)), l1, l2, l3, l4], st, M) x = Rr C mX11_isFitting (102, [some (.inr (.inr r)), l1, l2, l3, l4], .inr (.inr r) :: st, M) x := g_pl (show decode cX11_isFitting 101 = .ok (.aload_n 0, 1) by decide +kernel) rfl
set_option maxRecDepth 20000 in
theorem kX11_isFitting_102 {C : QC} {x : QP} {M : QM} {st : List CV} {L : QL} {l0 l1 l2 l3 l4 : Option CV} {r : Option Nat} : Rr C mX11_isFitting (102, [l0, some (.inr (.inr r)), l2, l3, l4], st, M) x = Rr C mX11_isFitting (103, [l0, some (.inr (.inr r)), l2, l3, l4], .inr (.inr r) :: st, M) x := g_pl (show decode cX11_isFitting 102 = .ok (.aload_n 1, 1) by decide +kernel) rfl
set_option maxRecDepth 20000 in
theorem kX11_isFitting_103 {C : QC} {x : QP} {M : QM} {st : List CV} {L : QL} {l0 l1 l2 l3 l4 : Option CV} {z : Int} : Rr C mX11_isFitting (103, [l0, l1, l2, some (qi z), l4], st, M) x = Rr C mX11_isFitting (104, [l0, l1, l2, some (qi z), l4], qi z :: st, M) x := g_pl (show decode cX11_isFitting 103 = .ok (.iload_n 3, 1) by decide +kernel) rfl
set_option maxRecDepth 20000 in
theorem kX11_isFitting_104 {C : QC} {x : QP} {M : QM} {st : List CV} {L : QL} {l0 l1 l2 l3 l4 : Option CV} {z : Int} : Rr C mX11_isFitting (104, [l0, l1, l2, l3, some (qi z)], st, M) x = Rr C mX11_isFitting (106, [l0, l1, l2, l3, some (qi z)], qi z :: st, M) x := g_pl (show decode cX11_isFitting 104 = .ok (.iload 4, 2) by decide +kernel) rfl
set_option maxRecDepth 20000 in
theorem kX11_isFitting_106 {C : QC} {x : QP} {M : QM} {L : QL} {rest : List CV} {a0 a1 a2 : CV} {v : CV} {M1 : QM} {b : Nat} (hb : q_kd M b = (1, 11)) (hC : C iX11_isUnder [qr b, a0, a1, a2] M (some v) M1) (hw : (rest.map q_wd).sum ≤ 8) (k : Rr C mX11_isFitting (109, L, v :: rest, M1) x) : Rr C mX11_isFitting (106, L, a2 :: a1 :: a0 :: qr b :: rest, M) x := g_cv (ow := 11) (e := (0, 116, 11, [902, 903, 904, 83])) (as := [a0, a1, a2]) (show decode cX11_isFitting 106 = .ok (.invokevirtual 185, 3) by decide +kernel) rfl rfl rfl (Or.inl rfl) rfl hb hC hw k
set_option maxRecDepth 20000 in
theorem kX11_isFitting_109 {C : QC} {x : QP} {M : QM} {st : List CV} {L : QL} {z : Int} (hz : z = 0 ∨ z = 1) : Rr C mX11_isFitting (109, L, [qi z], M) x = x (some (qi z)) M := g_iret (show decode cX11_isFitting 109 = .ok (.ireturn, 1) by decide +kernel) (by rcases hz with rfl | rfl <;> rfl)
set_option maxRecDepth 20000 in
theorem eX11_isFitting {d : Nat} {M : QM} {x : QP} {a : Nat} {v0 : Option Nat} {v1 : Int} {v2 : Int} {v3 : Int} : q_T (d + 1) iX11_isFitting [qr a, .inr (.inr v0), qi v1, qi v2, qi v3] M x = Rr (q_C d) mX11_isFitting (0, [some (qr a), some (.inr (.inr v0)), some (qi v1), some (qi v2), some (qi v3)], [], M) x := g_entryT (e := _) rfl (Nat.le_of_ble_eq_true rfl) rfl rfl
def mX11_notFoundedOn : QI := (11, cX11_notFoundedOn, false, some .int)
set_option maxRecDepth 20000 in
theorem kX11_notFoundedOn_0 {C : QC} {x : QP} {M : QM} {st : List CV} {L : QL} : Rr C mX11_notFoundedOn (0, L, st, M) x = Rr C mX11_notFoundedOn (1, L, qi 0 :: st, M) x := g_pl (show decode cX11_notFoundedOn 0 = .ok (.iconst 0, 1) by decide +kernel) rfl
set_option maxRecDepth 20000 in
theorem kX11_notFoundedOn_1 {C : QC} {x : QP} {M : QM} {st : List CV} {L : QL} {l0 l1 l2 l3 l4 : Option CV} {z : Int} : Rr C mX11_notFoundedOn (1, [l0, l1, l2, l3, l4], qi z :: st, M) x = Rr C mX11_notFoundedOn (2, [l0, q_cut l1, some (qi z), l3, l4], st, M) x := g_pl (show decode cX11_notFoundedOn 1 = .ok (.istore_n 2, 1) by decide +kernel) rfl
set_option maxRecDepth 20000 in
theorem kX11_notFoundedOn_2 {C : QC} {x : QP} {M : QM} {st : List CV} {L : QL} : Rr C mX11_notFoundedOn (2, L, st, M) x = Rr C mX11_notFoundedOn (3, L, qi 0 :: st, M) x := g_pl (show decode cX11_notFoundedOn 2 = .ok (.iconst 0, 1) by decide +kernel) rfl
set_option maxRecDepth 20000 in
theorem kX11_notFoundedOn_3 {C : QC} {x : QP} {M : QM} {st : List CV} {L : QL} {l0 l1 l2 l3 l4 : Option CV} {z : Int} : Rr C mX11_notFoundedOn (3, [l0, l1, l2, l3, l4], qi z :: st, M) x = Rr C mX11_notFoundedOn (4, [l0, l1, q_cut l2, some (qi z), l4], st, M) x := g_pl (show decode cX11_notFoundedOn 3 = .ok (.istore_n 3, 1) by decide +kernel) rfl
set_option maxRecDepth 20000 in
theorem kX11_notFoundedOn_4 {C : QC} {x : QP} {M : QM} {st : List CV} {L : QL} {l0 l1 l2 l3 l4 : Option CV} {z : Int} : Rr C mX11_notFoundedOn (4, [l0, l1, l2, some (qi z), l4], st, M) x = Rr C mX11_notFoundedOn (5, [l0, l1, l2, some (qi z), l4], qi z :: st, M) x := g_pl (show decode cX11_notFoundedOn 4 = .ok (.iload_n 3, 1) by decide +kernel) rfl
set_option maxRecDepth 20000 in
theorem kX11_notFoundedOn_5 {C : QC} {x : QP} {M : QM} {st : List CV} {L : QL} {l0 l1 l2 l3 l4 : Option CV} {r : Option Nat} : Rr C mX11_notFoundedOn (5, [some (.inr (.inr r)), l1, l2, l3, l4], st, M) x = Rr C mX11_notFoundedOn (6, [some (.inr (.inr r)), l1, l2, l3, l4], .inr (.inr r) :: st, M) x := g_pl (show decode cX11_notFoundedOn 5 = .ok (.aload_n 0, 1) by decide +kernel) rfl
set_option maxRecDepth 20000 in
theorem kX11_notFoundedOn_6 {C : QC} {x : QP} {M : QM} {st : List CV} {L : QL} {a : Nat} (hk : q_kd M a = (1, 11)) : Rr C mX11_notFoundedOn (6, L, qr a :: st, M) x = Rr C mX11_notFoundedOn (9, L, q_fv M a 4 :: st, M) x := g_getf (ow := 11) (e := (11, 4, RX11, 321, 0)) (show decode cX11_notFoundedOn 6 = .ok (.getfield 31, 3) by decide +kernel) rfl hk
set_option maxRecDepth 20000 in
theorem kX11_notFoundedOn_9 {C : QC} {x : QP} {M : QM} {st : List CV} {L : QL} {a b : Int} (ha1 : -2147483648 ≤ a) (ha2 : a < 2147483648) (hb1 : -2147483648 ≤ b) (hb2 : b < 2147483648) : Rr C mX11_notFoundedOn (9, L, qi b :: qi a :: st, M) x = (if a < b then Rr C mX11_notFoundedOn (12, L, st, M) x else Rr C mX11_notFoundedOn (43, L, st, M) x) := (g_icmp (show decode cX11_notFoundedOn 9 = .ok (.if_icmp .ge 34, 3) by decide +kernel) rfl ha1 ha2 hb1 hb2).trans (g_itn c_ge)
set_option maxRecDepth 20000 in
theorem kX11_notFoundedOn_12 {C : QC} {x : QP} {M : QM} {st : List CV} {L : QL} {l0 l1 l2 l3 l4 : Option CV} {r : Option Nat} : Rr C mX11_notFoundedOn (12, [some (.inr (.inr r)), l1, l2, l3, l4], st, M) x = Rr C mX11_notFoundedOn (13, [some (.inr (.inr r)), l1, l2, l3, l4], .inr (.inr r) :: st, M) x := g_pl (show decode cX11_notFoundedOn 12 = .ok (.aload_n 0, 1) by decide +kernel) rfl
set_option maxRecDepth 20000 in
theorem kX11_notFoundedOn_13 {C : QC} {x : QP} {M : QM} {st : List CV} {L : QL} {a : Nat} (hk : q_kd M a = (1, 11)) : Rr C mX11_notFoundedOn (13, L, qr a :: st, M) x = Rr C mX11_notFoundedOn (16, L, q_fv M a 3 :: st, M) x := g_getf (ow := 11) (e := (11, 3, RX11, 320, 0)) (show decode cX11_notFoundedOn 13 = .ok (.getfield 27, 3) by decide +kernel) rfl hk
set_option maxRecDepth 20000 in
theorem kX11_notFoundedOn_16 {C : QC} {x : QP} {M : QM} {st : List CV} {L : QL} {l0 l1 l2 l3 l4 : Option CV} {z : Int} : Rr C mX11_notFoundedOn (16, [l0, l1, l2, some (qi z), l4], st, M) x = Rr C mX11_notFoundedOn (17, [l0, l1, l2, some (qi z), l4], qi z :: st, M) x := g_pl (show decode cX11_notFoundedOn 16 = .ok (.iload_n 3, 1) by decide +kernel) rfl
set_option maxRecDepth 20000 in
theorem kX11_notFoundedOn_17 {C : QC} {x : QP} {M : QM} {st : List CV} {L : QL} {a : Nat} {j : Int} (hk : (q_kd M a).1 = 5 ∨ (q_kd M a).1 = 6) (h0 : 0 ≤ j) (h1 : j < ((q_kd M a).2 : Int)) : Rr C mX11_notFoundedOn (17, L, qi j :: qr a :: st, M) x = Rr C mX11_notFoundedOn (18, L, q_fv M a j.toNat :: st, M) x := g_aald (show decode cX11_notFoundedOn 17 = .ok (.aaload, 1) by decide +kernel) hk h0 h1
set_option maxRecDepth 20000 in
theorem kX11_notFoundedOn_18 {C : QC} {x : QP} {M : QM} {st : List CV} {L : QL} {l0 l1 l2 l3 l4 : Option CV} {z : Option Nat} : Rr C mX11_notFoundedOn (18, [l0, l1, l2, l3, l4], .inr (.inr z) :: st, M) x = Rr C mX11_notFoundedOn (20, [l0, l1, l2, q_cut l3, some (.inr (.inr z))], st, M) x := g_pl (show decode cX11_notFoundedOn 18 = .ok (.astore 4, 2) by decide +kernel) rfl
set_option maxRecDepth 20000 in
theorem kX11_notFoundedOn_20 {C : QC} {x : QP} {M : QM} {st : List CV} {L : QL} {l0 l1 l2 l3 l4 : Option CV} {r : Option Nat} : Rr C mX11_notFoundedOn (20, [l0, l1, l2, l3, some (.inr (.inr r))], st, M) x = Rr C mX11_notFoundedOn (22, [l0, l1, l2, l3, some (.inr (.inr r))], .inr (.inr r) :: st, M) x := g_pl (show decode cX11_notFoundedOn 20 = .ok (.aload 4, 2) by decide +kernel) rfl
set_option maxRecDepth 20000 in
theorem kX11_notFoundedOn_22r {C : QC} {x : QP} {M : QM} {st : List CV} {L : QL} {a : Nat} : Rr C mX11_notFoundedOn (22, L, qr a :: st, M) x = Rr C mX11_notFoundedOn (25, L, st, M) x := g_pl (show decode cX11_notFoundedOn 22 = .ok (.ifnull 15, 3) by decide +kernel) rfl
set_option maxRecDepth 20000 in
theorem kX11_notFoundedOn_22n {C : QC} {x : QP} {M : QM} {st : List CV} {L : QL} : Rr C mX11_notFoundedOn (22, L, qn :: st, M) x = Rr C mX11_notFoundedOn (37, L, st, M) x := g_pl (show decode cX11_notFoundedOn 22 = .ok (.ifnull 15, 3) by decide +kernel) rfl
set_option maxRecDepth 20000 in
theorem kX11_notFoundedOn_25 {C : QC} {x : QP} {M : QM} {st : List CV} {L : QL} {l0 l1 l2 l3 l4 : Option CV} {r : Option Nat} : Rr C mX11_notFoundedOn (25, [l0, l1, l2, l3, some (.inr (.inr r))], st, M) x = Rr C mX11_notFoundedOn (27, [l0, l1, l2, l3, some (.inr (.inr r))], .inr (.inr r) :: st, M) x := g_pl (show decode cX11_notFoundedOn 25 = .ok (.aload 4, 2) by decide +kernel) rfl
set_option maxRecDepth 20000 in
theorem kX11_notFoundedOn_27 {C : QC} {x : QP} {M : QM} {st : List CV} {L : QL} {a : Nat} (hk : q_kd M a = (1, 4)) : Rr C mX11_notFoundedOn (27, L, qr a :: st, M) x = Rr C mX11_notFoundedOn (30, L, q_fv M a 1 :: st, M) x := g_getf (ow := 11) (e := (4, 1, RX4, 272, 0)) (show decode cX11_notFoundedOn 27 = .ok (.getfield 101, 3) by decide +kernel) rfl hk
set_option maxRecDepth 20000 in
theorem kX11_notFoundedOn_30 {C : QC} {x : QP} {M : QM} {st : List CV} {L : QL} {l0 l1 l2 l3 l4 : Option CV} {z : Int} : Rr C mX11_notFoundedOn (30, [l0, some (qi z), l2, l3, l4], st, M) x = Rr C mX11_notFoundedOn (31, [l0, some (qi z), l2, l3, l4], qi z :: st, M) x := g_pl (show decode cX11_notFoundedOn 30 = .ok (.iload_n 1, 1) by decide +kernel) rfl
set_option maxRecDepth 20000 in
theorem kX11_notFoundedOn_31 {C : QC} {x : QP} {M : QM} {st : List CV} {L : QL} {a b : Int} (ha1 : -2147483648 ≤ a) (ha2 : a < 2147483648) (hb1 : -2147483648 ≤ b) (hb2 : b < 2147483648) : Rr C mX11_notFoundedOn (31, L, qi b :: qi a :: st, M) x = (if b < a then Rr C mX11_notFoundedOn (34, L, st, M) x else Rr C mX11_notFoundedOn (37, L, st, M) x) := (g_icmp (show decode cX11_notFoundedOn 31 = .ok (.if_icmp .le 6, 3) by decide +kernel) rfl ha1 ha2 hb1 hb2).trans (g_itn c_le)
set_option maxRecDepth 20000 in
theorem kX11_notFoundedOn_34 {C : QC} {x : QP} {M : QM} {st : List CV} {L : QL} {l0 l1 l2 l3 l4 : Option CV} {z : Int} : Rr C mX11_notFoundedOn (34, [l0, l1, some (qi z), l3, l4], st, M) x = Rr C mX11_notFoundedOn (37, [l0, q_cut l1, some (qi (z + 1)), l3, l4], st, M) x := g_pl (show decode cX11_notFoundedOn 34 = .ok (.iinc 2 1, 3) by decide +kernel) rfl
set_option maxRecDepth 20000 in
theorem kX11_notFoundedOn_37 {C : QC} {x : QP} {M : QM} {st : List CV} {L : QL} {l0 l1 l2 l3 l4 : Option CV} {z : Int} : Rr C mX11_notFoundedOn (37, [l0, l1, l2, some (qi z), l4], st, M) x = Rr C mX11_notFoundedOn (40, [l0, l1, q_cut l2, some (qi (z + 1)), l4], st, M) x := g_pl (show decode cX11_notFoundedOn 37 = .ok (.iinc 3 1, 3) by decide +kernel) rfl
set_option maxRecDepth 20000 in
theorem kX11_notFoundedOn_40 {C : QC} {x : QP} {M : QM} {st : List CV} {L : QL} : Rr C mX11_notFoundedOn (40, L, st, M) x = Rr C mX11_notFoundedOn (4, L, st, M) x := g_pl (show decode cX11_notFoundedOn 40 = .ok (.goto (-36), 3) by decide +kernel) rfl
set_option maxRecDepth 20000 in
theorem kX11_notFoundedOn_43 {C : QC} {x : QP} {M : QM} {st : List CV} {L : QL} {l0 l1 l2 l3 l4 : Option CV} {z : Int} : Rr C mX11_notFoundedOn (43, [l0, l1, some (qi z), l3, l4], st, M) x = Rr C mX11_notFoundedOn (44, [l0, l1, some (qi z), l3, l4], qi z :: st, M) x := g_pl (show decode cX11_notFoundedOn 43 = .ok (.iload_n 2, 1) by decide +kernel) rfl
set_option maxRecDepth 20000 in
theorem kX11_notFoundedOn_44 {C : QC} {x : QP} {M : QM} {st : List CV} {L : QL} {z : Int} : Rr C mX11_notFoundedOn (44, L, [qi z], M) x = x (some (qi z)) M := g_iret (show decode cX11_notFoundedOn 44 = .ok (.ireturn, 1) by decide +kernel) rfl
set_option maxRecDepth 20000 in
theorem eX11_notFoundedOn {d : Nat} {M : QM} {x : QP} {a : Nat} {v0 : Int} : q_T (d + 1) iX11_notFoundedOn [qr a, qi v0] M x = Rr (q_C d) mX11_notFoundedOn (0, [some (qr a), some (qi v0), none, none, none], [], M) x := g_entryT (e := _) rfl (Nat.le_of_ble_eq_true rfl) rfl rfl
def mX11_endedOn : QI := (11, cX11_endedOn, false, some .int)
set_option maxRecDepth 20000 in
theorem kX11_endedOn_0 {C : QC} {x : QP} {M : QM} {st : List CV} {L : QL} : Rr C mX11_endedOn (0, L, st, M) x = Rr C mX11_endedOn (1, L, qi 0 :: st, M) x := g_pl (show decode cX11_endedOn 0 = .ok (.iconst 0, 1) by decide +kernel) rfl
set_option maxRecDepth 20000 in
theorem kX11_endedOn_1 {C : QC} {x : QP} {M : QM} {st : List CV} {L : QL} {l0 l1 l2 l3 l4 : Option CV} {z : Int} : Rr C mX11_endedOn (1, [l0, l1, l2, l3, l4], qi z :: st, M) x = Rr C mX11_endedOn (2, [l0, q_cut l1, some (qi z), l3, l4], st, M) x := g_pl (show decode cX11_endedOn 1 = .ok (.istore_n 2, 1) by decide +kernel) rfl
set_option maxRecDepth 20000 in
theorem kX11_endedOn_2 {C : QC} {x : QP} {M : QM} {st : List CV} {L : QL} : Rr C mX11_endedOn (2, L, st, M) x = Rr C mX11_endedOn (3, L, qi 0 :: st, M) x := g_pl (show decode cX11_endedOn 2 = .ok (.iconst 0, 1) by decide +kernel) rfl
set_option maxRecDepth 20000 in
theorem kX11_endedOn_3 {C : QC} {x : QP} {M : QM} {st : List CV} {L : QL} {l0 l1 l2 l3 l4 : Option CV} {z : Int} : Rr C mX11_endedOn (3, [l0, l1, l2, l3, l4], qi z :: st, M) x = Rr C mX11_endedOn (4, [l0, l1, q_cut l2, some (qi z), l4], st, M) x := g_pl (show decode cX11_endedOn 3 = .ok (.istore_n 3, 1) by decide +kernel) rfl
set_option maxRecDepth 20000 in
theorem kX11_endedOn_4 {C : QC} {x : QP} {M : QM} {st : List CV} {L : QL} {l0 l1 l2 l3 l4 : Option CV} {z : Int} : Rr C mX11_endedOn (4, [l0, l1, l2, some (qi z), l4], st, M) x = Rr C mX11_endedOn (5, [l0, l1, l2, some (qi z), l4], qi z :: st, M) x := g_pl (show decode cX11_endedOn 4 = .ok (.iload_n 3, 1) by decide +kernel) rfl
set_option maxRecDepth 20000 in
theorem kX11_endedOn_5 {C : QC} {x : QP} {M : QM} {st : List CV} {L : QL} {l0 l1 l2 l3 l4 : Option CV} {r : Option Nat} : Rr C mX11_endedOn (5, [some (.inr (.inr r)), l1, l2, l3, l4], st, M) x = Rr C mX11_endedOn (6, [some (.inr (.inr r)), l1, l2, l3, l4], .inr (.inr r) :: st, M) x := g_pl (show decode cX11_endedOn 5 = .ok (.aload_n 0, 1) by decide +kernel) rfl
set_option maxRecDepth 20000 in
theorem kX11_endedOn_6 {C : QC} {x : QP} {M : QM} {st : List CV} {L : QL} {a : Nat} (hk : q_kd M a = (1, 11)) : Rr C mX11_endedOn (6, L, qr a :: st, M) x = Rr C mX11_endedOn (9, L, q_fv M a 4 :: st, M) x := g_getf (ow := 11) (e := (11, 4, RX11, 321, 0)) (show decode cX11_endedOn 6 = .ok (.getfield 31, 3) by decide +kernel) rfl hk
set_option maxRecDepth 20000 in
theorem kX11_endedOn_9 {C : QC} {x : QP} {M : QM} {st : List CV} {L : QL} {a b : Int} (ha1 : -2147483648 ≤ a) (ha2 : a < 2147483648) (hb1 : -2147483648 ≤ b) (hb2 : b < 2147483648) : Rr C mX11_endedOn (9, L, qi b :: qi a :: st, M) x = (if a < b then Rr C mX11_endedOn (12, L, st, M) x else Rr C mX11_endedOn (43, L, st, M) x) := (g_icmp (show decode cX11_endedOn 9 = .ok (.if_icmp .ge 34, 3) by decide +kernel) rfl ha1 ha2 hb1 hb2).trans (g_itn c_ge)
set_option maxRecDepth 20000 in
theorem kX11_endedOn_12 {C : QC} {x : QP} {M : QM} {st : List CV} {L : QL} {l0 l1 l2 l3 l4 : Option CV} {r : Option Nat} : Rr C mX11_endedOn (12, [some (.inr (.inr r)), l1, l2, l3, l4], st, M) x = Rr C mX11_endedOn (13, [some (.inr (.inr r)), l1, l2, l3, l4], .inr (.inr r) :: st, M) x := g_pl (show decode cX11_endedOn 12 = .ok (.aload_n 0, 1) by decide +kernel) rfl
set_option maxRecDepth 20000 in
theorem kX11_endedOn_13 {C : QC} {x : QP} {M : QM} {st : List CV} {L : QL} {a : Nat} (hk : q_kd M a = (1, 11)) : Rr C mX11_endedOn (13, L, qr a :: st, M) x = Rr C mX11_endedOn (16, L, q_fv M a 3 :: st, M) x := g_getf (ow := 11) (e := (11, 3, RX11, 320, 0)) (show decode cX11_endedOn 13 = .ok (.getfield 27, 3) by decide +kernel) rfl hk
set_option maxRecDepth 20000 in
theorem kX11_endedOn_16 {C : QC} {x : QP} {M : QM} {st : List CV} {L : QL} {l0 l1 l2 l3 l4 : Option CV} {z : Int} : Rr C mX11_endedOn (16, [l0, l1, l2, some (qi z), l4], st, M) x = Rr C mX11_endedOn (17, [l0, l1, l2, some (qi z), l4], qi z :: st, M) x := g_pl (show decode cX11_endedOn 16 = .ok (.iload_n 3, 1) by decide +kernel) rfl
set_option maxRecDepth 20000 in
theorem kX11_endedOn_17 {C : QC} {x : QP} {M : QM} {st : List CV} {L : QL} {a : Nat} {j : Int} (hk : (q_kd M a).1 = 5 ∨ (q_kd M a).1 = 6) (h0 : 0 ≤ j) (h1 : j < ((q_kd M a).2 : Int)) : Rr C mX11_endedOn (17, L, qi j :: qr a :: st, M) x = Rr C mX11_endedOn (18, L, q_fv M a j.toNat :: st, M) x := g_aald (show decode cX11_endedOn 17 = .ok (.aaload, 1) by decide +kernel) hk h0 h1
set_option maxRecDepth 20000 in
theorem kX11_endedOn_18 {C : QC} {x : QP} {M : QM} {st : List CV} {L : QL} {l0 l1 l2 l3 l4 : Option CV} {z : Option Nat} : Rr C mX11_endedOn (18, [l0, l1, l2, l3, l4], .inr (.inr z) :: st, M) x = Rr C mX11_endedOn (20, [l0, l1, l2, q_cut l3, some (.inr (.inr z))], st, M) x := g_pl (show decode cX11_endedOn 18 = .ok (.astore 4, 2) by decide +kernel) rfl
set_option maxRecDepth 20000 in
theorem kX11_endedOn_20 {C : QC} {x : QP} {M : QM} {st : List CV} {L : QL} {l0 l1 l2 l3 l4 : Option CV} {r : Option Nat} : Rr C mX11_endedOn (20, [l0, l1, l2, l3, some (.inr (.inr r))], st, M) x = Rr C mX11_endedOn (22, [l0, l1, l2, l3, some (.inr (.inr r))], .inr (.inr r) :: st, M) x := g_pl (show decode cX11_endedOn 20 = .ok (.aload 4, 2) by decide +kernel) rfl
set_option maxRecDepth 20000 in
theorem kX11_endedOn_22r {C : QC} {x : QP} {M : QM} {st : List CV} {L : QL} {a : Nat} : Rr C mX11_endedOn (22, L, qr a :: st, M) x = Rr C mX11_endedOn (25, L, st, M) x := g_pl (show decode cX11_endedOn 22 = .ok (.ifnull 15, 3) by decide +kernel) rfl
set_option maxRecDepth 20000 in
theorem kX11_endedOn_22n {C : QC} {x : QP} {M : QM} {st : List CV} {L : QL} : Rr C mX11_endedOn (22, L, qn :: st, M) x = Rr C mX11_endedOn (37, L, st, M) x := g_pl (show decode cX11_endedOn 22 = .ok (.ifnull 15, 3) by decide +kernel) rfl
set_option maxRecDepth 20000 in
theorem kX11_endedOn_25 {C : QC} {x : QP} {M : QM} {st : List CV} {L : QL} {l0 l1 l2 l3 l4 : Option CV} {r : Option Nat} : Rr C mX11_endedOn (25, [l0, l1, l2, l3, some (.inr (.inr r))], st, M) x = Rr C mX11_endedOn (27, [l0, l1, l2, l3, some (.inr (.inr r))], .inr (.inr r) :: st, M) x := g_pl (show decode cX11_endedOn 25 = .ok (.aload 4, 2) by decide +kernel) rfl
set_option maxRecDepth 20000 in
theorem kX11_endedOn_27 {C : QC} {x : QP} {M : QM} {L : QL} {rest : List CV} {v : CV} {M1 : QM} {b : Nat} (hb : q_kd M b = (1, 4)) (hC : C iX4_end [qr b] M (some v) M1) (hw : (rest.map q_wd).sum ≤ 8) (k : Rr C mX11_endedOn (30, L, v :: rest, M1) x) : Rr C mX11_endedOn (27, L, qr b :: rest, M) x := g_cv (ow := 11) (e := (0, 40, 4, [877, 541, 542, 85])) (as := []) (show decode cX11_endedOn 27 = .ok (.invokevirtual 165, 3) by decide +kernel) rfl rfl rfl (Or.inl rfl) rfl hb hC hw k
set_option maxRecDepth 20000 in
theorem kX11_endedOn_30 {C : QC} {x : QP} {M : QM} {st : List CV} {L : QL} {l0 l1 l2 l3 l4 : Option CV} {z : Int} : Rr C mX11_endedOn (30, [l0, some (qi z), l2, l3, l4], st, M) x = Rr C mX11_endedOn (31, [l0, some (qi z), l2, l3, l4], qi z :: st, M) x := g_pl (show decode cX11_endedOn 30 = .ok (.iload_n 1, 1) by decide +kernel) rfl
set_option maxRecDepth 20000 in
theorem kX11_endedOn_31 {C : QC} {x : QP} {M : QM} {st : List CV} {L : QL} {a b : Int} (ha1 : -2147483648 ≤ a) (ha2 : a < 2147483648) (hb1 : -2147483648 ≤ b) (hb2 : b < 2147483648) : Rr C mX11_endedOn (31, L, qi b :: qi a :: st, M) x = (if b < a then Rr C mX11_endedOn (37, L, st, M) x else Rr C mX11_endedOn (34, L, st, M) x) := (g_icmp (show decode cX11_endedOn 31 = .ok (.if_icmp .gt 6, 3) by decide +kernel) rfl ha1 ha2 hb1 hb2).trans (g_ite c_gt)
set_option maxRecDepth 20000 in
theorem kX11_endedOn_34 {C : QC} {x : QP} {M : QM} {st : List CV} {L : QL} {l0 l1 l2 l3 l4 : Option CV} {z : Int} : Rr C mX11_endedOn (34, [l0, l1, some (qi z), l3, l4], st, M) x = Rr C mX11_endedOn (37, [l0, q_cut l1, some (qi (z + 1)), l3, l4], st, M) x := g_pl (show decode cX11_endedOn 34 = .ok (.iinc 2 1, 3) by decide +kernel) rfl
set_option maxRecDepth 20000 in
theorem kX11_endedOn_37 {C : QC} {x : QP} {M : QM} {st : List CV} {L : QL} {l0 l1 l2 l3 l4 : Option CV} {z : Int} : Rr C mX11_endedOn (37, [l0, l1, l2, some (qi z), l4], st, M) x = Rr C mX11_endedOn (40, [l0, l1, q_cut l2, some (qi (z + 1)), l4], st, M) x := g_pl (show decode cX11_endedOn 37 = .ok (.iinc 3 1, 3) by decide +kernel) rfl
set_option maxRecDepth 20000 in
theorem kX11_endedOn_40 {C : QC} {x : QP} {M : QM} {st : List CV} {L : QL} : Rr C mX11_endedOn (40, L, st, M) x = Rr C mX11_endedOn (4, L, st, M) x := g_pl (show decode cX11_endedOn 40 = .ok (.goto (-36), 3) by decide +kernel) rfl
set_option maxRecDepth 20000 in
theorem kX11_endedOn_43 {C : QC} {x : QP} {M : QM} {st : List CV} {L : QL} {l0 l1 l2 l3 l4 : Option CV} {z : Int} : Rr C mX11_endedOn (43, [l0, l1, some (qi z), l3, l4], st, M) x = Rr C mX11_endedOn (44, [l0, l1, some (qi z), l3, l4], qi z :: st, M) x := g_pl (show decode cX11_endedOn 43 = .ok (.iload_n 2, 1) by decide +kernel) rfl
set_option maxRecDepth 20000 in
theorem kX11_endedOn_44 {C : QC} {x : QP} {M : QM} {st : List CV} {L : QL} {z : Int} : Rr C mX11_endedOn (44, L, [qi z], M) x = x (some (qi z)) M := g_iret (show decode cX11_endedOn 44 = .ok (.ireturn, 1) by decide +kernel) rfl
set_option maxRecDepth 20000 in
theorem eX11_endedOn {d : Nat} {M : QM} {x : QP} {a : Nat} {v0 : Int} : q_T (d + 1) iX11_endedOn [qr a, qi v0] M x = Rr (q_C d) mX11_endedOn (0, [some (qr a), some (qi v0), none, none, none], [], M) x := g_entryT (e := _) rfl (Nat.le_of_ble_eq_true rfl) rfl rfl
def mX11_differentNamesOn : QI := (11, cX11_differentNamesOn, false, some .int)
set_option maxRecDepth 20000 in
theorem kX11_differentNamesOn_0 {C : QC} {x : QP} {M : QM} {st : List CV} {L : QL} : Rr C mX11_differentNamesOn (0, L, st, M) x = Rr C mX11_differentNamesOn (1, L, qi 0 :: st, M) x := g_pl (show decode cX11_differentNamesOn 0 = .ok (.iconst 0, 1) by decide +kernel) rfl
set_option maxRecDepth 20000 in
theorem kX11_differentNamesOn_1 {C : QC} {x : QP} {M : QM} {st : List CV} {L : QL} {l0 l1 l2 l3 : Option CV} {z : Int} : Rr C mX11_differentNamesOn (1, [l0, l1, l2, l3], qi z :: st, M) x = Rr C mX11_differentNamesOn (2, [l0, q_cut l1, some (qi z), l3], st, M) x := g_pl (show decode cX11_differentNamesOn 1 = .ok (.istore_n 2, 1) by decide +kernel) rfl
set_option maxRecDepth 20000 in
theorem kX11_differentNamesOn_2 {C : QC} {x : QP} {M : QM} {st : List CV} {L : QL} : Rr C mX11_differentNamesOn (2, L, st, M) x = Rr C mX11_differentNamesOn (3, L, qi 0 :: st, M) x := g_pl (show decode cX11_differentNamesOn 2 = .ok (.iconst 0, 1) by decide +kernel) rfl
set_option maxRecDepth 20000 in
theorem kX11_differentNamesOn_3 {C : QC} {x : QP} {M : QM} {st : List CV} {L : QL} {l0 l1 l2 l3 : Option CV} {z : Int} : Rr C mX11_differentNamesOn (3, [l0, l1, l2, l3], qi z :: st, M) x = Rr C mX11_differentNamesOn (4, [l0, l1, q_cut l2, some (qi z)], st, M) x := g_pl (show decode cX11_differentNamesOn 3 = .ok (.istore_n 3, 1) by decide +kernel) rfl
set_option maxRecDepth 20000 in
theorem kX11_differentNamesOn_4 {C : QC} {x : QP} {M : QM} {st : List CV} {L : QL} {l0 l1 l2 l3 : Option CV} {z : Int} : Rr C mX11_differentNamesOn (4, [l0, l1, l2, some (qi z)], st, M) x = Rr C mX11_differentNamesOn (5, [l0, l1, l2, some (qi z)], qi z :: st, M) x := g_pl (show decode cX11_differentNamesOn 4 = .ok (.iload_n 3, 1) by decide +kernel) rfl
set_option maxRecDepth 20000 in
theorem kX11_differentNamesOn_5 {C : QC} {x : QP} {M : QM} {st : List CV} {L : QL} {l0 l1 l2 l3 : Option CV} {r : Option Nat} : Rr C mX11_differentNamesOn (5, [some (.inr (.inr r)), l1, l2, l3], st, M) x = Rr C mX11_differentNamesOn (6, [some (.inr (.inr r)), l1, l2, l3], .inr (.inr r) :: st, M) x := g_pl (show decode cX11_differentNamesOn 5 = .ok (.aload_n 0, 1) by decide +kernel) rfl
set_option maxRecDepth 20000 in
theorem kX11_differentNamesOn_6 {C : QC} {x : QP} {M : QM} {st : List CV} {L : QL} {a : Nat} (hk : q_kd M a = (1, 11)) : Rr C mX11_differentNamesOn (6, L, qr a :: st, M) x = Rr C mX11_differentNamesOn (9, L, q_fv M a 4 :: st, M) x := g_getf (ow := 11) (e := (11, 4, RX11, 321, 0)) (show decode cX11_differentNamesOn 6 = .ok (.getfield 31, 3) by decide +kernel) rfl hk
set_option maxRecDepth 20000 in
theorem kX11_differentNamesOn_9 {C : QC} {x : QP} {M : QM} {st : List CV} {L : QL} {a b : Int} (ha1 : -2147483648 ≤ a) (ha2 : a < 2147483648) (hb1 : -2147483648 ≤ b) (hb2 : b < 2147483648) : Rr C mX11_differentNamesOn (9, L, qi b :: qi a :: st, M) x = (if a < b then Rr C mX11_differentNamesOn (12, L, st, M) x else Rr C mX11_differentNamesOn (30, L, st, M) x) := (g_icmp (show decode cX11_differentNamesOn 9 = .ok (.if_icmp .ge 21, 3) by decide +kernel) rfl ha1 ha2 hb1 hb2).trans (g_itn c_ge)
set_option maxRecDepth 20000 in
theorem kX11_differentNamesOn_12 {C : QC} {x : QP} {M : QM} {st : List CV} {L : QL} {l0 l1 l2 l3 : Option CV} {r : Option Nat} : Rr C mX11_differentNamesOn (12, [some (.inr (.inr r)), l1, l2, l3], st, M) x = Rr C mX11_differentNamesOn (13, [some (.inr (.inr r)), l1, l2, l3], .inr (.inr r) :: st, M) x := g_pl (show decode cX11_differentNamesOn 12 = .ok (.aload_n 0, 1) by decide +kernel) rfl
set_option maxRecDepth 20000 in
theorem kX11_differentNamesOn_13 {C : QC} {x : QP} {M : QM} {st : List CV} {L : QL} {l0 l1 l2 l3 : Option CV} {z : Int} : Rr C mX11_differentNamesOn (13, [l0, l1, l2, some (qi z)], st, M) x = Rr C mX11_differentNamesOn (14, [l0, l1, l2, some (qi z)], qi z :: st, M) x := g_pl (show decode cX11_differentNamesOn 13 = .ok (.iload_n 3, 1) by decide +kernel) rfl
set_option maxRecDepth 20000 in
theorem kX11_differentNamesOn_14 {C : QC} {x : QP} {M : QM} {st : List CV} {L : QL} {l0 l1 l2 l3 : Option CV} {z : Int} : Rr C mX11_differentNamesOn (14, [l0, some (qi z), l2, l3], st, M) x = Rr C mX11_differentNamesOn (15, [l0, some (qi z), l2, l3], qi z :: st, M) x := g_pl (show decode cX11_differentNamesOn 14 = .ok (.iload_n 1, 1) by decide +kernel) rfl
set_option maxRecDepth 20000 in
theorem kX11_differentNamesOn_15 {C : QC} {x : QP} {M : QM} {L : QL} {rest : List CV} {a0 a1 : CV} {v : CV} {M1 : QM} {b : Nat} (hb : q_kd M b = (1, 11)) (hC : C iX11_isFirstOfItsName [qr b, a0, a1] M (some v) M1) (hw : (rest.map q_wd).sum ≤ 8) (k : Rr C mX11_differentNamesOn (18, L, v :: rest, M1) x) : Rr C mX11_differentNamesOn (15, L, a1 :: a0 :: qr b :: rest, M) x := g_cv (ow := 11) (e := (0, 189, 11, [1263, 1265, 25, 83])) (as := [a0, a1]) (show decode cX11_differentNamesOn 15 = .ok (.invokevirtual 189, 3) by decide +kernel) rfl rfl rfl (Or.inl rfl) rfl hb hC hw k
set_option maxRecDepth 20000 in
theorem kX11_differentNamesOn_18 {C : QC} {x : QP} {M : QM} {st : List CV} {L : QL} {a : Int} (ha1 : -2147483648 ≤ a) (ha2 : a < 2147483648) : Rr C mX11_differentNamesOn (18, L, qi a :: st, M) x = (if a = 0 then Rr C mX11_differentNamesOn (24, L, st, M) x else Rr C mX11_differentNamesOn (21, L, st, M) x) := (g_if (show decode cX11_differentNamesOn 18 = .ok (.ifCond .eq 6, 3) by decide +kernel) rfl ha1 ha2).trans (g_ite c_eq)
set_option maxRecDepth 20000 in
theorem kX11_differentNamesOn_21 {C : QC} {x : QP} {M : QM} {st : List CV} {L : QL} {l0 l1 l2 l3 : Option CV} {z : Int} : Rr C mX11_differentNamesOn (21, [l0, l1, some (qi z), l3], st, M) x = Rr C mX11_differentNamesOn (24, [l0, q_cut l1, some (qi (z + 1)), l3], st, M) x := g_pl (show decode cX11_differentNamesOn 21 = .ok (.iinc 2 1, 3) by decide +kernel) rfl
set_option maxRecDepth 20000 in
theorem kX11_differentNamesOn_24 {C : QC} {x : QP} {M : QM} {st : List CV} {L : QL} {l0 l1 l2 l3 : Option CV} {z : Int} : Rr C mX11_differentNamesOn (24, [l0, l1, l2, some (qi z)], st, M) x = Rr C mX11_differentNamesOn (27, [l0, l1, q_cut l2, some (qi (z + 1))], st, M) x := g_pl (show decode cX11_differentNamesOn 24 = .ok (.iinc 3 1, 3) by decide +kernel) rfl
set_option maxRecDepth 20000 in
theorem kX11_differentNamesOn_27 {C : QC} {x : QP} {M : QM} {st : List CV} {L : QL} : Rr C mX11_differentNamesOn (27, L, st, M) x = Rr C mX11_differentNamesOn (4, L, st, M) x := g_pl (show decode cX11_differentNamesOn 27 = .ok (.goto (-23), 3) by decide +kernel) rfl
set_option maxRecDepth 20000 in
theorem kX11_differentNamesOn_30 {C : QC} {x : QP} {M : QM} {st : List CV} {L : QL} {l0 l1 l2 l3 : Option CV} {z : Int} : Rr C mX11_differentNamesOn (30, [l0, l1, some (qi z), l3], st, M) x = Rr C mX11_differentNamesOn (31, [l0, l1, some (qi z), l3], qi z :: st, M) x := g_pl (show decode cX11_differentNamesOn 30 = .ok (.iload_n 2, 1) by decide +kernel) rfl
set_option maxRecDepth 20000 in
theorem kX11_differentNamesOn_31 {C : QC} {x : QP} {M : QM} {st : List CV} {L : QL} {z : Int} : Rr C mX11_differentNamesOn (31, L, [qi z], M) x = x (some (qi z)) M := g_iret (show decode cX11_differentNamesOn 31 = .ok (.ireturn, 1) by decide +kernel) rfl
set_option maxRecDepth 20000 in
theorem eX11_differentNamesOn {d : Nat} {M : QM} {x : QP} {a : Nat} {v0 : Int} : q_T (d + 1) iX11_differentNamesOn [qr a, qi v0] M x = Rr (q_C d) mX11_differentNamesOn (0, [some (qr a), some (qi v0), none, none], [], M) x := g_entryT (e := _) rfl (Nat.le_of_ble_eq_true rfl) rfl rfl
def mX11_isFirstOfItsName : QI := (11, cX11_isFirstOfItsName, false, some .boolean)
set_option maxRecDepth 20000 in
theorem kX11_isFirstOfItsName_0 {C : QC} {x : QP} {M : QM} {st : List CV} {L : QL} {l0 l1 l2 l3 l4 l5 : Option CV} {r : Option Nat} : Rr C mX11_isFirstOfItsName (0, [some (.inr (.inr r)), l1, l2, l3, l4, l5], st, M) x = Rr C mX11_isFirstOfItsName (1, [some (.inr (.inr r)), l1, l2, l3, l4, l5], .inr (.inr r) :: st, M) x := g_pl (show decode cX11_isFirstOfItsName 0 = .ok (.aload_n 0, 1) by decide +kernel) rfl
set_option maxRecDepth 20000 in
theorem kX11_isFirstOfItsName_1 {C : QC} {x : QP} {M : QM} {st : List CV} {L : QL} {l0 l1 l2 l3 l4 l5 : Option CV} {z : Int} : Rr C mX11_isFirstOfItsName (1, [l0, some (qi z), l2, l3, l4, l5], st, M) x = Rr C mX11_isFirstOfItsName (2, [l0, some (qi z), l2, l3, l4, l5], qi z :: st, M) x := g_pl (show decode cX11_isFirstOfItsName 1 = .ok (.iload_n 1, 1) by decide +kernel) rfl
set_option maxRecDepth 20000 in
theorem kX11_isFirstOfItsName_2 {C : QC} {x : QP} {M : QM} {L : QL} {rest : List CV} {a0 : CV} {v : CV} {M1 : QM} {b : Nat} (hb : q_kd M b = (1, 11)) (hC : C iX11_place [qr b, a0] M (some v) M1) (hw : (rest.map q_wd).sum ≤ 8) (k : Rr C mX11_isFirstOfItsName (5, L, v :: rest, M1) x) : Rr C mX11_isFirstOfItsName (2, L, a0 :: qr b :: rest, M) x := g_cv (ow := 11) (e := (0, 30, 11, [679, 504, 505, 83])) (as := [a0]) (show decode cX11_isFirstOfItsName 2 = .ok (.invokevirtual 72, 3) by decide +kernel) rfl rfl rfl (Or.inl rfl) rfl hb hC hw k
set_option maxRecDepth 20000 in
theorem kX11_isFirstOfItsName_5 {C : QC} {x : QP} {M : QM} {st : List CV} {L : QL} {l0 l1 l2 l3 l4 l5 : Option CV} {z : Option Nat} : Rr C mX11_isFirstOfItsName (5, [l0, l1, l2, l3, l4, l5], .inr (.inr z) :: st, M) x = Rr C mX11_isFirstOfItsName (6, [l0, l1, q_cut l2, some (.inr (.inr z)), l4, l5], st, M) x := g_pl (show decode cX11_isFirstOfItsName 5 = .ok (.astore_n 3, 1) by decide +kernel) rfl
set_option maxRecDepth 20000 in
theorem kX11_isFirstOfItsName_6 {C : QC} {x : QP} {M : QM} {st : List CV} {L : QL} {l0 l1 l2 l3 l4 l5 : Option CV} {r : Option Nat} : Rr C mX11_isFirstOfItsName (6, [l0, l1, l2, some (.inr (.inr r)), l4, l5], st, M) x = Rr C mX11_isFirstOfItsName (7, [l0, l1, l2, some (.inr (.inr r)), l4, l5], .inr (.inr r) :: st, M) x := g_pl (show decode cX11_isFirstOfItsName 6 = .ok (.aload_n 3, 1) by decide +kernel) rfl
set_option maxRecDepth 20000 in
theorem kX11_isFirstOfItsName_7r {C : QC} {x : QP} {M : QM} {st : List CV} {L : QL} {a : Nat} : Rr C mX11_isFirstOfItsName (7, L, qr a :: st, M) x = Rr C mX11_isFirstOfItsName (10, L, st, M) x := g_pl (show decode cX11_isFirstOfItsName 7 = .ok (.ifnull 11, 3) by decide +kernel) rfl
set_option maxRecDepth 20000 in
theorem kX11_isFirstOfItsName_7n {C : QC} {x : QP} {M : QM} {st : List CV} {L : QL} : Rr C mX11_isFirstOfItsName (7, L, qn :: st, M) x = Rr C mX11_isFirstOfItsName (18, L, st, M) x := g_pl (show decode cX11_isFirstOfItsName 7 = .ok (.ifnull 11, 3) by decide +kernel) rfl
set_option maxRecDepth 20000 in
theorem kX11_isFirstOfItsName_10 {C : QC} {x : QP} {M : QM} {st : List CV} {L : QL} {l0 l1 l2 l3 l4 l5 : Option CV} {r : Option Nat} : Rr C mX11_isFirstOfItsName (10, [l0, l1, l2, some (.inr (.inr r)), l4, l5], st, M) x = Rr C mX11_isFirstOfItsName (11, [l0, l1, l2, some (.inr (.inr r)), l4, l5], .inr (.inr r) :: st, M) x := g_pl (show decode cX11_isFirstOfItsName 10 = .ok (.aload_n 3, 1) by decide +kernel) rfl
set_option maxRecDepth 20000 in
theorem kX11_isFirstOfItsName_11 {C : QC} {x : QP} {M : QM} {st : List CV} {L : QL} {l0 l1 l2 l3 l4 l5 : Option CV} {z : Int} : Rr C mX11_isFirstOfItsName (11, [l0, l1, some (qi z), l3, l4, l5], st, M) x = Rr C mX11_isFirstOfItsName (12, [l0, l1, some (qi z), l3, l4, l5], qi z :: st, M) x := g_pl (show decode cX11_isFirstOfItsName 11 = .ok (.iload_n 2, 1) by decide +kernel) rfl
set_option maxRecDepth 20000 in
theorem kX11_isFirstOfItsName_12 {C : QC} {x : QP} {M : QM} {L : QL} {rest : List CV} {a0 : CV} {v : CV} {M1 : QM} {b : Nat} (hb : q_kd M b = (1, 4)) (hC : C iX4_existsOn [qr b, a0] M (some v) M1) (hw : (rest.map q_wd).sum ≤ 8) (k : Rr C mX11_isFirstOfItsName (15, L, v :: rest, M1) x) : Rr C mX11_isFirstOfItsName (12, L, a0 :: qr b :: rest, M) x := g_cv (ow := 11) (e := (0, 109, 4, [897, 870, 871, 85])) (as := [a0]) (show decode cX11_isFirstOfItsName 12 = .ok (.invokevirtual 177, 3) by decide +kernel) rfl rfl rfl (Or.inl rfl) rfl hb hC hw k
set_option maxRecDepth 20000 in
theorem kX11_isFirstOfItsName_15 {C : QC} {x : QP} {M : QM} {st : List CV} {L : QL} {a : Int} (ha1 : -2147483648 ≤ a) (ha2 : a < 2147483648) : Rr C mX11_isFirstOfItsName (15, L, qi a :: st, M) x = (if a = 0 then Rr C mX11_isFirstOfItsName (18, L, st, M) x else Rr C mX11_isFirstOfItsName (20, L, st, M) x) := (g_if (show decode cX11_isFirstOfItsName 15 = .ok (.ifCond .ne 5, 3) by decide +kernel) rfl ha1 ha2).trans (g_itn c_ne)
set_option maxRecDepth 20000 in
theorem kX11_isFirstOfItsName_18 {C : QC} {x : QP} {M : QM} {st : List CV} {L : QL} : Rr C mX11_isFirstOfItsName (18, L, st, M) x = Rr C mX11_isFirstOfItsName (19, L, qi 0 :: st, M) x := g_pl (show decode cX11_isFirstOfItsName 18 = .ok (.iconst 0, 1) by decide +kernel) rfl
set_option maxRecDepth 20000 in
theorem kX11_isFirstOfItsName_19 {C : QC} {x : QP} {M : QM} {st : List CV} {L : QL} {z : Int} (hz : z = 0 ∨ z = 1) : Rr C mX11_isFirstOfItsName (19, L, [qi z], M) x = x (some (qi z)) M := g_iret (show decode cX11_isFirstOfItsName 19 = .ok (.ireturn, 1) by decide +kernel) (by rcases hz with rfl | rfl <;> rfl)
set_option maxRecDepth 20000 in
theorem kX11_isFirstOfItsName_20 {C : QC} {x : QP} {M : QM} {st : List CV} {L : QL} : Rr C mX11_isFirstOfItsName (20, L, st, M) x = Rr C mX11_isFirstOfItsName (21, L, qi 0 :: st, M) x := g_pl (show decode cX11_isFirstOfItsName 20 = .ok (.iconst 0, 1) by decide +kernel) rfl
set_option maxRecDepth 20000 in
theorem kX11_isFirstOfItsName_21 {C : QC} {x : QP} {M : QM} {st : List CV} {L : QL} {l0 l1 l2 l3 l4 l5 : Option CV} {z : Int} : Rr C mX11_isFirstOfItsName (21, [l0, l1, l2, l3, l4, l5], qi z :: st, M) x = Rr C mX11_isFirstOfItsName (23, [l0, l1, l2, q_cut l3, some (qi z), l5], st, M) x := g_pl (show decode cX11_isFirstOfItsName 21 = .ok (.istore 4, 2) by decide +kernel) rfl
set_option maxRecDepth 20000 in
theorem kX11_isFirstOfItsName_23 {C : QC} {x : QP} {M : QM} {st : List CV} {L : QL} {l0 l1 l2 l3 l4 l5 : Option CV} {z : Int} : Rr C mX11_isFirstOfItsName (23, [l0, l1, l2, l3, some (qi z), l5], st, M) x = Rr C mX11_isFirstOfItsName (25, [l0, l1, l2, l3, some (qi z), l5], qi z :: st, M) x := g_pl (show decode cX11_isFirstOfItsName 23 = .ok (.iload 4, 2) by decide +kernel) rfl
set_option maxRecDepth 20000 in
theorem kX11_isFirstOfItsName_25 {C : QC} {x : QP} {M : QM} {st : List CV} {L : QL} {l0 l1 l2 l3 l4 l5 : Option CV} {z : Int} : Rr C mX11_isFirstOfItsName (25, [l0, some (qi z), l2, l3, l4, l5], st, M) x = Rr C mX11_isFirstOfItsName (26, [l0, some (qi z), l2, l3, l4, l5], qi z :: st, M) x := g_pl (show decode cX11_isFirstOfItsName 25 = .ok (.iload_n 1, 1) by decide +kernel) rfl
set_option maxRecDepth 20000 in
theorem kX11_isFirstOfItsName_26 {C : QC} {x : QP} {M : QM} {st : List CV} {L : QL} {a b : Int} (ha1 : -2147483648 ≤ a) (ha2 : a < 2147483648) (hb1 : -2147483648 ≤ b) (hb2 : b < 2147483648) : Rr C mX11_isFirstOfItsName (26, L, qi b :: qi a :: st, M) x = (if a < b then Rr C mX11_isFirstOfItsName (29, L, st, M) x else Rr C mX11_isFirstOfItsName (80, L, st, M) x) := (g_icmp (show decode cX11_isFirstOfItsName 26 = .ok (.if_icmp .ge 54, 3) by decide +kernel) rfl ha1 ha2 hb1 hb2).trans (g_itn c_ge)
set_option maxRecDepth 20000 in
theorem kX11_isFirstOfItsName_29 {C : QC} {x : QP} {M : QM} {st : List CV} {L : QL} {l0 l1 l2 l3 l4 l5 : Option CV} {r : Option Nat} : Rr C mX11_isFirstOfItsName (29, [some (.inr (.inr r)), l1, l2, l3, l4, l5], st, M) x = Rr C mX11_isFirstOfItsName (30, [some (.inr (.inr r)), l1, l2, l3, l4, l5], .inr (.inr r) :: st, M) x := g_pl (show decode cX11_isFirstOfItsName 29 = .ok (.aload_n 0, 1) by decide +kernel) rfl
set_option maxRecDepth 20000 in
theorem kX11_isFirstOfItsName_30 {C : QC} {x : QP} {M : QM} {st : List CV} {L : QL} {l0 l1 l2 l3 l4 l5 : Option CV} {z : Int} : Rr C mX11_isFirstOfItsName (30, [l0, l1, l2, l3, some (qi z), l5], st, M) x = Rr C mX11_isFirstOfItsName (32, [l0, l1, l2, l3, some (qi z), l5], qi z :: st, M) x := g_pl (show decode cX11_isFirstOfItsName 30 = .ok (.iload 4, 2) by decide +kernel) rfl
set_option maxRecDepth 20000 in
theorem kX11_isFirstOfItsName_32 {C : QC} {x : QP} {M : QM} {L : QL} {rest : List CV} {a0 : CV} {v : CV} {M1 : QM} {b : Nat} (hb : q_kd M b = (1, 11)) (hC : C iX11_place [qr b, a0] M (some v) M1) (hw : (rest.map q_wd).sum ≤ 8) (k : Rr C mX11_isFirstOfItsName (35, L, v :: rest, M1) x) : Rr C mX11_isFirstOfItsName (32, L, a0 :: qr b :: rest, M) x := g_cv (ow := 11) (e := (0, 30, 11, [679, 504, 505, 83])) (as := [a0]) (show decode cX11_isFirstOfItsName 32 = .ok (.invokevirtual 72, 3) by decide +kernel) rfl rfl rfl (Or.inl rfl) rfl hb hC hw k
set_option maxRecDepth 20000 in
theorem kX11_isFirstOfItsName_35 {C : QC} {x : QP} {M : QM} {st : List CV} {L : QL} {l0 l1 l2 l3 l4 l5 : Option CV} {z : Option Nat} : Rr C mX11_isFirstOfItsName (35, [l0, l1, l2, l3, l4, l5], .inr (.inr z) :: st, M) x = Rr C mX11_isFirstOfItsName (37, [l0, l1, l2, l3, q_cut l4, some (.inr (.inr z))], st, M) x := g_pl (show decode cX11_isFirstOfItsName 35 = .ok (.astore 5, 2) by decide +kernel) rfl
set_option maxRecDepth 20000 in
theorem kX11_isFirstOfItsName_37 {C : QC} {x : QP} {M : QM} {st : List CV} {L : QL} {l0 l1 l2 l3 l4 l5 : Option CV} {r : Option Nat} : Rr C mX11_isFirstOfItsName (37, [l0, l1, l2, l3, l4, some (.inr (.inr r))], st, M) x = Rr C mX11_isFirstOfItsName (39, [l0, l1, l2, l3, l4, some (.inr (.inr r))], .inr (.inr r) :: st, M) x := g_pl (show decode cX11_isFirstOfItsName 37 = .ok (.aload 5, 2) by decide +kernel) rfl
set_option maxRecDepth 20000 in
theorem kX11_isFirstOfItsName_39r {C : QC} {x : QP} {M : QM} {st : List CV} {L : QL} {a : Nat} : Rr C mX11_isFirstOfItsName (39, L, qr a :: st, M) x = Rr C mX11_isFirstOfItsName (42, L, st, M) x := g_pl (show decode cX11_isFirstOfItsName 39 = .ok (.ifnull 35, 3) by decide +kernel) rfl
set_option maxRecDepth 20000 in
theorem kX11_isFirstOfItsName_39n {C : QC} {x : QP} {M : QM} {st : List CV} {L : QL} : Rr C mX11_isFirstOfItsName (39, L, qn :: st, M) x = Rr C mX11_isFirstOfItsName (74, L, st, M) x := g_pl (show decode cX11_isFirstOfItsName 39 = .ok (.ifnull 35, 3) by decide +kernel) rfl
set_option maxRecDepth 20000 in
theorem kX11_isFirstOfItsName_42 {C : QC} {x : QP} {M : QM} {st : List CV} {L : QL} {l0 l1 l2 l3 l4 l5 : Option CV} {r : Option Nat} : Rr C mX11_isFirstOfItsName (42, [l0, l1, l2, l3, l4, some (.inr (.inr r))], st, M) x = Rr C mX11_isFirstOfItsName (44, [l0, l1, l2, l3, l4, some (.inr (.inr r))], .inr (.inr r) :: st, M) x := g_pl (show decode cX11_isFirstOfItsName 42 = .ok (.aload 5, 2) by decide +kernel) rfl
set_option maxRecDepth 20000 in
theorem kX11_isFirstOfItsName_44 {C : QC} {x : QP} {M : QM} {st : List CV} {L : QL} {l0 l1 l2 l3 l4 l5 : Option CV} {z : Int} : Rr C mX11_isFirstOfItsName (44, [l0, l1, some (qi z), l3, l4, l5], st, M) x = Rr C mX11_isFirstOfItsName (45, [l0, l1, some (qi z), l3, l4, l5], qi z :: st, M) x := g_pl (show decode cX11_isFirstOfItsName 44 = .ok (.iload_n 2, 1) by decide +kernel) rfl
set_option maxRecDepth 20000 in
theorem kX11_isFirstOfItsName_45 {C : QC} {x : QP} {M : QM} {L : QL} {rest : List CV} {a0 : CV} {v : CV} {M1 : QM} {b : Nat} (hb : q_kd M b = (1, 4)) (hC : C iX4_existsOn [qr b, a0] M (some v) M1) (hw : (rest.map q_wd).sum ≤ 8) (k : Rr C mX11_isFirstOfItsName (48, L, v :: rest, M1) x) : Rr C mX11_isFirstOfItsName (45, L, a0 :: qr b :: rest, M) x := g_cv (ow := 11) (e := (0, 109, 4, [897, 870, 871, 85])) (as := [a0]) (show decode cX11_isFirstOfItsName 45 = .ok (.invokevirtual 177, 3) by decide +kernel) rfl rfl rfl (Or.inl rfl) rfl hb hC hw k
set_option maxRecDepth 20000 in
theorem kX11_isFirstOfItsName_48 {C : QC} {x : QP} {M : QM} {st : List CV} {L : QL} {a : Int} (ha1 : -2147483648 ≤ a) (ha2 : a < 2147483648) : Rr C mX11_isFirstOfItsName (48, L, qi a :: st, M) x = (if a = 0 then Rr C mX11_isFirstOfItsName (74, L, st, M) x else Rr C mX11_isFirstOfItsName (51, L, st, M) x) := (g_if (show decode cX11_isFirstOfItsName 48 = .ok (.ifCond .eq 26, 3) by decide +kernel) rfl ha1 ha2).trans (g_ite c_eq)
set_option maxRecDepth 20000 in
theorem kX11_isFirstOfItsName_51 {C : QC} {x : QP} {M : QM} {st : List CV} {L : QL} {l0 l1 l2 l3 l4 l5 : Option CV} {r : Option Nat} : Rr C mX11_isFirstOfItsName (51, [l0, l1, l2, l3, l4, some (.inr (.inr r))], st, M) x = Rr C mX11_isFirstOfItsName (53, [l0, l1, l2, l3, l4, some (.inr (.inr r))], .inr (.inr r) :: st, M) x := g_pl (show decode cX11_isFirstOfItsName 51 = .ok (.aload 5, 2) by decide +kernel) rfl
set_option maxRecDepth 20000 in
theorem kX11_isFirstOfItsName_53 {C : QC} {x : QP} {M : QM} {st : List CV} {L : QL} {a : Nat} (hk : q_kd M a = (1, 4)) : Rr C mX11_isFirstOfItsName (53, L, qr a :: st, M) x = Rr C mX11_isFirstOfItsName (56, L, q_fv M a 6 :: st, M) x := g_getf (ow := 11) (e := (4, 6, RX4, 286, 0)) (show decode cX11_isFirstOfItsName 53 = .ok (.getfield 112, 3) by decide +kernel) rfl hk
set_option maxRecDepth 20000 in
theorem kX11_isFirstOfItsName_56 {C : QC} {x : QP} {M : QM} {st : List CV} {L : QL} {l0 l1 l2 l3 l4 l5 : Option CV} {z : Int} : Rr C mX11_isFirstOfItsName (56, [l0, l1, some (qi z), l3, l4, l5], st, M) x = Rr C mX11_isFirstOfItsName (57, [l0, l1, some (qi z), l3, l4, l5], qi z :: st, M) x := g_pl (show decode cX11_isFirstOfItsName 56 = .ok (.iload_n 2, 1) by decide +kernel) rfl
set_option maxRecDepth 20000 in
theorem kX11_isFirstOfItsName_57 {C : QC} {x : QP} {M : QM} {L : QL} {rest : List CV} {a0 : CV} {v : CV} {M1 : QM} {b : Nat} (hb : q_kd M b = (1, 2)) (hC : C iX2_at [qr b, a0] M (some v) M1) (hw : (rest.map q_wd).sum ≤ 8) (k : Rr C mX11_isFirstOfItsName (60, L, v :: rest, M1) x) : Rr C mX11_isFirstOfItsName (57, L, a0 :: qr b :: rest, M) x := g_cv (ow := 11) (e := (0, 66, 2, [683, 684, 685, 86])) (as := [a0]) (show decode cX11_isFirstOfItsName 57 = .ok (.invokevirtual 116, 3) by decide +kernel) rfl rfl rfl (Or.inl rfl) rfl hb hC hw k
set_option maxRecDepth 20000 in
theorem kX11_isFirstOfItsName_60 {C : QC} {x : QP} {M : QM} {st : List CV} {L : QL} {l0 l1 l2 l3 l4 l5 : Option CV} {r : Option Nat} : Rr C mX11_isFirstOfItsName (60, [l0, l1, l2, some (.inr (.inr r)), l4, l5], st, M) x = Rr C mX11_isFirstOfItsName (61, [l0, l1, l2, some (.inr (.inr r)), l4, l5], .inr (.inr r) :: st, M) x := g_pl (show decode cX11_isFirstOfItsName 60 = .ok (.aload_n 3, 1) by decide +kernel) rfl
set_option maxRecDepth 20000 in
theorem kX11_isFirstOfItsName_61 {C : QC} {x : QP} {M : QM} {st : List CV} {L : QL} {a : Nat} (hk : q_kd M a = (1, 4)) : Rr C mX11_isFirstOfItsName (61, L, qr a :: st, M) x = Rr C mX11_isFirstOfItsName (64, L, q_fv M a 6 :: st, M) x := g_getf (ow := 11) (e := (4, 6, RX4, 286, 0)) (show decode cX11_isFirstOfItsName 61 = .ok (.getfield 112, 3) by decide +kernel) rfl hk
set_option maxRecDepth 20000 in
theorem kX11_isFirstOfItsName_64 {C : QC} {x : QP} {M : QM} {st : List CV} {L : QL} {l0 l1 l2 l3 l4 l5 : Option CV} {z : Int} : Rr C mX11_isFirstOfItsName (64, [l0, l1, some (qi z), l3, l4, l5], st, M) x = Rr C mX11_isFirstOfItsName (65, [l0, l1, some (qi z), l3, l4, l5], qi z :: st, M) x := g_pl (show decode cX11_isFirstOfItsName 64 = .ok (.iload_n 2, 1) by decide +kernel) rfl
set_option maxRecDepth 20000 in
theorem kX11_isFirstOfItsName_65 {C : QC} {x : QP} {M : QM} {L : QL} {rest : List CV} {a0 : CV} {v : CV} {M1 : QM} {b : Nat} (hb : q_kd M b = (1, 2)) (hC : C iX2_at [qr b, a0] M (some v) M1) (hw : (rest.map q_wd).sum ≤ 8) (k : Rr C mX11_isFirstOfItsName (68, L, v :: rest, M1) x) : Rr C mX11_isFirstOfItsName (65, L, a0 :: qr b :: rest, M) x := g_cv (ow := 11) (e := (0, 66, 2, [683, 684, 685, 86])) (as := [a0]) (show decode cX11_isFirstOfItsName 65 = .ok (.invokevirtual 116, 3) by decide +kernel) rfl rfl rfl (Or.inl rfl) rfl hb hC hw k
set_option maxRecDepth 20000 in
theorem kX11_isFirstOfItsName_68 {C : QC} {x : QP} {M : QM} {st : List CV} {L : QL} {a b : Int} : Rr C mX11_isFirstOfItsName (68, L, ql b :: ql a :: st, M) x = Rr C mX11_isFirstOfItsName (69, L, qi (q_lcmp a b) :: st, M) x := g_pl (show decode cX11_isFirstOfItsName 68 = .ok (.lcmp, 1) by decide +kernel) rfl
set_option maxRecDepth 20000 in
theorem kX11_isFirstOfItsName_69 {C : QC} {x : QP} {M : QM} {st : List CV} {L : QL} {a : Int} (ha1 : -2147483648 ≤ a) (ha2 : a < 2147483648) : Rr C mX11_isFirstOfItsName (69, L, qi a :: st, M) x = (if a = 0 then Rr C mX11_isFirstOfItsName (72, L, st, M) x else Rr C mX11_isFirstOfItsName (74, L, st, M) x) := (g_if (show decode cX11_isFirstOfItsName 69 = .ok (.ifCond .ne 5, 3) by decide +kernel) rfl ha1 ha2).trans (g_itn c_ne)
set_option maxRecDepth 20000 in
theorem kX11_isFirstOfItsName_72 {C : QC} {x : QP} {M : QM} {st : List CV} {L : QL} : Rr C mX11_isFirstOfItsName (72, L, st, M) x = Rr C mX11_isFirstOfItsName (73, L, qi 0 :: st, M) x := g_pl (show decode cX11_isFirstOfItsName 72 = .ok (.iconst 0, 1) by decide +kernel) rfl
set_option maxRecDepth 20000 in
theorem kX11_isFirstOfItsName_73 {C : QC} {x : QP} {M : QM} {st : List CV} {L : QL} {z : Int} (hz : z = 0 ∨ z = 1) : Rr C mX11_isFirstOfItsName (73, L, [qi z], M) x = x (some (qi z)) M := g_iret (show decode cX11_isFirstOfItsName 73 = .ok (.ireturn, 1) by decide +kernel) (by rcases hz with rfl | rfl <;> rfl)
set_option maxRecDepth 20000 in
theorem kX11_isFirstOfItsName_74 {C : QC} {x : QP} {M : QM} {st : List CV} {L : QL} {l0 l1 l2 l3 l4 l5 : Option CV} {z : Int} : Rr C mX11_isFirstOfItsName (74, [l0, l1, l2, l3, some (qi z), l5], st, M) x = Rr C mX11_isFirstOfItsName (77, [l0, l1, l2, q_cut l3, some (qi (z + 1)), l5], st, M) x := g_pl (show decode cX11_isFirstOfItsName 74 = .ok (.iinc 4 1, 3) by decide +kernel) rfl
set_option maxRecDepth 20000 in
theorem kX11_isFirstOfItsName_77 {C : QC} {x : QP} {M : QM} {st : List CV} {L : QL} : Rr C mX11_isFirstOfItsName (77, L, st, M) x = Rr C mX11_isFirstOfItsName (23, L, st, M) x := g_pl (show decode cX11_isFirstOfItsName 77 = .ok (.goto (-54), 3) by decide +kernel) rfl
set_option maxRecDepth 20000 in
theorem kX11_isFirstOfItsName_80 {C : QC} {x : QP} {M : QM} {st : List CV} {L : QL} : Rr C mX11_isFirstOfItsName (80, L, st, M) x = Rr C mX11_isFirstOfItsName (81, L, qi 1 :: st, M) x := g_pl (show decode cX11_isFirstOfItsName 80 = .ok (.iconst 1, 1) by decide +kernel) rfl
set_option maxRecDepth 20000 in
theorem kX11_isFirstOfItsName_81 {C : QC} {x : QP} {M : QM} {st : List CV} {L : QL} {z : Int} (hz : z = 0 ∨ z = 1) : Rr C mX11_isFirstOfItsName (81, L, [qi z], M) x = x (some (qi z)) M := g_iret (show decode cX11_isFirstOfItsName 81 = .ok (.ireturn, 1) by decide +kernel) (by rcases hz with rfl | rfl <;> rfl)
set_option maxRecDepth 20000 in
theorem eX11_isFirstOfItsName {d : Nat} {M : QM} {x : QP} {a : Nat} {v0 : Int} {v1 : Int} : q_T (d + 1) iX11_isFirstOfItsName [qr a, qi v0, qi v1] M x = Rr (q_C d) mX11_isFirstOfItsName (0, [some (qr a), some (qi v0), some (qi v1), none, none, none], [], M) x := g_entryT (e := _) rfl (Nat.le_of_ble_eq_true rfl) rfl rfl
def mX11_mostChildrenOn : QI := (11, cX11_mostChildrenOn, false, some .int)
set_option maxRecDepth 20000 in
theorem kX11_mostChildrenOn_0 {C : QC} {x : QP} {M : QM} {st : List CV} {L : QL} : Rr C mX11_mostChildrenOn (0, L, st, M) x = Rr C mX11_mostChildrenOn (1, L, qi 0 :: st, M) x := g_pl (show decode cX11_mostChildrenOn 0 = .ok (.iconst 0, 1) by decide +kernel) rfl
set_option maxRecDepth 20000 in
theorem kX11_mostChildrenOn_1 {C : QC} {x : QP} {M : QM} {st : List CV} {L : QL} {l0 l1 l2 l3 : Option CV} {z : Int} : Rr C mX11_mostChildrenOn (1, [l0, l1, l2, l3], qi z :: st, M) x = Rr C mX11_mostChildrenOn (2, [l0, q_cut l1, some (qi z), l3], st, M) x := g_pl (show decode cX11_mostChildrenOn 1 = .ok (.istore_n 2, 1) by decide +kernel) rfl
set_option maxRecDepth 20000 in
theorem kX11_mostChildrenOn_2 {C : QC} {x : QP} {M : QM} {st : List CV} {L : QL} : Rr C mX11_mostChildrenOn (2, L, st, M) x = Rr C mX11_mostChildrenOn (3, L, qi 0 :: st, M) x := g_pl (show decode cX11_mostChildrenOn 2 = .ok (.iconst 0, 1) by decide +kernel) rfl
set_option maxRecDepth 20000 in
theorem kX11_mostChildrenOn_3 {C : QC} {x : QP} {M : QM} {st : List CV} {L : QL} {l0 l1 l2 l3 : Option CV} {z : Int} : Rr C mX11_mostChildrenOn (3, [l0, l1, l2, l3], qi z :: st, M) x = Rr C mX11_mostChildrenOn (4, [l0, l1, q_cut l2, some (qi z)], st, M) x := g_pl (show decode cX11_mostChildrenOn 3 = .ok (.istore_n 3, 1) by decide +kernel) rfl
set_option maxRecDepth 20000 in
theorem kX11_mostChildrenOn_4 {C : QC} {x : QP} {M : QM} {st : List CV} {L : QL} {l0 l1 l2 l3 : Option CV} {z : Int} : Rr C mX11_mostChildrenOn (4, [l0, l1, l2, some (qi z)], st, M) x = Rr C mX11_mostChildrenOn (5, [l0, l1, l2, some (qi z)], qi z :: st, M) x := g_pl (show decode cX11_mostChildrenOn 4 = .ok (.iload_n 3, 1) by decide +kernel) rfl
set_option maxRecDepth 20000 in
theorem kX11_mostChildrenOn_5 {C : QC} {x : QP} {M : QM} {st : List CV} {L : QL} {l0 l1 l2 l3 : Option CV} {r : Option Nat} : Rr C mX11_mostChildrenOn (5, [some (.inr (.inr r)), l1, l2, l3], st, M) x = Rr C mX11_mostChildrenOn (6, [some (.inr (.inr r)), l1, l2, l3], .inr (.inr r) :: st, M) x := g_pl (show decode cX11_mostChildrenOn 5 = .ok (.aload_n 0, 1) by decide +kernel) rfl
set_option maxRecDepth 20000 in
theorem kX11_mostChildrenOn_6 {C : QC} {x : QP} {M : QM} {st : List CV} {L : QL} {a : Nat} (hk : q_kd M a = (1, 11)) : Rr C mX11_mostChildrenOn (6, L, qr a :: st, M) x = Rr C mX11_mostChildrenOn (9, L, q_fv M a 4 :: st, M) x := g_getf (ow := 11) (e := (11, 4, RX11, 321, 0)) (show decode cX11_mostChildrenOn 6 = .ok (.getfield 31, 3) by decide +kernel) rfl hk
set_option maxRecDepth 20000 in
theorem kX11_mostChildrenOn_9 {C : QC} {x : QP} {M : QM} {st : List CV} {L : QL} {a b : Int} (ha1 : -2147483648 ≤ a) (ha2 : a < 2147483648) (hb1 : -2147483648 ≤ b) (hb2 : b < 2147483648) : Rr C mX11_mostChildrenOn (9, L, qi b :: qi a :: st, M) x = (if a < b then Rr C mX11_mostChildrenOn (12, L, st, M) x else Rr C mX11_mostChildrenOn (29, L, st, M) x) := (g_icmp (show decode cX11_mostChildrenOn 9 = .ok (.if_icmp .ge 20, 3) by decide +kernel) rfl ha1 ha2 hb1 hb2).trans (g_itn c_ge)
set_option maxRecDepth 20000 in
theorem kX11_mostChildrenOn_12 {C : QC} {x : QP} {M : QM} {st : List CV} {L : QL} {l0 l1 l2 l3 : Option CV} {z : Int} : Rr C mX11_mostChildrenOn (12, [l0, l1, some (qi z), l3], st, M) x = Rr C mX11_mostChildrenOn (13, [l0, l1, some (qi z), l3], qi z :: st, M) x := g_pl (show decode cX11_mostChildrenOn 12 = .ok (.iload_n 2, 1) by decide +kernel) rfl
set_option maxRecDepth 20000 in
theorem kX11_mostChildrenOn_13 {C : QC} {x : QP} {M : QM} {st : List CV} {L : QL} {l0 l1 l2 l3 : Option CV} {r : Option Nat} : Rr C mX11_mostChildrenOn (13, [some (.inr (.inr r)), l1, l2, l3], st, M) x = Rr C mX11_mostChildrenOn (14, [some (.inr (.inr r)), l1, l2, l3], .inr (.inr r) :: st, M) x := g_pl (show decode cX11_mostChildrenOn 13 = .ok (.aload_n 0, 1) by decide +kernel) rfl
set_option maxRecDepth 20000 in
theorem kX11_mostChildrenOn_14 {C : QC} {x : QP} {M : QM} {st : List CV} {L : QL} {l0 l1 l2 l3 : Option CV} {z : Int} : Rr C mX11_mostChildrenOn (14, [l0, l1, l2, some (qi z)], st, M) x = Rr C mX11_mostChildrenOn (15, [l0, l1, l2, some (qi z)], qi z :: st, M) x := g_pl (show decode cX11_mostChildrenOn 14 = .ok (.iload_n 3, 1) by decide +kernel) rfl
set_option maxRecDepth 20000 in
theorem kX11_mostChildrenOn_15 {C : QC} {x : QP} {M : QM} {st : List CV} {L : QL} {l0 l1 l2 l3 : Option CV} {z : Int} : Rr C mX11_mostChildrenOn (15, [l0, some (qi z), l2, l3], st, M) x = Rr C mX11_mostChildrenOn (16, [l0, some (qi z), l2, l3], qi z :: st, M) x := g_pl (show decode cX11_mostChildrenOn 15 = .ok (.iload_n 1, 1) by decide +kernel) rfl
set_option maxRecDepth 20000 in
theorem kX11_mostChildrenOn_16 {C : QC} {x : QP} {M : QM} {L : QL} {rest : List CV} {a0 a1 : CV} {v : CV} {M1 : QM} {b : Nat} (hb : q_kd M b = (1, 11)) (hC : C iX11_childrenOf [qr b, a0, a1] M (some v) M1) (hw : (rest.map q_wd).sum ≤ 8) (k : Rr C mX11_mostChildrenOn (19, L, v :: rest, M1) x) : Rr C mX11_mostChildrenOn (16, L, a1 :: a0 :: qr b :: rest, M) x := g_cv (ow := 11) (e := (0, 113, 11, [1271, 890, 891, 83])) (as := [a0, a1]) (show decode cX11_mostChildrenOn 16 = .ok (.invokevirtual 193, 3) by decide +kernel) rfl rfl rfl (Or.inl rfl) rfl hb hC hw k
set_option maxRecDepth 20000 in
theorem kX11_mostChildrenOn_19 {C : QC} {x : QP} {M : QM} {st : List CV} {L : QL} {a b : Int} (ha1 : -2147483648 ≤ a) (ha2 : a < 2147483648) (hb1 : -2147483648 ≤ b) (hb2 : b < 2147483648) (hw : (st.map q_wd).sum ≤ 8) : Rr C mX11_mostChildrenOn (19, L, qi b :: qi a :: st, M) x = Rr C mX11_mostChildrenOn (22, L, qi (max a b) :: st, M) x := g_mx (ow := 11) (e := (0, 1272)) (show decode cX11_mostChildrenOn 19 = .ok (.invokestatic 196, 3) by decide +kernel) rfl rfl ha1 ha2 hb1 hb2 hw
set_option maxRecDepth 20000 in
theorem kX11_mostChildrenOn_22 {C : QC} {x : QP} {M : QM} {st : List CV} {L : QL} {l0 l1 l2 l3 : Option CV} {z : Int} : Rr C mX11_mostChildrenOn (22, [l0, l1, l2, l3], qi z :: st, M) x = Rr C mX11_mostChildrenOn (23, [l0, q_cut l1, some (qi z), l3], st, M) x := g_pl (show decode cX11_mostChildrenOn 22 = .ok (.istore_n 2, 1) by decide +kernel) rfl
set_option maxRecDepth 20000 in
theorem kX11_mostChildrenOn_23 {C : QC} {x : QP} {M : QM} {st : List CV} {L : QL} {l0 l1 l2 l3 : Option CV} {z : Int} : Rr C mX11_mostChildrenOn (23, [l0, l1, l2, some (qi z)], st, M) x = Rr C mX11_mostChildrenOn (26, [l0, l1, q_cut l2, some (qi (z + 1))], st, M) x := g_pl (show decode cX11_mostChildrenOn 23 = .ok (.iinc 3 1, 3) by decide +kernel) rfl
set_option maxRecDepth 20000 in
theorem kX11_mostChildrenOn_26 {C : QC} {x : QP} {M : QM} {st : List CV} {L : QL} : Rr C mX11_mostChildrenOn (26, L, st, M) x = Rr C mX11_mostChildrenOn (4, L, st, M) x := g_pl (show decode cX11_mostChildrenOn 26 = .ok (.goto (-22), 3) by decide +kernel) rfl
set_option maxRecDepth 20000 in
theorem kX11_mostChildrenOn_29 {C : QC} {x : QP} {M : QM} {st : List CV} {L : QL} {l0 l1 l2 l3 : Option CV} {z : Int} : Rr C mX11_mostChildrenOn (29, [l0, l1, some (qi z), l3], st, M) x = Rr C mX11_mostChildrenOn (30, [l0, l1, some (qi z), l3], qi z :: st, M) x := g_pl (show decode cX11_mostChildrenOn 29 = .ok (.iload_n 2, 1) by decide +kernel) rfl
set_option maxRecDepth 20000 in
theorem kX11_mostChildrenOn_30 {C : QC} {x : QP} {M : QM} {st : List CV} {L : QL} {z : Int} : Rr C mX11_mostChildrenOn (30, L, [qi z], M) x = x (some (qi z)) M := g_iret (show decode cX11_mostChildrenOn 30 = .ok (.ireturn, 1) by decide +kernel) rfl
set_option maxRecDepth 20000 in
theorem eX11_mostChildrenOn {d : Nat} {M : QM} {x : QP} {a : Nat} {v0 : Int} : q_T (d + 1) iX11_mostChildrenOn [qr a, qi v0] M x = Rr (q_C d) mX11_mostChildrenOn (0, [some (qr a), some (qi v0), none, none], [], M) x := g_entryT (e := _) rfl (Nat.le_of_ble_eq_true rfl) rfl rfl
