/-! the tables of this claim, as lists: classes, fields, what each place of a constant pool stands for; every row names the word of lw_tbl that it rests on -/
abbrev qcl : List vw_C := [(RX0, TX0, 7), (RX1, TX1, 4), (RX2, TX2, 3), (RX3, TX3, 5), (RX4, TX4, 9), (RX5, TX5, 4), (RX7, TX7, 1), (RX7, TX7, 1), (RX8, TX8, 2), (RX9, TX9, 3), (RX7, TX7, 1), (RX11, TX11, 5), (RX12, TX12, 14), (RX13, TX13, 17), (RJ4, TJ4, 4), (RJx4a65c, TJx4a65c, 3)]
def qty : List (Nat → FieldType) := [tyX0, tyX1, tyX2, tyX3, tyX4, tyX5, tyX7, tyX7, tyX8, tyX9, tyX7, tyX11, tyX12, tyX13, tyJ4, tyJx4a65c]
def q_own : List String := [RX0, RX1, RX2, RX3, RX4, RX5, RX6, RX7, RX8, RX9, RX10, RX11, RX12, RX13, RJ4, RJx4a65c, RL, RJ5, RJ7, RJ9, RJ6, RJ15, RJ8, RJ3, RJxc12de, RJxa1e45, RJ0, RJ1, RJ10, RJxd2413]
/-- three more words: the private methods of the class above StringBuilder, asked of a StringBuilder; they hold at the start by q_selP -/
def q_xsel : List Jvm.Cond := [.selects RJ4 yJ5_ensureCapacityInternal_d00df yJ5_ensureCapacityInternal_d00df, .selects RJ4 yJ5_newCapacity_0f7a4 yJ5_newCapacity_0f7a4, .selects RJ4 yJ5_inflate_da8c8 yJ5_inflate_da8c8]
def q_tbl : List Jvm.Cond := lw_tbl ++ q_xsel
def qT : List Jvm.Cond := q_tbl.filter goodWord
def q_in (i : Nat) (w : Jvm.Cond) : Bool := decide (q_tbl[i]? = some w) && goodWord w
theorem q_in_mem {i : Nat} {w : Jvm.Cond} (h : q_in i w = true) : w ∈ qT := by
  unfold q_in at h
  rw [Bool.and_eq_true, decide_eq_true_eq] at h
  exact List.mem_filter.mpr ⟨List.mem_of_getElem? h.1, h.2⟩
def q_ins (is : List Nat) (ws : List Jvm.Cond) : Bool := decide (is.length = ws.length) && (is.zip ws).all (fun q => q_in q.1 q.2)
theorem q_ins_mem {is : List Nat} {ws : List Jvm.Cond} (h : q_ins is ws = true) : ∀ w ∈ ws, w ∈ qT := by
  unfold q_ins at h
  rw [Bool.and_eq_true, decide_eq_true_eq] at h
  intro w hw
  obtain ⟨k, hk⟩ := List.getElem?_of_mem hw
  have hl := (List.getElem?_eq_some_iff.mp hk).1
  have hi : is[k]? = some (is[k]'(by omega)) := List.getElem?_eq_getElem (by omega)
  exact q_in_mem (List.all_eq_true.mp h.2 (is[k]'(by omega), w) (List.mem_of_getElem? (i := k) (by rw [List.getElem?_zip_eq_some]; exact ⟨hi, hk⟩)))
theorem q_c0 : q_ins [193, 195, 197, 199, 201, 203, 205] (u_ws RX0 TX0 7) = true := by decide +kernel
theorem q_c1 : q_ins [258, 260, 262, 264] (u_ws RX1 TX1 4) = true := by decide +kernel
theorem q_c2 : q_ins [224, 226, 228] (u_ws RX2 TX2 3) = true := by decide +kernel
theorem q_c3 : q_ins [472, 474, 476, 478, 480] (u_ws RX3 TX3 5) = true := by decide +kernel
theorem q_c4 : q_ins [295, 297, 299, 301, 303, 305, 307, 309, 311] (u_ws RX4 TX4 9) = true := by decide +kernel
theorem q_c5 : q_ins [165, 167, 169, 171] (u_ws RX5 TX5 4) = true := by decide +kernel
theorem q_c6 : q_ins [340] (u_ws RX7 TX7 1) = true := by decide +kernel
theorem q_c7 : q_ins [340] (u_ws RX7 TX7 1) = true := by decide +kernel
theorem q_c8 : q_ins [123, 125] (u_ws RX8 TX8 2) = true := by decide +kernel
theorem q_c9 : q_ins [241, 243, 245] (u_ws RX9 TX9 3) = true := by decide +kernel
theorem q_c10 : q_ins [340] (u_ws RX7 TX7 1) = true := by decide +kernel
theorem q_c11 : q_ins [322, 324, 326, 328, 330] (u_ws RX11 TX11 5) = true := by decide +kernel
theorem q_c12 : q_ins [393, 395, 397, 399, 401, 403, 405, 407, 409, 411, 413, 415, 417, 419] (u_ws RX12 TX12 14) = true := by decide +kernel
theorem q_c13 : q_ins [1318, 1320, 1322, 1324, 1326, 1328, 1330, 1332, 1334, 1336, 1338, 1340, 1342, 1344, 1346, 1348, 1350] (u_ws RX13 TX13 17) = true := by decide +kernel
theorem q_c14 : q_ins [367, 369, 371, 373] (u_ws RJ4 TJ4 4) = true := by decide +kernel
theorem q_c15 : q_ins [158, 154, 156] (u_ws RJx4a65c TJx4a65c 3) = true := by decide +kernel
theorem q_cok {c : Nat} {r : vw_C} (h : qcl[c]? = some r) : (∀ w ∈ u_ws r.1 r.2.1 r.2.2, w ∈ qT) ∧ (∀ a, a < r.2.2 → ∀ b, b < r.2.2 → a ≠ b → (r.2.1 a).2.1 ≠ (r.2.1 b).2.1) ∧ ∃ t, qty[c]? = some t ∧ ∀ k, k < r.2.2 → parseFieldDescriptor (r.2.1 k).2.2.1 = some (t k) := by
  match c, h with
  | 0, h => cases h; exact ⟨q_ins_mem q_c0, nmX0, _, rfl, tyX0_ok⟩
  | 1, h => cases h; exact ⟨q_ins_mem q_c1, nmX1, _, rfl, tyX1_ok⟩
  | 2, h => cases h; exact ⟨q_ins_mem q_c2, nmX2, _, rfl, tyX2_ok⟩
  | 3, h => cases h; exact ⟨q_ins_mem q_c3, nmX3, _, rfl, tyX3_ok⟩
  | 4, h => cases h; exact ⟨q_ins_mem q_c4, nmX4, _, rfl, tyX4_ok⟩
  | 5, h => cases h; exact ⟨q_ins_mem q_c5, nmX5, _, rfl, tyX5_ok⟩
  | 6, h => cases h; exact ⟨q_ins_mem q_c6, nmX7, _, rfl, tyX7_ok⟩
  | 7, h => cases h; exact ⟨q_ins_mem q_c7, nmX7, _, rfl, tyX7_ok⟩
  | 8, h => cases h; exact ⟨q_ins_mem q_c8, nmX8, _, rfl, tyX8_ok⟩
  | 9, h => cases h; exact ⟨q_ins_mem q_c9, nmX9, _, rfl, tyX9_ok⟩
  | 10, h => cases h; exact ⟨q_ins_mem q_c10, nmX7, _, rfl, tyX7_ok⟩
  | 11, h => cases h; exact ⟨q_ins_mem q_c11, nmX11, _, rfl, tyX11_ok⟩
  | 12, h => cases h; exact ⟨q_ins_mem q_c12, nmX12, _, rfl, tyX12_ok⟩
  | 13, h => cases h; exact ⟨q_ins_mem q_c13, nmX13, _, rfl, tyX13_ok⟩
  | 14, h => cases h; exact ⟨q_ins_mem q_c14, nmJ4, _, rfl, tyJ4_ok⟩
  | 15, h => cases h; exact ⟨q_ins_mem q_c15, nmJx4a65c, _, rfl, tyJx4a65c_ok⟩
  | n + 16, h => simp [qcl] at h
/-- key, class, field, the name it is asked by, its word, the word that it is the same field -/
def q_ftab : List (Nat × Nat × Nat × String × Nat × Nat) := [(80009, 8, 0, RX8, 121, 0), (80015, 8, 1, RX8, 122, 0), (150009, 15, 1, RJx4a65c, 149, 0), (150048, 15, 2, RJx4a65c, 150, 0), (240007, 15, 0, RJxc12de, 151, 0), (150063, 15, 0, RJx4a65c, 152, 153), (50012, 5, 0, RX5, 161, 0), (50018, 5, 1, RX5, 162, 0), (50022, 5, 2, RX5, 163, 0), (50025, 5, 3, RX5, 164, 0), (9, 0, 0, RX0, 186, 0), (15, 0, 1, RX0, 187, 0), (18, 0, 2, RX0, 188, 0), (21, 0, 3, RX0, 189, 0), (24, 0, 4, RX0, 190, 0), (28, 0, 5, RX0, 191, 0), (31, 0, 6, RX0, 192, 0), (20009, 2, 0, RX2, 221, 0), (20015, 2, 1, RX2, 222, 0), (20019, 2, 2, RX2, 223, 0), (90009, 9, 0, RX9, 238, 0), (90015, 9, 1, RX9, 239, 0), (90018, 9, 2, RX9, 240, 0), (10009, 1, 0, RX1, 254, 0), (10015, 1, 1, RX1, 255, 0), (10018, 1, 2, RX1, 256, 0), (10021, 1, 3, RX1, 257, 0), (40009, 4, 0, RX4, 267, 0), (60067, 4, 0, RX4, 268, 0), (110147, 4, 0, RX4, 269, 0), (120156, 4, 0, RX4, 270, 0), (40015, 4, 1, RX4, 271, 0), (110101, 4, 1, RX4, 272, 0), (120200, 4, 1, RX4, 273, 0), (40018, 4, 2, RX4, 274, 0), (110092, 4, 2, RX4, 275, 0), (120203, 4, 2, RX4, 276, 0), (40021, 4, 3, RX4, 277, 0), (110150, 4, 3, RX4, 278, 0), (40024, 4, 4, RX4, 279, 0), (60078, 4, 4, RX4, 280, 0), (120210, 4, 4, RX4, 281, 0), (40027, 4, 5, RX4, 282, 0), (110144, 4, 5, RX4, 283, 0), (120207, 4, 5, RX4, 284, 0), (40033, 4, 6, RX4, 285, 0), (110112, 4, 6, RX4, 286, 0), (120174, 4, 6, RX4, 287, 0), (40040, 4, 7, RX4, 288, 0), (60081, 4, 7, RX4, 289, 0), (110132, 4, 7, RX4, 290, 0), (120167, 4, 7, RX4, 291, 0), (40047, 4, 8, RX4, 292, 0), (110153, 4, 8, RX4, 293, 0), (120213, 4, 8, RX4, 294, 0), (110012, 11, 0, RX11, 314, 0), (120249, 11, 0, RX11, 315, 0), (110018, 11, 1, RX11, 316, 0), (120318, 11, 1, RX11, 317, 0), (110022, 11, 2, RX11, 318, 0), (120321, 11, 2, RX11, 319, 0), (110027, 11, 3, RX11, 320, 0), (110031, 11, 4, RX11, 321, 0), (70009, 7, 0, RX7, 339, 0), (170015, 14, 0, RJ5, 363, 0), (170022, 14, 1, RJ5, 364, 0), (170073, 14, 2, RJ5, 365, 0), (170079, 14, 3, RJ5, 366, 0), (120010, 12, 0, RX12, 379, 0), (120019, 12, 1, RX12, 380, 0), (120026, 12, 2, RX12, 381, 0), (120033, 12, 3, RX12, 382, 0), (120040, 12, 4, RX12, 383, 0), (120047, 12, 5, RX12, 384, 0), (120054, 12, 6, RX12, 385, 0), (120058, 12, 7, RX12, 386, 0), (120061, 12, 8, RX12, 387, 0), (120065, 12, 9, RX12, 388, 0), (120069, 12, 10, RX12, 389, 0), (120073, 12, 11, RX12, 390, 0), (120076, 12, 12, RX12, 391, 0), (120079, 12, 13, RX12, 392, 0), (30007, 3, 0, RX3, 457, 0), (60009, 3, 0, RX3, 458, 0), (110038, 3, 0, RX3, 459, 0), (30013, 3, 1, RX3, 460, 0), (60015, 3, 1, RX3, 461, 0), (110043, 3, 1, RX3, 462, 0), (30016, 3, 2, RX3, 463, 0), (60060, 3, 2, RX3, 464, 0), (110046, 3, 2, RX3, 465, 0), (30019, 3, 3, RX3, 466, 0), (60041, 3, 3, RX3, 467, 0), (110049, 3, 3, RX3, 468, 0), (30022, 3, 4, RX3, 469, 0), (60025, 3, 4, RX3, 470, 0), (110052, 3, 4, RX3, 471, 0), (130010, 13, 0, RX13, 1301, 0), (130036, 13, 1, RX13, 1302, 0), (130232, 13, 2, RX13, 1303, 0), (130014, 13, 3, RX13, 1304, 0), (130069, 13, 4, RX13, 1305, 0), (130072, 13, 5, RX13, 1306, 0), (130075, 13, 6, RX13, 1307, 0), (130017, 13, 7, RX13, 1308, 0), (130021, 13, 8, RX13, 1309, 0), (130088, 13, 9, RX13, 1310, 0), (130024, 13, 10, RX13, 1311, 0), (130170, 13, 11, RX13, 1312, 0), (130027, 13, 12, RX13, 1313, 0), (130199, 13, 13, RX13, 1314, 0), (130030, 13, 14, RX13, 1315, 0), (130033, 13, 15, RX13, 1316, 0), (130220, 13, 16, RX13, 1317, 0)]
def q_fok (e : Nat × Nat × Nat × String × Nat × Nat) : Bool := match q_own[e.1 / 10000]?, qcl[e.2.1]? with
  | some own, some r => decide (e.2.2.1 < r.2.2) && q_in e.2.2.2.2.1 (.fieldLink own (e.1 % 10000) e.2.2.2.1 (r.2.1 e.2.2.1).2.1 (r.2.1 e.2.2.1).2.2.1) && (decide (e.2.2.2.1 = (r.2.1 e.2.2.1).1) || q_in e.2.2.2.2.2 (.sameField e.2.2.2.1 (r.2.1 e.2.2.1).1 (r.2.1 e.2.2.1).2.1 (r.2.1 e.2.2.1).2.2.1))
  | _, _ => false
theorem q_ftab_ok : q_ftab.all q_fok = true := by decide +kernel
/-- new: key, class, its three words -/
def q_ctab : List (Nat × Nat × Nat × Nat × Nat) := [(160007, 12, 107, 108, 77), (120007, 8, 115, 116, 78), (120016, 5, 129, 130, 79), (50009, 15, 135, 136, 82), (120023, 11, 174, 175, 83), (110009, 0, 180, 181, 84), (110025, 4, 208, 210, 85), (40030, 2, 215, 216, 86), (40037, 9, 232, 233, 87), (40044, 1, 248, 249, 88), (120030, 7, 333, 334, 89), (120037, 9, 343, 233, 87), (120044, 14, 345, 346, 91), (120051, 15, 377, 136, 82), (120098, 3, 451, 452, 96), (50037, 3, 802, 452, 96), (160010, 13, 1294, 1295, 94)]
def q_cokb (e : Nat × Nat × Nat × Nat × Nat) : Bool := match q_own[e.1 / 10000]?, qcl[e.2.1]? with
  | some own, some r => q_in e.2.2.1 (.classLink own (e.1 % 10000) r.1) && q_in e.2.2.2.1 (.instantiable r.1 r.2.2) && q_in e.2.2.2.2 (.initialized r.1)
  | _, _ => false
theorem q_ctab_ok : q_ctab.all q_cokb = true := by decide +kernel
def q_ltab : List (Nat × Int × Nat) := [(220200, 2147483639, 589), (200265, 1431655765, 909), (200266, 858993459, 910), (200267, 252645135, 911), (170039, 2147483647, 1044), (130009, 121275, 1300)]
def q_lokb (e : Nat × Int × Nat) : Bool := match q_own[e.1 / 10000]? with
  | some own => q_in e.2.2 (.constant own (e.1 % 10000) (Int32.ofInt e.2.1))
  | _ => false
theorem q_ltab_ok : q_ltab.all q_lokb = true := by decide +kernel
def q_l2tab : List (Nat × Int × Nat) := [(100009, 31, 693)]
def q_l2okb (e : Nat × Int × Nat) : Bool := match q_own[e.1 / 10000]? with
  | some own => q_in e.2.2 (.constantLong own (e.1 % 10000) (Int64.ofInt e.2.1))
  | _ => false
theorem q_l2tab_ok : q_l2tab.all q_l2okb = true := by decide +kernel
def q_otab : List (Nat × Nat) := [(120001, 112), (80003, 120), (50003, 134), (250001, 146), (110003, 179), (3, 185), (40003, 214), (20003, 220), (90003, 237), (10003, 253), (70003, 338), (170003, 353), (30001, 456), (130003, 1299)]
def q_ookb (e : Nat × Nat) : Bool := match q_own[e.1 / 10000]? with
  | some own => q_in e.2 (.methodLink own (e.1 % 10000) Lib.objectInit)
  | _ => false
theorem q_otab_ok : q_otab.all q_ookb = true := by decide +kernel
theorem q_oi1 : q_in 113 (.instanceMethod Lib.objectInit) = true := by decide +kernel
theorem q_oi2 : q_in 114 (.code Lib.objectInit ⟨#[0xb1]⟩ 1 none) = true := by decide +kernel
theorem q_selP {C : String} {y : MethodName} {s : State} {args : Array Value} {n : Nat} (hy : y.cls ≠ "java/lang/invoke/MethodHandle" ∧ y.cls ≠ "java/lang/invoke/VarHandle")
    (hins : (Cond.instantiable C n).before args s = true) (hpriv : (Cond.privateMethod y).before args s = true) (hinst : (Cond.instanceMethod y).before args s = true) {y0 : MethodName} (hcl : y0.cls = y.cls) (hinst0 : (Cond.instanceMethod y0).before args s = true) (hsel0 : (Cond.selects C y0 y0).before args s = true) :
    (Cond.selects C y y).before args s = true := by
  obtain ⟨c, k, hc, hk, -, hniab, -, -⟩ := Cond.instantiable_spec hins
  have hni : k.isInterface = false := (Bool.or_eq_false_iff.mp hniab).1
  obtain ⟨mk, methM, hnamed, hmethM, -, -⟩ := Cond.instanceMethod_spec hinst
  have hfound : s.methodFound? y.cls y.name y.desc = some mk := State.methodFound?_of_named hnamed hy
  have hsel : selectMethod {} s.vm c mk = .method mk := selectMethod_private hmethM (Cond.privateMethod_at hpriv mk methM hnamed hmethM)
  obtain ⟨mk0, methM0, hnamed0, hmethM0, -, -⟩ := Cond.instanceMethod_spec hinst0
  have hfound0 : s.methodFound? y0.cls y0.name y0.desc = some mk0 := State.methodFound?_of_named hnamed0 (by rw [hcl]; exact hy)
  have hcm : mk0.cls = mk.cls := Option.some.inj ((findClass_of_methodNamed hnamed0).symm.trans ((by rw [hcl] : s.vm.findClass y0.cls = s.vm.findClass y.cls).trans (findClass_of_methodNamed hnamed)))
  have hA : Option.any (fun x => !x.isInterface) s.vm.classes[mk.cls]? = true := by
    simp only [Cond.before, Cond.holds, Cond.value, hc, hfound0, hnamed0] at hsel0
    rw [← hcm]
    revert hsel0
    split <;> simp_all
  simp only [Cond.before, Cond.holds, Cond.value, hc, hfound, hnamed, hsel, hk]
  simp; exact hA
theorem q_cins : ∀ (c : Nat) (r : vw_C), qcl[c]? = some r → ∃ i : Nat, q_in i (.instantiable r.1 r.2.2) = true := by
  intro c r h
  match c, h with
  | 0, h => cases h; exact ⟨181, by decide +kernel⟩
  | 1, h => cases h; exact ⟨249, by decide +kernel⟩
  | 2, h => cases h; exact ⟨216, by decide +kernel⟩
  | 3, h => cases h; exact ⟨452, by decide +kernel⟩
  | 4, h => cases h; exact ⟨210, by decide +kernel⟩
  | 5, h => cases h; exact ⟨130, by decide +kernel⟩
  | 6, h => cases h; exact ⟨334, by decide +kernel⟩
  | 7, h => cases h; exact ⟨334, by decide +kernel⟩
  | 8, h => cases h; exact ⟨116, by decide +kernel⟩
  | 9, h => cases h; exact ⟨233, by decide +kernel⟩
  | 10, h => cases h; exact ⟨334, by decide +kernel⟩
  | 11, h => cases h; exact ⟨175, by decide +kernel⟩
  | 12, h => cases h; exact ⟨108, by decide +kernel⟩
  | 13, h => cases h; exact ⟨1295, by decide +kernel⟩
  | 14, h => cases h; exact ⟨346, by decide +kernel⟩
  | 15, h => cases h; exact ⟨136, by decide +kernel⟩
  | n + 16, h => simp [qcl] at h
theorem q_gw1 : goodWord (.castable "a" "b") = false := by decide +kernel
theorem q_gw2 : goodWord (.methodLinkNest "a" 1 ⟨"a","b","c"⟩ "b") = false := by decide +kernel
theorem q_gw3 : goodWord (.arrayOver (.object "a")) = false := by decide +kernel
theorem q_gw4 : goodWord (.arrayClass .int) = true := by decide +kernel
theorem q_aci : q_in 128 (.arrayClass .int) = true := by decide +kernel
theorem q_acl : q_in 231 (.arrayClass .long) = true := by decide +kernel
theorem q_acb : q_in 376 (.arrayClass .byte) = true := by decide +kernel
