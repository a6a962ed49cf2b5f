def RX0 : String := "PlaceRegister$Filters"
def TX0 : u_T := fun k => match k with
  | 0 => ("PlaceRegister$Filters", "sorts", "[I", false)
  | 1 => ("PlaceRegister$Filters", "firsts", "[I", false)
  | 2 => ("PlaceRegister$Filters", "seconds", "[I", false)
  | 3 => ("PlaceRegister$Filters", "sets", "[I", false)
  | 4 => ("PlaceRegister$Filters", "nodes", "I", false)
  | 5 => ("PlaceRegister$Filters", "nodeOf", "[I", true)
  | _ => ("PlaceRegister$Filters", "size", "I", false)
def tyX0 : Nat → FieldType := fun k => match k with
  | 0 => .array .int
  | 1 => .array .int
  | 2 => .array .int
  | 3 => .array .int
  | 4 => .int
  | 5 => .array .int
  | _ => .int
abbrev wsX00 : List Cond := u_ws RX0 TX0 7
theorem nmX0 : ∀ a, a < 7 → ∀ b, b < 7 → a ≠ b → (TX0 a).2.1 ≠ (TX0 b).2.1 := by decide +kernel
theorem tyX0_ok : ∀ k, k < 7 → parseFieldDescriptor (TX0 k).2.2.1 = some (tyX0 k) := by decide +kernel
abbrev cX0_init : ByteArray := prog_2_method_1_code
def yX0_init : MethodName := ⟨RX0, "<init>", "()V"⟩
abbrev cX0_size : ByteArray := prog_2_method_2_code
def yX0_size : MethodName := ⟨RX0, "size", "()I"⟩
abbrev cX0_has : ByteArray := prog_2_method_3_code
def yX0_has : MethodName := ⟨RX0, "has", "(I)Z"⟩
abbrev cX0_clear : ByteArray := prog_2_method_4_code
def yX0_clear : MethodName := ⟨RX0, "clear", "()V"⟩
abbrev cX0_addLeaf : ByteArray := prog_2_method_5_code
def yX0_addLeaf : MethodName := ⟨RX0, "addLeaf", "(II)I"⟩
abbrev cX0_addJoined : ByteArray := prog_2_method_6_code
def yX0_addJoined : MethodName := ⟨RX0, "addJoined", "(III)I"⟩
abbrev cX0_append : ByteArray := prog_2_method_7_code
def yX0_append : MethodName := ⟨RX0, "append", "(III)I"⟩
abbrev cX0_remove : ByteArray := prog_2_method_8_code
def yX0_remove : MethodName := ⟨RX0, "remove", "(I)I"⟩
abbrev cX0_setOn : ByteArray := prog_2_method_9_code
def yX0_setOn : MethodName := ⟨RX0, "setOn", "(IILPlaceRegister$World;)I"⟩
abbrev cX0_setOfNode : ByteArray := prog_2_method_10_code
def yX0_setOfNode : MethodName := ⟨RX0, "setOfNode", "(IILPlaceRegister$World;)I"⟩
abbrev cX0_setAt : ByteArray := prog_2_method_11_code
def yX0_setAt : MethodName := ⟨RX0, "setAt", "(I)I"⟩
def RX1 : String := "PlaceRegister$History"
def TX1 : u_T := fun k => match k with
  | 0 => ("PlaceRegister$History", "days", "[I", true)
  | 1 => ("PlaceRegister$History", "sorts", "[I", true)
  | 2 => ("PlaceRegister$History", "numbers", "[I", true)
  | _ => ("PlaceRegister$History", "told", "I", false)
def tyX1 : Nat → FieldType := fun k => match k with
  | 0 => .array .int
  | 1 => .array .int
  | 2 => .array .int
  | _ => .int
abbrev wsX10 : List Cond := u_ws RX1 TX1 4
theorem nmX1 : ∀ a, a < 4 → ∀ b, b < 4 → a ≠ b → (TX1 a).2.1 ≠ (TX1 b).2.1 := by decide +kernel
theorem tyX1_ok : ∀ k, k < 4 → parseFieldDescriptor (TX1 k).2.2.1 = some (tyX1 k) := by decide +kernel
abbrev cX1_init : ByteArray := prog_3_method_1_code
def yX1_init : MethodName := ⟨RX1, "<init>", "()V"⟩
abbrev cX1_told : ByteArray := prog_3_method_2_code
def yX1_told : MethodName := ⟨RX1, "told", "()I"⟩
abbrev cX1_kept : ByteArray := prog_3_method_3_code
def yX1_kept : MethodName := ⟨RX1, "kept", "()I"⟩
abbrev cX1_begin : ByteArray := prog_3_method_4_code
def yX1_begin : MethodName := ⟨RX1, "begin", "(II)V"⟩
abbrev cX1_append : ByteArray := prog_3_method_5_code
def yX1_append : MethodName := ⟨RX1, "append", "(III)V"⟩
abbrev cX1_dayOf : ByteArray := prog_3_method_6_code
def yX1_dayOf : MethodName := ⟨RX1, "dayOf", "(I)I"⟩
abbrev cX1_sortOf : ByteArray := prog_3_method_7_code
def yX1_sortOf : MethodName := ⟨RX1, "sortOf", "(I)I"⟩
abbrev cX1_numberOf : ByteArray := prog_3_method_8_code
def yX1_numberOf : MethodName := ⟨RX1, "numberOf", "(I)I"⟩
abbrev cX1_print : ByteArray := prog_3_method_9_code
def yX1_print : MethodName := ⟨RX1, "print", "(Ljava/lang/StringBuilder;)V"⟩
abbrev cX1_parentOn : ByteArray := prog_3_method_10_code
def yX1_parentOn : MethodName := ⟨RX1, "parentOn", "(ILPlaceRegister$Timeline;)I"⟩
def RX2 : String := "PlaceRegister$Names"
def TX2 : u_T := fun k => match k with
  | 0 => ("PlaceRegister$Names", "days", "[I", false)
  | 1 => ("PlaceRegister$Names", "words", "[J", false)
  | _ => ("PlaceRegister$Names", "size", "I", false)
def tyX2 : Nat → FieldType := fun k => match k with
  | 0 => .array .int
  | 1 => .array .long
  | _ => .int
abbrev wsX20 : List Cond := u_ws RX2 TX2 3
theorem nmX2 : ∀ a, a < 3 → ∀ b, b < 3 → a ≠ b → (TX2 a).2.1 ≠ (TX2 b).2.1 := by decide +kernel
theorem tyX2_ok : ∀ k, k < 3 → parseFieldDescriptor (TX2 k).2.2.1 = some (tyX2 k) := by decide +kernel
abbrev cX2_init : ByteArray := prog_4_method_1_code
def yX2_init : MethodName := ⟨RX2, "<init>", "()V"⟩
abbrev cX2_size : ByteArray := prog_4_method_2_code
def yX2_size : MethodName := ⟨RX2, "size", "()I"⟩
abbrev cX2_begin : ByteArray := prog_4_method_3_code
def yX2_begin : MethodName := ⟨RX2, "begin", "(IJ)V"⟩
abbrev cX2_append : ByteArray := prog_4_method_4_code
def yX2_append : MethodName := ⟨RX2, "append", "(IJ)V"⟩
abbrev cX2_at : ByteArray := prog_4_method_5_code
def yX2_at : MethodName := ⟨RX2, "at", "(I)J"⟩
abbrev cX2_dayOf : ByteArray := prog_4_method_6_code
def yX2_dayOf : MethodName := ⟨RX2, "dayOf", "(I)I"⟩
abbrev cX2_wordOf : ByteArray := prog_4_method_7_code
def yX2_wordOf : MethodName := ⟨RX2, "wordOf", "(I)J"⟩
abbrev cX2_daysOf : ByteArray := prog_4_method_8_code
def yX2_daysOf : MethodName := ⟨RX2, "daysOf", "(II)I"⟩
abbrev cX2_longestHeld : ByteArray := prog_4_method_9_code
def yX2_longestHeld : MethodName := ⟨RX2, "longestHeld", "(I)I"⟩
def RX3 : String := "PlaceRegister$Order"
def TX3 : u_T := fun k => match k with
  | 0 => ("PlaceRegister$Order", "sort", "I", true)
  | 1 => ("PlaceRegister$Order", "first", "I", true)
  | 2 => ("PlaceRegister$Order", "second", "I", true)
  | 3 => ("PlaceRegister$Order", "day", "I", true)
  | _ => ("PlaceRegister$Order", "word", "J", true)
def tyX3 : Nat → FieldType := fun k => match k with
  | 0 => .int
  | 1 => .int
  | 2 => .int
  | 3 => .int
  | _ => .long
abbrev wsX30 : List Cond := u_ws RX3 TX3 5
theorem nmX3 : ∀ a, a < 5 → ∀ b, b < 5 → a ≠ b → (TX3 a).2.1 ≠ (TX3 b).2.1 := by decide +kernel
theorem tyX3_ok : ∀ k, k < 5 → parseFieldDescriptor (TX3 k).2.2.1 = some (tyX3 k) := by decide +kernel
abbrev cX3_init : ByteArray := prog_5_method_1_code
def yX3_init : MethodName := ⟨RX3, "<init>", "(IIIIJ)V"⟩
def RX4 : String := "PlaceRegister$Place"
def TX4 : u_T := fun k => match k with
  | 0 => ("PlaceRegister$Place", "kind", "I", false)
  | 1 => ("PlaceRegister$Place", "founded", "I", false)
  | 2 => ("PlaceRegister$Place", "ended", "I", false)
  | 3 => ("PlaceRegister$Place", "into", "I", false)
  | 4 => ("PlaceRegister$Place", "latest", "I", false)
  | 5 => ("PlaceRegister$Place", "parentsGiven", "I", false)
  | 6 => ("PlaceRegister$Place", "names", "LPlaceRegister$Names;", true)
  | 7 => ("PlaceRegister$Place", "parents", "LPlaceRegister$Timeline;", true)
  | _ => ("PlaceRegister$Place", "history", "LPlaceRegister$History;", true)
def tyX4 : Nat → FieldType := fun k => match k with
  | 0 => .int
  | 1 => .int
  | 2 => .int
  | 3 => .int
  | 4 => .int
  | 5 => .int
  | 6 => .object "PlaceRegister$Names"
  | 7 => .object "PlaceRegister$Timeline"
  | _ => .object "PlaceRegister$History"
abbrev wsX40 : List Cond := u_ws RX4 TX4 9
theorem nmX4 : ∀ a, a < 9 → ∀ b, b < 9 → a ≠ b → (TX4 a).2.1 ≠ (TX4 b).2.1 := by decide +kernel
theorem tyX4_ok : ∀ k, k < 9 → parseFieldDescriptor (TX4 k).2.2.1 = some (tyX4 k) := by decide +kernel
abbrev cX4_init : ByteArray := prog_6_method_1_code
def yX4_init : MethodName := ⟨RX4, "<init>", "()V"⟩
abbrev cX4_begin : ByteArray := prog_6_method_2_code
def yX4_begin : MethodName := ⟨RX4, "begin", "(IIIJ)V"⟩
abbrev cX4_remember : ByteArray := prog_6_method_3_code
def yX4_remember : MethodName := ⟨RX4, "remember", "(III)V"⟩
abbrev cX4_hasEnded : ByteArray := prog_6_method_4_code
def yX4_hasEnded : MethodName := ⟨RX4, "hasEnded", "()Z"⟩
abbrev cX4_end : ByteArray := prog_6_method_5_code
def yX4_end : MethodName := ⟨RX4, "end", "()I"⟩
abbrev cX4_existsOn : ByteArray := prog_6_method_6_code
def yX4_existsOn : MethodName := ⟨RX4, "existsOn", "(I)Z"⟩
abbrev cX4_standsFrom : ByteArray := prog_6_method_7_code
def yX4_standsFrom : MethodName := ⟨RX4, "standsFrom", "(I)Z"⟩
abbrev cX4_firstDayUnder : ByteArray := prog_6_method_8_code
def yX4_firstDayUnder : MethodName := ⟨RX4, "firstDayUnder", "(II)I"⟩
abbrev cX4_differsOn : ByteArray := prog_6_method_9_code
def yX4_differsOn : MethodName := ⟨RX4, "differsOn", "(II)Z"⟩
def RX5 : String := "PlaceRegister$Reader"
def TX5 : u_T := fun k => match k with
  | 0 => ("PlaceRegister$Reader", "orders", "Ljava/util/ArrayList;", true)
  | 1 => ("PlaceRegister$Reader", "position", "I", false)
  | 2 => ("PlaceRegister$Reader", "number", "I", false)
  | _ => ("PlaceRegister$Reader", "word", "J", false)
def tyX5 : Nat → FieldType := fun k => match k with
  | 0 => .object "java/util/ArrayList"
  | 1 => .int
  | 2 => .int
  | _ => .long
abbrev wsX50 : List Cond := u_ws RX5 TX5 4
theorem nmX5 : ∀ a, a < 4 → ∀ b, b < 4 → a ≠ b → (TX5 a).2.1 ≠ (TX5 b).2.1 := by decide +kernel
theorem tyX5_ok : ∀ k, k < 4 → parseFieldDescriptor (TX5 k).2.2.1 = some (tyX5 k) := by decide +kernel
abbrev cX5_init : ByteArray := prog_7_method_1_code
def yX5_init : MethodName := ⟨RX5, "<init>", "()V"⟩
abbrev cX5_size : ByteArray := prog_7_method_2_code
def yX5_size : MethodName := ⟨RX5, "size", "()I"⟩
abbrev cX5_order : ByteArray := prog_7_method_3_code
def yX5_order : MethodName := ⟨RX5, "order", "(I)LPlaceRegister$Order;"⟩
abbrev cX5_read : ByteArray := prog_7_method_4_code
def yX5_read : MethodName := ⟨RX5, "read", "(LPlaceRegister$Tape;)I"⟩
abbrev cX5_readCommand : ByteArray := prog_7_method_5_code
def yX5_readCommand : MethodName := ⟨RX5, "readCommand", "(LPlaceRegister$Tape;)Z"⟩
abbrev cX5_sortFor : ByteArray := prog_7_method_6_code
def yX5_sortFor : MethodName := ⟨RX5, "sortFor", "(I)I"⟩
abbrev cX5_readSign : ByteArray := prog_7_method_7_code
def yX5_readSign : MethodName := ⟨RX5, "readSign", "(LPlaceRegister$Tape;I)Z"⟩
abbrev cX5_readKind : ByteArray := prog_7_method_8_code
def yX5_readKind : MethodName := ⟨RX5, "readKind", "(LPlaceRegister$Tape;)Z"⟩
abbrev cX5_readNumber : ByteArray := prog_7_method_9_code
def yX5_readNumber : MethodName := ⟨RX5, "readNumber", "(LPlaceRegister$Tape;)Z"⟩
abbrev cX5_readWord : ByteArray := prog_7_method_10_code
def yX5_readWord : MethodName := ⟨RX5, "readWord", "(LPlaceRegister$Tape;)Z"⟩
def RX6 : String := "PlaceRegister$Rules"
def TX6 : u_T := fun k => match k with
  | _ => ("", "", "", false)
def tyX6 : Nat → FieldType := fun k => match k with
  | _ => .int
abbrev wsX60 : List Cond := u_ws RX6 TX6 0
theorem nmX6 : ∀ a, a < 0 → ∀ b, b < 0 → a ≠ b → (TX6 a).2.1 ≠ (TX6 b).2.1 := by decide +kernel
theorem tyX6_ok : ∀ k, k < 0 → parseFieldDescriptor (TX6 k).2.2.1 = some (tyX6 k) := by decide +kernel
abbrev cX6_refusal : ByteArray := prog_8_method_2_code
def yX6_refusal : MethodName := ⟨RX6, "refusal", "(LPlaceRegister$World;LPlaceRegister$Order;)I"⟩
abbrev cX6_refusalOfRealm : ByteArray := prog_8_method_3_code
def yX6_refusalOfRealm : MethodName := ⟨RX6, "refusalOfRealm", "(LPlaceRegister$World;LPlaceRegister$Order;)I"⟩
abbrev cX6_refusalOfChild : ByteArray := prog_8_method_4_code
def yX6_refusalOfChild : MethodName := ⟨RX6, "refusalOfChild", "(LPlaceRegister$World;LPlaceRegister$Order;)I"⟩
abbrev cX6_refusalOfEvent : ByteArray := prog_8_method_5_code
def yX6_refusalOfEvent : MethodName := ⟨RX6, "refusalOfEvent", "(LPlaceRegister$World;LPlaceRegister$Order;)I"⟩
abbrev cX6_refusalOfMove : ByteArray := prog_8_method_6_code
def yX6_refusalOfMove : MethodName := ⟨RX6, "refusalOfMove", "(LPlaceRegister$World;LPlaceRegister$Order;)I"⟩
abbrev cX6_refusalOfSplit : ByteArray := prog_8_method_7_code
def yX6_refusalOfSplit : MethodName := ⟨RX6, "refusalOfSplit", "(LPlaceRegister$World;LPlaceRegister$Order;)I"⟩
abbrev cX6_refusalOfMerge : ByteArray := prog_8_method_8_code
def yX6_refusalOfMerge : MethodName := ⟨RX6, "refusalOfMerge", "(LPlaceRegister$World;LPlaceRegister$Order;)I"⟩
def RX7 : String := "PlaceRegister$Spelling"
def TX7 : u_T := fun k => match k with
  | _ => ("PlaceRegister$Spelling", "row", "[I", true)
def tyX7 : Nat → FieldType := fun k => match k with
  | _ => .array .int
abbrev wsX70 : List Cond := u_ws RX7 TX7 1
theorem nmX7 : ∀ a, a < 1 → ∀ b, b < 1 → a ≠ b → (TX7 a).2.1 ≠ (TX7 b).2.1 := by decide +kernel
theorem tyX7_ok : ∀ k, k < 1 → parseFieldDescriptor (TX7 k).2.2.1 = some (tyX7 k) := by decide +kernel
abbrev cX7_init : ByteArray := prog_9_method_1_code
def yX7_init : MethodName := ⟨RX7, "<init>", "()V"⟩
abbrev cX7_distance : ByteArray := prog_9_method_2_code
def yX7_distance : MethodName := ⟨RX7, "distance", "(JJ)I"⟩
abbrev cX7_nextRow : ByteArray := prog_9_method_3_code
def yX7_nextRow : MethodName := ⟨RX7, "nextRow", "(IIJ)V"⟩
def RX8 : String := "PlaceRegister$Tape"
def TX8 : u_T := fun k => match k with
  | 0 => ("PlaceRegister$Tape", "bytes", "[I", true)
  | _ => ("PlaceRegister$Tape", "length", "I", false)
def tyX8 : Nat → FieldType := fun k => match k with
  | 0 => .array .int
  | _ => .int
abbrev wsX80 : List Cond := u_ws RX8 TX8 2
theorem nmX8 : ∀ a, a < 2 → ∀ b, b < 2 → a ≠ b → (TX8 a).2.1 ≠ (TX8 b).2.1 := by decide +kernel
theorem tyX8_ok : ∀ k, k < 2 → parseFieldDescriptor (TX8 k).2.2.1 = some (tyX8 k) := by decide +kernel
abbrev cX8_init : ByteArray := prog_10_method_1_code
def yX8_init : MethodName := ⟨RX8, "<init>", "()V"⟩
abbrev cX8_length : ByteArray := prog_10_method_2_code
def yX8_length : MethodName := ⟨RX8, "length", "()I"⟩
abbrev cX8_clear : ByteArray := prog_10_method_3_code
def yX8_clear : MethodName := ⟨RX8, "clear", "()V"⟩
abbrev cX8_append : ByteArray := prog_10_method_4_code
def yX8_append : MethodName := ⟨RX8, "append", "(I)V"⟩
abbrev cX8_at : ByteArray := prog_10_method_5_code
def yX8_at : MethodName := ⟨RX8, "at", "(I)I"⟩
abbrev cX8_takeWord : ByteArray := prog_10_method_6_code
def yX8_takeWord : MethodName := ⟨RX8, "takeWord", "()J"⟩
def RX9 : String := "PlaceRegister$Timeline"
def TX9 : u_T := fun k => match k with
  | 0 => ("PlaceRegister$Timeline", "starts", "[I", false)
  | 1 => ("PlaceRegister$Timeline", "parents", "[I", false)
  | _ => ("PlaceRegister$Timeline", "size", "I", false)
def tyX9 : Nat → FieldType := fun k => match k with
  | 0 => .array .int
  | 1 => .array .int
  | _ => .int
abbrev wsX90 : List Cond := u_ws RX9 TX9 3
theorem nmX9 : ∀ a, a < 3 → ∀ b, b < 3 → a ≠ b → (TX9 a).2.1 ≠ (TX9 b).2.1 := by decide +kernel
theorem tyX9_ok : ∀ k, k < 3 → parseFieldDescriptor (TX9 k).2.2.1 = some (tyX9 k) := by decide +kernel
abbrev cX9_init : ByteArray := prog_11_method_1_code
def yX9_init : MethodName := ⟨RX9, "<init>", "()V"⟩
abbrev cX9_begin : ByteArray := prog_11_method_2_code
def yX9_begin : MethodName := ⟨RX9, "begin", "(II)V"⟩
abbrev cX9_at : ByteArray := prog_11_method_3_code
def yX9_at : MethodName := ⟨RX9, "at", "(I)I"⟩
abbrev cX9_put : ByteArray := prog_11_method_4_code
def yX9_put : MethodName := ⟨RX9, "put", "(II)V"⟩
abbrev cX9_replace : ByteArray := prog_11_method_5_code
def yX9_replace : MethodName := ⟨RX9, "replace", "(III)V"⟩
abbrev cX9_firstDayWith : ByteArray := prog_11_method_6_code
def yX9_firstDayWith : MethodName := ⟨RX9, "firstDayWith", "(III)I"⟩
abbrev cX9_stopOf : ByteArray := prog_11_method_7_code
def yX9_stopOf : MethodName := ⟨RX9, "stopOf", "(I)I"⟩
abbrev cX9_insert : ByteArray := prog_11_method_8_code
def yX9_insert : MethodName := ⟨RX9, "insert", "(III)V"⟩
def RX10 : String := "PlaceRegister$Words"
def TX10 : u_T := fun k => match k with
  | _ => ("", "", "", false)
def tyX10 : Nat → FieldType := fun k => match k with
  | _ => .int
abbrev wsX100 : List Cond := u_ws RX10 TX10 0
theorem nmX10 : ∀ a, a < 0 → ∀ b, b < 0 → a ≠ b → (TX10 a).2.1 ≠ (TX10 b).2.1 := by decide +kernel
theorem tyX10_ok : ∀ k, k < 0 → parseFieldDescriptor (TX10 k).2.2.1 = some (tyX10 k) := by decide +kernel
abbrev cX10_with : ByteArray := prog_12_method_2_code
def yX10_with : MethodName := ⟨RX10, "with", "(JII)J"⟩
abbrev cX10_letterOf : ByteArray := prog_12_method_3_code
def yX10_letterOf : MethodName := ⟨RX10, "letterOf", "(JI)I"⟩
abbrev cX10_lengthOf : ByteArray := prog_12_method_4_code
def yX10_lengthOf : MethodName := ⟨RX10, "lengthOf", "(J)I"⟩
abbrev cX10_isLetter : ByteArray := prog_12_method_5_code
def yX10_isLetter : MethodName := ⟨RX10, "isLetter", "(I)Z"⟩
def RX11 : String := "PlaceRegister$World"
def TX11 : u_T := fun k => match k with
  | 0 => ("PlaceRegister$World", "filters", "LPlaceRegister$Filters;", true)
  | 1 => ("PlaceRegister$World", "merges", "I", false)
  | 2 => ("PlaceRegister$World", "splits", "I", false)
  | 3 => ("PlaceRegister$World", "places", "[LPlaceRegister$Place;", true)
  | _ => ("PlaceRegister$World", "size", "I", false)
def tyX11 : Nat → FieldType := fun k => match k with
  | 0 => .object "PlaceRegister$Filters"
  | 1 => .int
  | 2 => .int
  | 3 => .array (.object "PlaceRegister$Place")
  | _ => .int
abbrev wsX110 : List Cond := u_ws RX11 TX11 5
theorem nmX11 : ∀ a, a < 5 → ∀ b, b < 5 → a ≠ b → (TX11 a).2.1 ≠ (TX11 b).2.1 := by decide +kernel
theorem tyX11_ok : ∀ k, k < 5 → parseFieldDescriptor (TX11 k).2.2.1 = some (tyX11 k) := by decide +kernel
abbrev cX11_init : ByteArray := prog_13_method_1_code
def yX11_init : MethodName := ⟨RX11, "<init>", "()V"⟩
abbrev cX11_size : ByteArray := prog_13_method_2_code
def yX11_size : MethodName := ⟨RX11, "size", "()I"⟩
abbrev cX11_isFull : ByteArray := prog_13_method_3_code
def yX11_isFull : MethodName := ⟨RX11, "isFull", "()Z"⟩
abbrev cX11_place : ByteArray := prog_13_method_4_code
def yX11_place : MethodName := ⟨RX11, "place", "(I)LPlaceRegister$Place;"⟩
abbrev cX11_clear : ByteArray := prog_13_method_5_code
def yX11_clear : MethodName := ⟨RX11, "clear", "()V"⟩
abbrev cX11_carryOut : ByteArray := prog_13_method_6_code
def yX11_carryOut : MethodName := ⟨RX11, "carryOut", "(LPlaceRegister$Order;)I"⟩
abbrev cX11_settle : ByteArray := prog_13_method_7_code
def yX11_settle : MethodName := ⟨RX11, "settle", "(IIIJ)I"⟩
abbrev cX11_giveName : ByteArray := prog_13_method_8_code
def yX11_giveName : MethodName := ⟨RX11, "giveName", "(LPlaceRegister$Place;IJ)I"⟩
abbrev cX11_giveParent : ByteArray := prog_13_method_9_code
def yX11_giveParent : MethodName := ⟨RX11, "giveParent", "(LPlaceRegister$Place;II)I"⟩
abbrev cX11_splitOff : ByteArray := prog_13_method_10_code
def yX11_splitOff : MethodName := ⟨RX11, "splitOff", "(ILPlaceRegister$Place;IJ)I"⟩
abbrev cX11_takeIn : ByteArray := prog_13_method_11_code
def yX11_takeIn : MethodName := ⟨RX11, "takeIn", "(ILPlaceRegister$Place;II)I"⟩
abbrev cX11_isParentFrom : ByteArray := prog_13_method_12_code
def yX11_isParentFrom : MethodName := ⟨RX11, "isParentFrom", "(II)Z"⟩
abbrev cX11_heirOf : ByteArray := prog_13_method_13_code
def yX11_heirOf : MethodName := ⟨RX11, "heirOf", "(II)I"⟩
abbrev cX11_parentsAbove : ByteArray := prog_13_method_14_code
def yX11_parentsAbove : MethodName := ⟨RX11, "parentsAbove", "(LPlaceRegister$Place;I)I"⟩
abbrev cX11_isUnder : ByteArray := prog_13_method_15_code
def yX11_isUnder : MethodName := ⟨RX11, "isUnder", "(LPlaceRegister$Place;II)Z"⟩
abbrev cX11_childrenOf : ByteArray := prog_13_method_16_code
def yX11_childrenOf : MethodName := ⟨RX11, "childrenOf", "(II)I"⟩
abbrev cX11_existingOn : ByteArray := prog_13_method_17_code
def yX11_existingOn : MethodName := ⟨RX11, "existingOn", "(I)I"⟩
abbrev cX11_leafSet : ByteArray := prog_13_method_18_code
def yX11_leafSet : MethodName := ⟨RX11, "leafSet", "(III)I"⟩
abbrev cX11_isFitting : ByteArray := prog_13_method_19_code
def yX11_isFitting : MethodName := ⟨RX11, "isFitting", "(LPlaceRegister$Place;III)Z"⟩
abbrev cX11_notFoundedOn : ByteArray := prog_13_method_20_code
def yX11_notFoundedOn : MethodName := ⟨RX11, "notFoundedOn", "(I)I"⟩
abbrev cX11_endedOn : ByteArray := prog_13_method_21_code
def yX11_endedOn : MethodName := ⟨RX11, "endedOn", "(I)I"⟩
abbrev cX11_differentNamesOn : ByteArray := prog_13_method_22_code
def yX11_differentNamesOn : MethodName := ⟨RX11, "differentNamesOn", "(I)I"⟩
abbrev cX11_isFirstOfItsName : ByteArray := prog_13_method_23_code
def yX11_isFirstOfItsName : MethodName := ⟨RX11, "isFirstOfItsName", "(II)Z"⟩
abbrev cX11_mostChildrenOn : ByteArray := prog_13_method_24_code
def yX11_mostChildrenOn : MethodName := ⟨RX11, "mostChildrenOn", "(I)I"⟩
def RX12 : String := "PlaceRegister"
def TX12 : u_T := fun k => match k with
  | 0 => ("PlaceRegister", "tape", "LPlaceRegister$Tape;", true)
  | 1 => ("PlaceRegister", "reader", "LPlaceRegister$Reader;", true)
  | 2 => ("PlaceRegister", "world", "LPlaceRegister$World;", true)
  | 3 => ("PlaceRegister", "spelling", "LPlaceRegister$Spelling;", true)
  | 4 => ("PlaceRegister", "retold", "LPlaceRegister$Timeline;", true)
  | 5 => ("PlaceRegister", "paper", "Ljava/lang/StringBuilder;", true)
  | 6 => ("PlaceRegister", "journal", "Ljava/util/ArrayList;", true)
  | 7 => ("PlaceRegister", "snapshot", "Ljava/util/ArrayList;", true)
  | 8 => ("PlaceRegister", "hasSnapshot", "Z", false)
  | 9 => ("PlaceRegister", "marks", "[I", true)
  | 10 => ("PlaceRegister", "changes", "I", false)
  | 11 => ("PlaceRegister", "latestReason", "I", false)
  | 12 => ("PlaceRegister", "hits", "[I", true)
  | _ => ("PlaceRegister", "hitCount", "I", false)
def tyX12 : Nat → FieldType := fun k => match k with
  | 0 => .object "PlaceRegister$Tape"
  | 1 => .object "PlaceRegister$Reader"
  | 2 => .object "PlaceRegister$World"
  | 3 => .object "PlaceRegister$Spelling"
  | 4 => .object "PlaceRegister$Timeline"
  | 5 => .object "java/lang/StringBuilder"
  | 6 => .object "java/util/ArrayList"
  | 7 => .object "java/util/ArrayList"
  | 8 => .boolean
  | 9 => .array .int
  | 10 => .int
  | 11 => .int
  | 12 => .array .int
  | _ => .int
abbrev wsX120 : List Cond := u_ws RX12 TX12 14
theorem nmX12 : ∀ a, a < 14 → ∀ b, b < 14 → a ≠ b → (TX12 a).2.1 ≠ (TX12 b).2.1 := by decide +kernel
theorem tyX12_ok : ∀ k, k < 14 → parseFieldDescriptor (TX12 k).2.2.1 = some (tyX12 k) := by decide +kernel
abbrev cX12_init : ByteArray := prog_1_method_1_code
def yX12_init : MethodName := ⟨RX12, "<init>", "()V"⟩
abbrev cX12_feed : ByteArray := prog_1_method_2_code
def yX12_feed : MethodName := ⟨RX12, "feed", "(IIIIII)I"⟩
abbrev cX12_found : ByteArray := prog_1_method_3_code
def yX12_found : MethodName := ⟨RX12, "found", "(III)I"⟩
abbrev cX12_rename : ByteArray := prog_1_method_4_code
def yX12_rename : MethodName := ⟨RX12, "rename", "(II)I"⟩
abbrev cX12_move : ByteArray := prog_1_method_5_code
def yX12_move : MethodName := ⟨RX12, "move", "(III)I"⟩
abbrev cX12_split : ByteArray := prog_1_method_6_code
def yX12_split : MethodName := ⟨RX12, "split", "(II)I"⟩
abbrev cX12_merge : ByteArray := prog_1_method_7_code
def yX12_merge : MethodName := ⟨RX12, "merge", "(III)I"⟩
abbrev cX12_close : ByteArray := prog_1_method_8_code
def yX12_close : MethodName := ⟨RX12, "close", "(II)I"⟩
abbrev cX12_run : ByteArray := prog_1_method_9_code
def yX12_run : MethodName := ⟨RX12, "run", "()I"⟩
abbrev cX12_reason : ByteArray := prog_1_method_10_code
def yX12_reason : MethodName := ⟨RX12, "reason", "()I"⟩
abbrev cX12_on : ByteArray := prog_1_method_11_code
def yX12_on : MethodName := ⟨RX12, "on", "(III)I"⟩
abbrev cX12_partOn : ByteArray := prog_1_method_12_code
def yX12_partOn : MethodName := ⟨RX12, "partOn", "(ILPlaceRegister$Place;II)I"⟩
abbrev cX12_of : ByteArray := prog_1_method_13_code
def yX12_of : MethodName := ⟨RX12, "of", "(II)I"⟩
abbrev cX12_event : ByteArray := prog_1_method_14_code
def yX12_event : MethodName := ⟨RX12, "event", "(III)I"⟩
abbrev cX12_again : ByteArray := prog_1_method_15_code
def yX12_again : MethodName := ⟨RX12, "again", "(II)I"⟩
abbrev cX12_lookup : ByteArray := prog_1_method_16_code
def yX12_lookup : MethodName := ⟨RX12, "lookup", "(II)I"⟩
abbrev cX12_keepHits : ByteArray := prog_1_method_17_code
def yX12_keepHits : MethodName := ⟨RX12, "keepHits", "(JII)V"⟩
abbrev cX12_sought : ByteArray := prog_1_method_18_code
def yX12_sought : MethodName := ⟨RX12, "sought", "(I)I"⟩
abbrev cX12_filter : ByteArray := prog_1_method_19_code
def yX12_filter : MethodName := ⟨RX12, "filter", "(II)I"⟩
abbrev cX12_join : ByteArray := prog_1_method_20_code
def yX12_join : MethodName := ⟨RX12, "join", "(III)I"⟩
abbrev cX12_drop : ByteArray := prog_1_method_21_code
def yX12_drop : MethodName := ⟨RX12, "drop", "(I)I"⟩
abbrev cX12_fits : ByteArray := prog_1_method_22_code
def yX12_fits : MethodName := ⟨RX12, "fits", "(II)I"⟩
abbrev cX12_write : ByteArray := prog_1_method_23_code
def yX12_write : MethodName := ⟨RX12, "write", "(I)I"⟩
abbrev cX12_paper : ByteArray := prog_1_method_24_code
def yX12_paper : MethodName := ⟨RX12, "paper", "(I)I"⟩
abbrev cX12_changed : ByteArray := prog_1_method_25_code
def yX12_changed : MethodName := ⟨RX12, "changed", "(II)I"⟩
abbrev cX12_longest : ByteArray := prog_1_method_26_code
def yX12_longest : MethodName := ⟨RX12, "longest", "(II)I"⟩
abbrev cX12_account : ByteArray := prog_1_method_27_code
def yX12_account : MethodName := ⟨RX12, "account", "(II)I"⟩
abbrev cX12_back : ByteArray := prog_1_method_28_code
def yX12_back : MethodName := ⟨RX12, "back", "()I"⟩
abbrev cX12_image : ByteArray := prog_1_method_29_code
def yX12_image : MethodName := ⟨RX12, "image", "()I"⟩
abbrev cX12_undo : ByteArray := prog_1_method_30_code
def yX12_undo : MethodName := ⟨RX12, "undo", "()I"⟩
abbrev cX12_count : ByteArray := prog_1_method_31_code
def yX12_count : MethodName := ⟨RX12, "count", "(I)I"⟩
abbrev cX12_isByte : ByteArray := prog_1_method_32_code
def yX12_isByte : MethodName := ⟨RX12, "isByte", "(I)Z"⟩
abbrev cX12_isDay : ByteArray := prog_1_method_33_code
def yX12_isDay : MethodName := ⟨RX12, "isDay", "(I)Z"⟩
abbrev cX12_tell : ByteArray := prog_1_method_34_code
def yX12_tell : MethodName := ⟨RX12, "tell", "(LPlaceRegister$Order;)I"⟩
abbrev cX12_keepMark : ByteArray := prog_1_method_35_code
def yX12_keepMark : MethodName := ⟨RX12, "keepMark", "(I)V"⟩
abbrev cX12_cutJournal : ByteArray := prog_1_method_36_code
def yX12_cutJournal : MethodName := ⟨RX12, "cutJournal", "(I)V"⟩
abbrev cX12_tellAgain : ByteArray := prog_1_method_37_code
def yX12_tellAgain : MethodName := ⟨RX12, "tellAgain", "()V"⟩
abbrev cX12_copyOrders : ByteArray := prog_1_method_38_code
def yX12_copyOrders : MethodName := ⟨RX12, "copyOrders", "(Ljava/util/ArrayList;Ljava/util/ArrayList;)V"⟩
def RX13 : String := "PlaceRegisterModel"
def TX13 : u_T := fun k => match k with
  | 0 => ("PlaceRegisterModel", "all", "[I", true)
  | 1 => ("PlaceRegisterModel", "changes", "I", false)
  | 2 => ("PlaceRegisterModel", "isSaved", "Z", false)
  | 3 => ("PlaceRegisterModel", "tape", "[I", true)
  | 4 => ("PlaceRegisterModel", "taped", "I", false)
  | 5 => ("PlaceRegisterModel", "at", "I", false)
  | 6 => ("PlaceRegisterModel", "fault", "I", false)
  | 7 => ("PlaceRegisterModel", "why", "I", false)
  | 8 => ("PlaceRegisterModel", "word", "[I", true)
  | 9 => ("PlaceRegisterModel", "wordLength", "I", false)
  | 10 => ("PlaceRegisterModel", "commands", "[I", true)
  | 11 => ("PlaceRegisterModel", "commandMany", "I", false)
  | 12 => ("PlaceRegisterModel", "found", "[I", true)
  | 13 => ("PlaceRegisterModel", "foundMany", "I", false)
  | 14 => ("PlaceRegisterModel", "row", "[I", true)
  | 15 => ("PlaceRegisterModel", "paper", "[I", true)
  | _ => ("PlaceRegisterModel", "papered", "I", false)
def tyX13 : Nat → FieldType := fun k => match k with
  | 0 => .array .int
  | 1 => .int
  | 2 => .boolean
  | 3 => .array .int
  | 4 => .int
  | 5 => .int
  | 6 => .int
  | 7 => .int
  | 8 => .array .int
  | 9 => .int
  | 10 => .array .int
  | 11 => .int
  | 12 => .array .int
  | 13 => .int
  | 14 => .array .int
  | 15 => .array .int
  | _ => .int
abbrev wsX130 : List Cond := u_ws RX13 TX13 17
theorem nmX13 : ∀ a, a < 17 → ∀ b, b < 17 → a ≠ b → (TX13 a).2.1 ≠ (TX13 b).2.1 := by decide +kernel
theorem tyX13_ok : ∀ k, k < 17 → parseFieldDescriptor (TX13 k).2.2.1 = some (tyX13 k) := by decide +kernel
abbrev cX13_init : ByteArray := prog_15_method_1_code
def yX13_init : MethodName := ⟨RX13, "<init>", "()V"⟩
abbrev cX13_in : ByteArray := prog_15_method_2_code
def yX13_in : MethodName := ⟨RX13, "in", "(III)Z"⟩
abbrev cX13_copies : ByteArray := prog_15_method_3_code
def yX13_copies : MethodName := ⟨RX13, "copies", "(II)V"⟩
abbrev cX13_keeps : ByteArray := prog_15_method_4_code
def yX13_keeps : MethodName := ⟨RX13, "keeps", "()V"⟩
abbrev cX13_isPlace : ByteArray := prog_15_method_5_code
def yX13_isPlace : MethodName := ⟨RX13, "isPlace", "(I)Z"⟩
abbrev cX13_isDay : ByteArray := prog_15_method_6_code
def yX13_isDay : MethodName := ⟨RX13, "isDay", "(I)Z"⟩
abbrev cX13_has : ByteArray := prog_15_method_7_code
def yX13_has : MethodName := ⟨RX13, "has", "(II)I"⟩
abbrev cX13_lays : ByteArray := prog_15_method_8_code
def yX13_lays : MethodName := ⟨RX13, "lays", "(III)V"⟩
abbrev cX13_hasEnded : ByteArray := prog_15_method_9_code
def yX13_hasEnded : MethodName := ⟨RX13, "hasEnded", "(I)Z"⟩
abbrev cX13_exists : ByteArray := prog_15_method_10_code
def yX13_exists : MethodName := ⟨RX13, "exists", "(II)Z"⟩
abbrev cX13_happens : ByteArray := prog_15_method_11_code
def yX13_happens : MethodName := ⟨RX13, "happens", "(IIII)V"⟩
abbrev cX13_nameOn : ByteArray := prog_15_method_12_code
def yX13_nameOn : MethodName := ⟨RX13, "nameOn", "(II)I"⟩
abbrev cX13_lengthOn : ByteArray := prog_15_method_13_code
def yX13_lengthOn : MethodName := ⟨RX13, "lengthOn", "(II)I"⟩
abbrev cX13_areAlike : ByteArray := prog_15_method_14_code
def yX13_areAlike : MethodName := ⟨RX13, "areAlike", "(II)Z"⟩
abbrev cX13_tellsParent : ByteArray := prog_15_method_15_code
def yX13_tellsParent : MethodName := ⟨RX13, "tellsParent", "(III)V"⟩
abbrev cX13_parentOn : ByteArray := prog_15_method_16_code
def yX13_parentOn : MethodName := ⟨RX13, "parentOn", "(II)I"⟩
abbrev cX13_firstDay : ByteArray := prog_15_method_17_code
def yX13_firstDay : MethodName := ⟨RX13, "firstDay", "(III)I"⟩
abbrev cX13_feed : ByteArray := prog_15_method_18_code
def yX13_feed : MethodName := ⟨RX13, "feed", "(IIIIII)I"⟩
abbrev cX13_here : ByteArray := prog_15_method_19_code
def yX13_here : MethodName := ⟨RX13, "here", "()I"⟩
abbrev cX13_fails : ByteArray := prog_15_method_20_code
def yX13_fails : MethodName := ⟨RX13, "fails", "()V"⟩
abbrev cX13_sign : ByteArray := prog_15_method_21_code
def yX13_sign : MethodName := ⟨RX13, "sign", "(II)I"⟩
abbrev cX13_must : ByteArray := prog_15_method_22_code
def yX13_must : MethodName := ⟨RX13, "must", "(I)V"⟩
abbrev cX13_number : ByteArray := prog_15_method_23_code
def yX13_number : MethodName := ⟨RX13, "number", "()I"⟩
abbrev cX13_readsWord : ByteArray := prog_15_method_24_code
def yX13_readsWord : MethodName := ⟨RX13, "readsWord", "()V"⟩
abbrev cX13_isOneWord : ByteArray := prog_15_method_25_code
def yX13_isOneWord : MethodName := ⟨RX13, "isOneWord", "()Z"⟩
abbrev cX13_refuse : ByteArray := prog_15_method_26_code
def yX13_refuse : MethodName := ⟨RX13, "refuse", "(I)I"⟩
abbrev cX13_canBeParent : ByteArray := prog_15_method_27_code
def yX13_canBeParent : MethodName := ⟨RX13, "canBeParent", "(II)Z"⟩
abbrev cX13_isWrongDay : ByteArray := prog_15_method_28_code
def yX13_isWrongDay : MethodName := ⟨RX13, "isWrongDay", "(II)Z"⟩
abbrev cX13_noFounding : ByteArray := prog_15_method_29_code
def yX13_noFounding : MethodName := ⟨RX13, "noFounding", "(III)I"⟩
abbrev cX13_noEvent : ByteArray := prog_15_method_30_code
def yX13_noEvent : MethodName := ⟨RX13, "noEvent", "(II)I"⟩
abbrev cX13_noMove : ByteArray := prog_15_method_31_code
def yX13_noMove : MethodName := ⟨RX13, "noMove", "(III)I"⟩
abbrev cX13_noSplit : ByteArray := prog_15_method_32_code
def yX13_noSplit : MethodName := ⟨RX13, "noSplit", "(II)I"⟩
abbrev cX13_noMerge : ByteArray := prog_15_method_33_code
def yX13_noMerge : MethodName := ⟨RX13, "noMerge", "(III)I"⟩
abbrev cX13_noClosing : ByteArray := prog_15_method_34_code
def yX13_noClosing : MethodName := ⟨RX13, "noClosing", "(II)I"⟩
abbrev cX13_names : ByteArray := prog_15_method_35_code
def yX13_names : MethodName := ⟨RX13, "names", "(II)V"⟩
abbrev cX13_founds : ByteArray := prog_15_method_36_code
def yX13_founds : MethodName := ⟨RX13, "founds", "(III)I"⟩
abbrev cX13_renames : ByteArray := prog_15_method_37_code
def yX13_renames : MethodName := ⟨RX13, "renames", "(II)I"⟩
abbrev cX13_moves : ByteArray := prog_15_method_38_code
def yX13_moves : MethodName := ⟨RX13, "moves", "(III)I"⟩
abbrev cX13_splits : ByteArray := prog_15_method_39_code
def yX13_splits : MethodName := ⟨RX13, "splits", "(II)I"⟩
abbrev cX13_merges : ByteArray := prog_15_method_40_code
def yX13_merges : MethodName := ⟨RX13, "merges", "(III)I"⟩
abbrev cX13_closes : ByteArray := prog_15_method_41_code
def yX13_closes : MethodName := ⟨RX13, "closes", "(II)I"⟩
abbrev cX13_found : ByteArray := prog_15_method_42_code
def yX13_found : MethodName := ⟨RX13, "found", "(III)I"⟩
abbrev cX13_rename : ByteArray := prog_15_method_43_code
def yX13_rename : MethodName := ⟨RX13, "rename", "(II)I"⟩
abbrev cX13_move : ByteArray := prog_15_method_44_code
def yX13_move : MethodName := ⟨RX13, "move", "(III)I"⟩
abbrev cX13_split : ByteArray := prog_15_method_45_code
def yX13_split : MethodName := ⟨RX13, "split", "(II)I"⟩
abbrev cX13_merge : ByteArray := prog_15_method_46_code
def yX13_merge : MethodName := ⟨RX13, "merge", "(III)I"⟩
abbrev cX13_close : ByteArray := prog_15_method_47_code
def yX13_close : MethodName := ⟨RX13, "close", "(II)I"⟩
abbrev cX13_command : ByteArray := prog_15_method_48_code
def yX13_command : MethodName := ⟨RX13, "command", "()V"⟩
abbrev cX13_does : ByteArray := prog_15_method_49_code
def yX13_does : MethodName := ⟨RX13, "does", "(I)I"⟩
abbrev cX13_run : ByteArray := prog_15_method_50_code
def yX13_run : MethodName := ⟨RX13, "run", "()I"⟩
abbrev cX13_reason : ByteArray := prog_15_method_51_code
def yX13_reason : MethodName := ⟨RX13, "reason", "()I"⟩
abbrev cX13_heir : ByteArray := prog_15_method_52_code
def yX13_heir : MethodName := ⟨RX13, "heir", "(II)I"⟩
abbrev cX13_depth : ByteArray := prog_15_method_53_code
def yX13_depth : MethodName := ⟨RX13, "depth", "(II)I"⟩
abbrev cX13_children : ByteArray := prog_15_method_54_code
def yX13_children : MethodName := ⟨RX13, "children", "(II)I"⟩
abbrev cX13_on : ByteArray := prog_15_method_55_code
def yX13_on : MethodName := ⟨RX13, "on", "(III)I"⟩
abbrev cX13_toldOf : ByteArray := prog_15_method_56_code
def yX13_toldOf : MethodName := ⟨RX13, "toldOf", "(IIII)I"⟩
abbrev cX13_of : ByteArray := prog_15_method_57_code
def yX13_of : MethodName := ⟨RX13, "of", "(II)I"⟩
abbrev cX13_event : ByteArray := prog_15_method_58_code
def yX13_event : MethodName := ⟨RX13, "event", "(III)I"⟩
abbrev cX13_again : ByteArray := prog_15_method_59_code
def yX13_again : MethodName := ⟨RX13, "again", "(II)I"⟩
abbrev cX13_distance : ByteArray := prog_15_method_60_code
def yX13_distance : MethodName := ⟨RX13, "distance", "(I)I"⟩
abbrev cX13_lookup : ByteArray := prog_15_method_61_code
def yX13_lookup : MethodName := ⟨RX13, "lookup", "(II)I"⟩
abbrev cX13_sought : ByteArray := prog_15_method_62_code
def yX13_sought : MethodName := ⟨RX13, "sought", "(I)I"⟩
abbrev cX13_part : ByteArray := prog_15_method_63_code
def yX13_part : MethodName := ⟨RX13, "part", "(III)I"⟩
abbrev cX13_filter : ByteArray := prog_15_method_64_code
def yX13_filter : MethodName := ⟨RX13, "filter", "(II)I"⟩
abbrev cX13_isFilter : ByteArray := prog_15_method_65_code
def yX13_isFilter : MethodName := ⟨RX13, "isFilter", "(I)Z"⟩
abbrev cX13_join : ByteArray := prog_15_method_66_code
def yX13_join : MethodName := ⟨RX13, "join", "(III)I"⟩
abbrev cX13_drop : ByteArray := prog_15_method_67_code
def yX13_drop : MethodName := ⟨RX13, "drop", "(I)I"⟩
abbrev cX13_isAbove : ByteArray := prog_15_method_68_code
def yX13_isAbove : MethodName := ⟨RX13, "isAbove", "(III)Z"⟩
abbrev cX13_isFit : ByteArray := prog_15_method_69_code
def yX13_isFit : MethodName := ⟨RX13, "isFit", "(III)Z"⟩
abbrev cX13_fits : ByteArray := prog_15_method_70_code
def yX13_fits : MethodName := ⟨RX13, "fits", "(II)I"⟩
abbrev cX13_letterOf : ByteArray := prog_15_method_71_code
def yX13_letterOf : MethodName := ⟨RX13, "letterOf", "(I)I"⟩
abbrev cX13_writes : ByteArray := prog_15_method_72_code
def yX13_writes : MethodName := ⟨RX13, "writes", "(I)V"⟩
abbrev cX13_write : ByteArray := prog_15_method_73_code
def yX13_write : MethodName := ⟨RX13, "write", "(I)I"⟩
abbrev cX13_paper : ByteArray := prog_15_method_74_code
def yX13_paper : MethodName := ⟨RX13, "paper", "(I)I"⟩
abbrev cX13_changed : ByteArray := prog_15_method_75_code
def yX13_changed : MethodName := ⟨RX13, "changed", "(II)I"⟩
abbrev cX13_longest : ByteArray := prog_15_method_76_code
def yX13_longest : MethodName := ⟨RX13, "longest", "(II)I"⟩
abbrev cX13_isFirstName : ByteArray := prog_15_method_77_code
def yX13_isFirstName : MethodName := ⟨RX13, "isFirstName", "(II)Z"⟩
abbrev cX13_account : ByteArray := prog_15_method_78_code
def yX13_account : MethodName := ⟨RX13, "account", "(II)I"⟩
abbrev cX13_back : ByteArray := prog_15_method_79_code
def yX13_back : MethodName := ⟨RX13, "back", "()I"⟩
abbrev cX13_image : ByteArray := prog_15_method_80_code
def yX13_image : MethodName := ⟨RX13, "image", "()I"⟩
abbrev cX13_undo : ByteArray := prog_15_method_81_code
def yX13_undo : MethodName := ⟨RX13, "undo", "()I"⟩
abbrev cX13_count : ByteArray := prog_15_method_82_code
def yX13_count : MethodName := ⟨RX13, "count", "(I)I"⟩
def RJx145de : String := "java/io/Serializable"
def TJx145de : u_T := fun k => match k with
  | _ => ("", "", "", false)
def tyJx145de : Nat → FieldType := fun k => match k with
  | _ => .int
abbrev wsJx145de0 : List Cond := u_ws RJx145de TJx145de 0
theorem nmJx145de : ∀ a, a < 0 → ∀ b, b < 0 → a ≠ b → (TJx145de a).2.1 ≠ (TJx145de b).2.1 := by decide +kernel
theorem tyJx145de_ok : ∀ k, k < 0 → parseFieldDescriptor (TJx145de k).2.2.1 = some (tyJx145de k) := by decide +kernel
def RJ5 : String := "java/lang/AbstractStringBuilder"
def TJ5 : u_T := fun k => match k with
  | _ => ("", "", "", false)
def tyJ5 : Nat → FieldType := fun k => match k with
  | _ => .int
abbrev wsJ50 : List Cond := u_ws RJ5 TJ5 0
theorem nmJ5 : ∀ a, a < 0 → ∀ b, b < 0 → a ≠ b → (TJ5 a).2.1 ≠ (TJ5 b).2.1 := by decide +kernel
theorem tyJ5_ok : ∀ k, k < 0 → parseFieldDescriptor (TJ5 k).2.2.1 = some (tyJ5 k) := by decide +kernel
abbrev cJ5_init_d00df : ByteArray := prog_17_method_2_code
def yJ5_init_d00df : MethodName := ⟨RJ5, "<init>", "(I)V"⟩
abbrev cJ5_length_8abf5 : ByteArray := prog_17_method_6_code
def yJ5_length_8abf5 : MethodName := ⟨RJ5, "length", "()I"⟩
abbrev cJ5_ensureCapacityInternal_d00df : ByteArray := prog_17_method_9_code
def yJ5_ensureCapacityInternal_d00df : MethodName := ⟨RJ5, "ensureCapacityInternal", "(I)V"⟩
abbrev cJ5_newCapacity_0f7a4 : ByteArray := prog_17_method_10_code
def yJ5_newCapacity_0f7a4 : MethodName := ⟨RJ5, "newCapacity", "(I)I"⟩
abbrev cJ5_inflate_da8c8 : ByteArray := prog_17_method_11_code
def yJ5_inflate_da8c8 : MethodName := ⟨RJ5, "inflate", "()V"⟩
abbrev cJ5_setLength_d00df : ByteArray := prog_17_method_13_code
def yJ5_setLength_d00df : MethodName := ⟨RJ5, "setLength", "(I)V"⟩
abbrev cJ5_charAt_5068e : ByteArray := prog_17_method_14_code
def yJ5_charAt_5068e : MethodName := ⟨RJ5, "charAt", "(I)C"⟩
abbrev cJ5_append_3fe6f : ByteArray := prog_17_method_31_code
def yJ5_append_3fe6f : MethodName := ⟨RJ5, "append", "(C)Ljava/lang/AbstractStringBuilder;"⟩
abbrev cJ5_append_c97b9 : ByteArray := prog_17_method_32_code
def yJ5_append_c97b9 : MethodName := ⟨RJ5, "append", "(I)Ljava/lang/AbstractStringBuilder;"⟩
abbrev cJ5_isLatin1_aae02 : ByteArray := prog_17_method_68_code
def yJ5_isLatin1_aae02 : MethodName := ⟨RJ5, "isLatin1", "()Z"⟩
def RJx2cfe8 : String := "java/lang/Appendable"
def TJx2cfe8 : u_T := fun k => match k with
  | _ => ("", "", "", false)
def tyJx2cfe8 : Nat → FieldType := fun k => match k with
  | _ => .int
abbrev wsJx2cfe80 : List Cond := u_ws RJx2cfe8 TJx2cfe8 0
theorem nmJx2cfe8 : ∀ a, a < 0 → ∀ b, b < 0 → a ≠ b → (TJx2cfe8 a).2.1 ≠ (TJx2cfe8 b).2.1 := by decide +kernel
theorem tyJx2cfe8_ok : ∀ k, k < 0 → parseFieldDescriptor (TJx2cfe8 k).2.2.1 = some (tyJx2cfe8 k) := by decide +kernel
def RJx9f9b0 : String := "java/lang/CharSequence"
def TJx9f9b0 : u_T := fun k => match k with
  | _ => ("", "", "", false)
def tyJx9f9b0 : Nat → FieldType := fun k => match k with
  | _ => .int
abbrev wsJx9f9b00 : List Cond := u_ws RJx9f9b0 TJx9f9b0 0
theorem nmJx9f9b0 : ∀ a, a < 0 → ∀ b, b < 0 → a ≠ b → (TJx9f9b0 a).2.1 ≠ (TJx9f9b0 b).2.1 := by decide +kernel
theorem tyJx9f9b0_ok : ∀ k, k < 0 → parseFieldDescriptor (TJx9f9b0 k).2.2.1 = some (tyJx9f9b0 k) := by decide +kernel
def RJx8e188 : String := "java/lang/Cloneable"
def TJx8e188 : u_T := fun k => match k with
  | _ => ("", "", "", false)
def tyJx8e188 : Nat → FieldType := fun k => match k with
  | _ => .int
abbrev wsJx8e1880 : List Cond := u_ws RJx8e188 TJx8e188 0
theorem nmJx8e188 : ∀ a, a < 0 → ∀ b, b < 0 → a ≠ b → (TJx8e188 a).2.1 ≠ (TJx8e188 b).2.1 := by decide +kernel
theorem tyJx8e188_ok : ∀ k, k < 0 → parseFieldDescriptor (TJx8e188 k).2.2.1 = some (tyJx8e188 k) := by decide +kernel
def RJxb160c : String := "java/lang/Comparable"
def TJxb160c : u_T := fun k => match k with
  | _ => ("", "", "", false)
def tyJxb160c : Nat → FieldType := fun k => match k with
  | _ => .int
abbrev wsJxb160c0 : List Cond := u_ws RJxb160c TJxb160c 0
theorem nmJxb160c : ∀ a, a < 0 → ∀ b, b < 0 → a ≠ b → (TJxb160c a).2.1 ≠ (TJxb160c b).2.1 := by decide +kernel
theorem tyJxb160c_ok : ∀ k, k < 0 → parseFieldDescriptor (TJxb160c k).2.2.1 = some (tyJxb160c k) := by decide +kernel
def RJ6 : String := "java/lang/Integer"
def TJ6 : u_T := fun k => match k with
  | _ => ("", "", "", false)
def tyJ6 : Nat → FieldType := fun k => match k with
  | _ => .int
abbrev wsJ60 : List Cond := u_ws RJ6 TJ6 0
theorem nmJ6 : ∀ a, a < 0 → ∀ b, b < 0 → a ≠ b → (TJ6 a).2.1 ≠ (TJ6 b).2.1 := by decide +kernel
theorem tyJ6_ok : ∀ k, k < 0 → parseFieldDescriptor (TJ6 k).2.2.1 = some (tyJ6 k) := by decide +kernel
abbrev cJ6_getChars_ba4f3 : ByteArray := prog_22_method_12_code
def yJ6_getChars_ba4f3 : MethodName := ⟨RJ6, "getChars", "(II[B)I"⟩
abbrev cJ6_stringSize_0f7a4 : ByteArray := prog_22_method_13_code
def yJ6_stringSize_0f7a4 : MethodName := ⟨RJ6, "stringSize", "(I)I"⟩
abbrev cJ6_bitCount_0f7a4 : ByteArray := prog_22_method_49_code
def yJ6_bitCount_0f7a4 : MethodName := ⟨RJ6, "bitCount", "(I)I"⟩
def RJxab1ab : String := "java/lang/Iterable"
def TJxab1ab : u_T := fun k => match k with
  | _ => ("", "", "", false)
def tyJxab1ab : Nat → FieldType := fun k => match k with
  | _ => .int
abbrev wsJxab1ab0 : List Cond := u_ws RJxab1ab TJxab1ab 0
theorem nmJxab1ab : ∀ a, a < 0 → ∀ b, b < 0 → a ≠ b → (TJxab1ab a).2.1 ≠ (TJxab1ab b).2.1 := by decide +kernel
theorem tyJxab1ab_ok : ∀ k, k < 0 → parseFieldDescriptor (TJxab1ab k).2.2.1 = some (tyJxab1ab k) := by decide +kernel
def RJ9 : String := "java/lang/Math"
def TJ9 : u_T := fun k => match k with
  | _ => ("", "", "", false)
def tyJ9 : Nat → FieldType := fun k => match k with
  | _ => .int
abbrev wsJ90 : List Cond := u_ws RJ9 TJ9 0
theorem nmJ9 : ∀ a, a < 0 → ∀ b, b < 0 → a ≠ b → (TJ9 a).2.1 ≠ (TJ9 b).2.1 := by decide +kernel
theorem tyJ9_ok : ∀ k, k < 0 → parseFieldDescriptor (TJ9 k).2.2.1 = some (tyJ9 k) := by decide +kernel
abbrev cJ9_max_7cf53 : ByteArray := prog_24_method_65_code
def yJ9_max_7cf53 : MethodName := ⟨RJ9, "max", "(II)I"⟩
abbrev cJ9_min_7cf53 : ByteArray := prog_24_method_69_code
def yJ9_min_7cf53 : MethodName := ⟨RJ9, "min", "(II)I"⟩
def RJxd2413 : String := "java/lang/Number"
def TJxd2413 : u_T := fun k => match k with
  | _ => ("", "", "", false)
def tyJxd2413 : Nat → FieldType := fun k => match k with
  | _ => .int
abbrev wsJxd24130 : List Cond := u_ws RJxd2413 TJxd2413 0
theorem nmJxd2413 : ∀ a, a < 0 → ∀ b, b < 0 → a ≠ b → (TJxd2413 a).2.1 ≠ (TJxd2413 b).2.1 := by decide +kernel
theorem tyJxd2413_ok : ∀ k, k < 0 → parseFieldDescriptor (TJxd2413 k).2.2.1 = some (tyJxd2413 k) := by decide +kernel
def RJ0 : String := "java/lang/String"
def TJ0 : u_T := fun k => match k with
  | _ => ("", "", "", false)
def tyJ0 : Nat → FieldType := fun k => match k with
  | _ => .int
abbrev wsJ00 : List Cond := u_ws RJ0 TJ0 0
theorem nmJ0 : ∀ a, a < 0 → ∀ b, b < 0 → a ≠ b → (TJ0 a).2.1 ≠ (TJ0 b).2.1 := by decide +kernel
theorem tyJ0_ok : ∀ k, k < 0 → parseFieldDescriptor (TJ0 k).2.2.1 = some (tyJ0 k) := by decide +kernel
abbrev cJ0_length_8abf5 : ByteArray := prog_26_method_54_code
def yJ0_length_8abf5 : MethodName := ⟨RJ0, "length", "()I"⟩
abbrev cJ0_charAt_5068e : ByteArray := prog_26_method_56_code
def yJ0_charAt_5068e : MethodName := ⟨RJ0, "charAt", "(I)C"⟩
abbrev cJ0_coder_7d493 : ByteArray := prog_26_method_152_code
def yJ0_coder_7d493 : MethodName := ⟨RJ0, "coder", "()B"⟩
abbrev cJ0_isLatin1_aae02 : ByteArray := prog_26_method_154_code
def yJ0_isLatin1_aae02 : MethodName := ⟨RJ0, "isLatin1", "()Z"⟩
abbrev cJ0_checkIndex_df160 : ByteArray := prog_26_method_155_code
def yJ0_checkIndex_df160 : MethodName := ⟨RJ0, "checkIndex", "(II)V"⟩
abbrev cJ0_checkBoundsOffCount_cabcc : ByteArray := prog_26_method_157_code
def yJ0_checkBoundsOffCount_cabcc : MethodName := ⟨RJ0, "checkBoundsOffCount", "(III)I"⟩
abbrev cJ0_checkBoundsBeginEnd_23922 : ByteArray := prog_26_method_158_code
def yJ0_checkBoundsBeginEnd_23922 : MethodName := ⟨RJ0, "checkBoundsBeginEnd", "(III)V"⟩
def RJ4 : String := "java/lang/StringBuilder"
def TJ4 : u_T := fun k => match k with
  | 0 => ("java/lang/AbstractStringBuilder", "value", "[B", false)
  | 1 => ("java/lang/AbstractStringBuilder", "coder", "B", false)
  | 2 => ("java/lang/AbstractStringBuilder", "maybeLatin1", "Z", false)
  | _ => ("java/lang/AbstractStringBuilder", "count", "I", false)
def tyJ4 : Nat → FieldType := fun k => match k with
  | 0 => .array .byte
  | 1 => .byte
  | 2 => .boolean
  | _ => .int
abbrev wsJ40 : List Cond := u_ws RJ4 TJ4 4
theorem nmJ4 : ∀ a, a < 4 → ∀ b, b < 4 → a ≠ b → (TJ4 a).2.1 ≠ (TJ4 b).2.1 := by decide +kernel
theorem tyJ4_ok : ∀ k, k < 4 → parseFieldDescriptor (TJ4 k).2.2.1 = some (tyJ4 k) := by decide +kernel
abbrev cJ4_init_da8c8 : ByteArray := prog_27_method_1_code
def yJ4_init_da8c8 : MethodName := ⟨RJ4, "<init>", "()V"⟩
abbrev cJ4_append_cf468 : ByteArray := prog_27_method_14_code
def yJ4_append_cf468 : MethodName := ⟨RJ4, "append", "(C)Ljava/lang/StringBuilder;"⟩
abbrev cJ4_append_bf812 : ByteArray := prog_27_method_15_code
def yJ4_append_bf812 : MethodName := ⟨RJ4, "append", "(I)Ljava/lang/StringBuilder;"⟩
abbrev cJ4_charAt_5068e : ByteArray := prog_27_method_88_code
def yJ4_charAt_5068e : MethodName := ⟨RJ4, "charAt", "(I)C"⟩
abbrev cJ4_setLength_d00df : ByteArray := prog_27_method_89_code
def yJ4_setLength_d00df : MethodName := ⟨RJ4, "setLength", "(I)V"⟩
abbrev cJ4_length_8abf5 : ByteArray := prog_27_method_93_code
def yJ4_length_8abf5 : MethodName := ⟨RJ4, "length", "()I"⟩
def RJ1 : String := "java/lang/StringLatin1"
def TJ1 : u_T := fun k => match k with
  | _ => ("", "", "", false)
def tyJ1 : Nat → FieldType := fun k => match k with
  | _ => .int
abbrev wsJ10 : List Cond := u_ws RJ1 TJ1 0
theorem nmJ1 : ∀ a, a < 0 → ∀ b, b < 0 → a ≠ b → (TJ1 a).2.1 ≠ (TJ1 b).2.1 := by decide +kernel
theorem tyJ1_ok : ∀ k, k < 0 → parseFieldDescriptor (TJ1 k).2.2.1 = some (tyJ1 k) := by decide +kernel
abbrev cJ1_charAt_3b067 : ByteArray := prog_28_method_2_code
def yJ1_charAt_3b067 : MethodName := ⟨RJ1, "charAt", "([BI)C"⟩
abbrev cJ1_canEncode_fc78d : ByteArray := prog_28_method_3_code
def yJ1_canEncode_fc78d : MethodName := ⟨RJ1, "canEncode", "(C)Z"⟩
abbrev cJ1_fillNull_b72d1 : ByteArray := prog_28_method_48_code
def yJ1_fillNull_b72d1 : MethodName := ⟨RJ1, "fillNull", "([BII)V"⟩
abbrev cJ1_inflate_0e8fd : ByteArray := prog_28_method_50_code
def yJ1_inflate_0e8fd : MethodName := ⟨RJ1, "inflate", "([BI[BII)V"⟩
def RJ2 : String := "java/lang/StringUTF16"
def TJ2 : u_T := fun k => match k with
  | _ => ("", "", "", false)
def tyJ2 : Nat → FieldType := fun k => match k with
  | _ => .int
abbrev wsJ20 : List Cond := u_ws RJ2 TJ2 0
theorem nmJ2 : ∀ a, a < 0 → ∀ b, b < 0 → a ≠ b → (TJ2 a).2.1 ≠ (TJ2 b).2.1 := by decide +kernel
theorem tyJ2_ok : ∀ k, k < 0 → parseFieldDescriptor (TJ2 k).2.2.1 = some (tyJ2 k) := by decide +kernel
abbrev cJ2_newBytesFor_77867 : ByteArray := prog_29_method_2_code
def yJ2_newBytesFor_77867 : MethodName := ⟨RJ2, "newBytesFor", "(I)[B"⟩
abbrev cJ2_newBytesLength_0f7a4 : ByteArray := prog_29_method_3_code
def yJ2_newBytesLength_0f7a4 : MethodName := ⟨RJ2, "newBytesLength", "(I)I"⟩
abbrev cJ2_putChar_b72d1 : ByteArray := prog_29_method_4_code
def yJ2_putChar_b72d1 : MethodName := ⟨RJ2, "putChar", "([BII)V"⟩
abbrev cJ2_getChar_3b067 : ByteArray := prog_29_method_5_code
def yJ2_getChar_3b067 : MethodName := ⟨RJ2, "getChar", "([BI)C"⟩
abbrev cJ2_length_9d52b : ByteArray := prog_29_method_6_code
def yJ2_length_9d52b : MethodName := ⟨RJ2, "length", "([B)I"⟩
abbrev cJ2_fillNull_b72d1 : ByteArray := prog_29_method_70_code
def yJ2_fillNull_b72d1 : MethodName := ⟨RJ2, "fillNull", "([BII)V"⟩
abbrev cJ2_putCharSB_b72d1 : ByteArray := prog_29_method_71_code
def yJ2_putCharSB_b72d1 : MethodName := ⟨RJ2, "putCharSB", "([BII)V"⟩
abbrev cJ2_getChars_46870 : ByteArray := prog_29_method_77_code
def yJ2_getChars_46870 : MethodName := ⟨RJ2, "getChars", "(III[B)I"⟩
abbrev cJ2_charAt_3b067 : ByteArray := prog_29_method_83_code
def yJ2_charAt_3b067 : MethodName := ⟨RJ2, "charAt", "([BI)C"⟩
abbrev cJ2_inflate_0e8fd : ByteArray := prog_29_method_86_code
def yJ2_inflate_0e8fd : MethodName := ⟨RJ2, "inflate", "([BI[BII)V"⟩
abbrev cJ2_getChars_ba4f3 : ByteArray := prog_29_method_89_code
def yJ2_getChars_ba4f3 : MethodName := ⟨RJ2, "getChars", "(II[B)I"⟩
abbrev cJ2_checkIndex_2214a : ByteArray := prog_29_method_91_code
def yJ2_checkIndex_2214a : MethodName := ⟨RJ2, "checkIndex", "(I[B)V"⟩
abbrev cJ2_checkBoundsBeginEnd_d044e : ByteArray := prog_29_method_93_code
def yJ2_checkBoundsBeginEnd_d044e : MethodName := ⟨RJ2, "checkBoundsBeginEnd", "(II[B)V"⟩
abbrev cJ2_checkBoundsOffCount_d044e : ByteArray := prog_29_method_94_code
def yJ2_checkBoundsOffCount_d044e : MethodName := ⟨RJ2, "checkBoundsOffCount", "(II[B)V"⟩
def RJ10 : String := "java/lang/System"
def TJ10 : u_T := fun k => match k with
  | _ => ("", "", "", false)
def tyJ10 : Nat → FieldType := fun k => match k with
  | _ => .int
abbrev wsJ100 : List Cond := u_ws RJ10 TJ10 0
theorem nmJ10 : ∀ a, a < 0 → ∀ b, b < 0 → a ≠ b → (TJ10 a).2.1 ≠ (TJ10 b).2.1 := by decide +kernel
theorem tyJ10_ok : ∀ k, k < 0 → parseFieldDescriptor (TJ10 k).2.2.1 = some (tyJ10 k) := by decide +kernel
def RJxfd54e : String := "java/lang/constant/Constable"
def TJxfd54e : u_T := fun k => match k with
  | _ => ("", "", "", false)
def tyJxfd54e : Nat → FieldType := fun k => match k with
  | _ => .int
abbrev wsJxfd54e0 : List Cond := u_ws RJxfd54e TJxfd54e 0
theorem nmJxfd54e : ∀ a, a < 0 → ∀ b, b < 0 → a ≠ b → (TJxfd54e a).2.1 ≠ (TJxfd54e b).2.1 := by decide +kernel
theorem tyJxfd54e_ok : ∀ k, k < 0 → parseFieldDescriptor (TJxfd54e k).2.2.1 = some (tyJxfd54e k) := by decide +kernel
def RJx3cf43 : String := "java/lang/constant/ConstantDesc"
def TJx3cf43 : u_T := fun k => match k with
  | _ => ("", "", "", false)
def tyJx3cf43 : Nat → FieldType := fun k => match k with
  | _ => .int
abbrev wsJx3cf430 : List Cond := u_ws RJx3cf43 TJx3cf43 0
theorem nmJx3cf43 : ∀ a, a < 0 → ∀ b, b < 0 → a ≠ b → (TJx3cf43 a).2.1 ≠ (TJx3cf43 b).2.1 := by decide +kernel
theorem tyJx3cf43_ok : ∀ k, k < 0 → parseFieldDescriptor (TJx3cf43 k).2.2.1 = some (tyJx3cf43 k) := by decide +kernel
def RJxa1e45 : String := "java/util/AbstractCollection"
def TJxa1e45 : u_T := fun k => match k with
  | _ => ("", "", "", false)
def tyJxa1e45 : Nat → FieldType := fun k => match k with
  | _ => .int
abbrev wsJxa1e450 : List Cond := u_ws RJxa1e45 TJxa1e45 0
theorem nmJxa1e45 : ∀ a, a < 0 → ∀ b, b < 0 → a ≠ b → (TJxa1e45 a).2.1 ≠ (TJxa1e45 b).2.1 := by decide +kernel
theorem tyJxa1e45_ok : ∀ k, k < 0 → parseFieldDescriptor (TJxa1e45 k).2.2.1 = some (tyJxa1e45 k) := by decide +kernel
abbrev cJxa1e45_init_da8c8 : ByteArray := prog_33_method_1_code
def yJxa1e45_init_da8c8 : MethodName := ⟨RJxa1e45, "<init>", "()V"⟩
def RJxc12de : String := "java/util/AbstractList"
def TJxc12de : u_T := fun k => match k with
  | _ => ("", "", "", false)
def tyJxc12de : Nat → FieldType := fun k => match k with
  | _ => .int
abbrev wsJxc12de0 : List Cond := u_ws RJxc12de TJxc12de 0
theorem nmJxc12de : ∀ a, a < 0 → ∀ b, b < 0 → a ≠ b → (TJxc12de a).2.1 ≠ (TJxc12de b).2.1 := by decide +kernel
theorem tyJxc12de_ok : ∀ k, k < 0 → parseFieldDescriptor (TJxc12de k).2.2.1 = some (tyJxc12de k) := by decide +kernel
abbrev cJxc12de_init_da8c8 : ByteArray := prog_34_method_1_code
def yJxc12de_init_da8c8 : MethodName := ⟨RJxc12de, "<init>", "()V"⟩
def RJx4a65c : String := "java/util/ArrayList"
def TJx4a65c : u_T := fun k => match k with
  | 0 => ("java/util/AbstractList", "modCount", "I", false)
  | 1 => ("java/util/ArrayList", "elementData", "[Ljava/lang/Object;", false)
  | _ => ("java/util/ArrayList", "size", "I", false)
def tyJx4a65c : Nat → FieldType := fun k => match k with
  | 0 => .int
  | 1 => .array (.object "java/lang/Object")
  | _ => .int
abbrev wsJx4a65c0 : List Cond := u_ws RJx4a65c TJx4a65c 3
theorem nmJx4a65c : ∀ a, a < 3 → ∀ b, b < 3 → a ≠ b → (TJx4a65c a).2.1 ≠ (TJx4a65c b).2.1 := by decide +kernel
theorem tyJx4a65c_ok : ∀ k, k < 3 → parseFieldDescriptor (TJx4a65c k).2.2.1 = some (tyJx4a65c k) := by decide +kernel
abbrev cJx4a65c_init_da8c8 : ByteArray := prog_35_method_2_code
def yJx4a65c_init_da8c8 : MethodName := ⟨RJx4a65c, "<init>", "()V"⟩
abbrev cJx4a65c_grow_92f84 : ByteArray := prog_35_method_6_code
def yJx4a65c_grow_92f84 : MethodName := ⟨RJx4a65c, "grow", "(I)[Ljava/lang/Object;"⟩
abbrev cJx4a65c_grow_d5877 : ByteArray := prog_35_method_7_code
def yJx4a65c_grow_d5877 : MethodName := ⟨RJx4a65c, "grow", "()[Ljava/lang/Object;"⟩
abbrev cJx4a65c_size_8abf5 : ByteArray := prog_35_method_8_code
def yJx4a65c_size_8abf5 : MethodName := ⟨RJx4a65c, "size", "()I"⟩
abbrev cJx4a65c_elementData_915e3 : ByteArray := prog_35_method_18_code
def yJx4a65c_elementData_915e3 : MethodName := ⟨RJx4a65c, "elementData", "(I)Ljava/lang/Object;"⟩
abbrev cJx4a65c_get_915e3 : ByteArray := prog_35_method_20_code
def yJx4a65c_get_915e3 : MethodName := ⟨RJx4a65c, "get", "(I)Ljava/lang/Object;"⟩
abbrev cJx4a65c_add_72be8 : ByteArray := prog_35_method_24_code
def yJx4a65c_add_72be8 : MethodName := ⟨RJx4a65c, "add", "(Ljava/lang/Object;[Ljava/lang/Object;I)V"⟩
abbrev cJx4a65c_add_9ea2d : ByteArray := prog_35_method_25_code
def yJx4a65c_add_9ea2d : MethodName := ⟨RJx4a65c, "add", "(Ljava/lang/Object;)Z"⟩
abbrev cJx4a65c_remove_915e3 : ByteArray := prog_35_method_29_code
def yJx4a65c_remove_915e3 : MethodName := ⟨RJx4a65c, "remove", "(I)Ljava/lang/Object;"⟩
abbrev cJx4a65c_fastRemove_b59b0 : ByteArray := prog_35_method_39_code
def yJx4a65c_fastRemove_b59b0 : MethodName := ⟨RJx4a65c, "fastRemove", "([Ljava/lang/Object;I)V"⟩
abbrev cJx4a65c_clear_da8c8 : ByteArray := prog_35_method_40_code
def yJx4a65c_clear_da8c8 : MethodName := ⟨RJx4a65c, "clear", "()V"⟩
def RJ7 : String := "java/util/Arrays"
def TJ7 : u_T := fun k => match k with
  | _ => ("", "", "", false)
def tyJ7 : Nat → FieldType := fun k => match k with
  | _ => .int
abbrev wsJ70 : List Cond := u_ws RJ7 TJ7 0
theorem nmJ7 : ∀ a, a < 0 → ∀ b, b < 0 → a ≠ b → (TJ7 a).2.1 ≠ (TJ7 b).2.1 := by decide +kernel
theorem tyJ7_ok : ∀ k, k < 0 → parseFieldDescriptor (TJ7 k).2.2.1 = some (tyJ7 k) := by decide +kernel
abbrev cJ7_rangeCheck_23922 : ByteArray := prog_36_method_30_code
def yJ7_rangeCheck_23922 : MethodName := ⟨RJ7, "rangeCheck", "(III)V"⟩
abbrev cJ7_fill_eb02e : ByteArray := prog_36_method_110_code
def yJ7_fill_eb02e : MethodName := ⟨RJ7, "fill", "([BIIB)V"⟩
abbrev cJ7_copyOf_1904c : ByteArray := prog_36_method_119_code
def yJ7_copyOf_1904c : MethodName := ⟨RJ7, "copyOf", "([Ljava/lang/Object;I)[Ljava/lang/Object;"⟩
abbrev cJ7_copyOf_6403c : ByteArray := prog_36_method_120_code
def yJ7_copyOf_6403c : MethodName := ⟨RJ7, "copyOf", "([Ljava/lang/Object;ILjava/lang/Class;)[Ljava/lang/Object;"⟩
abbrev cJ7_copyOf_9075b : ByteArray := prog_36_method_121_code
def yJ7_copyOf_9075b : MethodName := ⟨RJ7, "copyOf", "([BI)[B"⟩
abbrev cJ7_copyOf_59c91 : ByteArray := prog_36_method_123_code
def yJ7_copyOf_59c91 : MethodName := ⟨RJ7, "copyOf", "([II)[I"⟩
abbrev cJ7_copyOf_c38d5 : ByteArray := prog_36_method_124_code
def yJ7_copyOf_c38d5 : MethodName := ⟨RJ7, "copyOf", "([JI)[J"⟩
def RJx5ef63 : String := "java/util/Collection"
def TJx5ef63 : u_T := fun k => match k with
  | _ => ("", "", "", false)
def tyJx5ef63 : Nat → FieldType := fun k => match k with
  | _ => .int
abbrev wsJx5ef630 : List Cond := u_ws RJx5ef63 TJx5ef63 0
theorem nmJx5ef63 : ∀ a, a < 0 → ∀ b, b < 0 → a ≠ b → (TJx5ef63 a).2.1 ≠ (TJx5ef63 b).2.1 := by decide +kernel
theorem tyJx5ef63_ok : ∀ k, k < 0 → parseFieldDescriptor (TJx5ef63 k).2.2.1 = some (tyJx5ef63 k) := by decide +kernel
def RJxbd725 : String := "java/util/List"
def TJxbd725 : u_T := fun k => match k with
  | _ => ("", "", "", false)
def tyJxbd725 : Nat → FieldType := fun k => match k with
  | _ => .int
abbrev wsJxbd7250 : List Cond := u_ws RJxbd725 TJxbd725 0
theorem nmJxbd725 : ∀ a, a < 0 → ∀ b, b < 0 → a ≠ b → (TJxbd725 a).2.1 ≠ (TJxbd725 b).2.1 := by decide +kernel
theorem tyJxbd725_ok : ∀ k, k < 0 → parseFieldDescriptor (TJxbd725 k).2.2.1 = some (tyJxbd725 k) := by decide +kernel
def RJ15 : String := "java/util/Objects"
def TJ15 : u_T := fun k => match k with
  | _ => ("", "", "", false)
def tyJ15 : Nat → FieldType := fun k => match k with
  | _ => .int
abbrev wsJ150 : List Cond := u_ws RJ15 TJ15 0
theorem nmJ15 : ∀ a, a < 0 → ∀ b, b < 0 → a ≠ b → (TJ15 a).2.1 ≠ (TJ15 b).2.1 := by decide +kernel
theorem tyJ15_ok : ∀ k, k < 0 → parseFieldDescriptor (TJ15 k).2.2.1 = some (tyJ15 k) := by decide +kernel
abbrev cJ15_checkIndex_7cf53 : ByteArray := prog_39_method_17_code
def yJ15_checkIndex_7cf53 : MethodName := ⟨RJ15, "checkIndex", "(II)I"⟩
def RJxf0a74 : String := "java/util/RandomAccess"
def TJxf0a74 : u_T := fun k => match k with
  | _ => ("", "", "", false)
def tyJxf0a74 : Nat → FieldType := fun k => match k with
  | _ => .int
abbrev wsJxf0a740 : List Cond := u_ws RJxf0a74 TJxf0a74 0
theorem nmJxf0a74 : ∀ a, a < 0 → ∀ b, b < 0 → a ≠ b → (TJxf0a74 a).2.1 ≠ (TJxf0a74 b).2.1 := by decide +kernel
theorem tyJxf0a74_ok : ∀ k, k < 0 → parseFieldDescriptor (TJxf0a74 k).2.2.1 = some (tyJxf0a74 k) := by decide +kernel
def RJxa66e6 : String := "java/util/SequencedCollection"
def TJxa66e6 : u_T := fun k => match k with
  | _ => ("", "", "", false)
def tyJxa66e6 : Nat → FieldType := fun k => match k with
  | _ => .int
abbrev wsJxa66e60 : List Cond := u_ws RJxa66e6 TJxa66e6 0
theorem nmJxa66e6 : ∀ a, a < 0 → ∀ b, b < 0 → a ≠ b → (TJxa66e6 a).2.1 ≠ (TJxa66e6 b).2.1 := by decide +kernel
theorem tyJxa66e6_ok : ∀ k, k < 0 → parseFieldDescriptor (TJxa66e6 k).2.2.1 = some (tyJxa66e6 k) := by decide +kernel
def RJ8 : String := "jdk/internal/util/ArraysSupport"
def TJ8 : u_T := fun k => match k with
  | _ => ("", "", "", false)
def tyJ8 : Nat → FieldType := fun k => match k with
  | _ => .int
abbrev wsJ80 : List Cond := u_ws RJ8 TJ8 0
theorem nmJ8 : ∀ a, a < 0 → ∀ b, b < 0 → a ≠ b → (TJ8 a).2.1 ≠ (TJ8 b).2.1 := by decide +kernel
theorem tyJ8_ok : ∀ k, k < 0 → parseFieldDescriptor (TJ8 k).2.2.1 = some (tyJ8 k) := by decide +kernel
abbrev cJ8_newLength_cabcc : ByteArray := prog_42_method_27_code
def yJ8_newLength_cabcc : MethodName := ⟨RJ8, "newLength", "(III)I"⟩
abbrev cJ8_hugeLength_7cf53 : ByteArray := prog_42_method_28_code
def yJ8_hugeLength_7cf53 : MethodName := ⟨RJ8, "hugeLength", "(II)I"⟩
def RJ3 : String := "jdk/internal/util/Preconditions"
def TJ3 : u_T := fun k => match k with
  | _ => ("", "", "", false)
def tyJ3 : Nat → FieldType := fun k => match k with
  | _ => .int
abbrev wsJ30 : List Cond := u_ws RJ3 TJ3 0
theorem nmJ3 : ∀ a, a < 0 → ∀ b, b < 0 → a ≠ b → (TJ3 a).2.1 ≠ (TJ3 b).2.1 := by decide +kernel
theorem tyJ3_ok : ∀ k, k < 0 → parseFieldDescriptor (TJ3 k).2.2.1 = some (tyJ3 k) := by decide +kernel
abbrev cJ3_checkIndex_8e157 : ByteArray := prog_43_method_11_code
def yJ3_checkIndex_8e157 : MethodName := ⟨RJ3, "checkIndex", "(IILjava/util/function/BiFunction;)I"⟩
abbrev cJ3_checkFromToIndex_8c36e : ByteArray := prog_43_method_12_code
def yJ3_checkFromToIndex_8c36e : MethodName := ⟨RJ3, "checkFromToIndex", "(IIILjava/util/function/BiFunction;)I"⟩
abbrev cJ3_checkFromIndexSize_8c36e : ByteArray := prog_43_method_13_code
def yJ3_checkFromIndexSize_8c36e : MethodName := ⟨RJ3, "checkFromIndexSize", "(IIILjava/util/function/BiFunction;)I"⟩
def RL : String := "PlaceRegisterLaw"
abbrev cL_law : ByteArray := code
def yL_law : MethodName := ⟨RL, "law", "([I)Z"⟩
def wsX0_init : List Cond := .code yX0_init cX0_init 1 none :: ([.methodLink RX0 3 objectInit, .instanceMethod objectInit, .code objectInit ⟨#[0xb1]⟩ 1 none, .arrayClass .int, .fieldLink RX0 9 "PlaceRegister$Filters" "sorts" "[I", .fieldLink RX0 15 "PlaceRegister$Filters" "firsts" "[I", .fieldLink RX0 18 "PlaceRegister$Filters" "seconds" "[I", .fieldLink RX0 21 "PlaceRegister$Filters" "sets" "[I", .fieldLink RX0 24 "PlaceRegister$Filters" "nodes" "I", .fieldLink RX0 28 "PlaceRegister$Filters" "nodeOf" "[I", .fieldLink RX0 31 "PlaceRegister$Filters" "size" "I"] ++ wsX00)
