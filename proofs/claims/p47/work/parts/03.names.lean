def RX0 : String := "MarlStore$Checker"
def TX0 : u_T := fun k => match k with
  | 0 => ("MarlStore$Checker", "wantedPlace", "I", false)
  | 1 => ("MarlStore$Checker", "wantedCode", "I", false)
  | 2 => ("MarlStore$Checker", "wanted", "I", false)
  | 3 => ("MarlStore$Checker", "count", "I", false)
  | 4 => ("MarlStore$Checker", "walk", "LMarlStore$Walk;", true)
  | 5 => ("MarlStore$Checker", "schemas", "[LMarlStore$Schema;", true)
  | _ => ("MarlStore$Checker", "by", "[I", true)
def tyX0 : Nat → FieldType := fun k => match k with
  | 0 => .int
  | 1 => .int
  | 2 => .int
  | 3 => .int
  | 4 => .object "MarlStore$Walk"
  | 5 => .array (.object "MarlStore$Schema")
  | _ => .array .int
theorem nmX0 : ∀ a, a < 7 → ∀ b, b < 7 → a ≠ b → (TX0 a).2.1 ≠ (TX0 b).2.1 := by decide +kernel
theorem tyX0_ok : ∀ k, k < 7 → parseFieldDescriptor (TX0 k).2.2.1 = some (tyX0 k) := by decide +kernel
abbrev cX0_init : ByteArray := prog_2_method_1_code
def yX0_init : MethodName := ⟨RX0, "<init>", "(LMarlStore$Walk;[LMarlStore$Schema;)V"⟩
abbrev cX0_countFailures : ByteArray := prog_2_method_2_code
def yX0_countFailures : MethodName := ⟨RX0, "countFailures", "(II)I"⟩
abbrev cX0_schemaBelow : ByteArray := prog_2_method_3_code
def yX0_schemaBelow : MethodName := ⟨RX0, "schemaBelow", "(II)I"⟩
abbrev cX0_isOfKind : ByteArray := prog_2_method_4_code
def yX0_isOfKind : MethodName := ⟨RX0, "isOfKind", "(ILMarlStore$Value;LMarlStore$Schema;)Z"⟩
abbrev cX0_note : ByteArray := prog_2_method_5_code
def yX0_note : MethodName := ⟨RX0, "note", "(II)V"⟩
def RX1 : String := "MarlStore$Differ"
def TX1 : u_T := fun k => match k with
  | 0 => ("MarlStore$Differ", "table", "[I", true)
  | 1 => ("MarlStore$Differ", "path", "[I", true)
  | 2 => ("MarlStore$Differ", "written", "[LMarlStore$Operation;", true)
  | _ => ("MarlStore$Differ", "count", "I", false)
def tyX1 : Nat → FieldType := fun k => match k with
  | 0 => .array .int
  | 1 => .array .int
  | 2 => .array (.object "MarlStore$Operation")
  | _ => .int
theorem nmX1 : ∀ a, a < 4 → ∀ b, b < 4 → a ≠ b → (TX1 a).2.1 ≠ (TX1 b).2.1 := by decide +kernel
theorem tyX1_ok : ∀ k, k < 4 → parseFieldDescriptor (TX1 k).2.2.1 = some (tyX1 k) := by decide +kernel
abbrev cX1_init : ByteArray := prog_3_method_1_code
def yX1_init : MethodName := ⟨RX1, "<init>", "()V"⟩
abbrev cX1_compare : ByteArray := prog_3_method_2_code
def yX1_compare : MethodName := ⟨RX1, "compare", "(LMarlStore$Value;LMarlStore$Value;)I"⟩
abbrev cX1_between : ByteArray := prog_3_method_3_code
def yX1_between : MethodName := ⟨RX1, "between", "(LMarlStore$Value;LMarlStore$Value;II)I"⟩
abbrev cX1_betweenObjects : ByteArray := prog_3_method_4_code
def yX1_betweenObjects : MethodName := ⟨RX1, "betweenObjects", "(LMarlStore$Value;LMarlStore$Value;II)I"⟩
abbrev cX1_order : ByteArray := prog_3_method_5_code
def yX1_order : MethodName := ⟨RX1, "order", "(LMarlStore$Value;ILMarlStore$Value;I)I"⟩
abbrev cX1_sizeAt : ByteArray := prog_3_method_6_code
def yX1_sizeAt : MethodName := ⟨RX1, "sizeAt", "(LMarlStore$Value;I)I"⟩
abbrev cX1_fillTable : ByteArray := prog_3_method_7_code
def yX1_fillTable : MethodName := ⟨RX1, "fillTable", "(LMarlStore$Value;LMarlStore$Value;II)Z"⟩
abbrev cX1_leastFrom : ByteArray := prog_3_method_8_code
def yX1_leastFrom : MethodName := ⟨RX1, "leastFrom", "(LMarlStore$Value;ILMarlStore$Value;III)I"⟩
abbrev cX1_pairedFrom : ByteArray := prog_3_method_9_code
def yX1_pairedFrom : MethodName := ⟨RX1, "pairedFrom", "(LMarlStore$Value;ILMarlStore$Value;III)I"⟩
abbrev cX1_freeBehind : ByteArray := prog_3_method_10_code
def yX1_freeBehind : MethodName := ⟨RX1, "freeBehind", "(LMarlStore$Value;LMarlStore$Value;I)I"⟩
abbrev cX1_cell : ByteArray := prog_3_method_11_code
def yX1_cell : MethodName := ⟨RX1, "cell", "(LMarlStore$Value;ILMarlStore$Value;II)I"⟩
abbrev cX1_write : ByteArray := prog_3_method_12_code
def yX1_write : MethodName := ⟨RX1, "write", "(LMarlStore$Value;LMarlStore$Value;)I"⟩
abbrev cX1_operationAt : ByteArray := prog_3_method_13_code
def yX1_operationAt : MethodName := ⟨RX1, "operationAt", "(I)LMarlStore$Operation;"⟩
abbrev cX1_writeAt : ByteArray := prog_3_method_14_code
def yX1_writeAt : MethodName := ⟨RX1, "writeAt", "(LMarlStore$Value;LMarlStore$Value;II)V"⟩
abbrev cX1_writeObjects : ByteArray := prog_3_method_15_code
def yX1_writeObjects : MethodName := ⟨RX1, "writeObjects", "(LMarlStore$Value;LMarlStore$Value;II)V"⟩
abbrev cX1_writeBelow : ByteArray := prog_3_method_16_code
def yX1_writeBelow : MethodName := ⟨RX1, "writeBelow", "(LMarlStore$Value;LMarlStore$Value;III)V"⟩
abbrev cX1_writeLists : ByteArray := prog_3_method_17_code
def yX1_writeLists : MethodName := ⟨RX1, "writeLists", "(LMarlStore$Value;LMarlStore$Value;II)V"⟩
abbrev cX1_note : ByteArray := prog_3_method_18_code
def yX1_note : MethodName := ⟨RX1, "note", "(IIILMarlStore$Value;)V"⟩
def RX2 : String := "MarlStore$Editor"
def TX2 : u_T := fun k => match k with
  | 0 => ("MarlStore$Editor", "whole", "LMarlStore$Value;", false)
  | 1 => ("MarlStore$Editor", "taken", "LMarlStore$Value;", false)
  | 2 => ("MarlStore$Editor", "length", "I", false)
  | 3 => ("MarlStore$Editor", "passed", "[LMarlStore$Value;", true)
  | _ => ("MarlStore$Editor", "places", "[I", true)
def tyX2 : Nat → FieldType := fun k => match k with
  | 0 => .object "MarlStore$Value"
  | 1 => .object "MarlStore$Value"
  | 2 => .int
  | 3 => .array (.object "MarlStore$Value")
  | _ => .array .int
theorem nmX2 : ∀ a, a < 5 → ∀ b, b < 5 → a ≠ b → (TX2 a).2.1 ≠ (TX2 b).2.1 := by decide +kernel
theorem tyX2_ok : ∀ k, k < 5 → parseFieldDescriptor (TX2 k).2.2.1 = some (tyX2 k) := by decide +kernel
abbrev cX2_init : ByteArray := prog_4_method_1_code
def yX2_init : MethodName := ⟨RX2, "<init>", "(LMarlStore$Value;)V"⟩
abbrev cX2_begin : ByteArray := prog_4_method_2_code
def yX2_begin : MethodName := ⟨RX2, "begin", "(LMarlStore$Value;)V"⟩
abbrev cX2_isAllowed : ByteArray := prog_4_method_3_code
def yX2_isAllowed : MethodName := ⟨RX2, "isAllowed", "()Z"⟩
abbrev cX2_perform : ByteArray := prog_4_method_4_code
def yX2_perform : MethodName := ⟨RX2, "perform", "(LMarlStore$Operation;)Z"⟩
abbrev cX2_addAt : ByteArray := prog_4_method_5_code
def yX2_addAt : MethodName := ⟨RX2, "addAt", "([IIILMarlStore$Value;)Z"⟩
abbrev cX2_dropAt : ByteArray := prog_4_method_6_code
def yX2_dropAt : MethodName := ⟨RX2, "dropAt", "([III)Z"⟩
abbrev cX2_putAt : ByteArray := prog_4_method_7_code
def yX2_putAt : MethodName := ⟨RX2, "putAt", "([IILMarlStore$Value;)Z"⟩
abbrev cX2_testAt : ByteArray := prog_4_method_8_code
def yX2_testAt : MethodName := ⟨RX2, "testAt", "([IILMarlStore$Value;)Z"⟩
abbrev cX2_follow : ByteArray := prog_4_method_9_code
def yX2_follow : MethodName := ⟨RX2, "follow", "([II)LMarlStore$Value;"⟩
abbrev cX2_rebuild : ByteArray := prog_4_method_10_code
def yX2_rebuild : MethodName := ⟨RX2, "rebuild", "(LMarlStore$Value;)V"⟩
def RX3 : String := "MarlStore$Operation"
def TX3 : u_T := fun k => match k with
  | 0 => ("MarlStore$Operation", "code", "I", true)
  | 1 => ("MarlStore$Operation", "path", "[I", true)
  | 2 => ("MarlStore$Operation", "step", "I", true)
  | _ => ("MarlStore$Operation", "value", "LMarlStore$Value;", true)
def tyX3 : Nat → FieldType := fun k => match k with
  | 0 => .int
  | 1 => .array .int
  | 2 => .int
  | _ => .object "MarlStore$Value"
theorem nmX3 : ∀ a, a < 4 → ∀ b, b < 4 → a ≠ b → (TX3 a).2.1 ≠ (TX3 b).2.1 := by decide +kernel
theorem tyX3_ok : ∀ k, k < 4 → parseFieldDescriptor (TX3 k).2.2.1 = some (tyX3 k) := by decide +kernel
abbrev cX3_init : ByteArray := prog_5_method_1_code
def yX3_init : MethodName := ⟨RX3, "<init>", "(I[IILMarlStore$Value;)V"⟩
abbrev cX3_inverse : ByteArray := prog_5_method_2_code
def yX3_inverse : MethodName := ⟨RX3, "inverse", "(LMarlStore$Value;)LMarlStore$Operation;"⟩
abbrev cX3_tell : ByteArray := prog_5_method_3_code
def yX3_tell : MethodName := ⟨RX3, "tell", "(I)I"⟩
def RX4 : String := "MarlStore$Patch"
def TX4 : u_T := fun k => match k with
  | 0 => ("MarlStore$Patch", "count", "I", false)
  | _ => ("MarlStore$Patch", "held", "[LMarlStore$Operation;", true)
def tyX4 : Nat → FieldType := fun k => match k with
  | 0 => .int
  | _ => .array (.object "MarlStore$Operation")
theorem nmX4 : ∀ a, a < 2 → ∀ b, b < 2 → a ≠ b → (TX4 a).2.1 ≠ (TX4 b).2.1 := by decide +kernel
theorem tyX4_ok : ∀ k, k < 2 → parseFieldDescriptor (TX4 k).2.2.1 = some (tyX4 k) := by decide +kernel
abbrev cX4_init : ByteArray := prog_6_method_1_code
def yX4_init : MethodName := ⟨RX4, "<init>", "()V"⟩
abbrev cX4_clear : ByteArray := prog_6_method_2_code
def yX4_clear : MethodName := ⟨RX4, "clear", "()V"⟩
abbrev cX4_append : ByteArray := prog_6_method_3_code
def yX4_append : MethodName := ⟨RX4, "append", "(LMarlStore$Operation;)V"⟩
abbrev cX4_operationAt : ByteArray := prog_6_method_4_code
def yX4_operationAt : MethodName := ⟨RX4, "operationAt", "(I)LMarlStore$Operation;"⟩
def RX5 : String := "MarlStore$Pointer"
def TX5 : u_T := fun k => match k with
  | 0 => ("MarlStore$Pointer", "at", "I", false)
  | 1 => ("MarlStore$Pointer", "length", "I", false)
  | _ => ("MarlStore$Pointer", "path", "[I", true)
def tyX5 : Nat → FieldType := fun k => match k with
  | 0 => .int
  | 1 => .int
  | _ => .array .int
theorem nmX5 : ∀ a, a < 3 → ∀ b, b < 3 → a ≠ b → (TX5 a).2.1 ≠ (TX5 b).2.1 := by decide +kernel
theorem tyX5_ok : ∀ k, k < 3 → parseFieldDescriptor (TX5 k).2.2.1 = some (tyX5 k) := by decide +kernel
abbrev cX5_init : ByteArray := prog_7_method_1_code
def yX5_init : MethodName := ⟨RX5, "<init>", "()V"⟩
abbrev cX5_goToWhole : ByteArray := prog_7_method_3_code
def yX5_goToWhole : MethodName := ⟨RX5, "goToWhole", "(I)V"⟩
abbrev cX5_goDown : ByteArray := prog_7_method_4_code
def yX5_goDown : MethodName := ⟨RX5, "goDown", "(I)Z"⟩
abbrev cX5_goUp : ByteArray := prog_7_method_5_code
def yX5_goUp : MethodName := ⟨RX5, "goUp", "()Z"⟩
abbrev cX5_settle : ByteArray := prog_7_method_7_code
def yX5_settle : MethodName := ⟨RX5, "settle", "(LMarlStore$Value;)V"⟩
def RX6 : String := "MarlStore$Query"
def TX6 : u_T := fun k => match k with
  | 0 => ("MarlStore$Query", "count", "I", false)
  | 1 => ("MarlStore$Query", "codes", "[I", true)
  | _ => ("MarlStore$Query", "ns", "[I", true)
def tyX6 : Nat → FieldType := fun k => match k with
  | 0 => .int
  | 1 => .array .int
  | _ => .array .int
theorem nmX6 : ∀ a, a < 3 → ∀ b, b < 3 → a ≠ b → (TX6 a).2.1 ≠ (TX6 b).2.1 := by decide +kernel
theorem tyX6_ok : ∀ k, k < 3 → parseFieldDescriptor (TX6 k).2.2.1 = some (tyX6 k) := by decide +kernel
abbrev cX6_init : ByteArray := prog_8_method_1_code
def yX6_init : MethodName := ⟨RX6, "<init>", "()V"⟩
abbrev cX6_append : ByteArray := prog_8_method_2_code
def yX6_append : MethodName := ⟨RX6, "append", "(II)Z"⟩
abbrev cX6_findIn : ByteArray := prog_8_method_3_code
def yX6_findIn : MethodName := ⟨RX6, "findIn", "(LMarlStore$Walk;)J"⟩
def RX7 : String := "MarlStore$Schema"
def TX7 : u_T := fun k => match k with
  | 0 => ("MarlStore$Schema", "kinds", "I", false)
  | 1 => ("MarlStore$Schema", "low", "I", false)
  | 2 => ("MarlStore$Schema", "high", "I", false)
  | 3 => ("MarlStore$Schema", "least", "I", false)
  | 4 => ("MarlStore$Schema", "most", "I", false)
  | 5 => ("MarlStore$Schema", "item", "I", false)
  | 6 => ("MarlStore$Schema", "rest", "I", false)
  | 7 => ("MarlStore$Schema", "keyCount", "I", false)
  | 8 => ("MarlStore$Schema", "keys", "[I", true)
  | 9 => ("MarlStore$Schema", "owns", "[I", true)
  | _ => ("MarlStore$Schema", "isNeeded", "[Z", true)
def tyX7 : Nat → FieldType := fun k => match k with
  | 0 => .int
  | 1 => .int
  | 2 => .int
  | 3 => .int
  | 4 => .int
  | 5 => .int
  | 6 => .int
  | 7 => .int
  | 8 => .array .int
  | 9 => .array .int
  | _ => .array .boolean
theorem nmX7 : ∀ a, a < 11 → ∀ b, b < 11 → a ≠ b → (TX7 a).2.1 ≠ (TX7 b).2.1 := by decide +kernel
theorem tyX7_ok : ∀ k, k < 11 → parseFieldDescriptor (TX7 k).2.2.1 = some (tyX7 k) := by decide +kernel
abbrev cX7_init : ByteArray := prog_9_method_1_code
def yX7_init : MethodName := ⟨RX7, "<init>", "()V"⟩
abbrev cX7_placeOfKey : ByteArray := prog_9_method_4_code
def yX7_placeOfKey : MethodName := ⟨RX7, "placeOfKey", "(I)I"⟩
abbrev cX7_forChild : ByteArray := prog_9_method_5_code
def yX7_forChild : MethodName := ⟨RX7, "forChild", "(II)I"⟩
abbrev cX7_countMissing : ByteArray := prog_9_method_6_code
def yX7_countMissing : MethodName := ⟨RX7, "countMissing", "(LMarlStore$Value;)I"⟩
def RX8 : String := "MarlStore$Value"
def TX8 : u_T := fun k => match k with
  | 0 => ("MarlStore$Value", "kind", "I", true)
  | 1 => ("MarlStore$Value", "number", "I", true)
  | 2 => ("MarlStore$Value", "keys", "[I", true)
  | 3 => ("MarlStore$Value", "parts", "[LMarlStore$Value;", true)
  | 4 => ("MarlStore$Value", "size", "I", true)
  | _ => ("MarlStore$Value", "depth", "I", true)
def tyX8 : Nat → FieldType := fun k => match k with
  | 0 => .int
  | 1 => .int
  | 2 => .array .int
  | 3 => .array (.object "MarlStore$Value")
  | 4 => .int
  | _ => .int
theorem nmX8 : ∀ a, a < 6 → ∀ b, b < 6 → a ≠ b → (TX8 a).2.1 ≠ (TX8 b).2.1 := by decide +kernel
theorem tyX8_ok : ∀ k, k < 6 → parseFieldDescriptor (TX8 k).2.2.1 = some (tyX8 k) := by decide +kernel
abbrev cX8_init : ByteArray := prog_10_method_1_code
def yX8_init : MethodName := ⟨RX8, "<init>", "(II[I[LMarlStore$Value;)V"⟩
abbrev cX8_width : ByteArray := prog_10_method_2_code
def yX8_width : MethodName := ⟨RX8, "width", "()I"⟩
abbrev cX8_partAt : ByteArray := prog_10_method_3_code
def yX8_partAt : MethodName := ⟨RX8, "partAt", "(I)LMarlStore$Value;"⟩
abbrev cX8_stepOf : ByteArray := prog_10_method_4_code
def yX8_stepOf : MethodName := ⟨RX8, "stepOf", "(I)I"⟩
abbrev cX8_placeOf : ByteArray := prog_10_method_5_code
def yX8_placeOf : MethodName := ⟨RX8, "placeOf", "(I)I"⟩
abbrev cX8_placeToAdd : ByteArray := prog_10_method_6_code
def yX8_placeToAdd : MethodName := ⟨RX8, "placeToAdd", "(I)I"⟩
abbrev cX8_below : ByteArray := prog_10_method_7_code
def yX8_below : MethodName := ⟨RX8, "below", "([II)LMarlStore$Value;"⟩
abbrev cX8_withPart : ByteArray := prog_10_method_8_code
def yX8_withPart : MethodName := ⟨RX8, "withPart", "(ILMarlStore$Value;)LMarlStore$Value;"⟩
abbrev cX8_withAdded : ByteArray := prog_10_method_9_code
def yX8_withAdded : MethodName := ⟨RX8, "withAdded", "(IILMarlStore$Value;)LMarlStore$Value;"⟩
abbrev cX8_withoutPart : ByteArray := prog_10_method_10_code
def yX8_withoutPart : MethodName := ⟨RX8, "withoutPart", "(I)LMarlStore$Value;"⟩
abbrev cX8_isSameAs : ByteArray := prog_10_method_11_code
def yX8_isSameAs : MethodName := ⟨RX8, "isSameAs", "(LMarlStore$Value;)Z"⟩
abbrev cX8_areSame : ByteArray := prog_10_method_12_code
def yX8_areSame : MethodName := ⟨RX8, "areSame", "(LMarlStore$Value;LMarlStore$Value;I)Z"⟩
def RX9 : String := "MarlStore$Walk"
def TX9 : u_T := fun k => match k with
  | 0 => ("MarlStore$Walk", "count", "I", false)
  | 1 => ("MarlStore$Walk", "values", "[LMarlStore$Value;", true)
  | 2 => ("MarlStore$Walk", "parents", "[I", true)
  | 3 => ("MarlStore$Walk", "steps", "[I", true)
  | _ => ("MarlStore$Walk", "levels", "[I", true)
def tyX9 : Nat → FieldType := fun k => match k with
  | 0 => .int
  | 1 => .array (.object "MarlStore$Value")
  | 2 => .array .int
  | 3 => .array .int
  | _ => .array .int
theorem nmX9 : ∀ a, a < 5 → ∀ b, b < 5 → a ≠ b → (TX9 a).2.1 ≠ (TX9 b).2.1 := by decide +kernel
theorem tyX9_ok : ∀ k, k < 5 → parseFieldDescriptor (TX9 k).2.2.1 = some (tyX9 k) := by decide +kernel
abbrev cX9_init : ByteArray := prog_11_method_1_code
def yX9_init : MethodName := ⟨RX9, "<init>", "()V"⟩
abbrev cX9_fill : ByteArray := prog_11_method_2_code
def yX9_fill : MethodName := ⟨RX9, "fill", "(LMarlStore$Value;)V"⟩
abbrev cX9_enter : ByteArray := prog_11_method_3_code
def yX9_enter : MethodName := ⟨RX9, "enter", "(ILMarlStore$Value;III)V"⟩
abbrev cX9_valueAt : ByteArray := prog_11_method_4_code
def yX9_valueAt : MethodName := ⟨RX9, "valueAt", "(I)LMarlStore$Value;"⟩
abbrev cX9_above : ByteArray := prog_11_method_5_code
def yX9_above : MethodName := ⟨RX9, "above", "(I)I"⟩
abbrev cX9_stepTo : ByteArray := prog_11_method_6_code
def yX9_stepTo : MethodName := ⟨RX9, "stepTo", "(I)I"⟩
abbrev cX9_pick : ByteArray := prog_11_method_8_code
def yX9_pick : MethodName := ⟨RX9, "pick", "(JII)J"⟩
abbrev cX9_isPicked : ByteArray := prog_11_method_9_code
def yX9_isPicked : MethodName := ⟨RX9, "isPicked", "(JJILMarlStore$Value;II)Z"⟩
abbrev cX9_isLast : ByteArray := prog_11_method_10_code
def yX9_isLast : MethodName := ⟨RX9, "isLast", "(ILMarlStore$Value;)Z"⟩
abbrev cX9_without : ByteArray := prog_11_method_14_code
def yX9_without : MethodName := ⟨RX9, "without", "(J)LMarlStore$Value;"⟩
def RX10 : String := "MarlStore"
def TX10 : u_T := fun k => match k with
  | 0 => ("MarlStore", "wholes", "[LMarlStore$Value;", true)
  | 1 => ("MarlStore", "clipped", "LMarlStore$Value;", false)
  | 2 => ("MarlStore", "pointer", "LMarlStore$Pointer;", true)
  | 3 => ("MarlStore", "editor", "LMarlStore$Editor;", true)
  | 4 => ("MarlStore", "allPatches", "[LMarlStore$Patch;", true)
  | 5 => ("MarlStore", "patchCount", "I", false)
  | 6 => ("MarlStore", "takenOut", "[LMarlStore$Value;", true)
  | 7 => ("MarlStore", "differ", "LMarlStore$Differ;", true)
  | 8 => ("MarlStore", "schemas", "[LMarlStore$Schema;", true)
  | 9 => ("MarlStore", "schemaCount", "I", false)
  | 10 => ("MarlStore", "checker", "LMarlStore$Checker;", true)
  | 11 => ("MarlStore", "queries", "[LMarlStore$Query;", true)
  | 12 => ("MarlStore", "queryCount", "I", false)
  | _ => ("MarlStore", "walk", "LMarlStore$Walk;", true)
def tyX10 : Nat → FieldType := fun k => match k with
  | 0 => .array (.object "MarlStore$Value")
  | 1 => .object "MarlStore$Value"
  | 2 => .object "MarlStore$Pointer"
  | 3 => .object "MarlStore$Editor"
  | 4 => .array (.object "MarlStore$Patch")
  | 5 => .int
  | 6 => .array (.object "MarlStore$Value")
  | 7 => .object "MarlStore$Differ"
  | 8 => .array (.object "MarlStore$Schema")
  | 9 => .int
  | 10 => .object "MarlStore$Checker"
  | 11 => .array (.object "MarlStore$Query")
  | 12 => .int
  | _ => .object "MarlStore$Walk"
theorem nmX10 : ∀ a, a < 14 → ∀ b, b < 14 → a ≠ b → (TX10 a).2.1 ≠ (TX10 b).2.1 := by decide +kernel
theorem tyX10_ok : ∀ k, k < 14 → parseFieldDescriptor (TX10 k).2.2.1 = some (tyX10 k) := by decide +kernel
abbrev cX10_init : ByteArray := prog_1_method_1_code
def yX10_init : MethodName := ⟨RX10, "<init>", "()V"⟩
abbrev cX10_point : ByteArray := prog_1_method_2_code
def yX10_point : MethodName := ⟨RX10, "point", "(I)I"⟩
abbrev cX10_into : ByteArray := prog_1_method_3_code
def yX10_into : MethodName := ⟨RX10, "into", "(I)I"⟩
abbrev cX10_up : ByteArray := prog_1_method_4_code
def yX10_up : MethodName := ⟨RX10, "up", "()I"⟩
abbrev cX10_document : ByteArray := prog_1_method_5_code
def yX10_document : MethodName := ⟨RX10, "document", "()I"⟩
abbrev cX10_steps : ByteArray := prog_1_method_6_code
def yX10_steps : MethodName := ⟨RX10, "steps", "()I"⟩
abbrev cX10_stepAt : ByteArray := prog_1_method_7_code
def yX10_stepAt : MethodName := ⟨RX10, "stepAt", "(I)I"⟩
abbrev cX10_set : ByteArray := prog_1_method_8_code
def yX10_set : MethodName := ⟨RX10, "set", "(II)I"⟩
abbrev cX10_copy : ByteArray := prog_1_method_9_code
def yX10_copy : MethodName := ⟨RX10, "copy", "()I"⟩
abbrev cX10_insert : ByteArray := prog_1_method_11_code
def yX10_insert : MethodName := ⟨RX10, "insert", "(I)I"⟩
abbrev cX10_drop : ByteArray := prog_1_method_12_code
def yX10_drop : MethodName := ⟨RX10, "drop", "(I)I"⟩
abbrev cX10_kind : ByteArray := prog_1_method_13_code
def yX10_kind : MethodName := ⟨RX10, "kind", "()I"⟩
abbrev cX10_number : ByteArray := prog_1_method_14_code
def yX10_number : MethodName := ⟨RX10, "number", "()I"⟩
abbrev cX10_children : ByteArray := prog_1_method_15_code
def yX10_children : MethodName := ⟨RX10, "children", "()I"⟩
abbrev cX10_childStep : ByteArray := prog_1_method_16_code
def yX10_childStep : MethodName := ⟨RX10, "childStep", "(I)I"⟩
abbrev cX10_size : ByteArray := prog_1_method_17_code
def yX10_size : MethodName := ⟨RX10, "size", "(I)I"⟩
abbrev cX10_depth : ByteArray := prog_1_method_18_code
def yX10_depth : MethodName := ⟨RX10, "depth", "(I)I"⟩
abbrev cX10_clip : ByteArray := prog_1_method_19_code
def yX10_clip : MethodName := ⟨RX10, "clip", "()I"⟩
abbrev cX10_apply : ByteArray := prog_1_method_22_code
def yX10_apply : MethodName := ⟨RX10, "apply", "(II)I"⟩
abbrev cX10_failsAt : ByteArray := prog_1_method_23_code
def yX10_failsAt : MethodName := ⟨RX10, "failsAt", "(II)I"⟩
abbrev cX10_diff : ByteArray := prog_1_method_24_code
def yX10_diff : MethodName := ⟨RX10, "diff", "(II)I"⟩
abbrev cX10_forget : ByteArray := prog_1_method_25_code
def yX10_forget : MethodName := ⟨RX10, "forget", "()I"⟩
abbrev cX10_patches : ByteArray := prog_1_method_26_code
def yX10_patches : MethodName := ⟨RX10, "patches", "()I"⟩
abbrev cX10_operations : ByteArray := prog_1_method_27_code
def yX10_operations : MethodName := ⟨RX10, "operations", "(I)I"⟩
abbrev cX10_ofOperation : ByteArray := prog_1_method_28_code
def yX10_ofOperation : MethodName := ⟨RX10, "ofOperation", "(III)I"⟩
abbrev cX10_difference : ByteArray := prog_1_method_29_code
def yX10_difference : MethodName := ⟨RX10, "difference", "(II)I"⟩
abbrev cX10_changes : ByteArray := prog_1_method_30_code
def yX10_changes : MethodName := ⟨RX10, "changes", "(II)I"⟩
abbrev cX10_fitting : ByteArray := prog_1_method_37_code
def yX10_fitting : MethodName := ⟨RX10, "fitting", "(I)I"⟩
abbrev cX10_addQuery : ByteArray := prog_1_method_38_code
def yX10_addQuery : MethodName := ⟨RX10, "addQuery", "()I"⟩
abbrev cX10_addPart : ByteArray := prog_1_method_39_code
def yX10_addPart : MethodName := ⟨RX10, "addPart", "(III)I"⟩
abbrev cX10_found : ByteArray := prog_1_method_40_code
def yX10_found : MethodName := ⟨RX10, "found", "(II)I"⟩
abbrev cX10_dropFound : ByteArray := prog_1_method_44_code
def yX10_dropFound : MethodName := ⟨RX10, "dropFound", "(II)I"⟩
abbrev cX10_digest : ByteArray := prog_1_method_45_code
def yX10_digest : MethodName := ⟨RX10, "digest", "()J"⟩
abbrev cX10_wholeOf : ByteArray := prog_1_method_46_code
def yX10_wholeOf : MethodName := ⟨RX10, "wholeOf", "(I)LMarlStore$Value;"⟩
abbrev cX10_patchOf : ByteArray := prog_1_method_47_code
def yX10_patchOf : MethodName := ⟨RX10, "patchOf", "(I)LMarlStore$Patch;"⟩
abbrev cX10_schemaOf : ByteArray := prog_1_method_48_code
def yX10_schemaOf : MethodName := ⟨RX10, "schemaOf", "(I)LMarlStore$Schema;"⟩
abbrev cX10_queryOf : ByteArray := prog_1_method_49_code
def yX10_queryOf : MethodName := ⟨RX10, "queryOf", "(I)LMarlStore$Query;"⟩
abbrev cX10_beginPatch : ByteArray := prog_1_method_50_code
def yX10_beginPatch : MethodName := ⟨RX10, "beginPatch", "()I"⟩
abbrev cX10_pointed : ByteArray := prog_1_method_51_code
def yX10_pointed : MethodName := ⟨RX10, "pointed", "()LMarlStore$Value;"⟩
abbrev cX10_changeTo : ByteArray := prog_1_method_52_code
def yX10_changeTo : MethodName := ⟨RX10, "changeTo", "(ILMarlStore$Value;)V"⟩
abbrev cX10_finish : ByteArray := prog_1_method_53_code
def yX10_finish : MethodName := ⟨RX10, "finish", "(Z)I"⟩
abbrev cX10_tryOut : ByteArray := prog_1_method_54_code
def yX10_tryOut : MethodName := ⟨RX10, "tryOut", "(LMarlStore$Patch;LMarlStore$Value;)I"⟩
abbrev cX10_writeInverse : ByteArray := prog_1_method_55_code
def yX10_writeInverse : MethodName := ⟨RX10, "writeInverse", "(LMarlStore$Patch;LMarlStore$Patch;)V"⟩
abbrev cX10_countFailures : ByteArray := prog_1_method_56_code
def yX10_countFailures : MethodName := ⟨RX10, "countFailures", "(III)I"⟩
abbrev cX10_isPart : ByteArray := prog_1_method_57_code
def yX10_isPart : MethodName := ⟨RX10, "isPart", "(II)Z"⟩
abbrev cX10_findIn : ByteArray := prog_1_method_58_code
def yX10_findIn : MethodName := ⟨RX10, "findIn", "(II)J"⟩
abbrev cX10_isIn : ByteArray := prog_1_method_59_code
def yX10_isIn : MethodName := ⟨RX10, "isIn", "(JI)Z"⟩
abbrev cX10_digestValue : ByteArray := prog_1_method_61_code
def yX10_digestValue : MethodName := ⟨RX10, "digestValue", "(JLMarlStore$Value;)J"⟩
abbrev cX10_digestPatches : ByteArray := prog_1_method_62_code
def yX10_digestPatches : MethodName := ⟨RX10, "digestPatches", "(J)J"⟩
def RX11 : String := "MarlStoreModel$Patch"
def TX11 : u_T := fun k => match k with
  | _ => ("", "", "", false)
def tyX11 : Nat → FieldType := fun k => match k with
  | _ => .int
theorem nmX11 : ∀ a, a < 0 → ∀ b, b < 0 → a ≠ b → (TX11 a).2.1 ≠ (TX11 b).2.1 := by decide +kernel
theorem tyX11_ok : ∀ k, k < 0 → parseFieldDescriptor (TX11 k).2.2.1 = some (tyX11 k) := by decide +kernel
def RX12 : String := "MarlStoreModel$Value"
def TX12 : u_T := fun k => match k with
  | _ => ("", "", "", false)
def tyX12 : Nat → FieldType := fun k => match k with
  | _ => .int
theorem nmX12 : ∀ a, a < 0 → ∀ b, b < 0 → a ≠ b → (TX12 a).2.1 ≠ (TX12 b).2.1 := by decide +kernel
theorem tyX12_ok : ∀ k, k < 0 → parseFieldDescriptor (TX12 k).2.2.1 = some (tyX12 k) := by decide +kernel
def RX13 : String := "MarlStoreModel"
def TX13 : u_T := fun k => match k with
  | _ => ("", "", "", false)
def tyX13 : Nat → FieldType := fun k => match k with
  | _ => .int
theorem nmX13 : ∀ a, a < 0 → ∀ b, b < 0 → a ≠ b → (TX13 a).2.1 ≠ (TX13 b).2.1 := by decide +kernel
theorem tyX13_ok : ∀ k, k < 0 → parseFieldDescriptor (TX13 k).2.2.1 = some (tyX13 k) := by decide +kernel
def RJx145de : String := "java/io/Serializable"
def TJx145de : u_T := fun k => match k with
  | _ => ("", "", "", false)
def tyJx145de : Nat → FieldType := fun k => match k with
  | _ => .int
def RJx8e188 : String := "java/lang/Cloneable"
def TJx8e188 : u_T := fun k => match k with
  | _ => ("", "", "", false)
def tyJx8e188 : Nat → FieldType := fun k => match k with
  | _ => .int
def RJ13 : String := "java/lang/Long"
def TJ13 : u_T := fun k => match k with
  | _ => ("", "", "", false)
def tyJ13 : Nat → FieldType := fun k => match k with
  | _ => .int
abbrev cJ13_bitCount_95d88 : ByteArray := prog_21_method_50_code
def yJ13_bitCount_95d88 : MethodName := ⟨RJ13, "bitCount", "(J)I"⟩
def RJ9 : String := "java/lang/Math"
def TJ9 : u_T := fun k => match k with
  | _ => ("", "", "", false)
def tyJ9 : Nat → FieldType := fun k => match k with
  | _ => .int
abbrev cJ9_max_7cf53 : ByteArray := prog_22_method_65_code
def yJ9_max_7cf53 : MethodName := ⟨RJ9, "max", "(II)I"⟩
abbrev cJ9_min_7cf53 : ByteArray := prog_22_method_69_code
def yJ9_min_7cf53 : MethodName := ⟨RJ9, "min", "(II)I"⟩
def RJ0 : String := "java/lang/String"
def TJ0 : u_T := fun k => match k with
  | _ => ("", "", "", false)
def tyJ0 : Nat → FieldType := fun k => match k with
  | _ => .int
def RJ10 : String := "java/lang/System"
def TJ10 : u_T := fun k => match k with
  | _ => ("", "", "", false)
def tyJ10 : Nat → FieldType := fun k => match k with
  | _ => .int
def RJ7 : String := "java/util/Arrays"
def TJ7 : u_T := fun k => match k with
  | _ => ("", "", "", false)
def tyJ7 : Nat → FieldType := fun k => match k with
  | _ => .int
abbrev cJ7_copyOf_59c91 : ByteArray := prog_27_method_123_code
def yJ7_copyOf_59c91 : MethodName := ⟨RJ7, "copyOf", "([II)[I"⟩
def RL : String := "MarlStoreLaw"
abbrev cL_below : ByteArray := method_2_code
def yL_below : MethodName := ⟨RL, "below", "(II)I"⟩
abbrev cL_cell : ByteArray := method_3_code
def yL_cell : MethodName := ⟨RL, "cell", "([II)I"⟩
abbrev cL_law : ByteArray := code
def yL_law : MethodName := ⟨RL, "law", "([I)Z"⟩
abbrev cL_act : ByteArray := method_5_code
def yL_act : MethodName := ⟨RL, "act", "(LMarlStore;I)Z"⟩
abbrev cL_isTurnedBack : ByteArray := method_6_code
def yL_isTurnedBack : MethodName := ⟨RL, "isTurnedBack", "(LMarlStore;II)Z"⟩
abbrev cL_areDocumentsRight : ByteArray := method_7_code
def yL_areDocumentsRight : MethodName := ⟨RL, "areDocumentsRight", "(LMarlStore;)Z"⟩
abbrev cL_areFewRight : ByteArray := method_8_code
def yL_areFewRight : MethodName := ⟨RL, "areFewRight", "(LMarlStore;)Z"⟩
abbrev vwCl : List vw_C := [(RX0, TX0, 7), (RX1, TX1, 4), (RX2, TX2, 5), (RX3, TX3, 4), (RX4, TX4, 2), (RX5, TX5, 3), (RX6, TX6, 3), (RX7, TX7, 11), (RX8, TX8, 6), (RX9, TX9, 5), (RX10, TX10, 14)]
