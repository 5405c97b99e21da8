/-! the words of the table that are worth the same in every state that a call comes to -/
def gW : List Cond := lw_tbl.filter goodWord
theorem gW_in {w : Cond} (i : Nat) (h : lw_tbl[i]? = some w) (hg : goodWord w = true) : w ∈ gW := List.mem_filter.mpr ⟨List.mem_of_getElem? h, hg⟩
theorem gW_tbl {w : Cond} (h : w ∈ gW) : w ∈ lw_tbl := (List.mem_filter.mp h).1
theorem gW_good {ws : List Cond} (h : ∀ w ∈ ws, w ∈ gW) : GoodIn gW ws := fun w hw => ⟨h w hw, good_of_word (List.mem_filter.mp (h w hw)).2⟩
theorem gW_by {ws : List Cond} (ps : List Nat) (h : ws = ps.filterMap (fun i => lw_tbl[i]?)) (hg : ws.all goodWord = true) : ∀ w ∈ ws, w ∈ gW := by
  intro w hw
  have h1 := List.all_eq_true.mp hg w hw
  rw [h] at hw
  obtain ⟨i, -, hi⟩ := List.mem_filterMap.mp hw
  exact List.mem_filter.mpr ⟨by first | exact List.mem_of_getElem? hi | exact List.getElem?_mem hi, h1⟩
/-- a method that can be called: its code, its class, its descriptor -/
def gMt (y : MethodName) (cc : ByteArray) (mL : Nat) (ret : Option FieldType) (n : Nat) : Prop :=
  Cond.code y cc mL ret ∈ gW ∧ Cond.initialized y.cls ∈ gW ∧ (y.cls ≠ "java/lang/invoke/MethodHandle" ∧ y.cls ≠ "java/lang/invoke/VarHandle") ∧ (parseMethodDescriptor y.desc).map (fun d => d.parameters.length) = some n
/-- a site of invokevirtual, invokestatic, invokespecial -/
def gCv (own : String) (idx : Nat) (y : MethodName) : Prop := Cond.methodLink own idx y ∈ gW ∧ Cond.instanceMethod y ∈ gW ∧ Cond.selects y.cls y y ∈ gW
def gCs (own : String) (idx : Nat) (y : MethodName) : Prop := Cond.methodLink own idx y ∈ gW ∧ Cond.static y ∈ gW
def gCi (own : String) (idx : Nat) (y : MethodName) : Prop := Cond.methodLink own idx y ∈ gW ∧ Cond.instanceMethod y ∈ gW ∧ y.name = "<init>"
/-- a class of the list: its number, name, fields, their number, their types -/
def gCl (ci : Nat) (C : String) (T : u_T) (N : Nat) (ty : Nat → FieldType) : Prop :=
  vwCl[ci]? = some (C, T, N) ∧ (∀ w ∈ u_ws C T N, w ∈ gW) ∧ (∀ k, k < N → parseFieldDescriptor (T k).2.2.1 = some (ty k)) ∧ (∀ a, a < N → ∀ b, b < N → a ≠ b → (T a).2.1 ≠ (T b).2.1)
/-- a site of getfield or putfield -/
def gFl (own : String) (idx ci k : Nat) (C : String) (T : u_T) (N : Nat) (ty : Nat → FieldType) : Prop := gCl ci C T N ty ∧ k < N ∧ Cond.fieldLink own idx (T k).1 (T k).2.1 (T k).2.2.1 ∈ gW
/-- a site of new -/
def gNw (own : String) (idx ci : Nat) (C : String) (T : u_T) (N : Nat) (ty : Nat → FieldType) : Prop := gCl ci C T N ty ∧ Cond.classLink own idx C ∈ gW ∧ Cond.instantiable C N ∈ gW ∧ Cond.initialized C ∈ gW
theorem kl_0 : gCl 0 RX0 TX0 7 tyX0 := ⟨rfl, gW_by [276, 278, 280, 282, 284, 286, 288] (by decide +kernel) (by decide +kernel), tyX0_ok, nmX0⟩
theorem kl_1 : gCl 1 RX1 TX1 4 tyX1 := ⟨rfl, gW_by [183, 185, 187, 189] (by decide +kernel) (by decide +kernel), tyX1_ok, nmX1⟩
theorem kl_2 : gCl 2 RX2 TX2 5 tyX2 := ⟨rfl, gW_by [144, 146, 148, 150, 152] (by decide +kernel) (by decide +kernel), tyX2_ok, nmX2⟩
theorem kl_3 : gCl 3 RX3 TX3 4 tyX3 := ⟨rfl, gW_by [888, 890, 892, 894] (by decide +kernel) (by decide +kernel), tyX3_ok, nmX3⟩
theorem kl_4 : gCl 4 RX4 TX4 2 tyX4 := ⟨rfl, gW_by [167, 169] (by decide +kernel) (by decide +kernel), tyX4_ok, nmX4⟩
theorem kl_5 : gCl 5 RX5 TX5 3 tyX5 := ⟨rfl, gW_by [122, 124, 126] (by decide +kernel) (by decide +kernel), tyX5_ok, nmX5⟩
theorem kl_6 : gCl 6 RX6 TX6 3 tyX6 := ⟨rfl, gW_by [302, 304, 306] (by decide +kernel) (by decide +kernel), tyX6_ok, nmX6⟩
theorem kl_7 : gCl 7 RX7 TX7 11 tyX7 := ⟨rfl, gW_by [214, 216, 218, 220, 222, 224, 226, 228, 230, 232, 234] (by decide +kernel) (by decide +kernel), tyX7_ok, nmX7⟩
theorem kl_8 : gCl 8 RX8 TX8 6 tyX8 := ⟨rfl, gW_by [96, 98, 100, 102, 104, 106] (by decide +kernel) (by decide +kernel), tyX8_ok, nmX8⟩
theorem kl_9 : gCl 9 RX9 TX9 5 tyX9 := ⟨rfl, gW_by [252, 254, 256, 258, 260] (by decide +kernel) (by decide +kernel), tyX9_ok, nmX9⟩
theorem kl_10 : gCl 10 RX10 TX10 14 tyX10 := ⟨rfl, gW_by [323, 325, 327, 329, 331, 333, 335, 337, 339, 341, 343, 345, 347, 349] (by decide +kernel) (by decide +kernel), tyX10_ok, nmX10⟩
theorem tw_62 : (Jvm.Cond.code ({ cls := "MarlStore", name := "<init>", desc := "()V" } : Jvm.MethodName) prog_1_method_1_code (3 : Nat) (Option.none : Option Jvm.ClassFile.FieldType)) ∈ gW := gW_in 62 (by decide +kernel) (by decide +kernel)
theorem tw_37 : (Jvm.Cond.initialized "MarlStore") ∈ gW := gW_in 37 (by decide +kernel) (by decide +kernel)
theorem mt_X10_init : gMt yX10_init cX10_init 3 none 0 := ⟨tw_62, tw_37, by decide +kernel, by decide +kernel⟩
theorem tw_70 : (Jvm.Cond.code ({ cls := "MarlStore$Value", name := "<init>", desc := "(II[I[LMarlStore$Value;)V" } : Jvm.MethodName) prog_10_method_1_code (11 : Nat) (Option.none : Option Jvm.ClassFile.FieldType)) ∈ gW := gW_in 70 (by decide +kernel) (by decide +kernel)
theorem tw_38 : (Jvm.Cond.initialized "MarlStore$Value") ∈ gW := gW_in 38 (by decide +kernel) (by decide +kernel)
theorem mt_X8_init : gMt yX8_init cX8_init 11 none 4 := ⟨tw_70, tw_38, by decide +kernel, by decide +kernel⟩
theorem tw_74 : (Jvm.Cond.code ({ cls := "java/lang/Math", name := "max", desc := "(II)I" } : Jvm.MethodName) prog_22_method_65_code (2 : Nat) (Option.some Jvm.ClassFile.FieldType.int)) ∈ gW := gW_in 74 (by decide +kernel) (by decide +kernel)
theorem tw_39 : (Jvm.Cond.initialized "java/lang/Math") ∈ gW := gW_in 39 (by decide +kernel) (by decide +kernel)
theorem mt_J9_max_7cf53 : gMt yJ9_max_7cf53 cJ9_max_7cf53 2 (some .int) 2 := ⟨tw_74, tw_39, by decide +kernel, by decide +kernel⟩
theorem tw_114 : (Jvm.Cond.code ({ cls := "MarlStore$Pointer", name := "<init>", desc := "()V" } : Jvm.MethodName) prog_7_method_1_code (1 : Nat) (Option.none : Option Jvm.ClassFile.FieldType)) ∈ gW := gW_in 114 (by decide +kernel) (by decide +kernel)
theorem tw_40 : (Jvm.Cond.initialized "MarlStore$Pointer") ∈ gW := gW_in 40 (by decide +kernel) (by decide +kernel)
theorem mt_X5_init : gMt yX5_init cX5_init 1 none 0 := ⟨tw_114, tw_40, by decide +kernel, by decide +kernel⟩
theorem tw_134 : (Jvm.Cond.code ({ cls := "MarlStore$Editor", name := "<init>", desc := "(LMarlStore$Value;)V" } : Jvm.MethodName) prog_4_method_1_code (2 : Nat) (Option.none : Option Jvm.ClassFile.FieldType)) ∈ gW := gW_in 134 (by decide +kernel) (by decide +kernel)
theorem tw_41 : (Jvm.Cond.initialized "MarlStore$Editor") ∈ gW := gW_in 41 (by decide +kernel) (by decide +kernel)
theorem mt_X2_init : gMt yX2_init cX2_init 2 none 1 := ⟨tw_134, tw_41, by decide +kernel, by decide +kernel⟩
theorem tw_160 : (Jvm.Cond.code ({ cls := "MarlStore$Patch", name := "<init>", desc := "()V" } : Jvm.MethodName) prog_6_method_1_code (1 : Nat) (Option.none : Option Jvm.ClassFile.FieldType)) ∈ gW := gW_in 160 (by decide +kernel) (by decide +kernel)
theorem tw_42 : (Jvm.Cond.initialized "MarlStore$Patch") ∈ gW := gW_in 42 (by decide +kernel) (by decide +kernel)
theorem mt_X4_init : gMt yX4_init cX4_init 1 none 0 := ⟨tw_160, tw_42, by decide +kernel, by decide +kernel⟩
theorem tw_176 : (Jvm.Cond.code ({ cls := "MarlStore$Differ", name := "<init>", desc := "()V" } : Jvm.MethodName) prog_3_method_1_code (1 : Nat) (Option.none : Option Jvm.ClassFile.FieldType)) ∈ gW := gW_in 176 (by decide +kernel) (by decide +kernel)
theorem tw_43 : (Jvm.Cond.initialized "MarlStore$Differ") ∈ gW := gW_in 43 (by decide +kernel) (by decide +kernel)
theorem mt_X1_init : gMt yX1_init cX1_init 1 none 0 := ⟨tw_176, tw_43, by decide +kernel, by decide +kernel⟩
theorem tw_197 : (Jvm.Cond.code ({ cls := "MarlStore$Schema", name := "<init>", desc := "()V" } : Jvm.MethodName) prog_9_method_1_code (1 : Nat) (Option.none : Option Jvm.ClassFile.FieldType)) ∈ gW := gW_in 197 (by decide +kernel) (by decide +kernel)
theorem tw_44 : (Jvm.Cond.initialized "MarlStore$Schema") ∈ gW := gW_in 44 (by decide +kernel) (by decide +kernel)
theorem mt_X7_init : gMt yX7_init cX7_init 1 none 0 := ⟨tw_197, tw_44, by decide +kernel, by decide +kernel⟩
theorem tw_242 : (Jvm.Cond.code ({ cls := "MarlStore$Walk", name := "<init>", desc := "()V" } : Jvm.MethodName) prog_11_method_1_code (1 : Nat) (Option.none : Option Jvm.ClassFile.FieldType)) ∈ gW := gW_in 242 (by decide +kernel) (by decide +kernel)
theorem tw_45 : (Jvm.Cond.initialized "MarlStore$Walk") ∈ gW := gW_in 45 (by decide +kernel) (by decide +kernel)
theorem mt_X9_init : gMt yX9_init cX9_init 1 none 0 := ⟨tw_242, tw_45, by decide +kernel, by decide +kernel⟩
theorem tw_267 : (Jvm.Cond.code ({ cls := "MarlStore$Checker", name := "<init>", desc := "(LMarlStore$Walk;[LMarlStore$Schema;)V" } : Jvm.MethodName) prog_2_method_1_code (3 : Nat) (Option.none : Option Jvm.ClassFile.FieldType)) ∈ gW := gW_in 267 (by decide +kernel) (by decide +kernel)
theorem tw_46 : (Jvm.Cond.initialized "MarlStore$Checker") ∈ gW := gW_in 46 (by decide +kernel) (by decide +kernel)
theorem mt_X0_init : gMt yX0_init cX0_init 3 none 2 := ⟨tw_267, tw_46, by decide +kernel, by decide +kernel⟩
theorem tw_296 : (Jvm.Cond.code ({ cls := "MarlStore$Query", name := "<init>", desc := "()V" } : Jvm.MethodName) prog_8_method_1_code (1 : Nat) (Option.none : Option Jvm.ClassFile.FieldType)) ∈ gW := gW_in 296 (by decide +kernel) (by decide +kernel)
theorem tw_47 : (Jvm.Cond.initialized "MarlStore$Query") ∈ gW := gW_in 47 (by decide +kernel) (by decide +kernel)
theorem mt_X6_init : gMt yX6_init cX6_init 1 none 0 := ⟨tw_296, tw_47, by decide +kernel, by decide +kernel⟩
theorem tw_355 : (Jvm.Cond.code ({ cls := "MarlStore", name := "digest", desc := "()J" } : Jvm.MethodName) prog_1_method_45_code (5 : Nat) (Option.some Jvm.ClassFile.FieldType.long)) ∈ gW := gW_in 355 (by decide +kernel) (by decide +kernel)
theorem mt_X10_digest : gMt yX10_digest cX10_digest 5 (some .long) 0 := ⟨tw_355, tw_37, by decide +kernel, by decide +kernel⟩
theorem tw_361 : (Jvm.Cond.code ({ cls := "MarlStore", name := "stepAt", desc := "(I)I" } : Jvm.MethodName) prog_1_method_7_code (2 : Nat) (Option.some Jvm.ClassFile.FieldType.int)) ∈ gW := gW_in 361 (by decide +kernel) (by decide +kernel)
theorem mt_X10_stepAt : gMt yX10_stepAt cX10_stepAt 2 (some .int) 1 := ⟨tw_361, tw_37, by decide +kernel, by decide +kernel⟩
theorem tw_433 : (Jvm.Cond.code ({ cls := "MarlStore", name := "wholeOf", desc := "(I)LMarlStore$Value;" } : Jvm.MethodName) prog_1_method_46_code (2 : Nat) (Option.some (Jvm.ClassFile.FieldType.object "MarlStore$Value"))) ∈ gW := gW_in 433 (by decide +kernel) (by decide +kernel)
theorem mt_X10_wholeOf : gMt yX10_wholeOf cX10_wholeOf 2 (some (.object "MarlStore$Value")) 1 := ⟨tw_433, tw_37, by decide +kernel, by decide +kernel⟩
theorem tw_438 : (Jvm.Cond.code ({ cls := "MarlStore", name := "digestValue", desc := "(JLMarlStore$Value;)J" } : Jvm.MethodName) prog_1_method_61_code (9 : Nat) (Option.some Jvm.ClassFile.FieldType.long)) ∈ gW := gW_in 438 (by decide +kernel) (by decide +kernel)
theorem mt_X10_digestValue : gMt yX10_digestValue cX10_digestValue 9 (some .long) 2 := ⟨tw_438, tw_37, by decide +kernel, by decide +kernel⟩
theorem tw_442 : (Jvm.Cond.code ({ cls := "MarlStore$Walk", name := "fill", desc := "(LMarlStore$Value;)V" } : Jvm.MethodName) prog_11_method_2_code (7 : Nat) (Option.none : Option Jvm.ClassFile.FieldType)) ∈ gW := gW_in 442 (by decide +kernel) (by decide +kernel)
theorem mt_X9_fill : gMt yX9_fill cX9_fill 7 none 1 := ⟨tw_442, tw_45, by decide +kernel, by decide +kernel⟩
theorem tw_445 : (Jvm.Cond.code ({ cls := "java/lang/Math", name := "min", desc := "(II)I" } : Jvm.MethodName) prog_22_method_69_code (2 : Nat) (Option.some Jvm.ClassFile.FieldType.int)) ∈ gW := gW_in 445 (by decide +kernel) (by decide +kernel)
theorem mt_J9_min_7cf53 : gMt yJ9_min_7cf53 cJ9_min_7cf53 2 (some .int) 2 := ⟨tw_445, tw_39, by decide +kernel, by decide +kernel⟩
theorem tw_449 : (Jvm.Cond.code ({ cls := "MarlStore$Walk", name := "enter", desc := "(ILMarlStore$Value;III)V" } : Jvm.MethodName) prog_11_method_3_code (6 : Nat) (Option.none : Option Jvm.ClassFile.FieldType)) ∈ gW := gW_in 449 (by decide +kernel) (by decide +kernel)
theorem mt_X9_enter : gMt yX9_enter cX9_enter 6 none 5 := ⟨tw_449, tw_45, by decide +kernel, by decide +kernel⟩
theorem tw_453 : (Jvm.Cond.code ({ cls := "MarlStore$Value", name := "width", desc := "()I" } : Jvm.MethodName) prog_10_method_2_code (1 : Nat) (Option.some Jvm.ClassFile.FieldType.int)) ∈ gW := gW_in 453 (by decide +kernel) (by decide +kernel)
theorem mt_X8_width : gMt yX8_width cX8_width 1 (some .int) 0 := ⟨tw_453, tw_38, by decide +kernel, by decide +kernel⟩
theorem tw_457 : (Jvm.Cond.code ({ cls := "MarlStore$Value", name := "partAt", desc := "(I)LMarlStore$Value;" } : Jvm.MethodName) prog_10_method_3_code (2 : Nat) (Option.some (Jvm.ClassFile.FieldType.object "MarlStore$Value"))) ∈ gW := gW_in 457 (by decide +kernel) (by decide +kernel)
theorem mt_X8_partAt : gMt yX8_partAt cX8_partAt 2 (some (.object "MarlStore$Value")) 1 := ⟨tw_457, tw_38, by decide +kernel, by decide +kernel⟩
theorem tw_461 : (Jvm.Cond.code ({ cls := "MarlStore$Value", name := "stepOf", desc := "(I)I" } : Jvm.MethodName) prog_10_method_4_code (2 : Nat) (Option.some Jvm.ClassFile.FieldType.int)) ∈ gW := gW_in 461 (by decide +kernel) (by decide +kernel)
theorem mt_X8_stepOf : gMt yX8_stepOf cX8_stepOf 2 (some .int) 1 := ⟨tw_461, tw_38, by decide +kernel, by decide +kernel⟩
theorem tw_465 : (Jvm.Cond.code ({ cls := "MarlStore$Walk", name := "valueAt", desc := "(I)LMarlStore$Value;" } : Jvm.MethodName) prog_11_method_4_code (2 : Nat) (Option.some (Jvm.ClassFile.FieldType.object "MarlStore$Value"))) ∈ gW := gW_in 465 (by decide +kernel) (by decide +kernel)
theorem mt_X9_valueAt : gMt yX9_valueAt cX9_valueAt 2 (some (.object "MarlStore$Value")) 1 := ⟨tw_465, tw_45, by decide +kernel, by decide +kernel⟩
theorem tw_471 : (Jvm.Cond.code ({ cls := "MarlStore", name := "difference", desc := "(II)I" } : Jvm.MethodName) prog_1_method_29_code (3 : Nat) (Option.some Jvm.ClassFile.FieldType.int)) ∈ gW := gW_in 471 (by decide +kernel) (by decide +kernel)
theorem mt_X10_difference : gMt yX10_difference cX10_difference 3 (some .int) 2 := ⟨tw_471, tw_37, by decide +kernel, by decide +kernel⟩
theorem tw_475 : (Jvm.Cond.code ({ cls := "MarlStore$Differ", name := "compare", desc := "(LMarlStore$Value;LMarlStore$Value;)I" } : Jvm.MethodName) prog_3_method_2_code (3 : Nat) (Option.some Jvm.ClassFile.FieldType.int)) ∈ gW := gW_in 475 (by decide +kernel) (by decide +kernel)
theorem mt_X1_compare : gMt yX1_compare cX1_compare 3 (some .int) 2 := ⟨tw_475, tw_43, by decide +kernel, by decide +kernel⟩
theorem tw_479 : (Jvm.Cond.code ({ cls := "MarlStore$Differ", name := "between", desc := "(LMarlStore$Value;LMarlStore$Value;II)I" } : Jvm.MethodName) prog_3_method_3_code (5 : Nat) (Option.some Jvm.ClassFile.FieldType.int)) ∈ gW := gW_in 479 (by decide +kernel) (by decide +kernel)
theorem mt_X1_between : gMt yX1_between cX1_between 5 (some .int) 4 := ⟨tw_479, tw_43, by decide +kernel, by decide +kernel⟩
theorem tw_483 : (Jvm.Cond.code ({ cls := "MarlStore$Differ", name := "fillTable", desc := "(LMarlStore$Value;LMarlStore$Value;II)Z" } : Jvm.MethodName) prog_3_method_7_code (9 : Nat) (Option.some Jvm.ClassFile.FieldType.boolean)) ∈ gW := gW_in 483 (by decide +kernel) (by decide +kernel)
theorem mt_X1_fillTable : gMt yX1_fillTable cX1_fillTable 9 (some .boolean) 4 := ⟨tw_483, tw_43, by decide +kernel, by decide +kernel⟩
theorem tw_488 : (Jvm.Cond.code ({ cls := "MarlStore$Differ", name := "leastFrom", desc := "(LMarlStore$Value;ILMarlStore$Value;III)I" } : Jvm.MethodName) prog_3_method_8_code (8 : Nat) (Option.some Jvm.ClassFile.FieldType.int)) ∈ gW := gW_in 488 (by decide +kernel) (by decide +kernel)
theorem mt_X1_leastFrom : gMt yX1_leastFrom cX1_leastFrom 8 (some .int) 6 := ⟨tw_488, tw_43, by decide +kernel, by decide +kernel⟩
theorem tw_491 : (Jvm.Cond.code ({ cls := "MarlStore$Differ", name := "sizeAt", desc := "(LMarlStore$Value;I)I" } : Jvm.MethodName) prog_3_method_6_code (3 : Nat) (Option.some Jvm.ClassFile.FieldType.int)) ∈ gW := gW_in 491 (by decide +kernel) (by decide +kernel)
theorem mt_X1_sizeAt : gMt yX1_sizeAt cX1_sizeAt 3 (some .int) 2 := ⟨tw_491, tw_43, by decide +kernel, by decide +kernel⟩
theorem tw_496 : (Jvm.Cond.code ({ cls := "MarlStore$Differ", name := "cell", desc := "(LMarlStore$Value;ILMarlStore$Value;II)I" } : Jvm.MethodName) prog_3_method_11_code (7 : Nat) (Option.some Jvm.ClassFile.FieldType.int)) ∈ gW := gW_in 496 (by decide +kernel) (by decide +kernel)
theorem mt_X1_cell : gMt yX1_cell cX1_cell 7 (some .int) 5 := ⟨tw_496, tw_43, by decide +kernel, by decide +kernel⟩
theorem tw_501 : (Jvm.Cond.code ({ cls := "MarlStore$Differ", name := "pairedFrom", desc := "(LMarlStore$Value;ILMarlStore$Value;III)I" } : Jvm.MethodName) prog_3_method_9_code (7 : Nat) (Option.some Jvm.ClassFile.FieldType.int)) ∈ gW := gW_in 501 (by decide +kernel) (by decide +kernel)
theorem mt_X1_pairedFrom : gMt yX1_pairedFrom cX1_pairedFrom 7 (some .int) 6 := ⟨tw_501, tw_43, by decide +kernel, by decide +kernel⟩
theorem tw_504 : (Jvm.Cond.code ({ cls := "MarlStore$Differ", name := "freeBehind", desc := "(LMarlStore$Value;LMarlStore$Value;I)I" } : Jvm.MethodName) prog_3_method_10_code (3 : Nat) (Option.some Jvm.ClassFile.FieldType.int)) ∈ gW := gW_in 504 (by decide +kernel) (by decide +kernel)
theorem mt_X1_freeBehind : gMt yX1_freeBehind cX1_freeBehind 3 (some .int) 3 := ⟨tw_504, tw_43, by decide +kernel, by decide +kernel⟩
theorem tw_508 : (Jvm.Cond.code ({ cls := "MarlStore$Differ", name := "betweenObjects", desc := "(LMarlStore$Value;LMarlStore$Value;II)I" } : Jvm.MethodName) prog_3_method_4_code (10 : Nat) (Option.some Jvm.ClassFile.FieldType.int)) ∈ gW := gW_in 508 (by decide +kernel) (by decide +kernel)
theorem mt_X1_betweenObjects : gMt yX1_betweenObjects cX1_betweenObjects 10 (some .int) 4 := ⟨tw_508, tw_43, by decide +kernel, by decide +kernel⟩
theorem tw_511 : (Jvm.Cond.code ({ cls := "MarlStore$Differ", name := "order", desc := "(LMarlStore$Value;ILMarlStore$Value;I)I" } : Jvm.MethodName) prog_3_method_5_code (6 : Nat) (Option.some Jvm.ClassFile.FieldType.int)) ∈ gW := gW_in 511 (by decide +kernel) (by decide +kernel)
theorem mt_X1_order : gMt yX1_order cX1_order 6 (some .int) 4 := ⟨tw_511, tw_43, by decide +kernel, by decide +kernel⟩
theorem tw_516 : (Jvm.Cond.code ({ cls := "MarlStore", name := "digestPatches", desc := "(J)J" } : Jvm.MethodName) prog_1_method_62_code (9 : Nat) (Option.some Jvm.ClassFile.FieldType.long)) ∈ gW := gW_in 516 (by decide +kernel) (by decide +kernel)
theorem mt_X10_digestPatches : gMt yX10_digestPatches cX10_digestPatches 9 (some .long) 1 := ⟨tw_516, tw_37, by decide +kernel, by decide +kernel⟩
theorem tw_520 : (Jvm.Cond.code ({ cls := "MarlStore", name := "operations", desc := "(I)I" } : Jvm.MethodName) prog_1_method_27_code (2 : Nat) (Option.some Jvm.ClassFile.FieldType.int)) ∈ gW := gW_in 520 (by decide +kernel) (by decide +kernel)
theorem mt_X10_operations : gMt yX10_operations cX10_operations 2 (some .int) 1 := ⟨tw_520, tw_37, by decide +kernel, by decide +kernel⟩
theorem tw_524 : (Jvm.Cond.code ({ cls := "MarlStore", name := "patchOf", desc := "(I)LMarlStore$Patch;" } : Jvm.MethodName) prog_1_method_47_code (2 : Nat) (Option.some (Jvm.ClassFile.FieldType.object "MarlStore$Patch"))) ∈ gW := gW_in 524 (by decide +kernel) (by decide +kernel)
theorem mt_X10_patchOf : gMt yX10_patchOf cX10_patchOf 2 (some (.object "MarlStore$Patch")) 1 := ⟨tw_524, tw_37, by decide +kernel, by decide +kernel⟩
theorem tw_529 : (Jvm.Cond.code ({ cls := "MarlStore", name := "ofOperation", desc := "(III)I" } : Jvm.MethodName) prog_1_method_28_code (5 : Nat) (Option.some Jvm.ClassFile.FieldType.int)) ∈ gW := gW_in 529 (by decide +kernel) (by decide +kernel)
theorem mt_X10_ofOperation : gMt yX10_ofOperation cX10_ofOperation 5 (some .int) 3 := ⟨tw_529, tw_37, by decide +kernel, by decide +kernel⟩
theorem tw_533 : (Jvm.Cond.code ({ cls := "MarlStore$Patch", name := "operationAt", desc := "(I)LMarlStore$Operation;" } : Jvm.MethodName) prog_6_method_4_code (2 : Nat) (Option.some (Jvm.ClassFile.FieldType.object "MarlStore$Operation"))) ∈ gW := gW_in 533 (by decide +kernel) (by decide +kernel)
theorem mt_X4_operationAt : gMt yX4_operationAt cX4_operationAt 2 (some (.object "MarlStore$Operation")) 1 := ⟨tw_533, tw_42, by decide +kernel, by decide +kernel⟩
theorem tw_554 : (Jvm.Cond.code ({ cls := "MarlStore$Operation", name := "tell", desc := "(I)I" } : Jvm.MethodName) prog_5_method_3_code (2 : Nat) (Option.some Jvm.ClassFile.FieldType.int)) ∈ gW := gW_in 554 (by decide +kernel) (by decide +kernel)
theorem tw_54 : (Jvm.Cond.initialized "MarlStore$Operation") ∈ gW := gW_in 54 (by decide +kernel) (by decide +kernel)
theorem mt_X3_tell : gMt yX3_tell cX3_tell 2 (some .int) 1 := ⟨tw_554, tw_54, by decide +kernel, by decide +kernel⟩
theorem tw_558 : (Jvm.Cond.code ({ cls := "MarlStore", name := "fitting", desc := "(I)I" } : Jvm.MethodName) prog_1_method_37_code (4 : Nat) (Option.some Jvm.ClassFile.FieldType.int)) ∈ gW := gW_in 558 (by decide +kernel) (by decide +kernel)
theorem mt_X10_fitting : gMt yX10_fitting cX10_fitting 4 (some .int) 1 := ⟨tw_558, tw_37, by decide +kernel, by decide +kernel⟩
theorem tw_562 : (Jvm.Cond.code ({ cls := "MarlStore", name := "countFailures", desc := "(III)I" } : Jvm.MethodName) prog_1_method_56_code (4 : Nat) (Option.some Jvm.ClassFile.FieldType.int)) ∈ gW := gW_in 562 (by decide +kernel) (by decide +kernel)
theorem mt_X10_countFailures : gMt yX10_countFailures cX10_countFailures 4 (some .int) 3 := ⟨tw_562, tw_37, by decide +kernel, by decide +kernel⟩
theorem tw_566 : (Jvm.Cond.code ({ cls := "MarlStore", name := "schemaOf", desc := "(I)LMarlStore$Schema;" } : Jvm.MethodName) prog_1_method_48_code (2 : Nat) (Option.some (Jvm.ClassFile.FieldType.object "MarlStore$Schema"))) ∈ gW := gW_in 566 (by decide +kernel) (by decide +kernel)
theorem mt_X10_schemaOf : gMt yX10_schemaOf cX10_schemaOf 2 (some (.object "MarlStore$Schema")) 1 := ⟨tw_566, tw_37, by decide +kernel, by decide +kernel⟩
theorem tw_571 : (Jvm.Cond.code ({ cls := "MarlStore$Checker", name := "countFailures", desc := "(II)I" } : Jvm.MethodName) prog_2_method_2_code (5 : Nat) (Option.some Jvm.ClassFile.FieldType.int)) ∈ gW := gW_in 571 (by decide +kernel) (by decide +kernel)
theorem mt_X0_countFailures : gMt yX0_countFailures cX0_countFailures 5 (some .int) 2 := ⟨tw_571, tw_46, by decide +kernel, by decide +kernel⟩
theorem tw_576 : (Jvm.Cond.code ({ cls := "MarlStore$Walk", name := "above", desc := "(I)I" } : Jvm.MethodName) prog_11_method_5_code (2 : Nat) (Option.some Jvm.ClassFile.FieldType.int)) ∈ gW := gW_in 576 (by decide +kernel) (by decide +kernel)
theorem mt_X9_above : gMt yX9_above cX9_above 2 (some .int) 1 := ⟨tw_576, tw_45, by decide +kernel, by decide +kernel⟩
theorem tw_580 : (Jvm.Cond.code ({ cls := "MarlStore$Checker", name := "schemaBelow", desc := "(II)I" } : Jvm.MethodName) prog_2_method_3_code (4 : Nat) (Option.some Jvm.ClassFile.FieldType.int)) ∈ gW := gW_in 580 (by decide +kernel) (by decide +kernel)
theorem mt_X0_schemaBelow : gMt yX0_schemaBelow cX0_schemaBelow 4 (some .int) 2 := ⟨tw_580, tw_46, by decide +kernel, by decide +kernel⟩
theorem tw_584 : (Jvm.Cond.code ({ cls := "MarlStore$Walk", name := "stepTo", desc := "(I)I" } : Jvm.MethodName) prog_11_method_6_code (2 : Nat) (Option.some Jvm.ClassFile.FieldType.int)) ∈ gW := gW_in 584 (by decide +kernel) (by decide +kernel)
theorem mt_X9_stepTo : gMt yX9_stepTo cX9_stepTo 2 (some .int) 1 := ⟨tw_584, tw_45, by decide +kernel, by decide +kernel⟩
theorem tw_588 : (Jvm.Cond.code ({ cls := "MarlStore$Schema", name := "forChild", desc := "(II)I" } : Jvm.MethodName) prog_9_method_5_code (4 : Nat) (Option.some Jvm.ClassFile.FieldType.int)) ∈ gW := gW_in 588 (by decide +kernel) (by decide +kernel)
theorem mt_X7_forChild : gMt yX7_forChild cX7_forChild 4 (some .int) 2 := ⟨tw_588, tw_44, by decide +kernel, by decide +kernel⟩
theorem tw_592 : (Jvm.Cond.code ({ cls := "MarlStore$Schema", name := "placeOfKey", desc := "(I)I" } : Jvm.MethodName) prog_9_method_4_code (3 : Nat) (Option.some Jvm.ClassFile.FieldType.int)) ∈ gW := gW_in 592 (by decide +kernel) (by decide +kernel)
theorem mt_X7_placeOfKey : gMt yX7_placeOfKey cX7_placeOfKey 3 (some .int) 1 := ⟨tw_592, tw_44, by decide +kernel, by decide +kernel⟩
theorem tw_596 : (Jvm.Cond.code ({ cls := "MarlStore$Checker", name := "note", desc := "(II)V" } : Jvm.MethodName) prog_2_method_5_code (3 : Nat) (Option.none : Option Jvm.ClassFile.FieldType)) ∈ gW := gW_in 596 (by decide +kernel) (by decide +kernel)
theorem mt_X0_note : gMt yX0_note cX0_note 3 none 2 := ⟨tw_596, tw_46, by decide +kernel, by decide +kernel⟩
theorem tw_600 : (Jvm.Cond.code ({ cls := "MarlStore$Checker", name := "isOfKind", desc := "(ILMarlStore$Value;LMarlStore$Schema;)Z" } : Jvm.MethodName) prog_2_method_4_code (7 : Nat) (Option.some Jvm.ClassFile.FieldType.boolean)) ∈ gW := gW_in 600 (by decide +kernel) (by decide +kernel)
theorem mt_X0_isOfKind : gMt yX0_isOfKind cX0_isOfKind 7 (some .boolean) 3 := ⟨tw_600, tw_46, by decide +kernel, by decide +kernel⟩
theorem tw_605 : (Jvm.Cond.code ({ cls := "MarlStore$Schema", name := "countMissing", desc := "(LMarlStore$Value;)I" } : Jvm.MethodName) prog_9_method_6_code (4 : Nat) (Option.some Jvm.ClassFile.FieldType.int)) ∈ gW := gW_in 605 (by decide +kernel) (by decide +kernel)
theorem mt_X7_countMissing : gMt yX7_countMissing cX7_countMissing 4 (some .int) 1 := ⟨tw_605, tw_44, by decide +kernel, by decide +kernel⟩
theorem tw_609 : (Jvm.Cond.code ({ cls := "MarlStore$Value", name := "placeOf", desc := "(I)I" } : Jvm.MethodName) prog_10_method_5_code (3 : Nat) (Option.some Jvm.ClassFile.FieldType.int)) ∈ gW := gW_in 609 (by decide +kernel) (by decide +kernel)
theorem mt_X8_placeOf : gMt yX8_placeOf cX8_placeOf 3 (some .int) 1 := ⟨tw_609, tw_38, by decide +kernel, by decide +kernel⟩
theorem tw_613 : (Jvm.Cond.code ({ cls := "MarlStore", name := "found", desc := "(II)I" } : Jvm.MethodName) prog_1_method_40_code (3 : Nat) (Option.some Jvm.ClassFile.FieldType.int)) ∈ gW := gW_in 613 (by decide +kernel) (by decide +kernel)
theorem mt_X10_found : gMt yX10_found cX10_found 3 (some .int) 2 := ⟨tw_613, tw_37, by decide +kernel, by decide +kernel⟩
theorem tw_617 : (Jvm.Cond.code ({ cls := "MarlStore", name := "findIn", desc := "(II)J" } : Jvm.MethodName) prog_1_method_58_code (4 : Nat) (Option.some Jvm.ClassFile.FieldType.long)) ∈ gW := gW_in 617 (by decide +kernel) (by decide +kernel)
theorem mt_X10_findIn : gMt yX10_findIn cX10_findIn 4 (some .long) 2 := ⟨tw_617, tw_37, by decide +kernel, by decide +kernel⟩
theorem tw_621 : (Jvm.Cond.code ({ cls := "MarlStore", name := "queryOf", desc := "(I)LMarlStore$Query;" } : Jvm.MethodName) prog_1_method_49_code (2 : Nat) (Option.some (Jvm.ClassFile.FieldType.object "MarlStore$Query"))) ∈ gW := gW_in 621 (by decide +kernel) (by decide +kernel)
theorem mt_X10_queryOf : gMt yX10_queryOf cX10_queryOf 2 (some (.object "MarlStore$Query")) 1 := ⟨tw_621, tw_37, by decide +kernel, by decide +kernel⟩
theorem tw_626 : (Jvm.Cond.code ({ cls := "MarlStore$Query", name := "findIn", desc := "(LMarlStore$Walk;)J" } : Jvm.MethodName) prog_8_method_3_code (5 : Nat) (Option.some Jvm.ClassFile.FieldType.long)) ∈ gW := gW_in 626 (by decide +kernel) (by decide +kernel)
theorem mt_X6_findIn : gMt yX6_findIn cX6_findIn 5 (some .long) 1 := ⟨tw_626, tw_47, by decide +kernel, by decide +kernel⟩
theorem tw_630 : (Jvm.Cond.code ({ cls := "MarlStore$Walk", name := "pick", desc := "(JII)J" } : Jvm.MethodName) prog_11_method_8_code (9 : Nat) (Option.some Jvm.ClassFile.FieldType.long)) ∈ gW := gW_in 630 (by decide +kernel) (by decide +kernel)
theorem mt_X9_pick : gMt yX9_pick cX9_pick 9 (some .long) 3 := ⟨tw_630, tw_45, by decide +kernel, by decide +kernel⟩
theorem tw_635 : (Jvm.Cond.code ({ cls := "MarlStore$Walk", name := "isPicked", desc := "(JJILMarlStore$Value;II)Z" } : Jvm.MethodName) prog_11_method_9_code (11 : Nat) (Option.some Jvm.ClassFile.FieldType.boolean)) ∈ gW := gW_in 635 (by decide +kernel) (by decide +kernel)
theorem mt_X9_isPicked : gMt yX9_isPicked cX9_isPicked 11 (some .boolean) 6 := ⟨tw_635, tw_45, by decide +kernel, by decide +kernel⟩
theorem tw_638 : (Jvm.Cond.code ({ cls := "MarlStore", name := "isIn", desc := "(JI)Z" } : Jvm.MethodName) prog_1_method_59_code (3 : Nat) (Option.some Jvm.ClassFile.FieldType.boolean)) ∈ gW := gW_in 638 (by decide +kernel) (by decide +kernel)
theorem mt_X10_isIn : gMt yX10_isIn cX10_isIn 3 (some .boolean) 2 := ⟨tw_638, tw_37, by decide +kernel, by decide +kernel⟩
theorem tw_644 : (Jvm.Cond.code ({ cls := "MarlStore$Walk", name := "isLast", desc := "(ILMarlStore$Value;)Z" } : Jvm.MethodName) prog_11_method_10_code (4 : Nat) (Option.some Jvm.ClassFile.FieldType.boolean)) ∈ gW := gW_in 644 (by decide +kernel) (by decide +kernel)
theorem mt_X9_isLast : gMt yX9_isLast cX9_isLast 4 (some .boolean) 2 := ⟨tw_644, tw_45, by decide +kernel, by decide +kernel⟩
theorem tw_648 : (Jvm.Cond.code ({ cls := "java/lang/Long", name := "bitCount", desc := "(J)I" } : Jvm.MethodName) prog_21_method_50_code (2 : Nat) (Option.some Jvm.ClassFile.FieldType.int)) ∈ gW := gW_in 648 (by decide +kernel) (by decide +kernel)
theorem tw_57 : (Jvm.Cond.initialized "java/lang/Long") ∈ gW := gW_in 57 (by decide +kernel) (by decide +kernel)
theorem mt_J13_bitCount_95d88 : gMt yJ13_bitCount_95d88 cJ13_bitCount_95d88 2 (some .int) 1 := ⟨tw_648, tw_57, by decide +kernel, by decide +kernel⟩
theorem tw_654 : (Jvm.Cond.code ({ cls := "MarlStoreLaw", name := "cell", desc := "([II)I" } : Jvm.MethodName) method_3_code (2 : Nat) (Option.some Jvm.ClassFile.FieldType.int)) ∈ gW := gW_in 654 (by decide +kernel) (by decide +kernel)
theorem tw_36 : (Jvm.Cond.initialized "MarlStoreLaw") ∈ gW := gW_in 36 (by decide +kernel) (by decide +kernel)
theorem mt_L_cell : gMt yL_cell cL_cell 2 (some .int) 2 := ⟨tw_654, tw_36, by decide +kernel, by decide +kernel⟩
theorem tw_664 : (Jvm.Cond.code ({ cls := "MarlStore", name := "document", desc := "()I" } : Jvm.MethodName) prog_1_method_5_code (1 : Nat) (Option.some Jvm.ClassFile.FieldType.int)) ∈ gW := gW_in 664 (by decide +kernel) (by decide +kernel)
theorem mt_X10_document : gMt yX10_document cX10_document 1 (some .int) 0 := ⟨tw_664, tw_37, by decide +kernel, by decide +kernel⟩
theorem tw_668 : (Jvm.Cond.code ({ cls := "MarlStore", name := "size", desc := "(I)I" } : Jvm.MethodName) prog_1_method_17_code (2 : Nat) (Option.some Jvm.ClassFile.FieldType.int)) ∈ gW := gW_in 668 (by decide +kernel) (by decide +kernel)
theorem mt_X10_size : gMt yX10_size cX10_size 2 (some .int) 1 := ⟨tw_668, tw_37, by decide +kernel, by decide +kernel⟩
theorem tw_671 : (Jvm.Cond.code ({ cls := "MarlStoreLaw", name := "below", desc := "(II)I" } : Jvm.MethodName) method_2_code (2 : Nat) (Option.some Jvm.ClassFile.FieldType.int)) ∈ gW := gW_in 671 (by decide +kernel) (by decide +kernel)
theorem mt_L_below : gMt yL_below cL_below 2 (some .int) 2 := ⟨tw_671, tw_36, by decide +kernel, by decide +kernel⟩
theorem tw_676 : (Jvm.Cond.code ({ cls := "MarlStore", name := "point", desc := "(I)I" } : Jvm.MethodName) prog_1_method_2_code (3 : Nat) (Option.some Jvm.ClassFile.FieldType.int)) ∈ gW := gW_in 676 (by decide +kernel) (by decide +kernel)
theorem mt_X10_point : gMt yX10_point cX10_point 3 (some .int) 1 := ⟨tw_676, tw_37, by decide +kernel, by decide +kernel⟩
theorem tw_680 : (Jvm.Cond.code ({ cls := "MarlStore$Pointer", name := "goToWhole", desc := "(I)V" } : Jvm.MethodName) prog_7_method_3_code (2 : Nat) (Option.none : Option Jvm.ClassFile.FieldType)) ∈ gW := gW_in 680 (by decide +kernel) (by decide +kernel)
theorem mt_X5_goToWhole : gMt yX5_goToWhole cX5_goToWhole 2 none 1 := ⟨tw_680, tw_40, by decide +kernel, by decide +kernel⟩
theorem tw_684 : (Jvm.Cond.code ({ cls := "MarlStore", name := "children", desc := "()I" } : Jvm.MethodName) prog_1_method_15_code (1 : Nat) (Option.some Jvm.ClassFile.FieldType.int)) ∈ gW := gW_in 684 (by decide +kernel) (by decide +kernel)
theorem mt_X10_children : gMt yX10_children cX10_children 1 (some .int) 0 := ⟨tw_684, tw_37, by decide +kernel, by decide +kernel⟩
theorem tw_688 : (Jvm.Cond.code ({ cls := "MarlStore", name := "pointed", desc := "()LMarlStore$Value;" } : Jvm.MethodName) prog_1_method_51_code (3 : Nat) (Option.some (Jvm.ClassFile.FieldType.object "MarlStore$Value"))) ∈ gW := gW_in 688 (by decide +kernel) (by decide +kernel)
theorem mt_X10_pointed : gMt yX10_pointed cX10_pointed 3 (some (.object "MarlStore$Value")) 0 := ⟨tw_688, tw_37, by decide +kernel, by decide +kernel⟩
theorem tw_692 : (Jvm.Cond.code ({ cls := "MarlStore$Value", name := "below", desc := "([II)LMarlStore$Value;" } : Jvm.MethodName) prog_10_method_7_code (5 : Nat) (Option.some (Jvm.ClassFile.FieldType.object "MarlStore$Value"))) ∈ gW := gW_in 692 (by decide +kernel) (by decide +kernel)
theorem mt_X8_below : gMt yX8_below cX8_below 5 (some (.object "MarlStore$Value")) 2 := ⟨tw_692, tw_38, by decide +kernel, by decide +kernel⟩
theorem tw_699 : (Jvm.Cond.code ({ cls := "MarlStore", name := "childStep", desc := "(I)I" } : Jvm.MethodName) prog_1_method_16_code (3 : Nat) (Option.some Jvm.ClassFile.FieldType.int)) ∈ gW := gW_in 699 (by decide +kernel) (by decide +kernel)
theorem mt_X10_childStep : gMt yX10_childStep cX10_childStep 3 (some .int) 1 := ⟨tw_699, tw_37, by decide +kernel, by decide +kernel⟩
theorem tw_704 : (Jvm.Cond.code ({ cls := "MarlStore", name := "steps", desc := "()I" } : Jvm.MethodName) prog_1_method_6_code (1 : Nat) (Option.some Jvm.ClassFile.FieldType.int)) ∈ gW := gW_in 704 (by decide +kernel) (by decide +kernel)
theorem mt_X10_steps : gMt yX10_steps cX10_steps 1 (some .int) 0 := ⟨tw_704, tw_37, by decide +kernel, by decide +kernel⟩
theorem tw_708 : (Jvm.Cond.code ({ cls := "MarlStore", name := "into", desc := "(I)I" } : Jvm.MethodName) prog_1_method_3_code (4 : Nat) (Option.some Jvm.ClassFile.FieldType.int)) ∈ gW := gW_in 708 (by decide +kernel) (by decide +kernel)
theorem mt_X10_into : gMt yX10_into cX10_into 4 (some .int) 1 := ⟨tw_708, tw_37, by decide +kernel, by decide +kernel⟩
theorem tw_714 : (Jvm.Cond.code ({ cls := "MarlStore$Pointer", name := "goDown", desc := "(I)Z" } : Jvm.MethodName) prog_7_method_4_code (2 : Nat) (Option.some Jvm.ClassFile.FieldType.boolean)) ∈ gW := gW_in 714 (by decide +kernel) (by decide +kernel)
theorem mt_X5_goDown : gMt yX5_goDown cX5_goDown 2 (some .boolean) 1 := ⟨tw_714, tw_40, by decide +kernel, by decide +kernel⟩
theorem tw_719 : (Jvm.Cond.code ({ cls := "MarlStore", name := "kind", desc := "()I" } : Jvm.MethodName) prog_1_method_13_code (1 : Nat) (Option.some Jvm.ClassFile.FieldType.int)) ∈ gW := gW_in 719 (by decide +kernel) (by decide +kernel)
theorem mt_X10_kind : gMt yX10_kind cX10_kind 1 (some .int) 0 := ⟨tw_719, tw_37, by decide +kernel, by decide +kernel⟩
theorem tw_724 : (Jvm.Cond.code ({ cls := "MarlStore", name := "up", desc := "()I" } : Jvm.MethodName) prog_1_method_4_code (1 : Nat) (Option.some Jvm.ClassFile.FieldType.int)) ∈ gW := gW_in 724 (by decide +kernel) (by decide +kernel)
theorem mt_X10_up : gMt yX10_up cX10_up 1 (some .int) 0 := ⟨tw_724, tw_37, by decide +kernel, by decide +kernel⟩
theorem tw_728 : (Jvm.Cond.code ({ cls := "MarlStore$Pointer", name := "goUp", desc := "()Z" } : Jvm.MethodName) prog_7_method_5_code (1 : Nat) (Option.some Jvm.ClassFile.FieldType.boolean)) ∈ gW := gW_in 728 (by decide +kernel) (by decide +kernel)
theorem mt_X5_goUp : gMt yX5_goUp cX5_goUp 1 (some .boolean) 0 := ⟨tw_728, tw_40, by decide +kernel, by decide +kernel⟩
theorem tw_748 : (Jvm.Cond.code ({ cls := "MarlStore", name := "set", desc := "(II)I" } : Jvm.MethodName) prog_1_method_8_code (7 : Nat) (Option.some Jvm.ClassFile.FieldType.int)) ∈ gW := gW_in 748 (by decide +kernel) (by decide +kernel)
theorem mt_X10_set : gMt yX10_set cX10_set 7 (some .int) 2 := ⟨tw_748, tw_37, by decide +kernel, by decide +kernel⟩
theorem tw_753 : (Jvm.Cond.code ({ cls := "MarlStore$Editor", name := "begin", desc := "(LMarlStore$Value;)V" } : Jvm.MethodName) prog_4_method_2_code (2 : Nat) (Option.none : Option Jvm.ClassFile.FieldType)) ∈ gW := gW_in 753 (by decide +kernel) (by decide +kernel)
theorem mt_X2_begin : gMt yX2_begin cX2_begin 2 none 1 := ⟨tw_753, tw_41, by decide +kernel, by decide +kernel⟩
theorem tw_757 : (Jvm.Cond.code ({ cls := "MarlStore$Editor", name := "putAt", desc := "([IILMarlStore$Value;)Z" } : Jvm.MethodName) prog_4_method_7_code (5 : Nat) (Option.some Jvm.ClassFile.FieldType.boolean)) ∈ gW := gW_in 757 (by decide +kernel) (by decide +kernel)
theorem mt_X2_putAt : gMt yX2_putAt cX2_putAt 5 (some .boolean) 3 := ⟨tw_757, tw_41, by decide +kernel, by decide +kernel⟩
theorem tw_761 : (Jvm.Cond.code ({ cls := "MarlStore$Editor", name := "follow", desc := "([II)LMarlStore$Value;" } : Jvm.MethodName) prog_4_method_9_code (5 : Nat) (Option.some (Jvm.ClassFile.FieldType.object "MarlStore$Value"))) ∈ gW := gW_in 761 (by decide +kernel) (by decide +kernel)
theorem mt_X2_follow : gMt yX2_follow cX2_follow 5 (some (.object "MarlStore$Value")) 2 := ⟨tw_761, tw_41, by decide +kernel, by decide +kernel⟩
theorem tw_767 : (Jvm.Cond.code ({ cls := "MarlStore$Editor", name := "rebuild", desc := "(LMarlStore$Value;)V" } : Jvm.MethodName) prog_4_method_10_code (5 : Nat) (Option.none : Option Jvm.ClassFile.FieldType)) ∈ gW := gW_in 767 (by decide +kernel) (by decide +kernel)
theorem mt_X2_rebuild : gMt yX2_rebuild cX2_rebuild 5 none 1 := ⟨tw_767, tw_41, by decide +kernel, by decide +kernel⟩
theorem tw_771 : (Jvm.Cond.code ({ cls := "MarlStore$Value", name := "withPart", desc := "(ILMarlStore$Value;)LMarlStore$Value;" } : Jvm.MethodName) prog_10_method_8_code (6 : Nat) (Option.some (Jvm.ClassFile.FieldType.object "MarlStore$Value"))) ∈ gW := gW_in 771 (by decide +kernel) (by decide +kernel)
theorem mt_X8_withPart : gMt yX8_withPart cX8_withPart 6 (some (.object "MarlStore$Value")) 2 := ⟨tw_771, tw_38, by decide +kernel, by decide +kernel⟩
theorem tw_778 : (Jvm.Cond.code ({ cls := "MarlStore", name := "finish", desc := "(Z)I" } : Jvm.MethodName) prog_1_method_53_code (2 : Nat) (Option.some Jvm.ClassFile.FieldType.int)) ∈ gW := gW_in 778 (by decide +kernel) (by decide +kernel)
theorem mt_X10_finish : gMt yX10_finish cX10_finish 2 (some .int) 1 := ⟨tw_778, tw_37, by decide +kernel, by decide +kernel⟩
theorem tw_782 : (Jvm.Cond.code ({ cls := "MarlStore$Editor", name := "isAllowed", desc := "()Z" } : Jvm.MethodName) prog_4_method_3_code (1 : Nat) (Option.some Jvm.ClassFile.FieldType.boolean)) ∈ gW := gW_in 782 (by decide +kernel) (by decide +kernel)
theorem mt_X2_isAllowed : gMt yX2_isAllowed cX2_isAllowed 1 (some .boolean) 0 := ⟨tw_782, tw_41, by decide +kernel, by decide +kernel⟩
theorem tw_786 : (Jvm.Cond.code ({ cls := "MarlStore", name := "changeTo", desc := "(ILMarlStore$Value;)V" } : Jvm.MethodName) prog_1_method_52_code (3 : Nat) (Option.none : Option Jvm.ClassFile.FieldType)) ∈ gW := gW_in 786 (by decide +kernel) (by decide +kernel)
theorem mt_X10_changeTo : gMt yX10_changeTo cX10_changeTo 3 none 2 := ⟨tw_786, tw_37, by decide +kernel, by decide +kernel⟩
theorem tw_790 : (Jvm.Cond.code ({ cls := "MarlStore$Pointer", name := "settle", desc := "(LMarlStore$Value;)V" } : Jvm.MethodName) prog_7_method_7_code (5 : Nat) (Option.none : Option Jvm.ClassFile.FieldType)) ∈ gW := gW_in 790 (by decide +kernel) (by decide +kernel)
theorem mt_X5_settle : gMt yX5_settle cX5_settle 5 none 1 := ⟨tw_790, tw_40, by decide +kernel, by decide +kernel⟩
theorem tw_796 : (Jvm.Cond.code ({ cls := "MarlStore", name := "copy", desc := "()I" } : Jvm.MethodName) prog_1_method_9_code (1 : Nat) (Option.some Jvm.ClassFile.FieldType.int)) ∈ gW := gW_in 796 (by decide +kernel) (by decide +kernel)
theorem mt_X10_copy : gMt yX10_copy cX10_copy 1 (some .int) 0 := ⟨tw_796, tw_37, by decide +kernel, by decide +kernel⟩
theorem tw_800 : (Jvm.Cond.code ({ cls := "MarlStore", name := "insert", desc := "(I)I" } : Jvm.MethodName) prog_1_method_11_code (2 : Nat) (Option.some Jvm.ClassFile.FieldType.int)) ∈ gW := gW_in 800 (by decide +kernel) (by decide +kernel)
theorem mt_X10_insert : gMt yX10_insert cX10_insert 2 (some .int) 1 := ⟨tw_800, tw_37, by decide +kernel, by decide +kernel⟩
theorem tw_804 : (Jvm.Cond.code ({ cls := "MarlStore$Editor", name := "addAt", desc := "([IIILMarlStore$Value;)Z" } : Jvm.MethodName) prog_4_method_5_code (7 : Nat) (Option.some Jvm.ClassFile.FieldType.boolean)) ∈ gW := gW_in 804 (by decide +kernel) (by decide +kernel)
theorem mt_X2_addAt : gMt yX2_addAt cX2_addAt 7 (some .boolean) 4 := ⟨tw_804, tw_41, by decide +kernel, by decide +kernel⟩
theorem tw_808 : (Jvm.Cond.code ({ cls := "MarlStore$Value", name := "placeToAdd", desc := "(I)I" } : Jvm.MethodName) prog_10_method_6_code (3 : Nat) (Option.some Jvm.ClassFile.FieldType.int)) ∈ gW := gW_in 808 (by decide +kernel) (by decide +kernel)
theorem mt_X8_placeToAdd : gMt yX8_placeToAdd cX8_placeToAdd 3 (some .int) 1 := ⟨tw_808, tw_38, by decide +kernel, by decide +kernel⟩
theorem tw_812 : (Jvm.Cond.code ({ cls := "MarlStore$Value", name := "withAdded", desc := "(IILMarlStore$Value;)LMarlStore$Value;" } : Jvm.MethodName) prog_10_method_9_code (9 : Nat) (Option.some (Jvm.ClassFile.FieldType.object "MarlStore$Value"))) ∈ gW := gW_in 812 (by decide +kernel) (by decide +kernel)
theorem mt_X8_withAdded : gMt yX8_withAdded cX8_withAdded 9 (some (.object "MarlStore$Value")) 3 := ⟨tw_812, tw_38, by decide +kernel, by decide +kernel⟩
theorem tw_817 : (Jvm.Cond.code ({ cls := "MarlStore", name := "clip", desc := "()I" } : Jvm.MethodName) prog_1_method_19_code (1 : Nat) (Option.some Jvm.ClassFile.FieldType.int)) ∈ gW := gW_in 817 (by decide +kernel) (by decide +kernel)
theorem mt_X10_clip : gMt yX10_clip cX10_clip 1 (some .int) 0 := ⟨tw_817, tw_37, by decide +kernel, by decide +kernel⟩
theorem tw_821 : (Jvm.Cond.code ({ cls := "MarlStore", name := "drop", desc := "(I)I" } : Jvm.MethodName) prog_1_method_12_code (2 : Nat) (Option.some Jvm.ClassFile.FieldType.int)) ∈ gW := gW_in 821 (by decide +kernel) (by decide +kernel)
theorem mt_X10_drop : gMt yX10_drop cX10_drop 2 (some .int) 1 := ⟨tw_821, tw_37, by decide +kernel, by decide +kernel⟩
theorem tw_825 : (Jvm.Cond.code ({ cls := "MarlStore$Editor", name := "dropAt", desc := "([III)Z" } : Jvm.MethodName) prog_4_method_6_code (6 : Nat) (Option.some Jvm.ClassFile.FieldType.boolean)) ∈ gW := gW_in 825 (by decide +kernel) (by decide +kernel)
theorem mt_X2_dropAt : gMt yX2_dropAt cX2_dropAt 6 (some .boolean) 3 := ⟨tw_825, tw_41, by decide +kernel, by decide +kernel⟩
theorem tw_829 : (Jvm.Cond.code ({ cls := "MarlStore$Value", name := "withoutPart", desc := "(I)LMarlStore$Value;" } : Jvm.MethodName) prog_10_method_10_code (7 : Nat) (Option.some (Jvm.ClassFile.FieldType.object "MarlStore$Value"))) ∈ gW := gW_in 829 (by decide +kernel) (by decide +kernel)
theorem mt_X8_withoutPart : gMt yX8_withoutPart cX8_withoutPart 7 (some (.object "MarlStore$Value")) 1 := ⟨tw_829, tw_38, by decide +kernel, by decide +kernel⟩
theorem tw_833 : (Jvm.Cond.code ({ cls := "MarlStore", name := "diff", desc := "(II)I" } : Jvm.MethodName) prog_1_method_24_code (6 : Nat) (Option.some Jvm.ClassFile.FieldType.int)) ∈ gW := gW_in 833 (by decide +kernel) (by decide +kernel)
theorem mt_X10_diff : gMt yX10_diff cX10_diff 6 (some .int) 2 := ⟨tw_833, tw_37, by decide +kernel, by decide +kernel⟩
theorem tw_837 : (Jvm.Cond.code ({ cls := "MarlStore$Differ", name := "write", desc := "(LMarlStore$Value;LMarlStore$Value;)I" } : Jvm.MethodName) prog_3_method_12_code (3 : Nat) (Option.some Jvm.ClassFile.FieldType.int)) ∈ gW := gW_in 837 (by decide +kernel) (by decide +kernel)
theorem mt_X1_write : gMt yX1_write cX1_write 3 (some .int) 2 := ⟨tw_837, tw_43, by decide +kernel, by decide +kernel⟩
theorem tw_841 : (Jvm.Cond.code ({ cls := "MarlStore$Differ", name := "writeAt", desc := "(LMarlStore$Value;LMarlStore$Value;II)V" } : Jvm.MethodName) prog_3_method_14_code (6 : Nat) (Option.none : Option Jvm.ClassFile.FieldType)) ∈ gW := gW_in 841 (by decide +kernel) (by decide +kernel)
theorem mt_X1_writeAt : gMt yX1_writeAt cX1_writeAt 6 none 4 := ⟨tw_841, tw_43, by decide +kernel, by decide +kernel⟩
theorem tw_845 : (Jvm.Cond.code ({ cls := "MarlStore$Value", name := "isSameAs", desc := "(LMarlStore$Value;)Z" } : Jvm.MethodName) prog_10_method_11_code (2 : Nat) (Option.some Jvm.ClassFile.FieldType.boolean)) ∈ gW := gW_in 845 (by decide +kernel) (by decide +kernel)
theorem mt_X8_isSameAs : gMt yX8_isSameAs cX8_isSameAs 2 (some .boolean) 1 := ⟨tw_845, tw_38, by decide +kernel, by decide +kernel⟩
theorem tw_848 : (Jvm.Cond.code ({ cls := "MarlStore$Value", name := "areSame", desc := "(LMarlStore$Value;LMarlStore$Value;I)Z" } : Jvm.MethodName) prog_10_method_12_code (4 : Nat) (Option.some Jvm.ClassFile.FieldType.boolean)) ∈ gW := gW_in 848 (by decide +kernel) (by decide +kernel)
theorem mt_X8_areSame : gMt yX8_areSame cX8_areSame 4 (some .boolean) 3 := ⟨tw_848, tw_38, by decide +kernel, by decide +kernel⟩
theorem tw_852 : (Jvm.Cond.code ({ cls := "MarlStore$Differ", name := "writeLists", desc := "(LMarlStore$Value;LMarlStore$Value;II)V" } : Jvm.MethodName) prog_3_method_17_code (11 : Nat) (Option.none : Option Jvm.ClassFile.FieldType)) ∈ gW := gW_in 852 (by decide +kernel) (by decide +kernel)
theorem mt_X1_writeLists : gMt yX1_writeLists cX1_writeLists 11 none 4 := ⟨tw_852, tw_43, by decide +kernel, by decide +kernel⟩
theorem tw_856 : (Jvm.Cond.code ({ cls := "MarlStore$Differ", name := "writeBelow", desc := "(LMarlStore$Value;LMarlStore$Value;III)V" } : Jvm.MethodName) prog_3_method_16_code (6 : Nat) (Option.none : Option Jvm.ClassFile.FieldType)) ∈ gW := gW_in 856 (by decide +kernel) (by decide +kernel)
theorem mt_X1_writeBelow : gMt yX1_writeBelow cX1_writeBelow 6 none 5 := ⟨tw_856, tw_43, by decide +kernel, by decide +kernel⟩
theorem tw_860 : (Jvm.Cond.code ({ cls := "MarlStore$Differ", name := "note", desc := "(IIILMarlStore$Value;)V" } : Jvm.MethodName) prog_3_method_18_code (5 : Nat) (Option.none : Option Jvm.ClassFile.FieldType)) ∈ gW := gW_in 860 (by decide +kernel) (by decide +kernel)
theorem mt_X1_note : gMt yX1_note cX1_note 5 none 4 := ⟨tw_860, tw_43, by decide +kernel, by decide +kernel⟩
theorem tw_864 : (Jvm.Cond.code ({ cls := "java/util/Arrays", name := "copyOf", desc := "([II)[I" } : Jvm.MethodName) prog_27_method_123_code (3 : Nat) (Option.some (Jvm.ClassFile.FieldType.array Jvm.ClassFile.FieldType.int))) ∈ gW := gW_in 864 (by decide +kernel) (by decide +kernel)
theorem tw_55 : (Jvm.Cond.initialized "java/util/Arrays") ∈ gW := gW_in 55 (by decide +kernel) (by decide +kernel)
theorem mt_J7_copyOf_59c91 : gMt yJ7_copyOf_59c91 cJ7_copyOf_59c91 3 (some (.array .int)) 2 := ⟨tw_864, tw_55, by decide +kernel, by decide +kernel⟩
theorem tw_878 : (Jvm.Cond.code ({ cls := "MarlStore$Operation", name := "<init>", desc := "(I[IILMarlStore$Value;)V" } : Jvm.MethodName) prog_5_method_1_code (5 : Nat) (Option.none : Option Jvm.ClassFile.FieldType)) ∈ gW := gW_in 878 (by decide +kernel) (by decide +kernel)
theorem mt_X3_init : gMt yX3_init cX3_init 5 none 4 := ⟨tw_878, tw_54, by decide +kernel, by decide +kernel⟩
theorem tw_900 : (Jvm.Cond.code ({ cls := "MarlStore$Differ", name := "writeObjects", desc := "(LMarlStore$Value;LMarlStore$Value;II)V" } : Jvm.MethodName) prog_3_method_15_code (9 : Nat) (Option.none : Option Jvm.ClassFile.FieldType)) ∈ gW := gW_in 900 (by decide +kernel) (by decide +kernel)
theorem mt_X1_writeObjects : gMt yX1_writeObjects cX1_writeObjects 9 none 4 := ⟨tw_900, tw_43, by decide +kernel, by decide +kernel⟩
theorem tw_905 : (Jvm.Cond.code ({ cls := "MarlStore", name := "beginPatch", desc := "()I" } : Jvm.MethodName) prog_1_method_50_code (1 : Nat) (Option.some Jvm.ClassFile.FieldType.int)) ∈ gW := gW_in 905 (by decide +kernel) (by decide +kernel)
theorem mt_X10_beginPatch : gMt yX10_beginPatch cX10_beginPatch 1 (some .int) 0 := ⟨tw_905, tw_37, by decide +kernel, by decide +kernel⟩
theorem tw_910 : (Jvm.Cond.code ({ cls := "MarlStore$Patch", name := "clear", desc := "()V" } : Jvm.MethodName) prog_6_method_2_code (1 : Nat) (Option.none : Option Jvm.ClassFile.FieldType)) ∈ gW := gW_in 910 (by decide +kernel) (by decide +kernel)
theorem mt_X4_clear : gMt yX4_clear cX4_clear 1 none 0 := ⟨tw_910, tw_42, by decide +kernel, by decide +kernel⟩
theorem tw_914 : (Jvm.Cond.code ({ cls := "MarlStore$Differ", name := "operationAt", desc := "(I)LMarlStore$Operation;" } : Jvm.MethodName) prog_3_method_13_code (2 : Nat) (Option.some (Jvm.ClassFile.FieldType.object "MarlStore$Operation"))) ∈ gW := gW_in 914 (by decide +kernel) (by decide +kernel)
theorem mt_X1_operationAt : gMt yX1_operationAt cX1_operationAt 2 (some (.object "MarlStore$Operation")) 1 := ⟨tw_914, tw_43, by decide +kernel, by decide +kernel⟩
theorem tw_918 : (Jvm.Cond.code ({ cls := "MarlStore$Patch", name := "append", desc := "(LMarlStore$Operation;)V" } : Jvm.MethodName) prog_6_method_3_code (2 : Nat) (Option.none : Option Jvm.ClassFile.FieldType)) ∈ gW := gW_in 918 (by decide +kernel) (by decide +kernel)
theorem mt_X4_append : gMt yX4_append cX4_append 2 none 1 := ⟨tw_918, tw_42, by decide +kernel, by decide +kernel⟩
theorem tw_922 : (Jvm.Cond.code ({ cls := "MarlStore", name := "failsAt", desc := "(II)I" } : Jvm.MethodName) prog_1_method_23_code (4 : Nat) (Option.some Jvm.ClassFile.FieldType.int)) ∈ gW := gW_in 922 (by decide +kernel) (by decide +kernel)
theorem mt_X10_failsAt : gMt yX10_failsAt cX10_failsAt 4 (some .int) 2 := ⟨tw_922, tw_37, by decide +kernel, by decide +kernel⟩
theorem tw_926 : (Jvm.Cond.code ({ cls := "MarlStore", name := "tryOut", desc := "(LMarlStore$Patch;LMarlStore$Value;)I" } : Jvm.MethodName) prog_1_method_54_code (5 : Nat) (Option.some Jvm.ClassFile.FieldType.int)) ∈ gW := gW_in 926 (by decide +kernel) (by decide +kernel)
theorem mt_X10_tryOut : gMt yX10_tryOut cX10_tryOut 5 (some .int) 2 := ⟨tw_926, tw_37, by decide +kernel, by decide +kernel⟩
theorem tw_930 : (Jvm.Cond.code ({ cls := "MarlStore$Editor", name := "perform", desc := "(LMarlStore$Operation;)Z" } : Jvm.MethodName) prog_4_method_4_code (3 : Nat) (Option.some Jvm.ClassFile.FieldType.boolean)) ∈ gW := gW_in 930 (by decide +kernel) (by decide +kernel)
theorem mt_X2_perform : gMt yX2_perform cX2_perform 3 (some .boolean) 1 := ⟨tw_930, tw_41, by decide +kernel, by decide +kernel⟩
theorem tw_937 : (Jvm.Cond.code ({ cls := "MarlStore$Editor", name := "testAt", desc := "([IILMarlStore$Value;)Z" } : Jvm.MethodName) prog_4_method_8_code (5 : Nat) (Option.some Jvm.ClassFile.FieldType.boolean)) ∈ gW := gW_in 937 (by decide +kernel) (by decide +kernel)
theorem mt_X2_testAt : gMt yX2_testAt cX2_testAt 5 (some .boolean) 3 := ⟨tw_937, tw_41, by decide +kernel, by decide +kernel⟩
theorem tw_943 : (Jvm.Cond.code ({ cls := "MarlStore", name := "changes", desc := "(II)I" } : Jvm.MethodName) prog_1_method_30_code (3 : Nat) (Option.some Jvm.ClassFile.FieldType.int)) ∈ gW := gW_in 943 (by decide +kernel) (by decide +kernel)
theorem mt_X10_changes : gMt yX10_changes cX10_changes 3 (some .int) 2 := ⟨tw_943, tw_37, by decide +kernel, by decide +kernel⟩
theorem tw_947 : (Jvm.Cond.code ({ cls := "MarlStore", name := "patches", desc := "()I" } : Jvm.MethodName) prog_1_method_26_code (1 : Nat) (Option.some Jvm.ClassFile.FieldType.int)) ∈ gW := gW_in 947 (by decide +kernel) (by decide +kernel)
theorem mt_X10_patches : gMt yX10_patches cX10_patches 1 (some .int) 0 := ⟨tw_947, tw_37, by decide +kernel, by decide +kernel⟩
theorem tw_950 : (Jvm.Cond.code ({ cls := "MarlStoreLaw", name := "isTurnedBack", desc := "(LMarlStore;II)Z" } : Jvm.MethodName) method_6_code (9 : Nat) (Option.some Jvm.ClassFile.FieldType.boolean)) ∈ gW := gW_in 950 (by decide +kernel) (by decide +kernel)
theorem mt_L_isTurnedBack : gMt yL_isTurnedBack cL_isTurnedBack 9 (some .boolean) 3 := ⟨tw_950, tw_36, by decide +kernel, by decide +kernel⟩
theorem tw_954 : (Jvm.Cond.code ({ cls := "MarlStore", name := "apply", desc := "(II)I" } : Jvm.MethodName) prog_1_method_22_code (5 : Nat) (Option.some Jvm.ClassFile.FieldType.int)) ∈ gW := gW_in 954 (by decide +kernel) (by decide +kernel)
theorem mt_X10_apply : gMt yX10_apply cX10_apply 5 (some .int) 2 := ⟨tw_954, tw_37, by decide +kernel, by decide +kernel⟩
theorem tw_958 : (Jvm.Cond.code ({ cls := "MarlStore", name := "writeInverse", desc := "(LMarlStore$Patch;LMarlStore$Patch;)V" } : Jvm.MethodName) prog_1_method_55_code (5 : Nat) (Option.none : Option Jvm.ClassFile.FieldType)) ∈ gW := gW_in 958 (by decide +kernel) (by decide +kernel)
theorem mt_X10_writeInverse : gMt yX10_writeInverse cX10_writeInverse 5 none 2 := ⟨tw_958, tw_37, by decide +kernel, by decide +kernel⟩
theorem tw_962 : (Jvm.Cond.code ({ cls := "MarlStore$Operation", name := "inverse", desc := "(LMarlStore$Value;)LMarlStore$Operation;" } : Jvm.MethodName) prog_5_method_2_code (2 : Nat) (Option.some (Jvm.ClassFile.FieldType.object "MarlStore$Operation"))) ∈ gW := gW_in 962 (by decide +kernel) (by decide +kernel)
theorem mt_X3_inverse : gMt yX3_inverse cX3_inverse 2 (some (.object "MarlStore$Operation")) 1 := ⟨tw_962, tw_54, by decide +kernel, by decide +kernel⟩
theorem tw_968 : (Jvm.Cond.code ({ cls := "MarlStore", name := "forget", desc := "()I" } : Jvm.MethodName) prog_1_method_25_code (1 : Nat) (Option.some Jvm.ClassFile.FieldType.int)) ∈ gW := gW_in 968 (by decide +kernel) (by decide +kernel)
theorem mt_X10_forget : gMt yX10_forget cX10_forget 1 (some .int) 0 := ⟨tw_968, tw_37, by decide +kernel, by decide +kernel⟩
theorem tw_973 : (Jvm.Cond.code ({ cls := "MarlStore", name := "addQuery", desc := "()I" } : Jvm.MethodName) prog_1_method_38_code (1 : Nat) (Option.some Jvm.ClassFile.FieldType.int)) ∈ gW := gW_in 973 (by decide +kernel) (by decide +kernel)
theorem mt_X10_addQuery : gMt yX10_addQuery cX10_addQuery 1 (some .int) 0 := ⟨tw_973, tw_37, by decide +kernel, by decide +kernel⟩
theorem tw_978 : (Jvm.Cond.code ({ cls := "MarlStore", name := "addPart", desc := "(III)I" } : Jvm.MethodName) prog_1_method_39_code (5 : Nat) (Option.some Jvm.ClassFile.FieldType.int)) ∈ gW := gW_in 978 (by decide +kernel) (by decide +kernel)
theorem mt_X10_addPart : gMt yX10_addPart cX10_addPart 5 (some .int) 3 := ⟨tw_978, tw_37, by decide +kernel, by decide +kernel⟩
theorem tw_981 : (Jvm.Cond.code ({ cls := "MarlStore", name := "isPart", desc := "(II)Z" } : Jvm.MethodName) prog_1_method_57_code (2 : Nat) (Option.some Jvm.ClassFile.FieldType.boolean)) ∈ gW := gW_in 981 (by decide +kernel) (by decide +kernel)
theorem mt_X10_isPart : gMt yX10_isPart cX10_isPart 2 (some .boolean) 2 := ⟨tw_981, tw_37, by decide +kernel, by decide +kernel⟩
theorem tw_986 : (Jvm.Cond.code ({ cls := "MarlStore$Query", name := "append", desc := "(II)Z" } : Jvm.MethodName) prog_8_method_2_code (3 : Nat) (Option.some Jvm.ClassFile.FieldType.boolean)) ∈ gW := gW_in 986 (by decide +kernel) (by decide +kernel)
theorem mt_X6_append : gMt yX6_append cX6_append 3 (some .boolean) 2 := ⟨tw_986, tw_47, by decide +kernel, by decide +kernel⟩
theorem tw_991 : (Jvm.Cond.code ({ cls := "MarlStore", name := "dropFound", desc := "(II)I" } : Jvm.MethodName) prog_1_method_44_code (3 : Nat) (Option.some Jvm.ClassFile.FieldType.int)) ∈ gW := gW_in 991 (by decide +kernel) (by decide +kernel)
theorem mt_X10_dropFound : gMt yX10_dropFound cX10_dropFound 3 (some .int) 2 := ⟨tw_991, tw_37, by decide +kernel, by decide +kernel⟩
theorem tw_995 : (Jvm.Cond.code ({ cls := "MarlStore$Walk", name := "without", desc := "(J)LMarlStore$Value;" } : Jvm.MethodName) prog_11_method_14_code (7 : Nat) (Option.some (Jvm.ClassFile.FieldType.object "MarlStore$Value"))) ∈ gW := gW_in 995 (by decide +kernel) (by decide +kernel)
theorem mt_X9_without : gMt yX9_without cX9_without 7 (some (.object "MarlStore$Value")) 1 := ⟨tw_995, tw_45, by decide +kernel, by decide +kernel⟩
theorem tw_1000 : (Jvm.Cond.code ({ cls := "MarlStoreLaw", name := "areDocumentsRight", desc := "(LMarlStore;)Z" } : Jvm.MethodName) method_7_code (4 : Nat) (Option.some Jvm.ClassFile.FieldType.boolean)) ∈ gW := gW_in 1000 (by decide +kernel) (by decide +kernel)
theorem mt_L_areDocumentsRight : gMt yL_areDocumentsRight cL_areDocumentsRight 4 (some .boolean) 1 := ⟨tw_1000, tw_36, by decide +kernel, by decide +kernel⟩
theorem tw_1004 : (Jvm.Cond.code ({ cls := "MarlStore", name := "depth", desc := "(I)I" } : Jvm.MethodName) prog_1_method_18_code (2 : Nat) (Option.some Jvm.ClassFile.FieldType.int)) ∈ gW := gW_in 1004 (by decide +kernel) (by decide +kernel)
theorem mt_X10_depth : gMt yX10_depth cX10_depth 2 (some .int) 1 := ⟨tw_1004, tw_37, by decide +kernel, by decide +kernel⟩
theorem tw_1008 : (Jvm.Cond.code ({ cls := "MarlStoreLaw", name := "areFewRight", desc := "(LMarlStore;)Z" } : Jvm.MethodName) method_8_code (2 : Nat) (Option.some Jvm.ClassFile.FieldType.boolean)) ∈ gW := gW_in 1008 (by decide +kernel) (by decide +kernel)
theorem mt_L_areFewRight : gMt yL_areFewRight cL_areFewRight 2 (some .boolean) 1 := ⟨tw_1008, tw_36, by decide +kernel, by decide +kernel⟩
theorem tw_1012 : (Jvm.Cond.code ({ cls := "MarlStore", name := "number", desc := "()I" } : Jvm.MethodName) prog_1_method_14_code (1 : Nat) (Option.some Jvm.ClassFile.FieldType.int)) ∈ gW := gW_in 1012 (by decide +kernel) (by decide +kernel)
theorem mt_X10_number : gMt yX10_number cX10_number 1 (some .int) 0 := ⟨tw_1012, tw_37, by decide +kernel, by decide +kernel⟩
theorem tw_66 : (Jvm.Cond.classLink "MarlStore" (7 : Nat) "MarlStore$Value") ∈ gW := gW_in 66 (by decide +kernel) (by decide +kernel)
theorem tw_67 : (Jvm.Cond.instantiable "MarlStore$Value" (6 : Nat)) ∈ gW := gW_in 67 (by decide +kernel) (by decide +kernel)
theorem nw_X10_7 : gNw RX10 7 8 RX8 TX8 6 tyX8 := ⟨kl_8, tw_66, tw_67, tw_38⟩
theorem tw_68 : (Jvm.Cond.methodLink "MarlStore" (11 : Nat) ({ cls := "MarlStore$Value", name := "<init>", desc := "(II[I[LMarlStore$Value;)V" } : Jvm.MethodName)) ∈ gW := gW_in 68 (by decide +kernel) (by decide +kernel)
theorem tw_69 : (Jvm.Cond.instanceMethod ({ cls := "MarlStore$Value", name := "<init>", desc := "(II[I[LMarlStore$Value;)V" } : Jvm.MethodName)) ∈ gW := gW_in 69 (by decide +kernel) (by decide +kernel)
theorem ci_X10_11 : gCi RX10 11 yX8_init := ⟨tw_68, tw_69, by decide +kernel⟩
theorem tw_309 : (Jvm.Cond.fieldLink "MarlStore" (14 : Nat) "MarlStore" "wholes" "[LMarlStore$Value;") ∈ gW := gW_in 309 (by decide +kernel) (by decide +kernel)
theorem fl_X10_14 : gFl RX10 14 10 0 RX10 TX10 14 tyX10 := ⟨kl_10, by decide, tw_309⟩
theorem tw_310 : (Jvm.Cond.fieldLink "MarlStore" (18 : Nat) "MarlStore" "clipped" "LMarlStore$Value;") ∈ gW := gW_in 310 (by decide +kernel) (by decide +kernel)
theorem fl_X10_18 : gFl RX10 18 10 1 RX10 TX10 14 tyX10 := ⟨kl_10, by decide, tw_310⟩
theorem tw_110 : (Jvm.Cond.classLink "MarlStore" (22 : Nat) "MarlStore$Pointer") ∈ gW := gW_in 110 (by decide +kernel) (by decide +kernel)
theorem tw_111 : (Jvm.Cond.instantiable "MarlStore$Pointer" (3 : Nat)) ∈ gW := gW_in 111 (by decide +kernel) (by decide +kernel)
theorem nw_X10_22 : gNw RX10 22 5 RX5 TX5 3 tyX5 := ⟨kl_5, tw_110, tw_111, tw_40⟩
theorem tw_311 : (Jvm.Cond.fieldLink "MarlStore" (25 : Nat) "MarlStore" "pointer" "LMarlStore$Pointer;") ∈ gW := gW_in 311 (by decide +kernel) (by decide +kernel)
theorem fl_X10_25 : gFl RX10 25 10 2 RX10 TX10 14 tyX10 := ⟨kl_10, by decide, tw_311⟩
theorem tw_130 : (Jvm.Cond.classLink "MarlStore" (29 : Nat) "MarlStore$Editor") ∈ gW := gW_in 130 (by decide +kernel) (by decide +kernel)
theorem tw_131 : (Jvm.Cond.instantiable "MarlStore$Editor" (5 : Nat)) ∈ gW := gW_in 131 (by decide +kernel) (by decide +kernel)
theorem nw_X10_29 : gNw RX10 29 2 RX2 TX2 5 tyX2 := ⟨kl_2, tw_130, tw_131, tw_41⟩
theorem tw_132 : (Jvm.Cond.methodLink "MarlStore" (31 : Nat) ({ cls := "MarlStore$Editor", name := "<init>", desc := "(LMarlStore$Value;)V" } : Jvm.MethodName)) ∈ gW := gW_in 132 (by decide +kernel) (by decide +kernel)
theorem tw_133 : (Jvm.Cond.instanceMethod ({ cls := "MarlStore$Editor", name := "<init>", desc := "(LMarlStore$Value;)V" } : Jvm.MethodName)) ∈ gW := gW_in 133 (by decide +kernel) (by decide +kernel)
theorem ci_X10_31 : gCi RX10 31 yX2_init := ⟨tw_132, tw_133, by decide +kernel⟩
theorem tw_312 : (Jvm.Cond.fieldLink "MarlStore" (34 : Nat) "MarlStore" "editor" "LMarlStore$Editor;") ∈ gW := gW_in 312 (by decide +kernel) (by decide +kernel)
theorem fl_X10_34 : gFl RX10 34 10 3 RX10 TX10 14 tyX10 := ⟨kl_10, by decide, tw_312⟩
theorem tw_155 : (Jvm.Cond.classLink "MarlStore" (38 : Nat) "MarlStore$Patch") ∈ gW := gW_in 155 (by decide +kernel) (by decide +kernel)
theorem tw_157 : (Jvm.Cond.instantiable "MarlStore$Patch" (2 : Nat)) ∈ gW := gW_in 157 (by decide +kernel) (by decide +kernel)
theorem nw_X10_38 : gNw RX10 38 4 RX4 TX4 2 tyX4 := ⟨kl_4, tw_155, tw_157, tw_42⟩
theorem tw_313 : (Jvm.Cond.fieldLink "MarlStore" (40 : Nat) "MarlStore" "allPatches" "[LMarlStore$Patch;") ∈ gW := gW_in 313 (by decide +kernel) (by decide +kernel)
theorem fl_X10_40 : gFl RX10 40 10 4 RX10 TX10 14 tyX10 := ⟨kl_10, by decide, tw_313⟩
theorem tw_315 : (Jvm.Cond.fieldLink "MarlStore" (45 : Nat) "MarlStore" "takenOut" "[LMarlStore$Value;") ∈ gW := gW_in 315 (by decide +kernel) (by decide +kernel)
theorem fl_X10_45 : gFl RX10 45 10 6 RX10 TX10 14 tyX10 := ⟨kl_10, by decide, tw_315⟩
theorem tw_172 : (Jvm.Cond.classLink "MarlStore" (48 : Nat) "MarlStore$Differ") ∈ gW := gW_in 172 (by decide +kernel) (by decide +kernel)
theorem tw_173 : (Jvm.Cond.instantiable "MarlStore$Differ" (4 : Nat)) ∈ gW := gW_in 173 (by decide +kernel) (by decide +kernel)
theorem nw_X10_48 : gNw RX10 48 1 RX1 TX1 4 tyX1 := ⟨kl_1, tw_172, tw_173, tw_43⟩
theorem tw_316 : (Jvm.Cond.fieldLink "MarlStore" (51 : Nat) "MarlStore" "differ" "LMarlStore$Differ;") ∈ gW := gW_in 316 (by decide +kernel) (by decide +kernel)
theorem fl_X10_51 : gFl RX10 51 10 7 RX10 TX10 14 tyX10 := ⟨kl_10, by decide, tw_316⟩
theorem tw_192 : (Jvm.Cond.classLink "MarlStore" (55 : Nat) "MarlStore$Schema") ∈ gW := gW_in 192 (by decide +kernel) (by decide +kernel)
theorem tw_194 : (Jvm.Cond.instantiable "MarlStore$Schema" (11 : Nat)) ∈ gW := gW_in 194 (by decide +kernel) (by decide +kernel)
theorem nw_X10_55 : gNw RX10 55 7 RX7 TX7 11 tyX7 := ⟨kl_7, tw_192, tw_194, tw_44⟩
theorem tw_317 : (Jvm.Cond.fieldLink "MarlStore" (57 : Nat) "MarlStore" "schemas" "[LMarlStore$Schema;") ∈ gW := gW_in 317 (by decide +kernel) (by decide +kernel)
theorem fl_X10_57 : gFl RX10 57 10 8 RX10 TX10 14 tyX10 := ⟨kl_10, by decide, tw_317⟩
theorem tw_238 : (Jvm.Cond.classLink "MarlStore" (62 : Nat) "MarlStore$Walk") ∈ gW := gW_in 238 (by decide +kernel) (by decide +kernel)
theorem tw_239 : (Jvm.Cond.instantiable "MarlStore$Walk" (5 : Nat)) ∈ gW := gW_in 239 (by decide +kernel) (by decide +kernel)
theorem nw_X10_62 : gNw RX10 62 9 RX9 TX9 5 tyX9 := ⟨kl_9, tw_238, tw_239, tw_45⟩
theorem tw_322 : (Jvm.Cond.fieldLink "MarlStore" (65 : Nat) "MarlStore" "walk" "LMarlStore$Walk;") ∈ gW := gW_in 322 (by decide +kernel) (by decide +kernel)
theorem fl_X10_65 : gFl RX10 65 10 13 RX10 TX10 14 tyX10 := ⟨kl_10, by decide, tw_322⟩
theorem tw_263 : (Jvm.Cond.classLink "MarlStore" (69 : Nat) "MarlStore$Checker") ∈ gW := gW_in 263 (by decide +kernel) (by decide +kernel)
theorem tw_264 : (Jvm.Cond.instantiable "MarlStore$Checker" (7 : Nat)) ∈ gW := gW_in 264 (by decide +kernel) (by decide +kernel)
theorem nw_X10_69 : gNw RX10 69 0 RX0 TX0 7 tyX0 := ⟨kl_0, tw_263, tw_264, tw_46⟩
theorem tw_265 : (Jvm.Cond.methodLink "MarlStore" (71 : Nat) ({ cls := "MarlStore$Checker", name := "<init>", desc := "(LMarlStore$Walk;[LMarlStore$Schema;)V" } : Jvm.MethodName)) ∈ gW := gW_in 265 (by decide +kernel) (by decide +kernel)
theorem tw_266 : (Jvm.Cond.instanceMethod ({ cls := "MarlStore$Checker", name := "<init>", desc := "(LMarlStore$Walk;[LMarlStore$Schema;)V" } : Jvm.MethodName)) ∈ gW := gW_in 266 (by decide +kernel) (by decide +kernel)
theorem ci_X10_71 : gCi RX10 71 yX0_init := ⟨tw_265, tw_266, by decide +kernel⟩
theorem tw_319 : (Jvm.Cond.fieldLink "MarlStore" (74 : Nat) "MarlStore" "checker" "LMarlStore$Checker;") ∈ gW := gW_in 319 (by decide +kernel) (by decide +kernel)
theorem fl_X10_74 : gFl RX10 74 10 10 RX10 TX10 14 tyX10 := ⟨kl_10, by decide, tw_319⟩
theorem tw_291 : (Jvm.Cond.classLink "MarlStore" (78 : Nat) "MarlStore$Query") ∈ gW := gW_in 291 (by decide +kernel) (by decide +kernel)
theorem tw_293 : (Jvm.Cond.instantiable "MarlStore$Query" (3 : Nat)) ∈ gW := gW_in 293 (by decide +kernel) (by decide +kernel)
theorem nw_X10_78 : gNw RX10 78 6 RX6 TX6 3 tyX6 := ⟨kl_6, tw_291, tw_293, tw_47⟩
theorem tw_320 : (Jvm.Cond.fieldLink "MarlStore" (80 : Nat) "MarlStore" "queries" "[LMarlStore$Query;") ∈ gW := gW_in 320 (by decide +kernel) (by decide +kernel)
theorem fl_X10_80 : gFl RX10 80 10 11 RX10 TX10 14 tyX10 := ⟨kl_10, by decide, tw_320⟩
theorem tw_430 : (Jvm.Cond.methodLink "MarlStore" (85 : Nat) ({ cls := "MarlStore", name := "wholeOf", desc := "(I)LMarlStore$Value;" } : Jvm.MethodName)) ∈ gW := gW_in 430 (by decide +kernel) (by decide +kernel)
theorem tw_432 : (Jvm.Cond.instanceMethod ({ cls := "MarlStore", name := "wholeOf", desc := "(I)LMarlStore$Value;" } : Jvm.MethodName)) ∈ gW := gW_in 432 (by decide +kernel) (by decide +kernel)
theorem tw_1 : (Jvm.Cond.selects "MarlStore" ({ cls := "MarlStore", name := "wholeOf", desc := "(I)LMarlStore$Value;" } : Jvm.MethodName) ({ cls := "MarlStore", name := "wholeOf", desc := "(I)LMarlStore$Value;" } : Jvm.MethodName)) ∈ gW := gW_in 1 (by decide +kernel) (by decide +kernel)
theorem cv_X10_85 : gCv RX10 85 yX10_wholeOf := ⟨tw_430, tw_432, tw_1⟩
theorem tw_677 : (Jvm.Cond.methodLink "MarlStore" (89 : Nat) ({ cls := "MarlStore$Pointer", name := "goToWhole", desc := "(I)V" } : Jvm.MethodName)) ∈ gW := gW_in 677 (by decide +kernel) (by decide +kernel)
theorem tw_678 : (Jvm.Cond.instanceMethod ({ cls := "MarlStore$Pointer", name := "goToWhole", desc := "(I)V" } : Jvm.MethodName)) ∈ gW := gW_in 678 (by decide +kernel) (by decide +kernel)
theorem tw_679 : (Jvm.Cond.selects "MarlStore$Pointer" ({ cls := "MarlStore$Pointer", name := "goToWhole", desc := "(I)V" } : Jvm.MethodName) ({ cls := "MarlStore$Pointer", name := "goToWhole", desc := "(I)V" } : Jvm.MethodName)) ∈ gW := gW_in 679 (by decide +kernel) (by decide +kernel)
theorem cv_X10_89 : gCv RX10 89 yX5_goToWhole := ⟨tw_677, tw_678, tw_679⟩
theorem tw_76 : (Jvm.Cond.fieldLink "MarlStore" (93 : Nat) "MarlStore$Value" "kind" "I") ∈ gW := gW_in 76 (by decide +kernel) (by decide +kernel)
theorem fl_X10_93 : gFl RX10 93 8 0 RX8 TX8 6 tyX8 := ⟨kl_8, by decide, tw_76⟩
theorem tw_685 : (Jvm.Cond.methodLink "MarlStore" (97 : Nat) ({ cls := "MarlStore", name := "pointed", desc := "()LMarlStore$Value;" } : Jvm.MethodName)) ∈ gW := gW_in 685 (by decide +kernel) (by decide +kernel)
theorem tw_687 : (Jvm.Cond.instanceMethod ({ cls := "MarlStore", name := "pointed", desc := "()LMarlStore$Value;" } : Jvm.MethodName)) ∈ gW := gW_in 687 (by decide +kernel) (by decide +kernel)
theorem tw_22 : (Jvm.Cond.selects "MarlStore" ({ cls := "MarlStore", name := "pointed", desc := "()LMarlStore$Value;" } : Jvm.MethodName) ({ cls := "MarlStore", name := "pointed", desc := "()LMarlStore$Value;" } : Jvm.MethodName)) ∈ gW := gW_in 22 (by decide +kernel) (by decide +kernel)
theorem cv_X10_97 : gCv RX10 97 yX10_pointed := ⟨tw_685, tw_687, tw_22⟩
theorem tw_709 : (Jvm.Cond.methodLink "MarlStore" (101 : Nat) ({ cls := "MarlStore$Value", name := "placeOf", desc := "(I)I" } : Jvm.MethodName)) ∈ gW := gW_in 709 (by decide +kernel) (by decide +kernel)
theorem tw_607 : (Jvm.Cond.instanceMethod ({ cls := "MarlStore$Value", name := "placeOf", desc := "(I)I" } : Jvm.MethodName)) ∈ gW := gW_in 607 (by decide +kernel) (by decide +kernel)
theorem tw_608 : (Jvm.Cond.selects "MarlStore$Value" ({ cls := "MarlStore$Value", name := "placeOf", desc := "(I)I" } : Jvm.MethodName) ({ cls := "MarlStore$Value", name := "placeOf", desc := "(I)I" } : Jvm.MethodName)) ∈ gW := gW_in 608 (by decide +kernel) (by decide +kernel)
theorem cv_X10_101 : gCv RX10 101 yX8_placeOf := ⟨tw_709, tw_607, tw_608⟩
theorem tw_710 : (Jvm.Cond.methodLink "MarlStore" (105 : Nat) ({ cls := "MarlStore$Value", name := "partAt", desc := "(I)LMarlStore$Value;" } : Jvm.MethodName)) ∈ gW := gW_in 710 (by decide +kernel) (by decide +kernel)
theorem tw_455 : (Jvm.Cond.instanceMethod ({ cls := "MarlStore$Value", name := "partAt", desc := "(I)LMarlStore$Value;" } : Jvm.MethodName)) ∈ gW := gW_in 455 (by decide +kernel) (by decide +kernel)
theorem tw_456 : (Jvm.Cond.selects "MarlStore$Value" ({ cls := "MarlStore$Value", name := "partAt", desc := "(I)LMarlStore$Value;" } : Jvm.MethodName) ({ cls := "MarlStore$Value", name := "partAt", desc := "(I)LMarlStore$Value;" } : Jvm.MethodName)) ∈ gW := gW_in 456 (by decide +kernel) (by decide +kernel)
theorem cv_X10_105 : gCv RX10 105 yX8_partAt := ⟨tw_710, tw_455, tw_456⟩
theorem tw_711 : (Jvm.Cond.methodLink "MarlStore" (108 : Nat) ({ cls := "MarlStore$Pointer", name := "goDown", desc := "(I)Z" } : Jvm.MethodName)) ∈ gW := gW_in 711 (by decide +kernel) (by decide +kernel)
theorem tw_712 : (Jvm.Cond.instanceMethod ({ cls := "MarlStore$Pointer", name := "goDown", desc := "(I)Z" } : Jvm.MethodName)) ∈ gW := gW_in 712 (by decide +kernel) (by decide +kernel)
theorem tw_713 : (Jvm.Cond.selects "MarlStore$Pointer" ({ cls := "MarlStore$Pointer", name := "goDown", desc := "(I)Z" } : Jvm.MethodName) ({ cls := "MarlStore$Pointer", name := "goDown", desc := "(I)Z" } : Jvm.MethodName)) ∈ gW := gW_in 713 (by decide +kernel) (by decide +kernel)
theorem cv_X10_108 : gCv RX10 108 yX5_goDown := ⟨tw_711, tw_712, tw_713⟩
theorem tw_725 : (Jvm.Cond.methodLink "MarlStore" (119 : Nat) ({ cls := "MarlStore$Pointer", name := "goUp", desc := "()Z" } : Jvm.MethodName)) ∈ gW := gW_in 725 (by decide +kernel) (by decide +kernel)
theorem tw_726 : (Jvm.Cond.instanceMethod ({ cls := "MarlStore$Pointer", name := "goUp", desc := "()Z" } : Jvm.MethodName)) ∈ gW := gW_in 726 (by decide +kernel) (by decide +kernel)
theorem tw_727 : (Jvm.Cond.selects "MarlStore$Pointer" ({ cls := "MarlStore$Pointer", name := "goUp", desc := "()Z" } : Jvm.MethodName) ({ cls := "MarlStore$Pointer", name := "goUp", desc := "()Z" } : Jvm.MethodName)) ∈ gW := gW_in 727 (by decide +kernel) (by decide +kernel)
theorem cv_X10_119 : gCv RX10 119 yX5_goUp := ⟨tw_725, tw_726, tw_727⟩
theorem tw_119 : (Jvm.Cond.fieldLink "MarlStore" (128 : Nat) "MarlStore$Pointer" "length" "I") ∈ gW := gW_in 119 (by decide +kernel) (by decide +kernel)
theorem fl_X10_128 : gFl RX10 128 5 1 RX5 TX5 3 tyX5 := ⟨kl_5, by decide, tw_119⟩
theorem tw_117 : (Jvm.Cond.fieldLink "MarlStore" (131 : Nat) "MarlStore$Pointer" "at" "I") ∈ gW := gW_in 117 (by decide +kernel) (by decide +kernel)
theorem fl_X10_131 : gFl RX10 131 5 0 RX5 TX5 3 tyX5 := ⟨kl_5, by decide, tw_117⟩
theorem tw_121 : (Jvm.Cond.fieldLink "MarlStore" (134 : Nat) "MarlStore$Pointer" "path" "[I") ∈ gW := gW_in 121 (by decide +kernel) (by decide +kernel)
theorem fl_X10_134 : gFl RX10 134 5 2 RX5 TX5 3 tyX5 := ⟨kl_5, by decide, tw_121⟩
theorem tw_92 : (Jvm.Cond.fieldLink "MarlStore" (145 : Nat) "MarlStore$Value" "size" "I") ∈ gW := gW_in 92 (by decide +kernel) (by decide +kernel)
theorem fl_X10_145 : gFl RX10 145 8 4 RX8 TX8 6 tyX8 := ⟨kl_8, by decide, tw_92⟩
theorem tw_750 : (Jvm.Cond.methodLink "MarlStore" (148 : Nat) ({ cls := "MarlStore$Editor", name := "begin", desc := "(LMarlStore$Value;)V" } : Jvm.MethodName)) ∈ gW := gW_in 750 (by decide +kernel) (by decide +kernel)
theorem tw_751 : (Jvm.Cond.instanceMethod ({ cls := "MarlStore$Editor", name := "begin", desc := "(LMarlStore$Value;)V" } : Jvm.MethodName)) ∈ gW := gW_in 751 (by decide +kernel) (by decide +kernel)
theorem tw_752 : (Jvm.Cond.selects "MarlStore$Editor" ({ cls := "MarlStore$Editor", name := "begin", desc := "(LMarlStore$Value;)V" } : Jvm.MethodName) ({ cls := "MarlStore$Editor", name := "begin", desc := "(LMarlStore$Value;)V" } : Jvm.MethodName)) ∈ gW := gW_in 752 (by decide +kernel) (by decide +kernel)
theorem cv_X10_148 : gCv RX10 148 yX2_begin := ⟨tw_750, tw_751, tw_752⟩
theorem tw_754 : (Jvm.Cond.methodLink "MarlStore" (151 : Nat) ({ cls := "MarlStore$Editor", name := "putAt", desc := "([IILMarlStore$Value;)Z" } : Jvm.MethodName)) ∈ gW := gW_in 754 (by decide +kernel) (by decide +kernel)
theorem tw_755 : (Jvm.Cond.instanceMethod ({ cls := "MarlStore$Editor", name := "putAt", desc := "([IILMarlStore$Value;)Z" } : Jvm.MethodName)) ∈ gW := gW_in 755 (by decide +kernel) (by decide +kernel)
theorem tw_756 : (Jvm.Cond.selects "MarlStore$Editor" ({ cls := "MarlStore$Editor", name := "putAt", desc := "([IILMarlStore$Value;)Z" } : Jvm.MethodName) ({ cls := "MarlStore$Editor", name := "putAt", desc := "([IILMarlStore$Value;)Z" } : Jvm.MethodName)) ∈ gW := gW_in 756 (by decide +kernel) (by decide +kernel)
theorem cv_X10_151 : gCv RX10 151 yX2_putAt := ⟨tw_754, tw_755, tw_756⟩
theorem tw_775 : (Jvm.Cond.methodLink "MarlStore" (155 : Nat) ({ cls := "MarlStore", name := "finish", desc := "(Z)I" } : Jvm.MethodName)) ∈ gW := gW_in 775 (by decide +kernel) (by decide +kernel)
theorem tw_777 : (Jvm.Cond.instanceMethod ({ cls := "MarlStore", name := "finish", desc := "(Z)I" } : Jvm.MethodName)) ∈ gW := gW_in 777 (by decide +kernel) (by decide +kernel)
theorem tw_25 : (Jvm.Cond.selects "MarlStore" ({ cls := "MarlStore", name := "finish", desc := "(Z)I" } : Jvm.MethodName) ({ cls := "MarlStore", name := "finish", desc := "(Z)I" } : Jvm.MethodName)) ∈ gW := gW_in 25 (by decide +kernel) (by decide +kernel)
theorem cv_X10_155 : gCv RX10 155 yX10_finish := ⟨tw_775, tw_777, tw_25⟩
theorem tw_801 : (Jvm.Cond.methodLink "MarlStore" (159 : Nat) ({ cls := "MarlStore$Editor", name := "addAt", desc := "([IIILMarlStore$Value;)Z" } : Jvm.MethodName)) ∈ gW := gW_in 801 (by decide +kernel) (by decide +kernel)
theorem tw_802 : (Jvm.Cond.instanceMethod ({ cls := "MarlStore$Editor", name := "addAt", desc := "([IIILMarlStore$Value;)Z" } : Jvm.MethodName)) ∈ gW := gW_in 802 (by decide +kernel) (by decide +kernel)
theorem tw_803 : (Jvm.Cond.selects "MarlStore$Editor" ({ cls := "MarlStore$Editor", name := "addAt", desc := "([IIILMarlStore$Value;)Z" } : Jvm.MethodName) ({ cls := "MarlStore$Editor", name := "addAt", desc := "([IIILMarlStore$Value;)Z" } : Jvm.MethodName)) ∈ gW := gW_in 803 (by decide +kernel) (by decide +kernel)
theorem cv_X10_159 : gCv RX10 159 yX2_addAt := ⟨tw_801, tw_802, tw_803⟩
theorem tw_822 : (Jvm.Cond.methodLink "MarlStore" (163 : Nat) ({ cls := "MarlStore$Editor", name := "dropAt", desc := "([III)Z" } : Jvm.MethodName)) ∈ gW := gW_in 822 (by decide +kernel) (by decide +kernel)
theorem tw_823 : (Jvm.Cond.instanceMethod ({ cls := "MarlStore$Editor", name := "dropAt", desc := "([III)Z" } : Jvm.MethodName)) ∈ gW := gW_in 823 (by decide +kernel) (by decide +kernel)
theorem tw_824 : (Jvm.Cond.selects "MarlStore$Editor" ({ cls := "MarlStore$Editor", name := "dropAt", desc := "([III)Z" } : Jvm.MethodName) ({ cls := "MarlStore$Editor", name := "dropAt", desc := "([III)Z" } : Jvm.MethodName)) ∈ gW := gW_in 824 (by decide +kernel) (by decide +kernel)
theorem cv_X10_163 : gCv RX10 163 yX2_dropAt := ⟨tw_822, tw_823, tw_824⟩
theorem tw_84 : (Jvm.Cond.fieldLink "MarlStore" (167 : Nat) "MarlStore$Value" "number" "I") ∈ gW := gW_in 84 (by decide +kernel) (by decide +kernel)
theorem fl_X10_167 : gFl RX10 167 8 1 RX8 TX8 6 tyX8 := ⟨kl_8, by decide, tw_84⟩
theorem tw_466 : (Jvm.Cond.methodLink "MarlStore" (170 : Nat) ({ cls := "MarlStore$Value", name := "width", desc := "()I" } : Jvm.MethodName)) ∈ gW := gW_in 466 (by decide +kernel) (by decide +kernel)
theorem tw_451 : (Jvm.Cond.instanceMethod ({ cls := "MarlStore$Value", name := "width", desc := "()I" } : Jvm.MethodName)) ∈ gW := gW_in 451 (by decide +kernel) (by decide +kernel)
theorem tw_452 : (Jvm.Cond.selects "MarlStore$Value" ({ cls := "MarlStore$Value", name := "width", desc := "()I" } : Jvm.MethodName) ({ cls := "MarlStore$Value", name := "width", desc := "()I" } : Jvm.MethodName)) ∈ gW := gW_in 452 (by decide +kernel) (by decide +kernel)
theorem cv_X10_170 : gCv RX10 170 yX8_width := ⟨tw_466, tw_451, tw_452⟩
theorem tw_467 : (Jvm.Cond.methodLink "MarlStore" (176 : Nat) ({ cls := "MarlStore$Value", name := "stepOf", desc := "(I)I" } : Jvm.MethodName)) ∈ gW := gW_in 467 (by decide +kernel) (by decide +kernel)
theorem tw_459 : (Jvm.Cond.instanceMethod ({ cls := "MarlStore$Value", name := "stepOf", desc := "(I)I" } : Jvm.MethodName)) ∈ gW := gW_in 459 (by decide +kernel) (by decide +kernel)
theorem tw_460 : (Jvm.Cond.selects "MarlStore$Value" ({ cls := "MarlStore$Value", name := "stepOf", desc := "(I)I" } : Jvm.MethodName) ({ cls := "MarlStore$Value", name := "stepOf", desc := "(I)I" } : Jvm.MethodName)) ∈ gW := gW_in 460 (by decide +kernel) (by decide +kernel)
theorem cv_X10_176 : gCv RX10 176 yX8_stepOf := ⟨tw_467, tw_459, tw_460⟩
theorem tw_95 : (Jvm.Cond.fieldLink "MarlStore" (179 : Nat) "MarlStore$Value" "depth" "I") ∈ gW := gW_in 95 (by decide +kernel) (by decide +kernel)
theorem fl_X10_179 : gFl RX10 179 8 5 RX8 TX8 6 tyX8 := ⟨kl_8, by decide, tw_95⟩
theorem tw_521 : (Jvm.Cond.methodLink "MarlStore" (185 : Nat) ({ cls := "MarlStore", name := "patchOf", desc := "(I)LMarlStore$Patch;" } : Jvm.MethodName)) ∈ gW := gW_in 521 (by decide +kernel) (by decide +kernel)
theorem tw_523 : (Jvm.Cond.instanceMethod ({ cls := "MarlStore", name := "patchOf", desc := "(I)LMarlStore$Patch;" } : Jvm.MethodName)) ∈ gW := gW_in 523 (by decide +kernel) (by decide +kernel)
theorem tw_11 : (Jvm.Cond.selects "MarlStore" ({ cls := "MarlStore", name := "patchOf", desc := "(I)LMarlStore$Patch;" } : Jvm.MethodName) ({ cls := "MarlStore", name := "patchOf", desc := "(I)LMarlStore$Patch;" } : Jvm.MethodName)) ∈ gW := gW_in 11 (by decide +kernel) (by decide +kernel)
theorem cv_X10_185 : gCv RX10 185 yX10_patchOf := ⟨tw_521, tw_523, tw_11⟩
theorem tw_923 : (Jvm.Cond.methodLink "MarlStore" (209 : Nat) ({ cls := "MarlStore", name := "tryOut", desc := "(LMarlStore$Patch;LMarlStore$Value;)I" } : Jvm.MethodName)) ∈ gW := gW_in 923 (by decide +kernel) (by decide +kernel)
theorem tw_925 : (Jvm.Cond.instanceMethod ({ cls := "MarlStore", name := "tryOut", desc := "(LMarlStore$Patch;LMarlStore$Value;)I" } : Jvm.MethodName)) ∈ gW := gW_in 925 (by decide +kernel) (by decide +kernel)
theorem tw_33 : (Jvm.Cond.selects "MarlStore" ({ cls := "MarlStore", name := "tryOut", desc := "(LMarlStore$Patch;LMarlStore$Value;)I" } : Jvm.MethodName) ({ cls := "MarlStore", name := "tryOut", desc := "(LMarlStore$Patch;LMarlStore$Value;)I" } : Jvm.MethodName)) ∈ gW := gW_in 33 (by decide +kernel) (by decide +kernel)
theorem cv_X10_209 : gCv RX10 209 yX10_tryOut := ⟨tw_923, tw_925, tw_33⟩
theorem tw_138 : (Jvm.Cond.fieldLink "MarlStore" (213 : Nat) "MarlStore$Editor" "whole" "LMarlStore$Value;") ∈ gW := gW_in 138 (by decide +kernel) (by decide +kernel)
theorem fl_X10_213 : gFl RX10 213 2 0 RX2 TX2 5 tyX2 := ⟨kl_2, by decide, tw_138⟩
theorem tw_783 : (Jvm.Cond.methodLink "MarlStore" (216 : Nat) ({ cls := "MarlStore", name := "changeTo", desc := "(ILMarlStore$Value;)V" } : Jvm.MethodName)) ∈ gW := gW_in 783 (by decide +kernel) (by decide +kernel)
theorem tw_785 : (Jvm.Cond.instanceMethod ({ cls := "MarlStore", name := "changeTo", desc := "(ILMarlStore$Value;)V" } : Jvm.MethodName)) ∈ gW := gW_in 785 (by decide +kernel) (by decide +kernel)
theorem tw_26 : (Jvm.Cond.selects "MarlStore" ({ cls := "MarlStore", name := "changeTo", desc := "(ILMarlStore$Value;)V" } : Jvm.MethodName) ({ cls := "MarlStore", name := "changeTo", desc := "(ILMarlStore$Value;)V" } : Jvm.MethodName)) ∈ gW := gW_in 26 (by decide +kernel) (by decide +kernel)
theorem cv_X10_216 : gCv RX10 216 yX10_changeTo := ⟨tw_783, tw_785, tw_26⟩
theorem tw_314 : (Jvm.Cond.fieldLink "MarlStore" (220 : Nat) "MarlStore" "patchCount" "I") ∈ gW := gW_in 314 (by decide +kernel) (by decide +kernel)
theorem fl_X10_220 : gFl RX10 220 10 5 RX10 TX10 14 tyX10 := ⟨kl_10, by decide, tw_314⟩
theorem tw_902 : (Jvm.Cond.methodLink "MarlStore" (182 : Nat) ({ cls := "MarlStore", name := "beginPatch", desc := "()I" } : Jvm.MethodName)) ∈ gW := gW_in 902 (by decide +kernel) (by decide +kernel)
theorem tw_904 : (Jvm.Cond.instanceMethod ({ cls := "MarlStore", name := "beginPatch", desc := "()I" } : Jvm.MethodName)) ∈ gW := gW_in 904 (by decide +kernel) (by decide +kernel)
theorem tw_32 : (Jvm.Cond.selects "MarlStore" ({ cls := "MarlStore", name := "beginPatch", desc := "()I" } : Jvm.MethodName) ({ cls := "MarlStore", name := "beginPatch", desc := "()I" } : Jvm.MethodName)) ∈ gW := gW_in 32 (by decide +kernel) (by decide +kernel)
theorem cv_X10_182 : gCv RX10 182 yX10_beginPatch := ⟨tw_902, tw_904, tw_32⟩
theorem tw_955 : (Jvm.Cond.methodLink "MarlStore" (223 : Nat) ({ cls := "MarlStore", name := "writeInverse", desc := "(LMarlStore$Patch;LMarlStore$Patch;)V" } : Jvm.MethodName)) ∈ gW := gW_in 955 (by decide +kernel) (by decide +kernel)
theorem tw_957 : (Jvm.Cond.instanceMethod ({ cls := "MarlStore", name := "writeInverse", desc := "(LMarlStore$Patch;LMarlStore$Patch;)V" } : Jvm.MethodName)) ∈ gW := gW_in 957 (by decide +kernel) (by decide +kernel)
theorem tw_35 : (Jvm.Cond.selects "MarlStore" ({ cls := "MarlStore", name := "writeInverse", desc := "(LMarlStore$Patch;LMarlStore$Patch;)V" } : Jvm.MethodName) ({ cls := "MarlStore", name := "writeInverse", desc := "(LMarlStore$Patch;LMarlStore$Patch;)V" } : Jvm.MethodName)) ∈ gW := gW_in 35 (by decide +kernel) (by decide +kernel)
theorem cv_X10_223 : gCv RX10 223 yX10_writeInverse := ⟨tw_955, tw_957, tw_35⟩
theorem tw_834 : (Jvm.Cond.methodLink "MarlStore" (227 : Nat) ({ cls := "MarlStore$Differ", name := "write", desc := "(LMarlStore$Value;LMarlStore$Value;)I" } : Jvm.MethodName)) ∈ gW := gW_in 834 (by decide +kernel) (by decide +kernel)
theorem tw_835 : (Jvm.Cond.instanceMethod ({ cls := "MarlStore$Differ", name := "write", desc := "(LMarlStore$Value;LMarlStore$Value;)I" } : Jvm.MethodName)) ∈ gW := gW_in 835 (by decide +kernel) (by decide +kernel)
theorem tw_836 : (Jvm.Cond.selects "MarlStore$Differ" ({ cls := "MarlStore$Differ", name := "write", desc := "(LMarlStore$Value;LMarlStore$Value;)I" } : Jvm.MethodName) ({ cls := "MarlStore$Differ", name := "write", desc := "(LMarlStore$Value;LMarlStore$Value;)I" } : Jvm.MethodName)) ∈ gW := gW_in 836 (by decide +kernel) (by decide +kernel)
theorem cv_X10_227 : gCv RX10 227 yX1_write := ⟨tw_834, tw_835, tw_836⟩
theorem tw_911 : (Jvm.Cond.methodLink "MarlStore" (233 : Nat) ({ cls := "MarlStore$Differ", name := "operationAt", desc := "(I)LMarlStore$Operation;" } : Jvm.MethodName)) ∈ gW := gW_in 911 (by decide +kernel) (by decide +kernel)
theorem tw_912 : (Jvm.Cond.instanceMethod ({ cls := "MarlStore$Differ", name := "operationAt", desc := "(I)LMarlStore$Operation;" } : Jvm.MethodName)) ∈ gW := gW_in 912 (by decide +kernel) (by decide +kernel)
theorem tw_913 : (Jvm.Cond.selects "MarlStore$Differ" ({ cls := "MarlStore$Differ", name := "operationAt", desc := "(I)LMarlStore$Operation;" } : Jvm.MethodName) ({ cls := "MarlStore$Differ", name := "operationAt", desc := "(I)LMarlStore$Operation;" } : Jvm.MethodName)) ∈ gW := gW_in 913 (by decide +kernel) (by decide +kernel)
theorem cv_X10_233 : gCv RX10 233 yX1_operationAt := ⟨tw_911, tw_912, tw_913⟩
theorem tw_915 : (Jvm.Cond.methodLink "MarlStore" (205 : Nat) ({ cls := "MarlStore$Patch", name := "append", desc := "(LMarlStore$Operation;)V" } : Jvm.MethodName)) ∈ gW := gW_in 915 (by decide +kernel) (by decide +kernel)
theorem tw_916 : (Jvm.Cond.instanceMethod ({ cls := "MarlStore$Patch", name := "append", desc := "(LMarlStore$Operation;)V" } : Jvm.MethodName)) ∈ gW := gW_in 916 (by decide +kernel) (by decide +kernel)
theorem tw_917 : (Jvm.Cond.selects "MarlStore$Patch" ({ cls := "MarlStore$Patch", name := "append", desc := "(LMarlStore$Operation;)V" } : Jvm.MethodName) ({ cls := "MarlStore$Patch", name := "append", desc := "(LMarlStore$Operation;)V" } : Jvm.MethodName)) ∈ gW := gW_in 917 (by decide +kernel) (by decide +kernel)
theorem cv_X10_205 : gCv RX10 205 yX4_append := ⟨tw_915, tw_916, tw_917⟩
theorem tw_165 : (Jvm.Cond.fieldLink "MarlStore" (191 : Nat) "MarlStore$Patch" "count" "I") ∈ gW := gW_in 165 (by decide +kernel) (by decide +kernel)
theorem fl_X10_191 : gFl RX10 191 4 0 RX4 TX4 2 tyX4 := ⟨kl_4, by decide, tw_165⟩
theorem tw_530 : (Jvm.Cond.methodLink "MarlStore" (239 : Nat) ({ cls := "MarlStore$Patch", name := "operationAt", desc := "(I)LMarlStore$Operation;" } : Jvm.MethodName)) ∈ gW := gW_in 530 (by decide +kernel) (by decide +kernel)
theorem tw_531 : (Jvm.Cond.instanceMethod ({ cls := "MarlStore$Patch", name := "operationAt", desc := "(I)LMarlStore$Operation;" } : Jvm.MethodName)) ∈ gW := gW_in 531 (by decide +kernel) (by decide +kernel)
theorem tw_532 : (Jvm.Cond.selects "MarlStore$Patch" ({ cls := "MarlStore$Patch", name := "operationAt", desc := "(I)LMarlStore$Operation;" } : Jvm.MethodName) ({ cls := "MarlStore$Patch", name := "operationAt", desc := "(I)LMarlStore$Operation;" } : Jvm.MethodName)) ∈ gW := gW_in 532 (by decide +kernel) (by decide +kernel)
theorem cv_X10_239 : gCv RX10 239 yX4_operationAt := ⟨tw_530, tw_531, tw_532⟩
theorem tw_551 : (Jvm.Cond.methodLink "MarlStore" (244 : Nat) ({ cls := "MarlStore$Operation", name := "tell", desc := "(I)I" } : Jvm.MethodName)) ∈ gW := gW_in 551 (by decide +kernel) (by decide +kernel)
theorem tw_552 : (Jvm.Cond.instanceMethod ({ cls := "MarlStore$Operation", name := "tell", desc := "(I)I" } : Jvm.MethodName)) ∈ gW := gW_in 552 (by decide +kernel) (by decide +kernel)
theorem tw_553 : (Jvm.Cond.selects "MarlStore$Operation" ({ cls := "MarlStore$Operation", name := "tell", desc := "(I)I" } : Jvm.MethodName) ({ cls := "MarlStore$Operation", name := "tell", desc := "(I)I" } : Jvm.MethodName)) ∈ gW := gW_in 553 (by decide +kernel) (by decide +kernel)
theorem cv_X10_244 : gCv RX10 244 yX3_tell := ⟨tw_551, tw_552, tw_553⟩
theorem tw_472 : (Jvm.Cond.methodLink "MarlStore" (247 : Nat) ({ cls := "MarlStore$Differ", name := "compare", desc := "(LMarlStore$Value;LMarlStore$Value;)I" } : Jvm.MethodName)) ∈ gW := gW_in 472 (by decide +kernel) (by decide +kernel)
theorem tw_473 : (Jvm.Cond.instanceMethod ({ cls := "MarlStore$Differ", name := "compare", desc := "(LMarlStore$Value;LMarlStore$Value;)I" } : Jvm.MethodName)) ∈ gW := gW_in 473 (by decide +kernel) (by decide +kernel)
theorem tw_474 : (Jvm.Cond.selects "MarlStore$Differ" ({ cls := "MarlStore$Differ", name := "compare", desc := "(LMarlStore$Value;LMarlStore$Value;)I" } : Jvm.MethodName) ({ cls := "MarlStore$Differ", name := "compare", desc := "(LMarlStore$Value;LMarlStore$Value;)I" } : Jvm.MethodName)) ∈ gW := gW_in 474 (by decide +kernel) (by decide +kernel)
theorem cv_X10_247 : gCv RX10 247 yX1_compare := ⟨tw_472, tw_473, tw_474⟩
theorem tw_559 : (Jvm.Cond.methodLink "MarlStore" (295 : Nat) ({ cls := "MarlStore", name := "countFailures", desc := "(III)I" } : Jvm.MethodName)) ∈ gW := gW_in 559 (by decide +kernel) (by decide +kernel)
theorem tw_561 : (Jvm.Cond.instanceMethod ({ cls := "MarlStore", name := "countFailures", desc := "(III)I" } : Jvm.MethodName)) ∈ gW := gW_in 561 (by decide +kernel) (by decide +kernel)
theorem tw_12 : (Jvm.Cond.selects "MarlStore" ({ cls := "MarlStore", name := "countFailures", desc := "(III)I" } : Jvm.MethodName) ({ cls := "MarlStore", name := "countFailures", desc := "(III)I" } : Jvm.MethodName)) ∈ gW := gW_in 12 (by decide +kernel) (by decide +kernel)
theorem cv_X10_295 : gCv RX10 295 yX10_countFailures := ⟨tw_559, tw_561, tw_12⟩
theorem tw_321 : (Jvm.Cond.fieldLink "MarlStore" (311 : Nat) "MarlStore" "queryCount" "I") ∈ gW := gW_in 321 (by decide +kernel) (by decide +kernel)
theorem fl_X10_311 : gFl RX10 311 10 12 RX10 TX10 14 tyX10 := ⟨kl_10, by decide, tw_321⟩
theorem tw_618 : (Jvm.Cond.methodLink "MarlStore" (316 : Nat) ({ cls := "MarlStore", name := "queryOf", desc := "(I)LMarlStore$Query;" } : Jvm.MethodName)) ∈ gW := gW_in 618 (by decide +kernel) (by decide +kernel)
theorem tw_620 : (Jvm.Cond.instanceMethod ({ cls := "MarlStore", name := "queryOf", desc := "(I)LMarlStore$Query;" } : Jvm.MethodName)) ∈ gW := gW_in 620 (by decide +kernel) (by decide +kernel)
theorem tw_19 : (Jvm.Cond.selects "MarlStore" ({ cls := "MarlStore", name := "queryOf", desc := "(I)LMarlStore$Query;" } : Jvm.MethodName) ({ cls := "MarlStore", name := "queryOf", desc := "(I)LMarlStore$Query;" } : Jvm.MethodName)) ∈ gW := gW_in 19 (by decide +kernel) (by decide +kernel)
theorem cv_X10_316 : gCv RX10 316 yX10_queryOf := ⟨tw_618, tw_620, tw_19⟩
theorem tw_979 : (Jvm.Cond.methodLink "MarlStore" (320 : Nat) ({ cls := "MarlStore", name := "isPart", desc := "(II)Z" } : Jvm.MethodName)) ∈ gW := gW_in 979 (by decide +kernel) (by decide +kernel)
theorem tw_980 : (Jvm.Cond.static ({ cls := "MarlStore", name := "isPart", desc := "(II)Z" } : Jvm.MethodName)) ∈ gW := gW_in 980 (by decide +kernel) (by decide +kernel)
theorem cs_X10_320 : gCs RX10 320 yX10_isPart := ⟨tw_979, tw_980⟩
theorem tw_983 : (Jvm.Cond.methodLink "MarlStore" (326 : Nat) ({ cls := "MarlStore$Query", name := "append", desc := "(II)Z" } : Jvm.MethodName)) ∈ gW := gW_in 983 (by decide +kernel) (by decide +kernel)
theorem tw_984 : (Jvm.Cond.instanceMethod ({ cls := "MarlStore$Query", name := "append", desc := "(II)Z" } : Jvm.MethodName)) ∈ gW := gW_in 984 (by decide +kernel) (by decide +kernel)
theorem tw_985 : (Jvm.Cond.selects "MarlStore$Query" ({ cls := "MarlStore$Query", name := "append", desc := "(II)Z" } : Jvm.MethodName) ({ cls := "MarlStore$Query", name := "append", desc := "(II)Z" } : Jvm.MethodName)) ∈ gW := gW_in 985 (by decide +kernel) (by decide +kernel)
theorem cv_X10_326 : gCv RX10 326 yX6_append := ⟨tw_983, tw_984, tw_985⟩
theorem tw_299 : (Jvm.Cond.fieldLink "MarlStore" (330 : Nat) "MarlStore$Query" "count" "I") ∈ gW := gW_in 299 (by decide +kernel) (by decide +kernel)
theorem fl_X10_330 : gFl RX10 330 6 0 RX6 TX6 3 tyX6 := ⟨kl_6, by decide, tw_299⟩
theorem tw_614 : (Jvm.Cond.methodLink "MarlStore" (331 : Nat) ({ cls := "MarlStore", name := "findIn", desc := "(II)J" } : Jvm.MethodName)) ∈ gW := gW_in 614 (by decide +kernel) (by decide +kernel)
theorem tw_616 : (Jvm.Cond.instanceMethod ({ cls := "MarlStore", name := "findIn", desc := "(II)J" } : Jvm.MethodName)) ∈ gW := gW_in 616 (by decide +kernel) (by decide +kernel)
theorem tw_18 : (Jvm.Cond.selects "MarlStore" ({ cls := "MarlStore", name := "findIn", desc := "(II)J" } : Jvm.MethodName) ({ cls := "MarlStore", name := "findIn", desc := "(II)J" } : Jvm.MethodName)) ∈ gW := gW_in 18 (by decide +kernel) (by decide +kernel)
theorem cv_X10_331 : gCv RX10 331 yX10_findIn := ⟨tw_614, tw_616, tw_18⟩
theorem tw_646 : (Jvm.Cond.methodLink "MarlStore" (335 : Nat) ({ cls := "java/lang/Long", name := "bitCount", desc := "(J)I" } : Jvm.MethodName)) ∈ gW := gW_in 646 (by decide +kernel) (by decide +kernel)
theorem tw_647 : (Jvm.Cond.static ({ cls := "java/lang/Long", name := "bitCount", desc := "(J)I" } : Jvm.MethodName)) ∈ gW := gW_in 647 (by decide +kernel) (by decide +kernel)
theorem cs_X10_335 : gCs RX10 335 yJ13_bitCount_95d88 := ⟨tw_646, tw_647⟩
theorem tw_992 : (Jvm.Cond.methodLink "MarlStore" (363 : Nat) ({ cls := "MarlStore$Walk", name := "without", desc := "(J)LMarlStore$Value;" } : Jvm.MethodName)) ∈ gW := gW_in 992 (by decide +kernel) (by decide +kernel)
theorem tw_993 : (Jvm.Cond.instanceMethod ({ cls := "MarlStore$Walk", name := "without", desc := "(J)LMarlStore$Value;" } : Jvm.MethodName)) ∈ gW := gW_in 993 (by decide +kernel) (by decide +kernel)
theorem tw_994 : (Jvm.Cond.selects "MarlStore$Walk" ({ cls := "MarlStore$Walk", name := "without", desc := "(J)LMarlStore$Value;" } : Jvm.MethodName) ({ cls := "MarlStore$Walk", name := "without", desc := "(J)LMarlStore$Value;" } : Jvm.MethodName)) ∈ gW := gW_in 994 (by decide +kernel) (by decide +kernel)
theorem cv_X10_363 : gCv RX10 363 yX9_without := ⟨tw_992, tw_993, tw_994⟩
theorem tw_356 : (Jvm.Cond.constantLong "MarlStore" (367 : Nat) (58048 : Int64)) ∈ gW := gW_in 356 (by decide +kernel) (by decide +kernel)
theorem kc_X10_367 : (Jvm.Cond.constantLong "MarlStore" (367 : Nat) (58048 : Int64)) ∈ gW := tw_356
theorem tw_357 : (Jvm.Cond.constantLong "MarlStore" (369 : Nat) (31 : Int64)) ∈ gW := gW_in 357 (by decide +kernel) (by decide +kernel)
theorem kc_X10_369 : (Jvm.Cond.constantLong "MarlStore" (369 : Nat) (31 : Int64)) ∈ gW := tw_357
theorem tw_358 : (Jvm.Cond.methodLink "MarlStore" (371 : Nat) ({ cls := "MarlStore", name := "stepAt", desc := "(I)I" } : Jvm.MethodName)) ∈ gW := gW_in 358 (by decide +kernel) (by decide +kernel)
theorem tw_359 : (Jvm.Cond.instanceMethod ({ cls := "MarlStore", name := "stepAt", desc := "(I)I" } : Jvm.MethodName)) ∈ gW := gW_in 359 (by decide +kernel) (by decide +kernel)
theorem tw_360 : (Jvm.Cond.selects "MarlStore" ({ cls := "MarlStore", name := "stepAt", desc := "(I)I" } : Jvm.MethodName) ({ cls := "MarlStore", name := "stepAt", desc := "(I)I" } : Jvm.MethodName)) ∈ gW := gW_in 360 (by decide +kernel) (by decide +kernel)
theorem cv_X10_371 : gCv RX10 371 yX10_stepAt := ⟨tw_358, tw_359, tw_360⟩
theorem tw_435 : (Jvm.Cond.methodLink "MarlStore" (374 : Nat) ({ cls := "MarlStore", name := "digestValue", desc := "(JLMarlStore$Value;)J" } : Jvm.MethodName)) ∈ gW := gW_in 435 (by decide +kernel) (by decide +kernel)
theorem tw_437 : (Jvm.Cond.instanceMethod ({ cls := "MarlStore", name := "digestValue", desc := "(JLMarlStore$Value;)J" } : Jvm.MethodName)) ∈ gW := gW_in 437 (by decide +kernel) (by decide +kernel)
theorem tw_2 : (Jvm.Cond.selects "MarlStore" ({ cls := "MarlStore", name := "digestValue", desc := "(JLMarlStore$Value;)J" } : Jvm.MethodName) ({ cls := "MarlStore", name := "digestValue", desc := "(JLMarlStore$Value;)J" } : Jvm.MethodName)) ∈ gW := gW_in 2 (by decide +kernel) (by decide +kernel)
theorem cv_X10_374 : gCv RX10 374 yX10_digestValue := ⟨tw_435, tw_437, tw_2⟩
theorem tw_468 : (Jvm.Cond.methodLink "MarlStore" (378 : Nat) ({ cls := "MarlStore", name := "difference", desc := "(II)I" } : Jvm.MethodName)) ∈ gW := gW_in 468 (by decide +kernel) (by decide +kernel)
theorem tw_469 : (Jvm.Cond.instanceMethod ({ cls := "MarlStore", name := "difference", desc := "(II)I" } : Jvm.MethodName)) ∈ gW := gW_in 469 (by decide +kernel) (by decide +kernel)
theorem tw_470 : (Jvm.Cond.selects "MarlStore" ({ cls := "MarlStore", name := "difference", desc := "(II)I" } : Jvm.MethodName) ({ cls := "MarlStore", name := "difference", desc := "(II)I" } : Jvm.MethodName)) ∈ gW := gW_in 470 (by decide +kernel) (by decide +kernel)
theorem cv_X10_378 : gCv RX10 378 yX10_difference := ⟨tw_468, tw_469, tw_470⟩
theorem tw_513 : (Jvm.Cond.methodLink "MarlStore" (382 : Nat) ({ cls := "MarlStore", name := "digestPatches", desc := "(J)J" } : Jvm.MethodName)) ∈ gW := gW_in 513 (by decide +kernel) (by decide +kernel)
theorem tw_515 : (Jvm.Cond.instanceMethod ({ cls := "MarlStore", name := "digestPatches", desc := "(J)J" } : Jvm.MethodName)) ∈ gW := gW_in 515 (by decide +kernel) (by decide +kernel)
theorem tw_10 : (Jvm.Cond.selects "MarlStore" ({ cls := "MarlStore", name := "digestPatches", desc := "(J)J" } : Jvm.MethodName) ({ cls := "MarlStore", name := "digestPatches", desc := "(J)J" } : Jvm.MethodName)) ∈ gW := gW_in 10 (by decide +kernel) (by decide +kernel)
theorem cv_X10_382 : gCv RX10 382 yX10_digestPatches := ⟨tw_513, tw_515, tw_10⟩
theorem tw_318 : (Jvm.Cond.fieldLink "MarlStore" (250 : Nat) "MarlStore" "schemaCount" "I") ∈ gW := gW_in 318 (by decide +kernel) (by decide +kernel)
theorem fl_X10_250 : gFl RX10 250 10 9 RX10 TX10 14 tyX10 := ⟨kl_10, by decide, tw_318⟩
theorem tw_555 : (Jvm.Cond.methodLink "MarlStore" (385 : Nat) ({ cls := "MarlStore", name := "fitting", desc := "(I)I" } : Jvm.MethodName)) ∈ gW := gW_in 555 (by decide +kernel) (by decide +kernel)
theorem tw_556 : (Jvm.Cond.instanceMethod ({ cls := "MarlStore", name := "fitting", desc := "(I)I" } : Jvm.MethodName)) ∈ gW := gW_in 556 (by decide +kernel) (by decide +kernel)
theorem tw_557 : (Jvm.Cond.selects "MarlStore" ({ cls := "MarlStore", name := "fitting", desc := "(I)I" } : Jvm.MethodName) ({ cls := "MarlStore", name := "fitting", desc := "(I)I" } : Jvm.MethodName)) ∈ gW := gW_in 557 (by decide +kernel) (by decide +kernel)
theorem cv_X10_385 : gCv RX10 385 yX10_fitting := ⟨tw_555, tw_556, tw_557⟩
theorem tw_610 : (Jvm.Cond.methodLink "MarlStore" (388 : Nat) ({ cls := "MarlStore", name := "found", desc := "(II)I" } : Jvm.MethodName)) ∈ gW := gW_in 610 (by decide +kernel) (by decide +kernel)
theorem tw_611 : (Jvm.Cond.instanceMethod ({ cls := "MarlStore", name := "found", desc := "(II)I" } : Jvm.MethodName)) ∈ gW := gW_in 611 (by decide +kernel) (by decide +kernel)
theorem tw_612 : (Jvm.Cond.selects "MarlStore" ({ cls := "MarlStore", name := "found", desc := "(II)I" } : Jvm.MethodName) ({ cls := "MarlStore", name := "found", desc := "(II)I" } : Jvm.MethodName)) ∈ gW := gW_in 612 (by decide +kernel) (by decide +kernel)
theorem cv_X10_388 : gCv RX10 388 yX10_found := ⟨tw_610, tw_611, tw_612⟩
theorem tw_907 : (Jvm.Cond.methodLink "MarlStore" (401 : Nat) ({ cls := "MarlStore$Patch", name := "clear", desc := "()V" } : Jvm.MethodName)) ∈ gW := gW_in 907 (by decide +kernel) (by decide +kernel)
theorem tw_908 : (Jvm.Cond.instanceMethod ({ cls := "MarlStore$Patch", name := "clear", desc := "()V" } : Jvm.MethodName)) ∈ gW := gW_in 908 (by decide +kernel) (by decide +kernel)
theorem tw_909 : (Jvm.Cond.selects "MarlStore$Patch" ({ cls := "MarlStore$Patch", name := "clear", desc := "()V" } : Jvm.MethodName) ({ cls := "MarlStore$Patch", name := "clear", desc := "()V" } : Jvm.MethodName)) ∈ gW := gW_in 909 (by decide +kernel) (by decide +kernel)
theorem cv_X10_401 : gCv RX10 401 yX4_clear := ⟨tw_907, tw_908, tw_909⟩
theorem tw_689 : (Jvm.Cond.methodLink "MarlStore" (404 : Nat) ({ cls := "MarlStore$Value", name := "below", desc := "([II)LMarlStore$Value;" } : Jvm.MethodName)) ∈ gW := gW_in 689 (by decide +kernel) (by decide +kernel)
theorem tw_690 : (Jvm.Cond.instanceMethod ({ cls := "MarlStore$Value", name := "below", desc := "([II)LMarlStore$Value;" } : Jvm.MethodName)) ∈ gW := gW_in 690 (by decide +kernel) (by decide +kernel)
theorem tw_691 : (Jvm.Cond.selects "MarlStore$Value" ({ cls := "MarlStore$Value", name := "below", desc := "([II)LMarlStore$Value;" } : Jvm.MethodName) ({ cls := "MarlStore$Value", name := "below", desc := "([II)LMarlStore$Value;" } : Jvm.MethodName)) ∈ gW := gW_in 691 (by decide +kernel) (by decide +kernel)
theorem cv_X10_404 : gCv RX10 404 yX8_below := ⟨tw_689, tw_690, tw_691⟩
theorem tw_787 : (Jvm.Cond.methodLink "MarlStore" (408 : Nat) ({ cls := "MarlStore$Pointer", name := "settle", desc := "(LMarlStore$Value;)V" } : Jvm.MethodName)) ∈ gW := gW_in 787 (by decide +kernel) (by decide +kernel)
theorem tw_788 : (Jvm.Cond.instanceMethod ({ cls := "MarlStore$Pointer", name := "settle", desc := "(LMarlStore$Value;)V" } : Jvm.MethodName)) ∈ gW := gW_in 788 (by decide +kernel) (by decide +kernel)
theorem tw_789 : (Jvm.Cond.selects "MarlStore$Pointer" ({ cls := "MarlStore$Pointer", name := "settle", desc := "(LMarlStore$Value;)V" } : Jvm.MethodName) ({ cls := "MarlStore$Pointer", name := "settle", desc := "(LMarlStore$Value;)V" } : Jvm.MethodName)) ∈ gW := gW_in 789 (by decide +kernel) (by decide +kernel)
theorem cv_X10_408 : gCv RX10 408 yX5_settle := ⟨tw_787, tw_788, tw_789⟩
theorem tw_779 : (Jvm.Cond.methodLink "MarlStore" (411 : Nat) ({ cls := "MarlStore$Editor", name := "isAllowed", desc := "()Z" } : Jvm.MethodName)) ∈ gW := gW_in 779 (by decide +kernel) (by decide +kernel)
theorem tw_780 : (Jvm.Cond.instanceMethod ({ cls := "MarlStore$Editor", name := "isAllowed", desc := "()Z" } : Jvm.MethodName)) ∈ gW := gW_in 780 (by decide +kernel) (by decide +kernel)
theorem tw_781 : (Jvm.Cond.selects "MarlStore$Editor" ({ cls := "MarlStore$Editor", name := "isAllowed", desc := "()Z" } : Jvm.MethodName) ({ cls := "MarlStore$Editor", name := "isAllowed", desc := "()Z" } : Jvm.MethodName)) ∈ gW := gW_in 781 (by decide +kernel) (by decide +kernel)
theorem cv_X10_411 : gCv RX10 411 yX2_isAllowed := ⟨tw_779, tw_780, tw_781⟩
theorem tw_927 : (Jvm.Cond.methodLink "MarlStore" (414 : Nat) ({ cls := "MarlStore$Editor", name := "perform", desc := "(LMarlStore$Operation;)Z" } : Jvm.MethodName)) ∈ gW := gW_in 927 (by decide +kernel) (by decide +kernel)
theorem tw_928 : (Jvm.Cond.instanceMethod ({ cls := "MarlStore$Editor", name := "perform", desc := "(LMarlStore$Operation;)Z" } : Jvm.MethodName)) ∈ gW := gW_in 928 (by decide +kernel) (by decide +kernel)
theorem tw_929 : (Jvm.Cond.selects "MarlStore$Editor" ({ cls := "MarlStore$Editor", name := "perform", desc := "(LMarlStore$Operation;)Z" } : Jvm.MethodName) ({ cls := "MarlStore$Editor", name := "perform", desc := "(LMarlStore$Operation;)Z" } : Jvm.MethodName)) ∈ gW := gW_in 929 (by decide +kernel) (by decide +kernel)
theorem cv_X10_414 : gCv RX10 414 yX2_perform := ⟨tw_927, tw_928, tw_929⟩
theorem tw_140 : (Jvm.Cond.fieldLink "MarlStore" (418 : Nat) "MarlStore$Editor" "taken" "LMarlStore$Value;") ∈ gW := gW_in 140 (by decide +kernel) (by decide +kernel)
theorem fl_X10_418 : gFl RX10 418 2 1 RX2 TX2 5 tyX2 := ⟨kl_2, by decide, tw_140⟩
theorem tw_959 : (Jvm.Cond.methodLink "MarlStore" (421 : Nat) ({ cls := "MarlStore$Operation", name := "inverse", desc := "(LMarlStore$Value;)LMarlStore$Operation;" } : Jvm.MethodName)) ∈ gW := gW_in 959 (by decide +kernel) (by decide +kernel)
theorem tw_960 : (Jvm.Cond.instanceMethod ({ cls := "MarlStore$Operation", name := "inverse", desc := "(LMarlStore$Value;)LMarlStore$Operation;" } : Jvm.MethodName)) ∈ gW := gW_in 960 (by decide +kernel) (by decide +kernel)
theorem tw_961 : (Jvm.Cond.selects "MarlStore$Operation" ({ cls := "MarlStore$Operation", name := "inverse", desc := "(LMarlStore$Value;)LMarlStore$Operation;" } : Jvm.MethodName) ({ cls := "MarlStore$Operation", name := "inverse", desc := "(LMarlStore$Value;)LMarlStore$Operation;" } : Jvm.MethodName)) ∈ gW := gW_in 961 (by decide +kernel) (by decide +kernel)
theorem cv_X10_421 : gCv RX10 421 yX3_inverse := ⟨tw_959, tw_960, tw_961⟩
theorem tw_439 : (Jvm.Cond.methodLink "MarlStore" (425 : Nat) ({ cls := "MarlStore$Walk", name := "fill", desc := "(LMarlStore$Value;)V" } : Jvm.MethodName)) ∈ gW := gW_in 439 (by decide +kernel) (by decide +kernel)
theorem tw_440 : (Jvm.Cond.instanceMethod ({ cls := "MarlStore$Walk", name := "fill", desc := "(LMarlStore$Value;)V" } : Jvm.MethodName)) ∈ gW := gW_in 440 (by decide +kernel) (by decide +kernel)
theorem tw_441 : (Jvm.Cond.selects "MarlStore$Walk" ({ cls := "MarlStore$Walk", name := "fill", desc := "(LMarlStore$Value;)V" } : Jvm.MethodName) ({ cls := "MarlStore$Walk", name := "fill", desc := "(LMarlStore$Value;)V" } : Jvm.MethodName)) ∈ gW := gW_in 441 (by decide +kernel) (by decide +kernel)
theorem cv_X10_425 : gCv RX10 425 yX9_fill := ⟨tw_439, tw_440, tw_441⟩
theorem tw_563 : (Jvm.Cond.methodLink "MarlStore" (255 : Nat) ({ cls := "MarlStore", name := "schemaOf", desc := "(I)LMarlStore$Schema;" } : Jvm.MethodName)) ∈ gW := gW_in 563 (by decide +kernel) (by decide +kernel)
theorem tw_565 : (Jvm.Cond.instanceMethod ({ cls := "MarlStore", name := "schemaOf", desc := "(I)LMarlStore$Schema;" } : Jvm.MethodName)) ∈ gW := gW_in 565 (by decide +kernel) (by decide +kernel)
theorem tw_13 : (Jvm.Cond.selects "MarlStore" ({ cls := "MarlStore", name := "schemaOf", desc := "(I)LMarlStore$Schema;" } : Jvm.MethodName) ({ cls := "MarlStore", name := "schemaOf", desc := "(I)LMarlStore$Schema;" } : Jvm.MethodName)) ∈ gW := gW_in 13 (by decide +kernel) (by decide +kernel)
theorem cv_X10_255 : gCv RX10 255 yX10_schemaOf := ⟨tw_563, tw_565, tw_13⟩
theorem tw_568 : (Jvm.Cond.methodLink "MarlStore" (428 : Nat) ({ cls := "MarlStore$Checker", name := "countFailures", desc := "(II)I" } : Jvm.MethodName)) ∈ gW := gW_in 568 (by decide +kernel) (by decide +kernel)
theorem tw_569 : (Jvm.Cond.instanceMethod ({ cls := "MarlStore$Checker", name := "countFailures", desc := "(II)I" } : Jvm.MethodName)) ∈ gW := gW_in 569 (by decide +kernel) (by decide +kernel)
theorem tw_570 : (Jvm.Cond.selects "MarlStore$Checker" ({ cls := "MarlStore$Checker", name := "countFailures", desc := "(II)I" } : Jvm.MethodName) ({ cls := "MarlStore$Checker", name := "countFailures", desc := "(II)I" } : Jvm.MethodName)) ∈ gW := gW_in 570 (by decide +kernel) (by decide +kernel)
theorem cv_X10_428 : gCv RX10 428 yX0_countFailures := ⟨tw_568, tw_569, tw_570⟩
theorem tw_623 : (Jvm.Cond.methodLink "MarlStore" (430 : Nat) ({ cls := "MarlStore$Query", name := "findIn", desc := "(LMarlStore$Walk;)J" } : Jvm.MethodName)) ∈ gW := gW_in 623 (by decide +kernel) (by decide +kernel)
theorem tw_624 : (Jvm.Cond.instanceMethod ({ cls := "MarlStore$Query", name := "findIn", desc := "(LMarlStore$Walk;)J" } : Jvm.MethodName)) ∈ gW := gW_in 624 (by decide +kernel) (by decide +kernel)
theorem tw_625 : (Jvm.Cond.selects "MarlStore$Query" ({ cls := "MarlStore$Query", name := "findIn", desc := "(LMarlStore$Walk;)J" } : Jvm.MethodName) ({ cls := "MarlStore$Query", name := "findIn", desc := "(LMarlStore$Walk;)J" } : Jvm.MethodName)) ∈ gW := gW_in 625 (by decide +kernel) (by decide +kernel)
theorem cv_X10_430 : gCv RX10 430 yX6_findIn := ⟨tw_623, tw_624, tw_625⟩
theorem tw_247 : (Jvm.Cond.fieldLink "MarlStore" (437 : Nat) "MarlStore$Walk" "count" "I") ∈ gW := gW_in 247 (by decide +kernel) (by decide +kernel)
theorem fl_X10_437 : gFl RX10 437 9 0 RX9 TX9 5 tyX9 := ⟨kl_9, by decide, tw_247⟩
theorem tw_462 : (Jvm.Cond.methodLink "MarlStore" (345 : Nat) ({ cls := "MarlStore$Walk", name := "valueAt", desc := "(I)LMarlStore$Value;" } : Jvm.MethodName)) ∈ gW := gW_in 462 (by decide +kernel) (by decide +kernel)
theorem tw_463 : (Jvm.Cond.instanceMethod ({ cls := "MarlStore$Walk", name := "valueAt", desc := "(I)LMarlStore$Value;" } : Jvm.MethodName)) ∈ gW := gW_in 463 (by decide +kernel) (by decide +kernel)
theorem tw_464 : (Jvm.Cond.selects "MarlStore$Walk" ({ cls := "MarlStore$Walk", name := "valueAt", desc := "(I)LMarlStore$Value;" } : Jvm.MethodName) ({ cls := "MarlStore$Walk", name := "valueAt", desc := "(I)LMarlStore$Value;" } : Jvm.MethodName)) ∈ gW := gW_in 464 (by decide +kernel) (by decide +kernel)
theorem cv_X10_345 : gCv RX10 345 yX9_valueAt := ⟨tw_462, tw_463, tw_464⟩
theorem tw_517 : (Jvm.Cond.methodLink "MarlStore" (438 : Nat) ({ cls := "MarlStore", name := "operations", desc := "(I)I" } : Jvm.MethodName)) ∈ gW := gW_in 517 (by decide +kernel) (by decide +kernel)
theorem tw_518 : (Jvm.Cond.instanceMethod ({ cls := "MarlStore", name := "operations", desc := "(I)I" } : Jvm.MethodName)) ∈ gW := gW_in 518 (by decide +kernel) (by decide +kernel)
theorem tw_519 : (Jvm.Cond.selects "MarlStore" ({ cls := "MarlStore", name := "operations", desc := "(I)I" } : Jvm.MethodName) ({ cls := "MarlStore", name := "operations", desc := "(I)I" } : Jvm.MethodName)) ∈ gW := gW_in 519 (by decide +kernel) (by decide +kernel)
theorem cv_X10_438 : gCv RX10 438 yX10_operations := ⟨tw_517, tw_518, tw_519⟩
theorem tw_526 : (Jvm.Cond.methodLink "MarlStore" (441 : Nat) ({ cls := "MarlStore", name := "ofOperation", desc := "(III)I" } : Jvm.MethodName)) ∈ gW := gW_in 526 (by decide +kernel) (by decide +kernel)
theorem tw_527 : (Jvm.Cond.instanceMethod ({ cls := "MarlStore", name := "ofOperation", desc := "(III)I" } : Jvm.MethodName)) ∈ gW := gW_in 527 (by decide +kernel) (by decide +kernel)
theorem tw_528 : (Jvm.Cond.selects "MarlStore" ({ cls := "MarlStore", name := "ofOperation", desc := "(III)I" } : Jvm.MethodName) ({ cls := "MarlStore", name := "ofOperation", desc := "(III)I" } : Jvm.MethodName)) ∈ gW := gW_in 528 (by decide +kernel) (by decide +kernel)
theorem cv_X10_441 : gCv RX10 441 yX10_ofOperation := ⟨tw_526, tw_527, tw_528⟩
theorem tw_275 : (Jvm.Cond.fieldLink "MarlStore$Checker" (9 : Nat) "MarlStore$Checker" "by" "[I") ∈ gW := gW_in 275 (by decide +kernel) (by decide +kernel)
theorem fl_X0_9 : gFl RX0 9 0 6 RX0 TX0 7 tyX0 := ⟨kl_0, by decide, tw_275⟩
theorem tw_273 : (Jvm.Cond.fieldLink "MarlStore$Checker" (15 : Nat) "MarlStore$Checker" "walk" "LMarlStore$Walk;") ∈ gW := gW_in 273 (by decide +kernel) (by decide +kernel)
theorem fl_X0_15 : gFl RX0 15 0 4 RX0 TX0 7 tyX0 := ⟨kl_0, by decide, tw_273⟩
theorem tw_274 : (Jvm.Cond.fieldLink "MarlStore$Checker" (19 : Nat) "MarlStore$Checker" "schemas" "[LMarlStore$Schema;") ∈ gW := gW_in 274 (by decide +kernel) (by decide +kernel)
theorem fl_X0_19 : gFl RX0 19 0 5 RX0 TX0 7 tyX0 := ⟨kl_0, by decide, tw_274⟩
theorem tw_271 : (Jvm.Cond.fieldLink "MarlStore$Checker" (23 : Nat) "MarlStore$Checker" "wanted" "I") ∈ gW := gW_in 271 (by decide +kernel) (by decide +kernel)
theorem fl_X0_23 : gFl RX0 23 0 2 RX0 TX0 7 tyX0 := ⟨kl_0, by decide, tw_271⟩
theorem tw_272 : (Jvm.Cond.fieldLink "MarlStore$Checker" (27 : Nat) "MarlStore$Checker" "count" "I") ∈ gW := gW_in 272 (by decide +kernel) (by decide +kernel)
theorem fl_X0_27 : gFl RX0 27 0 3 RX0 TX0 7 tyX0 := ⟨kl_0, by decide, tw_272⟩
theorem tw_246 : (Jvm.Cond.fieldLink "MarlStore$Checker" (30 : Nat) "MarlStore$Walk" "count" "I") ∈ gW := gW_in 246 (by decide +kernel) (by decide +kernel)
theorem fl_X0_30 : gFl RX0 30 9 0 RX9 TX9 5 tyX9 := ⟨kl_9, by decide, tw_246⟩
theorem tw_572 : (Jvm.Cond.methodLink "MarlStore$Checker" (33 : Nat) ({ cls := "MarlStore$Walk", name := "valueAt", desc := "(I)LMarlStore$Value;" } : Jvm.MethodName)) ∈ gW := gW_in 572 (by decide +kernel) (by decide +kernel)
theorem cv_X0_33 : gCv RX0 33 yX9_valueAt := ⟨tw_572, tw_463, tw_464⟩
theorem tw_573 : (Jvm.Cond.methodLink "MarlStore$Checker" (37 : Nat) ({ cls := "MarlStore$Walk", name := "above", desc := "(I)I" } : Jvm.MethodName)) ∈ gW := gW_in 573 (by decide +kernel) (by decide +kernel)
theorem tw_574 : (Jvm.Cond.instanceMethod ({ cls := "MarlStore$Walk", name := "above", desc := "(I)I" } : Jvm.MethodName)) ∈ gW := gW_in 574 (by decide +kernel) (by decide +kernel)
theorem tw_575 : (Jvm.Cond.selects "MarlStore$Walk" ({ cls := "MarlStore$Walk", name := "above", desc := "(I)I" } : Jvm.MethodName) ({ cls := "MarlStore$Walk", name := "above", desc := "(I)I" } : Jvm.MethodName)) ∈ gW := gW_in 575 (by decide +kernel) (by decide +kernel)
theorem cv_X0_37 : gCv RX0 37 yX9_above := ⟨tw_573, tw_574, tw_575⟩
theorem tw_577 : (Jvm.Cond.methodLink "MarlStore$Checker" (41 : Nat) ({ cls := "MarlStore$Checker", name := "schemaBelow", desc := "(II)I" } : Jvm.MethodName)) ∈ gW := gW_in 577 (by decide +kernel) (by decide +kernel)
theorem tw_579 : (Jvm.Cond.instanceMethod ({ cls := "MarlStore$Checker", name := "schemaBelow", desc := "(II)I" } : Jvm.MethodName)) ∈ gW := gW_in 579 (by decide +kernel) (by decide +kernel)
theorem tw_14 : (Jvm.Cond.selects "MarlStore$Checker" ({ cls := "MarlStore$Checker", name := "schemaBelow", desc := "(II)I" } : Jvm.MethodName) ({ cls := "MarlStore$Checker", name := "schemaBelow", desc := "(II)I" } : Jvm.MethodName)) ∈ gW := gW_in 14 (by decide +kernel) (by decide +kernel)
theorem cv_X0_41 : gCv RX0 41 yX0_schemaBelow := ⟨tw_577, tw_579, tw_14⟩
theorem tw_593 : (Jvm.Cond.methodLink "MarlStore$Checker" (45 : Nat) ({ cls := "MarlStore$Checker", name := "note", desc := "(II)V" } : Jvm.MethodName)) ∈ gW := gW_in 593 (by decide +kernel) (by decide +kernel)
theorem tw_595 : (Jvm.Cond.instanceMethod ({ cls := "MarlStore$Checker", name := "note", desc := "(II)V" } : Jvm.MethodName)) ∈ gW := gW_in 595 (by decide +kernel) (by decide +kernel)
theorem tw_16 : (Jvm.Cond.selects "MarlStore$Checker" ({ cls := "MarlStore$Checker", name := "note", desc := "(II)V" } : Jvm.MethodName) ({ cls := "MarlStore$Checker", name := "note", desc := "(II)V" } : Jvm.MethodName)) ∈ gW := gW_in 16 (by decide +kernel) (by decide +kernel)
theorem cv_X0_45 : gCv RX0 45 yX0_note := ⟨tw_593, tw_595, tw_16⟩
theorem tw_597 : (Jvm.Cond.methodLink "MarlStore$Checker" (49 : Nat) ({ cls := "MarlStore$Checker", name := "isOfKind", desc := "(ILMarlStore$Value;LMarlStore$Schema;)Z" } : Jvm.MethodName)) ∈ gW := gW_in 597 (by decide +kernel) (by decide +kernel)
theorem tw_599 : (Jvm.Cond.instanceMethod ({ cls := "MarlStore$Checker", name := "isOfKind", desc := "(ILMarlStore$Value;LMarlStore$Schema;)Z" } : Jvm.MethodName)) ∈ gW := gW_in 599 (by decide +kernel) (by decide +kernel)
theorem tw_17 : (Jvm.Cond.selects "MarlStore$Checker" ({ cls := "MarlStore$Checker", name := "isOfKind", desc := "(ILMarlStore$Value;LMarlStore$Schema;)Z" } : Jvm.MethodName) ({ cls := "MarlStore$Checker", name := "isOfKind", desc := "(ILMarlStore$Value;LMarlStore$Schema;)Z" } : Jvm.MethodName)) ∈ gW := gW_in 17 (by decide +kernel) (by decide +kernel)
theorem cv_X0_49 : gCv RX0 49 yX0_isOfKind := ⟨tw_597, tw_599, tw_17⟩
theorem tw_78 : (Jvm.Cond.fieldLink "MarlStore$Checker" (53 : Nat) "MarlStore$Value" "kind" "I") ∈ gW := gW_in 78 (by decide +kernel) (by decide +kernel)
theorem fl_X0_53 : gFl RX0 53 8 0 RX8 TX8 6 tyX8 := ⟨kl_8, by decide, tw_78⟩
theorem tw_581 : (Jvm.Cond.methodLink "MarlStore$Checker" (58 : Nat) ({ cls := "MarlStore$Walk", name := "stepTo", desc := "(I)I" } : Jvm.MethodName)) ∈ gW := gW_in 581 (by decide +kernel) (by decide +kernel)
theorem tw_582 : (Jvm.Cond.instanceMethod ({ cls := "MarlStore$Walk", name := "stepTo", desc := "(I)I" } : Jvm.MethodName)) ∈ gW := gW_in 582 (by decide +kernel) (by decide +kernel)
theorem tw_583 : (Jvm.Cond.selects "MarlStore$Walk" ({ cls := "MarlStore$Walk", name := "stepTo", desc := "(I)I" } : Jvm.MethodName) ({ cls := "MarlStore$Walk", name := "stepTo", desc := "(I)I" } : Jvm.MethodName)) ∈ gW := gW_in 583 (by decide +kernel) (by decide +kernel)
theorem cv_X0_58 : gCv RX0 58 yX9_stepTo := ⟨tw_581, tw_582, tw_583⟩
theorem tw_585 : (Jvm.Cond.methodLink "MarlStore$Checker" (61 : Nat) ({ cls := "MarlStore$Schema", name := "forChild", desc := "(II)I" } : Jvm.MethodName)) ∈ gW := gW_in 585 (by decide +kernel) (by decide +kernel)
theorem tw_586 : (Jvm.Cond.instanceMethod ({ cls := "MarlStore$Schema", name := "forChild", desc := "(II)I" } : Jvm.MethodName)) ∈ gW := gW_in 586 (by decide +kernel) (by decide +kernel)
theorem tw_587 : (Jvm.Cond.selects "MarlStore$Schema" ({ cls := "MarlStore$Schema", name := "forChild", desc := "(II)I" } : Jvm.MethodName) ({ cls := "MarlStore$Schema", name := "forChild", desc := "(II)I" } : Jvm.MethodName)) ∈ gW := gW_in 587 (by decide +kernel) (by decide +kernel)
theorem cv_X0_61 : gCv RX0 61 yX7_forChild := ⟨tw_585, tw_586, tw_587⟩
theorem tw_200 : (Jvm.Cond.fieldLink "MarlStore$Checker" (66 : Nat) "MarlStore$Schema" "kinds" "I") ∈ gW := gW_in 200 (by decide +kernel) (by decide +kernel)
theorem fl_X0_66 : gFl RX0 66 7 0 RX7 TX7 11 tyX7 := ⟨kl_7, by decide, tw_200⟩
theorem tw_82 : (Jvm.Cond.fieldLink "MarlStore$Checker" (69 : Nat) "MarlStore$Value" "number" "I") ∈ gW := gW_in 82 (by decide +kernel) (by decide +kernel)
theorem fl_X0_69 : gFl RX0 69 8 1 RX8 TX8 6 tyX8 := ⟨kl_8, by decide, tw_82⟩
theorem tw_202 : (Jvm.Cond.fieldLink "MarlStore$Checker" (72 : Nat) "MarlStore$Schema" "low" "I") ∈ gW := gW_in 202 (by decide +kernel) (by decide +kernel)
theorem fl_X0_72 : gFl RX0 72 7 1 RX7 TX7 11 tyX7 := ⟨kl_7, by decide, tw_202⟩
theorem tw_204 : (Jvm.Cond.fieldLink "MarlStore$Checker" (75 : Nat) "MarlStore$Schema" "high" "I") ∈ gW := gW_in 204 (by decide +kernel) (by decide +kernel)
theorem fl_X0_75 : gFl RX0 75 7 2 RX7 TX7 11 tyX7 := ⟨kl_7, by decide, tw_204⟩
theorem tw_601 : (Jvm.Cond.methodLink "MarlStore$Checker" (78 : Nat) ({ cls := "MarlStore$Value", name := "width", desc := "()I" } : Jvm.MethodName)) ∈ gW := gW_in 601 (by decide +kernel) (by decide +kernel)
theorem cv_X0_78 : gCv RX0 78 yX8_width := ⟨tw_601, tw_451, tw_452⟩
theorem tw_205 : (Jvm.Cond.fieldLink "MarlStore$Checker" (82 : Nat) "MarlStore$Schema" "least" "I") ∈ gW := gW_in 205 (by decide +kernel) (by decide +kernel)
theorem fl_X0_82 : gFl RX0 82 7 3 RX7 TX7 11 tyX7 := ⟨kl_7, by decide, tw_205⟩
theorem tw_207 : (Jvm.Cond.fieldLink "MarlStore$Checker" (85 : Nat) "MarlStore$Schema" "most" "I") ∈ gW := gW_in 207 (by decide +kernel) (by decide +kernel)
theorem fl_X0_85 : gFl RX0 85 7 4 RX7 TX7 11 tyX7 := ⟨kl_7, by decide, tw_207⟩
theorem tw_602 : (Jvm.Cond.methodLink "MarlStore$Checker" (88 : Nat) ({ cls := "MarlStore$Schema", name := "countMissing", desc := "(LMarlStore$Value;)I" } : Jvm.MethodName)) ∈ gW := gW_in 602 (by decide +kernel) (by decide +kernel)
theorem tw_603 : (Jvm.Cond.instanceMethod ({ cls := "MarlStore$Schema", name := "countMissing", desc := "(LMarlStore$Value;)I" } : Jvm.MethodName)) ∈ gW := gW_in 603 (by decide +kernel) (by decide +kernel)
theorem tw_604 : (Jvm.Cond.selects "MarlStore$Schema" ({ cls := "MarlStore$Schema", name := "countMissing", desc := "(LMarlStore$Value;)I" } : Jvm.MethodName) ({ cls := "MarlStore$Schema", name := "countMissing", desc := "(LMarlStore$Value;)I" } : Jvm.MethodName)) ∈ gW := gW_in 604 (by decide +kernel) (by decide +kernel)
theorem cv_X0_88 : gCv RX0 88 yX7_countMissing := ⟨tw_602, tw_603, tw_604⟩
theorem tw_269 : (Jvm.Cond.fieldLink "MarlStore$Checker" (92 : Nat) "MarlStore$Checker" "wantedPlace" "I") ∈ gW := gW_in 269 (by decide +kernel) (by decide +kernel)
theorem fl_X0_92 : gFl RX0 92 0 0 RX0 TX0 7 tyX0 := ⟨kl_0, by decide, tw_269⟩
theorem tw_270 : (Jvm.Cond.fieldLink "MarlStore$Checker" (95 : Nat) "MarlStore$Checker" "wantedCode" "I") ∈ gW := gW_in 270 (by decide +kernel) (by decide +kernel)
theorem fl_X0_95 : gFl RX0 95 0 1 RX0 TX0 7 tyX0 := ⟨kl_0, by decide, tw_270⟩
theorem tw_179 : (Jvm.Cond.fieldLink "MarlStore$Differ" (9 : Nat) "MarlStore$Differ" "table" "[I") ∈ gW := gW_in 179 (by decide +kernel) (by decide +kernel)
theorem fl_X1_9 : gFl RX1 9 1 0 RX1 TX1 4 tyX1 := ⟨kl_1, by decide, tw_179⟩
theorem tw_180 : (Jvm.Cond.fieldLink "MarlStore$Differ" (15 : Nat) "MarlStore$Differ" "path" "[I") ∈ gW := gW_in 180 (by decide +kernel) (by decide +kernel)
theorem fl_X1_15 : gFl RX1 15 1 1 RX1 TX1 4 tyX1 := ⟨kl_1, by decide, tw_180⟩
theorem tw_178 : (Jvm.Cond.classLink "MarlStore$Differ" (18 : Nat) "MarlStore$Operation") ∈ gW := gW_in 178 (by decide +kernel) (by decide +kernel)
theorem tw_861 : (Jvm.Cond.instantiable "MarlStore$Operation" (4 : Nat)) ∈ gW := gW_in 861 (by decide +kernel) (by decide +kernel)
theorem nw_X1_18 : gNw RX1 18 3 RX3 TX3 4 tyX3 := ⟨kl_3, tw_178, tw_861, tw_54⟩
theorem tw_181 : (Jvm.Cond.fieldLink "MarlStore$Differ" (20 : Nat) "MarlStore$Differ" "written" "[LMarlStore$Operation;") ∈ gW := gW_in 181 (by decide +kernel) (by decide +kernel)
theorem fl_X1_20 : gFl RX1 20 1 2 RX1 TX1 4 tyX1 := ⟨kl_1, by decide, tw_181⟩
theorem tw_476 : (Jvm.Cond.methodLink "MarlStore$Differ" (24 : Nat) ({ cls := "MarlStore$Differ", name := "between", desc := "(LMarlStore$Value;LMarlStore$Value;II)I" } : Jvm.MethodName)) ∈ gW := gW_in 476 (by decide +kernel) (by decide +kernel)
theorem tw_478 : (Jvm.Cond.instanceMethod ({ cls := "MarlStore$Differ", name := "between", desc := "(LMarlStore$Value;LMarlStore$Value;II)I" } : Jvm.MethodName)) ∈ gW := gW_in 478 (by decide +kernel) (by decide +kernel)
theorem tw_4 : (Jvm.Cond.selects "MarlStore$Differ" ({ cls := "MarlStore$Differ", name := "between", desc := "(LMarlStore$Value;LMarlStore$Value;II)I" } : Jvm.MethodName) ({ cls := "MarlStore$Differ", name := "between", desc := "(LMarlStore$Value;LMarlStore$Value;II)I" } : Jvm.MethodName)) ∈ gW := gW_in 4 (by decide +kernel) (by decide +kernel)
theorem cv_X1_24 : gCv RX1 24 yX1_between := ⟨tw_476, tw_478, tw_4⟩
theorem tw_77 : (Jvm.Cond.fieldLink "MarlStore$Differ" (28 : Nat) "MarlStore$Value" "kind" "I") ∈ gW := gW_in 77 (by decide +kernel) (by decide +kernel)
theorem fl_X1_28 : gFl RX1 28 8 0 RX8 TX8 6 tyX8 := ⟨kl_8, by decide, tw_77⟩
theorem tw_480 : (Jvm.Cond.methodLink "MarlStore$Differ" (34 : Nat) ({ cls := "MarlStore$Differ", name := "fillTable", desc := "(LMarlStore$Value;LMarlStore$Value;II)Z" } : Jvm.MethodName)) ∈ gW := gW_in 480 (by decide +kernel) (by decide +kernel)
theorem tw_482 : (Jvm.Cond.instanceMethod ({ cls := "MarlStore$Differ", name := "fillTable", desc := "(LMarlStore$Value;LMarlStore$Value;II)Z" } : Jvm.MethodName)) ∈ gW := gW_in 482 (by decide +kernel) (by decide +kernel)
theorem tw_5 : (Jvm.Cond.selects "MarlStore$Differ" ({ cls := "MarlStore$Differ", name := "fillTable", desc := "(LMarlStore$Value;LMarlStore$Value;II)Z" } : Jvm.MethodName) ({ cls := "MarlStore$Differ", name := "fillTable", desc := "(LMarlStore$Value;LMarlStore$Value;II)Z" } : Jvm.MethodName)) ∈ gW := gW_in 5 (by decide +kernel) (by decide +kernel)
theorem cv_X1_34 : gCv RX1 34 yX1_fillTable := ⟨tw_480, tw_482, tw_5⟩
theorem tw_91 : (Jvm.Cond.fieldLink "MarlStore$Differ" (38 : Nat) "MarlStore$Value" "size" "I") ∈ gW := gW_in 91 (by decide +kernel) (by decide +kernel)
theorem fl_X1_38 : gFl RX1 38 8 4 RX8 TX8 6 tyX8 := ⟨kl_8, by decide, tw_91⟩
theorem tw_505 : (Jvm.Cond.methodLink "MarlStore$Differ" (41 : Nat) ({ cls := "MarlStore$Differ", name := "betweenObjects", desc := "(LMarlStore$Value;LMarlStore$Value;II)I" } : Jvm.MethodName)) ∈ gW := gW_in 505 (by decide +kernel) (by decide +kernel)
theorem tw_507 : (Jvm.Cond.instanceMethod ({ cls := "MarlStore$Differ", name := "betweenObjects", desc := "(LMarlStore$Value;LMarlStore$Value;II)I" } : Jvm.MethodName)) ∈ gW := gW_in 507 (by decide +kernel) (by decide +kernel)
theorem tw_9 : (Jvm.Cond.selects "MarlStore$Differ" ({ cls := "MarlStore$Differ", name := "betweenObjects", desc := "(LMarlStore$Value;LMarlStore$Value;II)I" } : Jvm.MethodName) ({ cls := "MarlStore$Differ", name := "betweenObjects", desc := "(LMarlStore$Value;LMarlStore$Value;II)I" } : Jvm.MethodName)) ∈ gW := gW_in 9 (by decide +kernel) (by decide +kernel)
theorem cv_X1_41 : gCv RX1 41 yX1_betweenObjects := ⟨tw_505, tw_507, tw_9⟩
theorem tw_81 : (Jvm.Cond.fieldLink "MarlStore$Differ" (44 : Nat) "MarlStore$Value" "number" "I") ∈ gW := gW_in 81 (by decide +kernel) (by decide +kernel)
theorem fl_X1_44 : gFl RX1 44 8 1 RX8 TX8 6 tyX8 := ⟨kl_8, by decide, tw_81⟩
theorem tw_484 : (Jvm.Cond.methodLink "MarlStore$Differ" (47 : Nat) ({ cls := "MarlStore$Value", name := "width", desc := "()I" } : Jvm.MethodName)) ∈ gW := gW_in 484 (by decide +kernel) (by decide +kernel)
theorem cv_X1_47 : gCv RX1 47 yX8_width := ⟨tw_484, tw_451, tw_452⟩
theorem tw_509 : (Jvm.Cond.methodLink "MarlStore$Differ" (51 : Nat) ({ cls := "MarlStore$Differ", name := "order", desc := "(LMarlStore$Value;ILMarlStore$Value;I)I" } : Jvm.MethodName)) ∈ gW := gW_in 509 (by decide +kernel) (by decide +kernel)
theorem tw_510 : (Jvm.Cond.static ({ cls := "MarlStore$Differ", name := "order", desc := "(LMarlStore$Value;ILMarlStore$Value;I)I" } : Jvm.MethodName)) ∈ gW := gW_in 510 (by decide +kernel) (by decide +kernel)
theorem cs_X1_51 : gCs RX1 51 yX1_order := ⟨tw_509, tw_510⟩
theorem tw_492 : (Jvm.Cond.methodLink "MarlStore$Differ" (55 : Nat) ({ cls := "MarlStore$Value", name := "partAt", desc := "(I)LMarlStore$Value;" } : Jvm.MethodName)) ∈ gW := gW_in 492 (by decide +kernel) (by decide +kernel)
theorem cv_X1_55 : gCv RX1 55 yX8_partAt := ⟨tw_492, tw_455, tw_456⟩
theorem tw_489 : (Jvm.Cond.methodLink "MarlStore$Differ" (59 : Nat) ({ cls := "MarlStore$Differ", name := "sizeAt", desc := "(LMarlStore$Value;I)I" } : Jvm.MethodName)) ∈ gW := gW_in 489 (by decide +kernel) (by decide +kernel)
theorem tw_490 : (Jvm.Cond.static ({ cls := "MarlStore$Differ", name := "sizeAt", desc := "(LMarlStore$Value;I)I" } : Jvm.MethodName)) ∈ gW := gW_in 490 (by decide +kernel) (by decide +kernel)
theorem cs_X1_59 : gCs RX1 59 yX1_sizeAt := ⟨tw_489, tw_490⟩
theorem tw_512 : (Jvm.Cond.methodLink "MarlStore$Differ" (63 : Nat) ({ cls := "MarlStore$Value", name := "stepOf", desc := "(I)I" } : Jvm.MethodName)) ∈ gW := gW_in 512 (by decide +kernel) (by decide +kernel)
theorem cv_X1_63 : gCv RX1 63 yX8_stepOf := ⟨tw_512, tw_459, tw_460⟩
theorem tw_485 : (Jvm.Cond.methodLink "MarlStore$Differ" (67 : Nat) ({ cls := "MarlStore$Differ", name := "leastFrom", desc := "(LMarlStore$Value;ILMarlStore$Value;III)I" } : Jvm.MethodName)) ∈ gW := gW_in 485 (by decide +kernel) (by decide +kernel)
theorem tw_487 : (Jvm.Cond.instanceMethod ({ cls := "MarlStore$Differ", name := "leastFrom", desc := "(LMarlStore$Value;ILMarlStore$Value;III)I" } : Jvm.MethodName)) ∈ gW := gW_in 487 (by decide +kernel) (by decide +kernel)
theorem tw_6 : (Jvm.Cond.selects "MarlStore$Differ" ({ cls := "MarlStore$Differ", name := "leastFrom", desc := "(LMarlStore$Value;ILMarlStore$Value;III)I" } : Jvm.MethodName) ({ cls := "MarlStore$Differ", name := "leastFrom", desc := "(LMarlStore$Value;ILMarlStore$Value;III)I" } : Jvm.MethodName)) ∈ gW := gW_in 6 (by decide +kernel) (by decide +kernel)
theorem cv_X1_67 : gCv RX1 67 yX1_leastFrom := ⟨tw_485, tw_487, tw_6⟩
theorem tw_493 : (Jvm.Cond.methodLink "MarlStore$Differ" (71 : Nat) ({ cls := "MarlStore$Differ", name := "cell", desc := "(LMarlStore$Value;ILMarlStore$Value;II)I" } : Jvm.MethodName)) ∈ gW := gW_in 493 (by decide +kernel) (by decide +kernel)
theorem tw_495 : (Jvm.Cond.instanceMethod ({ cls := "MarlStore$Differ", name := "cell", desc := "(LMarlStore$Value;ILMarlStore$Value;II)I" } : Jvm.MethodName)) ∈ gW := gW_in 495 (by decide +kernel) (by decide +kernel)
theorem tw_7 : (Jvm.Cond.selects "MarlStore$Differ" ({ cls := "MarlStore$Differ", name := "cell", desc := "(LMarlStore$Value;ILMarlStore$Value;II)I" } : Jvm.MethodName) ({ cls := "MarlStore$Differ", name := "cell", desc := "(LMarlStore$Value;ILMarlStore$Value;II)I" } : Jvm.MethodName)) ∈ gW := gW_in 7 (by decide +kernel) (by decide +kernel)
theorem cv_X1_71 : gCv RX1 71 yX1_cell := ⟨tw_493, tw_495, tw_7⟩
theorem tw_497 : (Jvm.Cond.methodLink "MarlStore$Differ" (75 : Nat) ({ cls := "java/lang/Math", name := "min", desc := "(II)I" } : Jvm.MethodName)) ∈ gW := gW_in 497 (by decide +kernel) (by decide +kernel)
theorem tw_444 : (Jvm.Cond.static ({ cls := "java/lang/Math", name := "min", desc := "(II)I" } : Jvm.MethodName)) ∈ gW := gW_in 444 (by decide +kernel) (by decide +kernel)
theorem cs_X1_75 : gCs RX1 75 yJ9_min_7cf53 := ⟨tw_497, tw_444⟩
theorem tw_498 : (Jvm.Cond.methodLink "MarlStore$Differ" (81 : Nat) ({ cls := "MarlStore$Differ", name := "pairedFrom", desc := "(LMarlStore$Value;ILMarlStore$Value;III)I" } : Jvm.MethodName)) ∈ gW := gW_in 498 (by decide +kernel) (by decide +kernel)
theorem tw_500 : (Jvm.Cond.instanceMethod ({ cls := "MarlStore$Differ", name := "pairedFrom", desc := "(LMarlStore$Value;ILMarlStore$Value;III)I" } : Jvm.MethodName)) ∈ gW := gW_in 500 (by decide +kernel) (by decide +kernel)
theorem tw_8 : (Jvm.Cond.selects "MarlStore$Differ" ({ cls := "MarlStore$Differ", name := "pairedFrom", desc := "(LMarlStore$Value;ILMarlStore$Value;III)I" } : Jvm.MethodName) ({ cls := "MarlStore$Differ", name := "pairedFrom", desc := "(LMarlStore$Value;ILMarlStore$Value;III)I" } : Jvm.MethodName)) ∈ gW := gW_in 8 (by decide +kernel) (by decide +kernel)
theorem cv_X1_81 : gCv RX1 81 yX1_pairedFrom := ⟨tw_498, tw_500, tw_8⟩
theorem tw_502 : (Jvm.Cond.methodLink "MarlStore$Differ" (84 : Nat) ({ cls := "MarlStore$Differ", name := "freeBehind", desc := "(LMarlStore$Value;LMarlStore$Value;I)I" } : Jvm.MethodName)) ∈ gW := gW_in 502 (by decide +kernel) (by decide +kernel)
theorem tw_503 : (Jvm.Cond.static ({ cls := "MarlStore$Differ", name := "freeBehind", desc := "(LMarlStore$Value;LMarlStore$Value;I)I" } : Jvm.MethodName)) ∈ gW := gW_in 503 (by decide +kernel) (by decide +kernel)
theorem cs_X1_84 : gCs RX1 84 yX1_freeBehind := ⟨tw_502, tw_503⟩
theorem tw_182 : (Jvm.Cond.fieldLink "MarlStore$Differ" (88 : Nat) "MarlStore$Differ" "count" "I") ∈ gW := gW_in 182 (by decide +kernel) (by decide +kernel)
theorem fl_X1_88 : gFl RX1 88 1 3 RX1 TX1 4 tyX1 := ⟨kl_1, by decide, tw_182⟩
theorem tw_838 : (Jvm.Cond.methodLink "MarlStore$Differ" (91 : Nat) ({ cls := "MarlStore$Differ", name := "writeAt", desc := "(LMarlStore$Value;LMarlStore$Value;II)V" } : Jvm.MethodName)) ∈ gW := gW_in 838 (by decide +kernel) (by decide +kernel)
theorem tw_840 : (Jvm.Cond.instanceMethod ({ cls := "MarlStore$Differ", name := "writeAt", desc := "(LMarlStore$Value;LMarlStore$Value;II)V" } : Jvm.MethodName)) ∈ gW := gW_in 840 (by decide +kernel) (by decide +kernel)
theorem tw_27 : (Jvm.Cond.selects "MarlStore$Differ" ({ cls := "MarlStore$Differ", name := "writeAt", desc := "(LMarlStore$Value;LMarlStore$Value;II)V" } : Jvm.MethodName) ({ cls := "MarlStore$Differ", name := "writeAt", desc := "(LMarlStore$Value;LMarlStore$Value;II)V" } : Jvm.MethodName)) ∈ gW := gW_in 27 (by decide +kernel) (by decide +kernel)
theorem cv_X1_91 : gCv RX1 91 yX1_writeAt := ⟨tw_838, tw_840, tw_27⟩
theorem tw_842 : (Jvm.Cond.methodLink "MarlStore$Differ" (95 : Nat) ({ cls := "MarlStore$Value", name := "isSameAs", desc := "(LMarlStore$Value;)Z" } : Jvm.MethodName)) ∈ gW := gW_in 842 (by decide +kernel) (by decide +kernel)
theorem tw_843 : (Jvm.Cond.instanceMethod ({ cls := "MarlStore$Value", name := "isSameAs", desc := "(LMarlStore$Value;)Z" } : Jvm.MethodName)) ∈ gW := gW_in 843 (by decide +kernel) (by decide +kernel)
theorem tw_844 : (Jvm.Cond.selects "MarlStore$Value" ({ cls := "MarlStore$Value", name := "isSameAs", desc := "(LMarlStore$Value;)Z" } : Jvm.MethodName) ({ cls := "MarlStore$Value", name := "isSameAs", desc := "(LMarlStore$Value;)Z" } : Jvm.MethodName)) ∈ gW := gW_in 844 (by decide +kernel) (by decide +kernel)
theorem cv_X1_95 : gCv RX1 95 yX8_isSameAs := ⟨tw_842, tw_843, tw_844⟩
theorem tw_849 : (Jvm.Cond.methodLink "MarlStore$Differ" (99 : Nat) ({ cls := "MarlStore$Differ", name := "writeLists", desc := "(LMarlStore$Value;LMarlStore$Value;II)V" } : Jvm.MethodName)) ∈ gW := gW_in 849 (by decide +kernel) (by decide +kernel)
theorem tw_851 : (Jvm.Cond.instanceMethod ({ cls := "MarlStore$Differ", name := "writeLists", desc := "(LMarlStore$Value;LMarlStore$Value;II)V" } : Jvm.MethodName)) ∈ gW := gW_in 851 (by decide +kernel) (by decide +kernel)
theorem tw_28 : (Jvm.Cond.selects "MarlStore$Differ" ({ cls := "MarlStore$Differ", name := "writeLists", desc := "(LMarlStore$Value;LMarlStore$Value;II)V" } : Jvm.MethodName) ({ cls := "MarlStore$Differ", name := "writeLists", desc := "(LMarlStore$Value;LMarlStore$Value;II)V" } : Jvm.MethodName)) ∈ gW := gW_in 28 (by decide +kernel) (by decide +kernel)
theorem cv_X1_99 : gCv RX1 99 yX1_writeLists := ⟨tw_849, tw_851, tw_28⟩
theorem tw_897 : (Jvm.Cond.methodLink "MarlStore$Differ" (102 : Nat) ({ cls := "MarlStore$Differ", name := "writeObjects", desc := "(LMarlStore$Value;LMarlStore$Value;II)V" } : Jvm.MethodName)) ∈ gW := gW_in 897 (by decide +kernel) (by decide +kernel)
theorem tw_899 : (Jvm.Cond.instanceMethod ({ cls := "MarlStore$Differ", name := "writeObjects", desc := "(LMarlStore$Value;LMarlStore$Value;II)V" } : Jvm.MethodName)) ∈ gW := gW_in 899 (by decide +kernel) (by decide +kernel)
theorem tw_31 : (Jvm.Cond.selects "MarlStore$Differ" ({ cls := "MarlStore$Differ", name := "writeObjects", desc := "(LMarlStore$Value;LMarlStore$Value;II)V" } : Jvm.MethodName) ({ cls := "MarlStore$Differ", name := "writeObjects", desc := "(LMarlStore$Value;LMarlStore$Value;II)V" } : Jvm.MethodName)) ∈ gW := gW_in 31 (by decide +kernel) (by decide +kernel)
theorem cv_X1_102 : gCv RX1 102 yX1_writeObjects := ⟨tw_897, tw_899, tw_31⟩
theorem tw_857 : (Jvm.Cond.methodLink "MarlStore$Differ" (105 : Nat) ({ cls := "MarlStore$Differ", name := "note", desc := "(IIILMarlStore$Value;)V" } : Jvm.MethodName)) ∈ gW := gW_in 857 (by decide +kernel) (by decide +kernel)
theorem tw_859 : (Jvm.Cond.instanceMethod ({ cls := "MarlStore$Differ", name := "note", desc := "(IIILMarlStore$Value;)V" } : Jvm.MethodName)) ∈ gW := gW_in 859 (by decide +kernel) (by decide +kernel)
theorem tw_30 : (Jvm.Cond.selects "MarlStore$Differ" ({ cls := "MarlStore$Differ", name := "note", desc := "(IIILMarlStore$Value;)V" } : Jvm.MethodName) ({ cls := "MarlStore$Differ", name := "note", desc := "(IIILMarlStore$Value;)V" } : Jvm.MethodName)) ∈ gW := gW_in 30 (by decide +kernel) (by decide +kernel)
theorem cv_X1_105 : gCv RX1 105 yX1_note := ⟨tw_857, tw_859, tw_30⟩
theorem tw_853 : (Jvm.Cond.methodLink "MarlStore$Differ" (109 : Nat) ({ cls := "MarlStore$Differ", name := "writeBelow", desc := "(LMarlStore$Value;LMarlStore$Value;III)V" } : Jvm.MethodName)) ∈ gW := gW_in 853 (by decide +kernel) (by decide +kernel)
theorem tw_855 : (Jvm.Cond.instanceMethod ({ cls := "MarlStore$Differ", name := "writeBelow", desc := "(LMarlStore$Value;LMarlStore$Value;III)V" } : Jvm.MethodName)) ∈ gW := gW_in 855 (by decide +kernel) (by decide +kernel)
theorem tw_29 : (Jvm.Cond.selects "MarlStore$Differ" ({ cls := "MarlStore$Differ", name := "writeBelow", desc := "(LMarlStore$Value;LMarlStore$Value;III)V" } : Jvm.MethodName) ({ cls := "MarlStore$Differ", name := "writeBelow", desc := "(LMarlStore$Value;LMarlStore$Value;III)V" } : Jvm.MethodName)) ∈ gW := gW_in 29 (by decide +kernel) (by decide +kernel)
theorem cv_X1_109 : gCv RX1 109 yX1_writeBelow := ⟨tw_853, tw_855, tw_29⟩
theorem tw_862 : (Jvm.Cond.methodLink "MarlStore$Differ" (113 : Nat) ({ cls := "java/util/Arrays", name := "copyOf", desc := "([II)[I" } : Jvm.MethodName)) ∈ gW := gW_in 862 (by decide +kernel) (by decide +kernel)
theorem tw_863 : (Jvm.Cond.static ({ cls := "java/util/Arrays", name := "copyOf", desc := "([II)[I" } : Jvm.MethodName)) ∈ gW := gW_in 863 (by decide +kernel) (by decide +kernel)
theorem cs_X1_113 : gCs RX1 113 yJ7_copyOf_59c91 := ⟨tw_862, tw_863⟩
theorem tw_876 : (Jvm.Cond.methodLink "MarlStore$Differ" (119 : Nat) ({ cls := "MarlStore$Operation", name := "<init>", desc := "(I[IILMarlStore$Value;)V" } : Jvm.MethodName)) ∈ gW := gW_in 876 (by decide +kernel) (by decide +kernel)
theorem tw_877 : (Jvm.Cond.instanceMethod ({ cls := "MarlStore$Operation", name := "<init>", desc := "(I[IILMarlStore$Value;)V" } : Jvm.MethodName)) ∈ gW := gW_in 877 (by decide +kernel) (by decide +kernel)
theorem ci_X1_119 : gCi RX1 119 yX3_init := ⟨tw_876, tw_877, by decide +kernel⟩
theorem tw_136 : (Jvm.Cond.classLink "MarlStore$Editor" (9 : Nat) "MarlStore$Value") ∈ gW := gW_in 136 (by decide +kernel) (by decide +kernel)
theorem nw_X2_9 : gNw RX2 9 8 RX8 TX8 6 tyX8 := ⟨kl_8, tw_136, tw_67, tw_38⟩
theorem tw_142 : (Jvm.Cond.fieldLink "MarlStore$Editor" (11 : Nat) "MarlStore$Editor" "passed" "[LMarlStore$Value;") ∈ gW := gW_in 142 (by decide +kernel) (by decide +kernel)
theorem fl_X2_11 : gFl RX2 11 2 3 RX2 TX2 5 tyX2 := ⟨kl_2, by decide, tw_142⟩
theorem tw_143 : (Jvm.Cond.fieldLink "MarlStore$Editor" (17 : Nat) "MarlStore$Editor" "places" "[I") ∈ gW := gW_in 143 (by decide +kernel) (by decide +kernel)
theorem fl_X2_17 : gFl RX2 17 2 4 RX2 TX2 5 tyX2 := ⟨kl_2, by decide, tw_143⟩
theorem tw_137 : (Jvm.Cond.fieldLink "MarlStore$Editor" (21 : Nat) "MarlStore$Editor" "whole" "LMarlStore$Value;") ∈ gW := gW_in 137 (by decide +kernel) (by decide +kernel)
theorem fl_X2_21 : gFl RX2 21 2 0 RX2 TX2 5 tyX2 := ⟨kl_2, by decide, tw_137⟩
theorem tw_139 : (Jvm.Cond.fieldLink "MarlStore$Editor" (25 : Nat) "MarlStore$Editor" "taken" "LMarlStore$Value;") ∈ gW := gW_in 139 (by decide +kernel) (by decide +kernel)
theorem fl_X2_25 : gFl RX2 25 2 1 RX2 TX2 5 tyX2 := ⟨kl_2, by decide, tw_139⟩
theorem tw_89 : (Jvm.Cond.fieldLink "MarlStore$Editor" (28 : Nat) "MarlStore$Value" "size" "I") ∈ gW := gW_in 89 (by decide +kernel) (by decide +kernel)
theorem fl_X2_28 : gFl RX2 28 8 4 RX8 TX8 6 tyX8 := ⟨kl_8, by decide, tw_89⟩
theorem tw_94 : (Jvm.Cond.fieldLink "MarlStore$Editor" (32 : Nat) "MarlStore$Value" "depth" "I") ∈ gW := gW_in 94 (by decide +kernel) (by decide +kernel)
theorem fl_X2_32 : gFl RX2 32 8 5 RX8 TX8 6 tyX8 := ⟨kl_8, by decide, tw_94⟩
theorem tw_883 : (Jvm.Cond.fieldLink "MarlStore$Editor" (35 : Nat) "MarlStore$Operation" "path" "[I") ∈ gW := gW_in 883 (by decide +kernel) (by decide +kernel)
theorem fl_X2_35 : gFl RX2 35 3 1 RX3 TX3 4 tyX3 := ⟨kl_3, by decide, tw_883⟩
theorem tw_881 : (Jvm.Cond.fieldLink "MarlStore$Editor" (40 : Nat) "MarlStore$Operation" "code" "I") ∈ gW := gW_in 881 (by decide +kernel) (by decide +kernel)
theorem fl_X2_40 : gFl RX2 40 3 0 RX3 TX3 4 tyX3 := ⟨kl_3, by decide, tw_881⟩
theorem tw_885 : (Jvm.Cond.fieldLink "MarlStore$Editor" (43 : Nat) "MarlStore$Operation" "step" "I") ∈ gW := gW_in 885 (by decide +kernel) (by decide +kernel)
theorem fl_X2_43 : gFl RX2 43 3 2 RX3 TX3 4 tyX3 := ⟨kl_3, by decide, tw_885⟩
theorem tw_887 : (Jvm.Cond.fieldLink "MarlStore$Editor" (46 : Nat) "MarlStore$Operation" "value" "LMarlStore$Value;") ∈ gW := gW_in 887 (by decide +kernel) (by decide +kernel)
theorem fl_X2_46 : gFl RX2 46 3 3 RX3 TX3 4 tyX3 := ⟨kl_3, by decide, tw_887⟩
theorem tw_931 : (Jvm.Cond.methodLink "MarlStore$Editor" (49 : Nat) ({ cls := "MarlStore$Editor", name := "addAt", desc := "([IIILMarlStore$Value;)Z" } : Jvm.MethodName)) ∈ gW := gW_in 931 (by decide +kernel) (by decide +kernel)
theorem cv_X2_49 : gCv RX2 49 yX2_addAt := ⟨tw_931, tw_802, tw_803⟩
theorem tw_932 : (Jvm.Cond.methodLink "MarlStore$Editor" (53 : Nat) ({ cls := "MarlStore$Editor", name := "dropAt", desc := "([III)Z" } : Jvm.MethodName)) ∈ gW := gW_in 932 (by decide +kernel) (by decide +kernel)
theorem cv_X2_53 : gCv RX2 53 yX2_dropAt := ⟨tw_932, tw_823, tw_824⟩
theorem tw_933 : (Jvm.Cond.methodLink "MarlStore$Editor" (57 : Nat) ({ cls := "MarlStore$Editor", name := "putAt", desc := "([IILMarlStore$Value;)Z" } : Jvm.MethodName)) ∈ gW := gW_in 933 (by decide +kernel) (by decide +kernel)
theorem cv_X2_57 : gCv RX2 57 yX2_putAt := ⟨tw_933, tw_755, tw_756⟩
theorem tw_934 : (Jvm.Cond.methodLink "MarlStore$Editor" (61 : Nat) ({ cls := "MarlStore$Editor", name := "testAt", desc := "([IILMarlStore$Value;)Z" } : Jvm.MethodName)) ∈ gW := gW_in 934 (by decide +kernel) (by decide +kernel)
theorem tw_936 : (Jvm.Cond.instanceMethod ({ cls := "MarlStore$Editor", name := "testAt", desc := "([IILMarlStore$Value;)Z" } : Jvm.MethodName)) ∈ gW := gW_in 936 (by decide +kernel) (by decide +kernel)
theorem tw_34 : (Jvm.Cond.selects "MarlStore$Editor" ({ cls := "MarlStore$Editor", name := "testAt", desc := "([IILMarlStore$Value;)Z" } : Jvm.MethodName) ({ cls := "MarlStore$Editor", name := "testAt", desc := "([IILMarlStore$Value;)Z" } : Jvm.MethodName)) ∈ gW := gW_in 34 (by decide +kernel) (by decide +kernel)
theorem cv_X2_61 : gCv RX2 61 yX2_testAt := ⟨tw_934, tw_936, tw_34⟩
theorem tw_758 : (Jvm.Cond.methodLink "MarlStore$Editor" (64 : Nat) ({ cls := "MarlStore$Editor", name := "follow", desc := "([II)LMarlStore$Value;" } : Jvm.MethodName)) ∈ gW := gW_in 758 (by decide +kernel) (by decide +kernel)
theorem tw_760 : (Jvm.Cond.instanceMethod ({ cls := "MarlStore$Editor", name := "follow", desc := "([II)LMarlStore$Value;" } : Jvm.MethodName)) ∈ gW := gW_in 760 (by decide +kernel) (by decide +kernel)
theorem tw_23 : (Jvm.Cond.selects "MarlStore$Editor" ({ cls := "MarlStore$Editor", name := "follow", desc := "([II)LMarlStore$Value;" } : Jvm.MethodName) ({ cls := "MarlStore$Editor", name := "follow", desc := "([II)LMarlStore$Value;" } : Jvm.MethodName)) ∈ gW := gW_in 23 (by decide +kernel) (by decide +kernel)
theorem cv_X2_64 : gCv RX2 64 yX2_follow := ⟨tw_758, tw_760, tw_23⟩
theorem tw_805 : (Jvm.Cond.methodLink "MarlStore$Editor" (68 : Nat) ({ cls := "MarlStore$Value", name := "placeToAdd", desc := "(I)I" } : Jvm.MethodName)) ∈ gW := gW_in 805 (by decide +kernel) (by decide +kernel)
theorem tw_806 : (Jvm.Cond.instanceMethod ({ cls := "MarlStore$Value", name := "placeToAdd", desc := "(I)I" } : Jvm.MethodName)) ∈ gW := gW_in 806 (by decide +kernel) (by decide +kernel)
theorem tw_807 : (Jvm.Cond.selects "MarlStore$Value" ({ cls := "MarlStore$Value", name := "placeToAdd", desc := "(I)I" } : Jvm.MethodName) ({ cls := "MarlStore$Value", name := "placeToAdd", desc := "(I)I" } : Jvm.MethodName)) ∈ gW := gW_in 807 (by decide +kernel) (by decide +kernel)
theorem cv_X2_68 : gCv RX2 68 yX8_placeToAdd := ⟨tw_805, tw_806, tw_807⟩
theorem tw_809 : (Jvm.Cond.methodLink "MarlStore$Editor" (72 : Nat) ({ cls := "MarlStore$Value", name := "withAdded", desc := "(IILMarlStore$Value;)LMarlStore$Value;" } : Jvm.MethodName)) ∈ gW := gW_in 809 (by decide +kernel) (by decide +kernel)
theorem tw_810 : (Jvm.Cond.instanceMethod ({ cls := "MarlStore$Value", name := "withAdded", desc := "(IILMarlStore$Value;)LMarlStore$Value;" } : Jvm.MethodName)) ∈ gW := gW_in 810 (by decide +kernel) (by decide +kernel)
theorem tw_811 : (Jvm.Cond.selects "MarlStore$Value" ({ cls := "MarlStore$Value", name := "withAdded", desc := "(IILMarlStore$Value;)LMarlStore$Value;" } : Jvm.MethodName) ({ cls := "MarlStore$Value", name := "withAdded", desc := "(IILMarlStore$Value;)LMarlStore$Value;" } : Jvm.MethodName)) ∈ gW := gW_in 811 (by decide +kernel) (by decide +kernel)
theorem cv_X2_72 : gCv RX2 72 yX8_withAdded := ⟨tw_809, tw_810, tw_811⟩
theorem tw_764 : (Jvm.Cond.methodLink "MarlStore$Editor" (76 : Nat) ({ cls := "MarlStore$Editor", name := "rebuild", desc := "(LMarlStore$Value;)V" } : Jvm.MethodName)) ∈ gW := gW_in 764 (by decide +kernel) (by decide +kernel)
theorem tw_766 : (Jvm.Cond.instanceMethod ({ cls := "MarlStore$Editor", name := "rebuild", desc := "(LMarlStore$Value;)V" } : Jvm.MethodName)) ∈ gW := gW_in 766 (by decide +kernel) (by decide +kernel)
theorem tw_24 : (Jvm.Cond.selects "MarlStore$Editor" ({ cls := "MarlStore$Editor", name := "rebuild", desc := "(LMarlStore$Value;)V" } : Jvm.MethodName) ({ cls := "MarlStore$Editor", name := "rebuild", desc := "(LMarlStore$Value;)V" } : Jvm.MethodName)) ∈ gW := gW_in 24 (by decide +kernel) (by decide +kernel)
theorem cv_X2_76 : gCv RX2 76 yX2_rebuild := ⟨tw_764, tw_766, tw_24⟩
theorem tw_762 : (Jvm.Cond.methodLink "MarlStore$Editor" (80 : Nat) ({ cls := "MarlStore$Value", name := "placeOf", desc := "(I)I" } : Jvm.MethodName)) ∈ gW := gW_in 762 (by decide +kernel) (by decide +kernel)
theorem cv_X2_80 : gCv RX2 80 yX8_placeOf := ⟨tw_762, tw_607, tw_608⟩
theorem tw_763 : (Jvm.Cond.methodLink "MarlStore$Editor" (83 : Nat) ({ cls := "MarlStore$Value", name := "partAt", desc := "(I)LMarlStore$Value;" } : Jvm.MethodName)) ∈ gW := gW_in 763 (by decide +kernel) (by decide +kernel)
theorem cv_X2_83 : gCv RX2 83 yX8_partAt := ⟨tw_763, tw_455, tw_456⟩
theorem tw_826 : (Jvm.Cond.methodLink "MarlStore$Editor" (87 : Nat) ({ cls := "MarlStore$Value", name := "withoutPart", desc := "(I)LMarlStore$Value;" } : Jvm.MethodName)) ∈ gW := gW_in 826 (by decide +kernel) (by decide +kernel)
theorem tw_827 : (Jvm.Cond.instanceMethod ({ cls := "MarlStore$Value", name := "withoutPart", desc := "(I)LMarlStore$Value;" } : Jvm.MethodName)) ∈ gW := gW_in 827 (by decide +kernel) (by decide +kernel)
theorem tw_828 : (Jvm.Cond.selects "MarlStore$Value" ({ cls := "MarlStore$Value", name := "withoutPart", desc := "(I)LMarlStore$Value;" } : Jvm.MethodName) ({ cls := "MarlStore$Value", name := "withoutPart", desc := "(I)LMarlStore$Value;" } : Jvm.MethodName)) ∈ gW := gW_in 828 (by decide +kernel) (by decide +kernel)
theorem cv_X2_87 : gCv RX2 87 yX8_withoutPart := ⟨tw_826, tw_827, tw_828⟩
theorem tw_938 : (Jvm.Cond.methodLink "MarlStore$Editor" (90 : Nat) ({ cls := "MarlStore$Value", name := "isSameAs", desc := "(LMarlStore$Value;)Z" } : Jvm.MethodName)) ∈ gW := gW_in 938 (by decide +kernel) (by decide +kernel)
theorem cv_X2_90 : gCv RX2 90 yX8_isSameAs := ⟨tw_938, tw_843, tw_844⟩
theorem tw_141 : (Jvm.Cond.fieldLink "MarlStore$Editor" (94 : Nat) "MarlStore$Editor" "length" "I") ∈ gW := gW_in 141 (by decide +kernel) (by decide +kernel)
theorem fl_X2_94 : gFl RX2 94 2 2 RX2 TX2 5 tyX2 := ⟨kl_2, by decide, tw_141⟩
theorem tw_768 : (Jvm.Cond.methodLink "MarlStore$Editor" (97 : Nat) ({ cls := "MarlStore$Value", name := "withPart", desc := "(ILMarlStore$Value;)LMarlStore$Value;" } : Jvm.MethodName)) ∈ gW := gW_in 768 (by decide +kernel) (by decide +kernel)
theorem tw_769 : (Jvm.Cond.instanceMethod ({ cls := "MarlStore$Value", name := "withPart", desc := "(ILMarlStore$Value;)LMarlStore$Value;" } : Jvm.MethodName)) ∈ gW := gW_in 769 (by decide +kernel) (by decide +kernel)
theorem tw_770 : (Jvm.Cond.selects "MarlStore$Value" ({ cls := "MarlStore$Value", name := "withPart", desc := "(ILMarlStore$Value;)LMarlStore$Value;" } : Jvm.MethodName) ({ cls := "MarlStore$Value", name := "withPart", desc := "(ILMarlStore$Value;)LMarlStore$Value;" } : Jvm.MethodName)) ∈ gW := gW_in 770 (by decide +kernel) (by decide +kernel)
theorem cv_X2_97 : gCv RX2 97 yX8_withPart := ⟨tw_768, tw_769, tw_770⟩
theorem tw_880 : (Jvm.Cond.fieldLink "MarlStore$Operation" (9 : Nat) "MarlStore$Operation" "code" "I") ∈ gW := gW_in 880 (by decide +kernel) (by decide +kernel)
theorem fl_X3_9 : gFl RX3 9 3 0 RX3 TX3 4 tyX3 := ⟨kl_3, by decide, tw_880⟩
theorem tw_882 : (Jvm.Cond.fieldLink "MarlStore$Operation" (15 : Nat) "MarlStore$Operation" "path" "[I") ∈ gW := gW_in 882 (by decide +kernel) (by decide +kernel)
theorem fl_X3_15 : gFl RX3 15 3 1 RX3 TX3 4 tyX3 := ⟨kl_3, by decide, tw_882⟩
theorem tw_884 : (Jvm.Cond.fieldLink "MarlStore$Operation" (19 : Nat) "MarlStore$Operation" "step" "I") ∈ gW := gW_in 884 (by decide +kernel) (by decide +kernel)
theorem fl_X3_19 : gFl RX3 19 3 2 RX3 TX3 4 tyX3 := ⟨kl_3, by decide, tw_884⟩
theorem tw_886 : (Jvm.Cond.fieldLink "MarlStore$Operation" (22 : Nat) "MarlStore$Operation" "value" "LMarlStore$Value;") ∈ gW := gW_in 886 (by decide +kernel) (by decide +kernel)
theorem fl_X3_22 : gFl RX3 22 3 3 RX3 TX3 4 tyX3 := ⟨kl_3, by decide, tw_886⟩
theorem tw_963 : (Jvm.Cond.classLink "MarlStore$Operation" (10 : Nat) "MarlStore$Operation") ∈ gW := gW_in 963 (by decide +kernel) (by decide +kernel)
theorem nw_X3_10 : gNw RX3 10 3 RX3 TX3 4 tyX3 := ⟨kl_3, tw_963, tw_861, tw_54⟩
theorem tw_964 : (Jvm.Cond.methodLink "MarlStore$Operation" (26 : Nat) ({ cls := "MarlStore$Operation", name := "<init>", desc := "(I[IILMarlStore$Value;)V" } : Jvm.MethodName)) ∈ gW := gW_in 964 (by decide +kernel) (by decide +kernel)
theorem ci_X3_26 : gCi RX3 26 yX3_init := ⟨tw_964, tw_877, by decide +kernel⟩
theorem tw_90 : (Jvm.Cond.fieldLink "MarlStore$Operation" (29 : Nat) "MarlStore$Value" "size" "I") ∈ gW := gW_in 90 (by decide +kernel) (by decide +kernel)
theorem fl_X3_29 : gFl RX3 29 8 4 RX8 TX8 6 tyX8 := ⟨kl_8, by decide, tw_90⟩
theorem tw_162 : (Jvm.Cond.classLink "MarlStore$Patch" (9 : Nat) "MarlStore$Operation") ∈ gW := gW_in 162 (by decide +kernel) (by decide +kernel)
theorem nw_X4_9 : gNw RX4 9 3 RX3 TX3 4 tyX3 := ⟨kl_3, tw_162, tw_861, tw_54⟩
theorem tw_166 : (Jvm.Cond.fieldLink "MarlStore$Patch" (11 : Nat) "MarlStore$Patch" "held" "[LMarlStore$Operation;") ∈ gW := gW_in 166 (by decide +kernel) (by decide +kernel)
theorem fl_X4_11 : gFl RX4 11 4 1 RX4 TX4 2 tyX4 := ⟨kl_4, by decide, tw_166⟩
theorem tw_164 : (Jvm.Cond.fieldLink "MarlStore$Patch" (17 : Nat) "MarlStore$Patch" "count" "I") ∈ gW := gW_in 164 (by decide +kernel) (by decide +kernel)
theorem fl_X4_17 : gFl RX4 17 4 0 RX4 TX4 2 tyX4 := ⟨kl_4, by decide, tw_164⟩
theorem tw_120 : (Jvm.Cond.fieldLink "MarlStore$Pointer" (9 : Nat) "MarlStore$Pointer" "path" "[I") ∈ gW := gW_in 120 (by decide +kernel) (by decide +kernel)
theorem fl_X5_9 : gFl RX5 9 5 2 RX5 TX5 3 tyX5 := ⟨kl_5, by decide, tw_120⟩
theorem tw_116 : (Jvm.Cond.fieldLink "MarlStore$Pointer" (34 : Nat) "MarlStore$Pointer" "at" "I") ∈ gW := gW_in 116 (by decide +kernel) (by decide +kernel)
theorem fl_X5_34 : gFl RX5 34 5 0 RX5 TX5 3 tyX5 := ⟨kl_5, by decide, tw_116⟩
theorem tw_118 : (Jvm.Cond.fieldLink "MarlStore$Pointer" (15 : Nat) "MarlStore$Pointer" "length" "I") ∈ gW := gW_in 118 (by decide +kernel) (by decide +kernel)
theorem fl_X5_15 : gFl RX5 15 5 1 RX5 TX5 3 tyX5 := ⟨kl_5, by decide, tw_118⟩
theorem tw_791 : (Jvm.Cond.methodLink "MarlStore$Pointer" (49 : Nat) ({ cls := "MarlStore$Value", name := "placeOf", desc := "(I)I" } : Jvm.MethodName)) ∈ gW := gW_in 791 (by decide +kernel) (by decide +kernel)
theorem cv_X5_49 : gCv RX5 49 yX8_placeOf := ⟨tw_791, tw_607, tw_608⟩
theorem tw_792 : (Jvm.Cond.methodLink "MarlStore$Pointer" (54 : Nat) ({ cls := "MarlStore$Value", name := "partAt", desc := "(I)LMarlStore$Value;" } : Jvm.MethodName)) ∈ gW := gW_in 792 (by decide +kernel) (by decide +kernel)
theorem cv_X5_54 : gCv RX5 54 yX8_partAt := ⟨tw_792, tw_455, tw_456⟩
theorem tw_300 : (Jvm.Cond.fieldLink "MarlStore$Query" (9 : Nat) "MarlStore$Query" "codes" "[I") ∈ gW := gW_in 300 (by decide +kernel) (by decide +kernel)
theorem fl_X6_9 : gFl RX6 9 6 1 RX6 TX6 3 tyX6 := ⟨kl_6, by decide, tw_300⟩
theorem tw_301 : (Jvm.Cond.fieldLink "MarlStore$Query" (15 : Nat) "MarlStore$Query" "ns" "[I") ∈ gW := gW_in 301 (by decide +kernel) (by decide +kernel)
theorem fl_X6_15 : gFl RX6 15 6 2 RX6 TX6 3 tyX6 := ⟨kl_6, by decide, tw_301⟩
theorem tw_298 : (Jvm.Cond.fieldLink "MarlStore$Query" (18 : Nat) "MarlStore$Query" "count" "I") ∈ gW := gW_in 298 (by decide +kernel) (by decide +kernel)
theorem fl_X6_18 : gFl RX6 18 6 0 RX6 TX6 3 tyX6 := ⟨kl_6, by decide, tw_298⟩
theorem tw_627 : (Jvm.Cond.methodLink "MarlStore$Query" (22 : Nat) ({ cls := "MarlStore$Walk", name := "pick", desc := "(JII)J" } : Jvm.MethodName)) ∈ gW := gW_in 627 (by decide +kernel) (by decide +kernel)
theorem tw_628 : (Jvm.Cond.instanceMethod ({ cls := "MarlStore$Walk", name := "pick", desc := "(JII)J" } : Jvm.MethodName)) ∈ gW := gW_in 628 (by decide +kernel) (by decide +kernel)
theorem tw_629 : (Jvm.Cond.selects "MarlStore$Walk" ({ cls := "MarlStore$Walk", name := "pick", desc := "(JII)J" } : Jvm.MethodName) ({ cls := "MarlStore$Walk", name := "pick", desc := "(JII)J" } : Jvm.MethodName)) ∈ gW := gW_in 629 (by decide +kernel) (by decide +kernel)
theorem cv_X6_22 : gCv RX6 22 yX9_pick := ⟨tw_627, tw_628, tw_629⟩
theorem tw_199 : (Jvm.Cond.fieldLink "MarlStore$Schema" (9 : Nat) "MarlStore$Schema" "kinds" "I") ∈ gW := gW_in 199 (by decide +kernel) (by decide +kernel)
theorem fl_X7_9 : gFl RX7 9 7 0 RX7 TX7 11 tyX7 := ⟨kl_7, by decide, tw_199⟩
theorem tw_201 : (Jvm.Cond.fieldLink "MarlStore$Schema" (15 : Nat) "MarlStore$Schema" "low" "I") ∈ gW := gW_in 201 (by decide +kernel) (by decide +kernel)
theorem fl_X7_15 : gFl RX7 15 7 1 RX7 TX7 11 tyX7 := ⟨kl_7, by decide, tw_201⟩
theorem tw_203 : (Jvm.Cond.fieldLink "MarlStore$Schema" (18 : Nat) "MarlStore$Schema" "high" "I") ∈ gW := gW_in 203 (by decide +kernel) (by decide +kernel)
theorem fl_X7_18 : gFl RX7 18 7 2 RX7 TX7 11 tyX7 := ⟨kl_7, by decide, tw_203⟩
theorem tw_206 : (Jvm.Cond.fieldLink "MarlStore$Schema" (21 : Nat) "MarlStore$Schema" "most" "I") ∈ gW := gW_in 206 (by decide +kernel) (by decide +kernel)
theorem fl_X7_21 : gFl RX7 21 7 4 RX7 TX7 11 tyX7 := ⟨kl_7, by decide, tw_206⟩
theorem tw_208 : (Jvm.Cond.fieldLink "MarlStore$Schema" (24 : Nat) "MarlStore$Schema" "item" "I") ∈ gW := gW_in 208 (by decide +kernel) (by decide +kernel)
theorem fl_X7_24 : gFl RX7 24 7 5 RX7 TX7 11 tyX7 := ⟨kl_7, by decide, tw_208⟩
theorem tw_209 : (Jvm.Cond.fieldLink "MarlStore$Schema" (27 : Nat) "MarlStore$Schema" "rest" "I") ∈ gW := gW_in 209 (by decide +kernel) (by decide +kernel)
theorem fl_X7_27 : gFl RX7 27 7 6 RX7 TX7 11 tyX7 := ⟨kl_7, by decide, tw_209⟩
theorem tw_211 : (Jvm.Cond.fieldLink "MarlStore$Schema" (30 : Nat) "MarlStore$Schema" "keys" "[I") ∈ gW := gW_in 211 (by decide +kernel) (by decide +kernel)
theorem fl_X7_30 : gFl RX7 30 7 8 RX7 TX7 11 tyX7 := ⟨kl_7, by decide, tw_211⟩
theorem tw_212 : (Jvm.Cond.fieldLink "MarlStore$Schema" (34 : Nat) "MarlStore$Schema" "owns" "[I") ∈ gW := gW_in 212 (by decide +kernel) (by decide +kernel)
theorem fl_X7_34 : gFl RX7 34 7 9 RX7 TX7 11 tyX7 := ⟨kl_7, by decide, tw_212⟩
theorem tw_213 : (Jvm.Cond.fieldLink "MarlStore$Schema" (37 : Nat) "MarlStore$Schema" "isNeeded" "[Z") ∈ gW := gW_in 213 (by decide +kernel) (by decide +kernel)
theorem fl_X7_37 : gFl RX7 37 7 10 RX7 TX7 11 tyX7 := ⟨kl_7, by decide, tw_213⟩
theorem tw_210 : (Jvm.Cond.fieldLink "MarlStore$Schema" (45 : Nat) "MarlStore$Schema" "keyCount" "I") ∈ gW := gW_in 210 (by decide +kernel) (by decide +kernel)
theorem fl_X7_45 : gFl RX7 45 7 7 RX7 TX7 11 tyX7 := ⟨kl_7, by decide, tw_210⟩
theorem tw_589 : (Jvm.Cond.methodLink "MarlStore$Schema" (41 : Nat) ({ cls := "MarlStore$Schema", name := "placeOfKey", desc := "(I)I" } : Jvm.MethodName)) ∈ gW := gW_in 589 (by decide +kernel) (by decide +kernel)
theorem tw_591 : (Jvm.Cond.instanceMethod ({ cls := "MarlStore$Schema", name := "placeOfKey", desc := "(I)I" } : Jvm.MethodName)) ∈ gW := gW_in 591 (by decide +kernel) (by decide +kernel)
theorem tw_15 : (Jvm.Cond.selects "MarlStore$Schema" ({ cls := "MarlStore$Schema", name := "placeOfKey", desc := "(I)I" } : Jvm.MethodName) ({ cls := "MarlStore$Schema", name := "placeOfKey", desc := "(I)I" } : Jvm.MethodName)) ∈ gW := gW_in 15 (by decide +kernel) (by decide +kernel)
theorem cv_X7_41 : gCv RX7 41 yX7_placeOfKey := ⟨tw_589, tw_591, tw_15⟩
theorem tw_606 : (Jvm.Cond.methodLink "MarlStore$Schema" (51 : Nat) ({ cls := "MarlStore$Value", name := "placeOf", desc := "(I)I" } : Jvm.MethodName)) ∈ gW := gW_in 606 (by decide +kernel) (by decide +kernel)
theorem cv_X7_51 : gCv RX7 51 yX8_placeOf := ⟨tw_606, tw_607, tw_608⟩
theorem tw_75 : (Jvm.Cond.fieldLink "MarlStore$Value" (9 : Nat) "MarlStore$Value" "kind" "I") ∈ gW := gW_in 75 (by decide +kernel) (by decide +kernel)
theorem fl_X8_9 : gFl RX8 9 8 0 RX8 TX8 6 tyX8 := ⟨kl_8, by decide, tw_75⟩
theorem tw_80 : (Jvm.Cond.fieldLink "MarlStore$Value" (15 : Nat) "MarlStore$Value" "number" "I") ∈ gW := gW_in 80 (by decide +kernel) (by decide +kernel)
theorem fl_X8_15 : gFl RX8 15 8 1 RX8 TX8 6 tyX8 := ⟨kl_8, by decide, tw_80⟩
theorem tw_85 : (Jvm.Cond.fieldLink "MarlStore$Value" (18 : Nat) "MarlStore$Value" "keys" "[I") ∈ gW := gW_in 85 (by decide +kernel) (by decide +kernel)
theorem fl_X8_18 : gFl RX8 18 8 2 RX8 TX8 6 tyX8 := ⟨kl_8, by decide, tw_85⟩
theorem tw_86 : (Jvm.Cond.fieldLink "MarlStore$Value" (22 : Nat) "MarlStore$Value" "parts" "[LMarlStore$Value;") ∈ gW := gW_in 86 (by decide +kernel) (by decide +kernel)
theorem fl_X8_22 : gFl RX8 22 8 3 RX8 TX8 6 tyX8 := ⟨kl_8, by decide, tw_86⟩
theorem tw_87 : (Jvm.Cond.fieldLink "MarlStore$Value" (26 : Nat) "MarlStore$Value" "size" "I") ∈ gW := gW_in 87 (by decide +kernel) (by decide +kernel)
theorem fl_X8_26 : gFl RX8 26 8 4 RX8 TX8 6 tyX8 := ⟨kl_8, by decide, tw_87⟩
theorem tw_93 : (Jvm.Cond.fieldLink "MarlStore$Value" (29 : Nat) "MarlStore$Value" "depth" "I") ∈ gW := gW_in 93 (by decide +kernel) (by decide +kernel)
theorem fl_X8_29 : gFl RX8 29 8 5 RX8 TX8 6 tyX8 := ⟨kl_8, by decide, tw_93⟩
theorem tw_72 : (Jvm.Cond.methodLink "MarlStore$Value" (32 : Nat) ({ cls := "java/lang/Math", name := "max", desc := "(II)I" } : Jvm.MethodName)) ∈ gW := gW_in 72 (by decide +kernel) (by decide +kernel)
theorem tw_73 : (Jvm.Cond.static ({ cls := "java/lang/Math", name := "max", desc := "(II)I" } : Jvm.MethodName)) ∈ gW := gW_in 73 (by decide +kernel) (by decide +kernel)
theorem cs_X8_32 : gCs RX8 32 yJ9_max_7cf53 := ⟨tw_72, tw_73⟩
theorem tw_772 : (Jvm.Cond.methodLink "MarlStore$Value" (38 : Nat) ({ cls := "MarlStore$Value", name := "width", desc := "()I" } : Jvm.MethodName)) ∈ gW := gW_in 772 (by decide +kernel) (by decide +kernel)
theorem cv_X8_38 : gCv RX8 38 yX8_width := ⟨tw_772, tw_451, tw_452⟩
theorem tw_693 : (Jvm.Cond.methodLink "MarlStore$Value" (42 : Nat) ({ cls := "MarlStore$Value", name := "placeOf", desc := "(I)I" } : Jvm.MethodName)) ∈ gW := gW_in 693 (by decide +kernel) (by decide +kernel)
theorem cv_X8_42 : gCv RX8 42 yX8_placeOf := ⟨tw_693, tw_607, tw_608⟩
theorem tw_694 : (Jvm.Cond.methodLink "MarlStore$Value" (46 : Nat) ({ cls := "MarlStore$Value", name := "partAt", desc := "(I)LMarlStore$Value;" } : Jvm.MethodName)) ∈ gW := gW_in 694 (by decide +kernel) (by decide +kernel)
theorem cv_X8_46 : gCv RX8 46 yX8_partAt := ⟨tw_694, tw_455, tw_456⟩
theorem tw_773 : (Jvm.Cond.classLink "MarlStore$Value" (10 : Nat) "MarlStore$Value") ∈ gW := gW_in 773 (by decide +kernel) (by decide +kernel)
theorem nw_X8_10 : gNw RX8 10 8 RX8 TX8 6 tyX8 := ⟨kl_8, tw_773, tw_67, tw_38⟩
theorem tw_774 : (Jvm.Cond.methodLink "MarlStore$Value" (50 : Nat) ({ cls := "MarlStore$Value", name := "<init>", desc := "(II[I[LMarlStore$Value;)V" } : Jvm.MethodName)) ∈ gW := gW_in 774 (by decide +kernel) (by decide +kernel)
theorem ci_X8_50 : gCi RX8 50 yX8_init := ⟨tw_774, tw_69, by decide +kernel⟩
theorem tw_813 : (Jvm.Cond.methodLink "MarlStore$Value" (53 : Nat) ({ cls := "MarlStore$Value", name := "stepOf", desc := "(I)I" } : Jvm.MethodName)) ∈ gW := gW_in 813 (by decide +kernel) (by decide +kernel)
theorem cv_X8_53 : gCv RX8 53 yX8_stepOf := ⟨tw_813, tw_459, tw_460⟩
theorem tw_846 : (Jvm.Cond.methodLink "MarlStore$Value" (56 : Nat) ({ cls := "MarlStore$Value", name := "areSame", desc := "(LMarlStore$Value;LMarlStore$Value;I)Z" } : Jvm.MethodName)) ∈ gW := gW_in 846 (by decide +kernel) (by decide +kernel)
theorem tw_847 : (Jvm.Cond.static ({ cls := "MarlStore$Value", name := "areSame", desc := "(LMarlStore$Value;LMarlStore$Value;I)Z" } : Jvm.MethodName)) ∈ gW := gW_in 847 (by decide +kernel) (by decide +kernel)
theorem cs_X8_56 : gCs RX8 56 yX8_areSame := ⟨tw_846, tw_847⟩
theorem tw_244 : (Jvm.Cond.classLink "MarlStore$Walk" (9 : Nat) "MarlStore$Value") ∈ gW := gW_in 244 (by decide +kernel) (by decide +kernel)
theorem nw_X9_9 : gNw RX9 9 8 RX8 TX8 6 tyX8 := ⟨kl_8, tw_244, tw_67, tw_38⟩
theorem tw_248 : (Jvm.Cond.fieldLink "MarlStore$Walk" (11 : Nat) "MarlStore$Walk" "values" "[LMarlStore$Value;") ∈ gW := gW_in 248 (by decide +kernel) (by decide +kernel)
theorem fl_X9_11 : gFl RX9 11 9 1 RX9 TX9 5 tyX9 := ⟨kl_9, by decide, tw_248⟩
theorem tw_249 : (Jvm.Cond.fieldLink "MarlStore$Walk" (17 : Nat) "MarlStore$Walk" "parents" "[I") ∈ gW := gW_in 249 (by decide +kernel) (by decide +kernel)
theorem fl_X9_17 : gFl RX9 17 9 2 RX9 TX9 5 tyX9 := ⟨kl_9, by decide, tw_249⟩
theorem tw_250 : (Jvm.Cond.fieldLink "MarlStore$Walk" (21 : Nat) "MarlStore$Walk" "steps" "[I") ∈ gW := gW_in 250 (by decide +kernel) (by decide +kernel)
theorem fl_X9_21 : gFl RX9 21 9 3 RX9 TX9 5 tyX9 := ⟨kl_9, by decide, tw_250⟩
theorem tw_251 : (Jvm.Cond.fieldLink "MarlStore$Walk" (24 : Nat) "MarlStore$Walk" "levels" "[I") ∈ gW := gW_in 251 (by decide +kernel) (by decide +kernel)
theorem fl_X9_24 : gFl RX9 24 9 4 RX9 TX9 5 tyX9 := ⟨kl_9, by decide, tw_251⟩
theorem tw_88 : (Jvm.Cond.fieldLink "MarlStore$Walk" (27 : Nat) "MarlStore$Value" "size" "I") ∈ gW := gW_in 88 (by decide +kernel) (by decide +kernel)
theorem fl_X9_27 : gFl RX9 27 8 4 RX8 TX8 6 tyX8 := ⟨kl_8, by decide, tw_88⟩
theorem tw_443 : (Jvm.Cond.methodLink "MarlStore$Walk" (31 : Nat) ({ cls := "java/lang/Math", name := "min", desc := "(II)I" } : Jvm.MethodName)) ∈ gW := gW_in 443 (by decide +kernel) (by decide +kernel)
theorem cs_X9_31 : gCs RX9 31 yJ9_min_7cf53 := ⟨tw_443, tw_444⟩
theorem tw_245 : (Jvm.Cond.fieldLink "MarlStore$Walk" (37 : Nat) "MarlStore$Walk" "count" "I") ∈ gW := gW_in 245 (by decide +kernel) (by decide +kernel)
theorem fl_X9_37 : gFl RX9 37 9 0 RX9 TX9 5 tyX9 := ⟨kl_9, by decide, tw_245⟩
theorem tw_446 : (Jvm.Cond.methodLink "MarlStore$Walk" (40 : Nat) ({ cls := "MarlStore$Walk", name := "enter", desc := "(ILMarlStore$Value;III)V" } : Jvm.MethodName)) ∈ gW := gW_in 446 (by decide +kernel) (by decide +kernel)
theorem tw_448 : (Jvm.Cond.instanceMethod ({ cls := "MarlStore$Walk", name := "enter", desc := "(ILMarlStore$Value;III)V" } : Jvm.MethodName)) ∈ gW := gW_in 448 (by decide +kernel) (by decide +kernel)
theorem tw_3 : (Jvm.Cond.selects "MarlStore$Walk" ({ cls := "MarlStore$Walk", name := "enter", desc := "(ILMarlStore$Value;III)V" } : Jvm.MethodName) ({ cls := "MarlStore$Walk", name := "enter", desc := "(ILMarlStore$Value;III)V" } : Jvm.MethodName)) ∈ gW := gW_in 3 (by decide +kernel) (by decide +kernel)
theorem cv_X9_40 : gCv RX9 40 yX9_enter := ⟨tw_446, tw_448, tw_3⟩
theorem tw_450 : (Jvm.Cond.methodLink "MarlStore$Walk" (44 : Nat) ({ cls := "MarlStore$Value", name := "width", desc := "()I" } : Jvm.MethodName)) ∈ gW := gW_in 450 (by decide +kernel) (by decide +kernel)
theorem cv_X9_44 : gCv RX9 44 yX8_width := ⟨tw_450, tw_451, tw_452⟩
theorem tw_454 : (Jvm.Cond.methodLink "MarlStore$Walk" (48 : Nat) ({ cls := "MarlStore$Value", name := "partAt", desc := "(I)LMarlStore$Value;" } : Jvm.MethodName)) ∈ gW := gW_in 454 (by decide +kernel) (by decide +kernel)
theorem cv_X9_48 : gCv RX9 48 yX8_partAt := ⟨tw_454, tw_455, tw_456⟩
theorem tw_458 : (Jvm.Cond.methodLink "MarlStore$Walk" (52 : Nat) ({ cls := "MarlStore$Value", name := "stepOf", desc := "(I)I" } : Jvm.MethodName)) ∈ gW := gW_in 458 (by decide +kernel) (by decide +kernel)
theorem cv_X9_52 : gCv RX9 52 yX8_stepOf := ⟨tw_458, tw_459, tw_460⟩
theorem tw_631 : (Jvm.Cond.methodLink "MarlStore$Walk" (56 : Nat) ({ cls := "MarlStore$Walk", name := "valueAt", desc := "(I)LMarlStore$Value;" } : Jvm.MethodName)) ∈ gW := gW_in 631 (by decide +kernel) (by decide +kernel)
theorem cv_X9_56 : gCv RX9 56 yX9_valueAt := ⟨tw_631, tw_463, tw_464⟩
theorem tw_632 : (Jvm.Cond.methodLink "MarlStore$Walk" (59 : Nat) ({ cls := "MarlStore$Walk", name := "isPicked", desc := "(JJILMarlStore$Value;II)Z" } : Jvm.MethodName)) ∈ gW := gW_in 632 (by decide +kernel) (by decide +kernel)
theorem tw_634 : (Jvm.Cond.instanceMethod ({ cls := "MarlStore$Walk", name := "isPicked", desc := "(JJILMarlStore$Value;II)Z" } : Jvm.MethodName)) ∈ gW := gW_in 634 (by decide +kernel) (by decide +kernel)
theorem tw_20 : (Jvm.Cond.selects "MarlStore$Walk" ({ cls := "MarlStore$Walk", name := "isPicked", desc := "(JJILMarlStore$Value;II)Z" } : Jvm.MethodName) ({ cls := "MarlStore$Walk", name := "isPicked", desc := "(JJILMarlStore$Value;II)Z" } : Jvm.MethodName)) ∈ gW := gW_in 20 (by decide +kernel) (by decide +kernel)
theorem cv_X9_59 : gCv RX9 59 yX9_isPicked := ⟨tw_632, tw_634, tw_20⟩
theorem tw_639 : (Jvm.Cond.methodLink "MarlStore$Walk" (67 : Nat) ({ cls := "MarlStore$Walk", name := "above", desc := "(I)I" } : Jvm.MethodName)) ∈ gW := gW_in 639 (by decide +kernel) (by decide +kernel)
theorem cv_X9_67 : gCv RX9 67 yX9_above := ⟨tw_639, tw_574, tw_575⟩
theorem tw_640 : (Jvm.Cond.methodLink "MarlStore$Walk" (70 : Nat) ({ cls := "MarlStore$Walk", name := "stepTo", desc := "(I)I" } : Jvm.MethodName)) ∈ gW := gW_in 640 (by decide +kernel) (by decide +kernel)
theorem cv_X9_70 : gCv RX9 70 yX9_stepTo := ⟨tw_640, tw_582, tw_583⟩
theorem tw_641 : (Jvm.Cond.methodLink "MarlStore$Walk" (73 : Nat) ({ cls := "MarlStore$Walk", name := "isLast", desc := "(ILMarlStore$Value;)Z" } : Jvm.MethodName)) ∈ gW := gW_in 641 (by decide +kernel) (by decide +kernel)
theorem tw_643 : (Jvm.Cond.instanceMethod ({ cls := "MarlStore$Walk", name := "isLast", desc := "(ILMarlStore$Value;)Z" } : Jvm.MethodName)) ∈ gW := gW_in 643 (by decide +kernel) (by decide +kernel)
theorem tw_21 : (Jvm.Cond.selects "MarlStore$Walk" ({ cls := "MarlStore$Walk", name := "isLast", desc := "(ILMarlStore$Value;)Z" } : Jvm.MethodName) ({ cls := "MarlStore$Walk", name := "isLast", desc := "(ILMarlStore$Value;)Z" } : Jvm.MethodName)) ∈ gW := gW_in 21 (by decide +kernel) (by decide +kernel)
theorem cv_X9_73 : gCv RX9 73 yX9_isLast := ⟨tw_641, tw_643, tw_21⟩
theorem tw_79 : (Jvm.Cond.fieldLink "MarlStore$Walk" (77 : Nat) "MarlStore$Value" "kind" "I") ∈ gW := gW_in 79 (by decide +kernel) (by decide +kernel)
theorem fl_X9_77 : gFl RX9 77 8 0 RX8 TX8 6 tyX8 := ⟨kl_8, by decide, tw_79⟩
theorem tw_83 : (Jvm.Cond.fieldLink "MarlStore$Walk" (80 : Nat) "MarlStore$Value" "number" "I") ∈ gW := gW_in 83 (by decide +kernel) (by decide +kernel)
theorem fl_X9_80 : gFl RX9 80 8 1 RX8 TX8 6 tyX8 := ⟨kl_8, by decide, tw_83⟩
theorem tw_645 : (Jvm.Cond.methodLink "MarlStore$Walk" (83 : Nat) ({ cls := "MarlStore$Value", name := "placeOf", desc := "(I)I" } : Jvm.MethodName)) ∈ gW := gW_in 645 (by decide +kernel) (by decide +kernel)
theorem cv_X9_83 : gCv RX9 83 yX8_placeOf := ⟨tw_645, tw_607, tw_608⟩
theorem tw_996 : (Jvm.Cond.methodLink "MarlStore$Walk" (90 : Nat) ({ cls := "MarlStore$Value", name := "withoutPart", desc := "(I)LMarlStore$Value;" } : Jvm.MethodName)) ∈ gW := gW_in 996 (by decide +kernel) (by decide +kernel)
theorem cv_X9_90 : gCv RX9 90 yX8_withoutPart := ⟨tw_996, tw_827, tw_828⟩
theorem tw_997 : (Jvm.Cond.methodLink "MarlStore$Walk" (93 : Nat) ({ cls := "MarlStore$Value", name := "withPart", desc := "(ILMarlStore$Value;)LMarlStore$Value;" } : Jvm.MethodName)) ∈ gW := gW_in 997 (by decide +kernel) (by decide +kernel)
theorem cv_X9_93 : gCv RX9 93 yX8_withPart := ⟨tw_997, tw_769, tw_770⟩
theorem tw_672 : (Jvm.Cond.constant "MarlStoreLaw" (7 : Nat) (2147483647 : Int32)) ∈ gW := gW_in 672 (by decide +kernel) (by decide +kernel)
theorem kc_L_7 : (Jvm.Cond.constant "MarlStoreLaw" (7 : Nat) (2147483647 : Int32)) ∈ gW := tw_672
theorem tw_655 : (Jvm.Cond.constant "MarlStoreLaw" (8 : Nat) (790386105 : Int32)) ∈ gW := gW_in 655 (by decide +kernel) (by decide +kernel)
theorem kc_L_8 : (Jvm.Cond.constant "MarlStoreLaw" (8 : Nat) (790386105 : Int32)) ∈ gW := tw_655
theorem tw_58 : (Jvm.Cond.classLink "MarlStoreLaw" (9 : Nat) "MarlStore") ∈ gW := gW_in 58 (by decide +kernel) (by decide +kernel)
theorem tw_59 : (Jvm.Cond.instantiable "MarlStore" (14 : Nat)) ∈ gW := gW_in 59 (by decide +kernel) (by decide +kernel)
theorem nw_L_9 : gNw RL 9 10 RX10 TX10 14 tyX10 := ⟨kl_10, tw_58, tw_59, tw_37⟩
theorem tw_60 : (Jvm.Cond.methodLink "MarlStoreLaw" (11 : Nat) ({ cls := "MarlStore", name := "<init>", desc := "()V" } : Jvm.MethodName)) ∈ gW := gW_in 60 (by decide +kernel) (by decide +kernel)
theorem tw_61 : (Jvm.Cond.instanceMethod ({ cls := "MarlStore", name := "<init>", desc := "()V" } : Jvm.MethodName)) ∈ gW := gW_in 61 (by decide +kernel) (by decide +kernel)
theorem ci_L_11 : gCi RL 11 yX10_init := ⟨tw_60, tw_61, by decide +kernel⟩
theorem tw_652 : (Jvm.Cond.methodLink "MarlStoreLaw" (12 : Nat) ({ cls := "MarlStoreLaw", name := "cell", desc := "([II)I" } : Jvm.MethodName)) ∈ gW := gW_in 652 (by decide +kernel) (by decide +kernel)
theorem tw_653 : (Jvm.Cond.static ({ cls := "MarlStoreLaw", name := "cell", desc := "([II)I" } : Jvm.MethodName)) ∈ gW := gW_in 653 (by decide +kernel) (by decide +kernel)
theorem cs_L_12 : gCs RL 12 yL_cell := ⟨tw_652, tw_653⟩
theorem tw_656 : (Jvm.Cond.methodLink "MarlStoreLaw" (18 : Nat) ({ cls := "MarlStoreLaw", name := "act", desc := "(LMarlStore;I)Z" } : Jvm.MethodName)) ∈ gW := gW_in 656 (by decide +kernel) (by decide +kernel)
theorem tw_657 : (Jvm.Cond.static ({ cls := "MarlStoreLaw", name := "act", desc := "(LMarlStore;I)Z" } : Jvm.MethodName)) ∈ gW := gW_in 657 (by decide +kernel) (by decide +kernel)
theorem cs_L_18 : gCs RL 18 yL_act := ⟨tw_656, tw_657⟩
theorem tw_352 : (Jvm.Cond.methodLink "MarlStoreLaw" (22 : Nat) ({ cls := "MarlStore", name := "digest", desc := "()J" } : Jvm.MethodName)) ∈ gW := gW_in 352 (by decide +kernel) (by decide +kernel)
theorem tw_353 : (Jvm.Cond.instanceMethod ({ cls := "MarlStore", name := "digest", desc := "()J" } : Jvm.MethodName)) ∈ gW := gW_in 353 (by decide +kernel) (by decide +kernel)
theorem tw_354 : (Jvm.Cond.selects "MarlStore" ({ cls := "MarlStore", name := "digest", desc := "()J" } : Jvm.MethodName) ({ cls := "MarlStore", name := "digest", desc := "()J" } : Jvm.MethodName)) ∈ gW := gW_in 354 (by decide +kernel) (by decide +kernel)
theorem cv_L_22 : gCv RL 22 yX10_digest := ⟨tw_352, tw_353, tw_354⟩
theorem tw_998 : (Jvm.Cond.methodLink "MarlStoreLaw" (26 : Nat) ({ cls := "MarlStoreLaw", name := "areDocumentsRight", desc := "(LMarlStore;)Z" } : Jvm.MethodName)) ∈ gW := gW_in 998 (by decide +kernel) (by decide +kernel)
theorem tw_999 : (Jvm.Cond.static ({ cls := "MarlStoreLaw", name := "areDocumentsRight", desc := "(LMarlStore;)Z" } : Jvm.MethodName)) ∈ gW := gW_in 999 (by decide +kernel) (by decide +kernel)
theorem cs_L_26 : gCs RL 26 yL_areDocumentsRight := ⟨tw_998, tw_999⟩
theorem tw_1006 : (Jvm.Cond.methodLink "MarlStoreLaw" (30 : Nat) ({ cls := "MarlStoreLaw", name := "areFewRight", desc := "(LMarlStore;)Z" } : Jvm.MethodName)) ∈ gW := gW_in 1006 (by decide +kernel) (by decide +kernel)
theorem tw_1007 : (Jvm.Cond.static ({ cls := "MarlStoreLaw", name := "areFewRight", desc := "(LMarlStore;)Z" } : Jvm.MethodName)) ∈ gW := gW_in 1007 (by decide +kernel) (by decide +kernel)
theorem cs_L_30 : gCs RL 30 yL_areFewRight := ⟨tw_1006, tw_1007⟩
theorem tw_661 : (Jvm.Cond.methodLink "MarlStoreLaw" (33 : Nat) ({ cls := "MarlStore", name := "document", desc := "()I" } : Jvm.MethodName)) ∈ gW := gW_in 661 (by decide +kernel) (by decide +kernel)
theorem tw_662 : (Jvm.Cond.instanceMethod ({ cls := "MarlStore", name := "document", desc := "()I" } : Jvm.MethodName)) ∈ gW := gW_in 662 (by decide +kernel) (by decide +kernel)
theorem tw_663 : (Jvm.Cond.selects "MarlStore" ({ cls := "MarlStore", name := "document", desc := "()I" } : Jvm.MethodName) ({ cls := "MarlStore", name := "document", desc := "()I" } : Jvm.MethodName)) ∈ gW := gW_in 663 (by decide +kernel) (by decide +kernel)
theorem cv_L_33 : gCv RL 33 yX10_document := ⟨tw_661, tw_662, tw_663⟩
theorem tw_665 : (Jvm.Cond.methodLink "MarlStoreLaw" (37 : Nat) ({ cls := "MarlStore", name := "size", desc := "(I)I" } : Jvm.MethodName)) ∈ gW := gW_in 665 (by decide +kernel) (by decide +kernel)
theorem tw_666 : (Jvm.Cond.instanceMethod ({ cls := "MarlStore", name := "size", desc := "(I)I" } : Jvm.MethodName)) ∈ gW := gW_in 666 (by decide +kernel) (by decide +kernel)
theorem tw_667 : (Jvm.Cond.selects "MarlStore" ({ cls := "MarlStore", name := "size", desc := "(I)I" } : Jvm.MethodName) ({ cls := "MarlStore", name := "size", desc := "(I)I" } : Jvm.MethodName)) ∈ gW := gW_in 667 (by decide +kernel) (by decide +kernel)
theorem cv_L_37 : gCv RL 37 yX10_size := ⟨tw_665, tw_666, tw_667⟩
theorem tw_669 : (Jvm.Cond.methodLink "MarlStoreLaw" (41 : Nat) ({ cls := "MarlStoreLaw", name := "below", desc := "(II)I" } : Jvm.MethodName)) ∈ gW := gW_in 669 (by decide +kernel) (by decide +kernel)
theorem tw_670 : (Jvm.Cond.static ({ cls := "MarlStoreLaw", name := "below", desc := "(II)I" } : Jvm.MethodName)) ∈ gW := gW_in 670 (by decide +kernel) (by decide +kernel)
theorem cs_L_41 : gCs RL 41 yL_below := ⟨tw_669, tw_670⟩
theorem tw_673 : (Jvm.Cond.methodLink "MarlStoreLaw" (45 : Nat) ({ cls := "MarlStore", name := "point", desc := "(I)I" } : Jvm.MethodName)) ∈ gW := gW_in 673 (by decide +kernel) (by decide +kernel)
theorem tw_674 : (Jvm.Cond.instanceMethod ({ cls := "MarlStore", name := "point", desc := "(I)I" } : Jvm.MethodName)) ∈ gW := gW_in 674 (by decide +kernel) (by decide +kernel)
theorem tw_675 : (Jvm.Cond.selects "MarlStore" ({ cls := "MarlStore", name := "point", desc := "(I)I" } : Jvm.MethodName) ({ cls := "MarlStore", name := "point", desc := "(I)I" } : Jvm.MethodName)) ∈ gW := gW_in 675 (by decide +kernel) (by decide +kernel)
theorem cv_L_45 : gCv RL 45 yX10_point := ⟨tw_673, tw_674, tw_675⟩
theorem tw_681 : (Jvm.Cond.methodLink "MarlStoreLaw" (48 : Nat) ({ cls := "MarlStore", name := "children", desc := "()I" } : Jvm.MethodName)) ∈ gW := gW_in 681 (by decide +kernel) (by decide +kernel)
theorem tw_682 : (Jvm.Cond.instanceMethod ({ cls := "MarlStore", name := "children", desc := "()I" } : Jvm.MethodName)) ∈ gW := gW_in 682 (by decide +kernel) (by decide +kernel)
theorem tw_683 : (Jvm.Cond.selects "MarlStore" ({ cls := "MarlStore", name := "children", desc := "()I" } : Jvm.MethodName) ({ cls := "MarlStore", name := "children", desc := "()I" } : Jvm.MethodName)) ∈ gW := gW_in 683 (by decide +kernel) (by decide +kernel)
theorem cv_L_48 : gCv RL 48 yX10_children := ⟨tw_681, tw_682, tw_683⟩
theorem tw_695 : (Jvm.Cond.methodLink "MarlStoreLaw" (51 : Nat) ({ cls := "java/lang/Math", name := "max", desc := "(II)I" } : Jvm.MethodName)) ∈ gW := gW_in 695 (by decide +kernel) (by decide +kernel)
theorem cs_L_51 : gCs RL 51 yJ9_max_7cf53 := ⟨tw_695, tw_73⟩
theorem tw_696 : (Jvm.Cond.methodLink "MarlStoreLaw" (56 : Nat) ({ cls := "MarlStore", name := "childStep", desc := "(I)I" } : Jvm.MethodName)) ∈ gW := gW_in 696 (by decide +kernel) (by decide +kernel)
theorem tw_697 : (Jvm.Cond.instanceMethod ({ cls := "MarlStore", name := "childStep", desc := "(I)I" } : Jvm.MethodName)) ∈ gW := gW_in 697 (by decide +kernel) (by decide +kernel)
theorem tw_698 : (Jvm.Cond.selects "MarlStore" ({ cls := "MarlStore", name := "childStep", desc := "(I)I" } : Jvm.MethodName) ({ cls := "MarlStore", name := "childStep", desc := "(I)I" } : Jvm.MethodName)) ∈ gW := gW_in 698 (by decide +kernel) (by decide +kernel)
theorem cv_L_56 : gCv RL 56 yX10_childStep := ⟨tw_696, tw_697, tw_698⟩
theorem tw_701 : (Jvm.Cond.methodLink "MarlStoreLaw" (59 : Nat) ({ cls := "MarlStore", name := "steps", desc := "()I" } : Jvm.MethodName)) ∈ gW := gW_in 701 (by decide +kernel) (by decide +kernel)
theorem tw_702 : (Jvm.Cond.instanceMethod ({ cls := "MarlStore", name := "steps", desc := "()I" } : Jvm.MethodName)) ∈ gW := gW_in 702 (by decide +kernel) (by decide +kernel)
theorem tw_703 : (Jvm.Cond.selects "MarlStore" ({ cls := "MarlStore", name := "steps", desc := "()I" } : Jvm.MethodName) ({ cls := "MarlStore", name := "steps", desc := "()I" } : Jvm.MethodName)) ∈ gW := gW_in 703 (by decide +kernel) (by decide +kernel)
theorem cv_L_59 : gCv RL 59 yX10_steps := ⟨tw_701, tw_702, tw_703⟩
theorem tw_705 : (Jvm.Cond.methodLink "MarlStoreLaw" (62 : Nat) ({ cls := "MarlStore", name := "into", desc := "(I)I" } : Jvm.MethodName)) ∈ gW := gW_in 705 (by decide +kernel) (by decide +kernel)
theorem tw_706 : (Jvm.Cond.instanceMethod ({ cls := "MarlStore", name := "into", desc := "(I)I" } : Jvm.MethodName)) ∈ gW := gW_in 706 (by decide +kernel) (by decide +kernel)
theorem tw_707 : (Jvm.Cond.selects "MarlStore" ({ cls := "MarlStore", name := "into", desc := "(I)I" } : Jvm.MethodName) ({ cls := "MarlStore", name := "into", desc := "(I)I" } : Jvm.MethodName)) ∈ gW := gW_in 707 (by decide +kernel) (by decide +kernel)
theorem cv_L_62 : gCv RL 62 yX10_into := ⟨tw_705, tw_706, tw_707⟩
theorem tw_716 : (Jvm.Cond.methodLink "MarlStoreLaw" (65 : Nat) ({ cls := "MarlStore", name := "kind", desc := "()I" } : Jvm.MethodName)) ∈ gW := gW_in 716 (by decide +kernel) (by decide +kernel)
theorem tw_717 : (Jvm.Cond.instanceMethod ({ cls := "MarlStore", name := "kind", desc := "()I" } : Jvm.MethodName)) ∈ gW := gW_in 717 (by decide +kernel) (by decide +kernel)
theorem tw_718 : (Jvm.Cond.selects "MarlStore" ({ cls := "MarlStore", name := "kind", desc := "()I" } : Jvm.MethodName) ({ cls := "MarlStore", name := "kind", desc := "()I" } : Jvm.MethodName)) ∈ gW := gW_in 718 (by decide +kernel) (by decide +kernel)
theorem cv_L_65 : gCv RL 65 yX10_kind := ⟨tw_716, tw_717, tw_718⟩
theorem tw_720 : (Jvm.Cond.methodLink "MarlStoreLaw" (68 : Nat) ({ cls := "MarlStore", name := "stepAt", desc := "(I)I" } : Jvm.MethodName)) ∈ gW := gW_in 720 (by decide +kernel) (by decide +kernel)
theorem cv_L_68 : gCv RL 68 yX10_stepAt := ⟨tw_720, tw_359, tw_360⟩
theorem tw_721 : (Jvm.Cond.methodLink "MarlStoreLaw" (71 : Nat) ({ cls := "MarlStore", name := "up", desc := "()I" } : Jvm.MethodName)) ∈ gW := gW_in 721 (by decide +kernel) (by decide +kernel)
theorem tw_722 : (Jvm.Cond.instanceMethod ({ cls := "MarlStore", name := "up", desc := "()I" } : Jvm.MethodName)) ∈ gW := gW_in 722 (by decide +kernel) (by decide +kernel)
theorem tw_723 : (Jvm.Cond.selects "MarlStore" ({ cls := "MarlStore", name := "up", desc := "()I" } : Jvm.MethodName) ({ cls := "MarlStore", name := "up", desc := "()I" } : Jvm.MethodName)) ∈ gW := gW_in 723 (by decide +kernel) (by decide +kernel)
theorem cv_L_71 : gCv RL 71 yX10_up := ⟨tw_721, tw_722, tw_723⟩
theorem tw_745 : (Jvm.Cond.methodLink "MarlStoreLaw" (74 : Nat) ({ cls := "MarlStore", name := "set", desc := "(II)I" } : Jvm.MethodName)) ∈ gW := gW_in 745 (by decide +kernel) (by decide +kernel)
theorem tw_746 : (Jvm.Cond.instanceMethod ({ cls := "MarlStore", name := "set", desc := "(II)I" } : Jvm.MethodName)) ∈ gW := gW_in 746 (by decide +kernel) (by decide +kernel)
theorem tw_747 : (Jvm.Cond.selects "MarlStore" ({ cls := "MarlStore", name := "set", desc := "(II)I" } : Jvm.MethodName) ({ cls := "MarlStore", name := "set", desc := "(II)I" } : Jvm.MethodName)) ∈ gW := gW_in 747 (by decide +kernel) (by decide +kernel)
theorem cv_L_74 : gCv RL 74 yX10_set := ⟨tw_745, tw_746, tw_747⟩
theorem tw_793 : (Jvm.Cond.methodLink "MarlStoreLaw" (77 : Nat) ({ cls := "MarlStore", name := "copy", desc := "()I" } : Jvm.MethodName)) ∈ gW := gW_in 793 (by decide +kernel) (by decide +kernel)
theorem tw_794 : (Jvm.Cond.instanceMethod ({ cls := "MarlStore", name := "copy", desc := "()I" } : Jvm.MethodName)) ∈ gW := gW_in 794 (by decide +kernel) (by decide +kernel)
theorem tw_795 : (Jvm.Cond.selects "MarlStore" ({ cls := "MarlStore", name := "copy", desc := "()I" } : Jvm.MethodName) ({ cls := "MarlStore", name := "copy", desc := "()I" } : Jvm.MethodName)) ∈ gW := gW_in 795 (by decide +kernel) (by decide +kernel)
theorem cv_L_77 : gCv RL 77 yX10_copy := ⟨tw_793, tw_794, tw_795⟩
theorem tw_797 : (Jvm.Cond.methodLink "MarlStoreLaw" (80 : Nat) ({ cls := "MarlStore", name := "insert", desc := "(I)I" } : Jvm.MethodName)) ∈ gW := gW_in 797 (by decide +kernel) (by decide +kernel)
theorem tw_798 : (Jvm.Cond.instanceMethod ({ cls := "MarlStore", name := "insert", desc := "(I)I" } : Jvm.MethodName)) ∈ gW := gW_in 798 (by decide +kernel) (by decide +kernel)
theorem tw_799 : (Jvm.Cond.selects "MarlStore" ({ cls := "MarlStore", name := "insert", desc := "(I)I" } : Jvm.MethodName) ({ cls := "MarlStore", name := "insert", desc := "(I)I" } : Jvm.MethodName)) ∈ gW := gW_in 799 (by decide +kernel) (by decide +kernel)
theorem cv_L_80 : gCv RL 80 yX10_insert := ⟨tw_797, tw_798, tw_799⟩
theorem tw_814 : (Jvm.Cond.methodLink "MarlStoreLaw" (83 : Nat) ({ cls := "MarlStore", name := "clip", desc := "()I" } : Jvm.MethodName)) ∈ gW := gW_in 814 (by decide +kernel) (by decide +kernel)
theorem tw_815 : (Jvm.Cond.instanceMethod ({ cls := "MarlStore", name := "clip", desc := "()I" } : Jvm.MethodName)) ∈ gW := gW_in 815 (by decide +kernel) (by decide +kernel)
theorem tw_816 : (Jvm.Cond.selects "MarlStore" ({ cls := "MarlStore", name := "clip", desc := "()I" } : Jvm.MethodName) ({ cls := "MarlStore", name := "clip", desc := "()I" } : Jvm.MethodName)) ∈ gW := gW_in 816 (by decide +kernel) (by decide +kernel)
theorem cv_L_83 : gCv RL 83 yX10_clip := ⟨tw_814, tw_815, tw_816⟩
theorem tw_818 : (Jvm.Cond.methodLink "MarlStoreLaw" (86 : Nat) ({ cls := "MarlStore", name := "drop", desc := "(I)I" } : Jvm.MethodName)) ∈ gW := gW_in 818 (by decide +kernel) (by decide +kernel)
theorem tw_819 : (Jvm.Cond.instanceMethod ({ cls := "MarlStore", name := "drop", desc := "(I)I" } : Jvm.MethodName)) ∈ gW := gW_in 819 (by decide +kernel) (by decide +kernel)
theorem tw_820 : (Jvm.Cond.selects "MarlStore" ({ cls := "MarlStore", name := "drop", desc := "(I)I" } : Jvm.MethodName) ({ cls := "MarlStore", name := "drop", desc := "(I)I" } : Jvm.MethodName)) ∈ gW := gW_in 820 (by decide +kernel) (by decide +kernel)
theorem cv_L_86 : gCv RL 86 yX10_drop := ⟨tw_818, tw_819, tw_820⟩
theorem tw_830 : (Jvm.Cond.methodLink "MarlStoreLaw" (89 : Nat) ({ cls := "MarlStore", name := "diff", desc := "(II)I" } : Jvm.MethodName)) ∈ gW := gW_in 830 (by decide +kernel) (by decide +kernel)
theorem tw_831 : (Jvm.Cond.instanceMethod ({ cls := "MarlStore", name := "diff", desc := "(II)I" } : Jvm.MethodName)) ∈ gW := gW_in 831 (by decide +kernel) (by decide +kernel)
theorem tw_832 : (Jvm.Cond.selects "MarlStore" ({ cls := "MarlStore", name := "diff", desc := "(II)I" } : Jvm.MethodName) ({ cls := "MarlStore", name := "diff", desc := "(II)I" } : Jvm.MethodName)) ∈ gW := gW_in 832 (by decide +kernel) (by decide +kernel)
theorem cv_L_89 : gCv RL 89 yX10_diff := ⟨tw_830, tw_831, tw_832⟩
theorem tw_919 : (Jvm.Cond.methodLink "MarlStoreLaw" (92 : Nat) ({ cls := "MarlStore", name := "failsAt", desc := "(II)I" } : Jvm.MethodName)) ∈ gW := gW_in 919 (by decide +kernel) (by decide +kernel)
theorem tw_920 : (Jvm.Cond.instanceMethod ({ cls := "MarlStore", name := "failsAt", desc := "(II)I" } : Jvm.MethodName)) ∈ gW := gW_in 920 (by decide +kernel) (by decide +kernel)
theorem tw_921 : (Jvm.Cond.selects "MarlStore" ({ cls := "MarlStore", name := "failsAt", desc := "(II)I" } : Jvm.MethodName) ({ cls := "MarlStore", name := "failsAt", desc := "(II)I" } : Jvm.MethodName)) ∈ gW := gW_in 921 (by decide +kernel) (by decide +kernel)
theorem cv_L_92 : gCv RL 92 yX10_failsAt := ⟨tw_919, tw_920, tw_921⟩
theorem tw_939 : (Jvm.Cond.methodLink "MarlStoreLaw" (95 : Nat) ({ cls := "MarlStore", name := "operations", desc := "(I)I" } : Jvm.MethodName)) ∈ gW := gW_in 939 (by decide +kernel) (by decide +kernel)
theorem cv_L_95 : gCv RL 95 yX10_operations := ⟨tw_939, tw_518, tw_519⟩
theorem tw_940 : (Jvm.Cond.methodLink "MarlStoreLaw" (98 : Nat) ({ cls := "MarlStore", name := "changes", desc := "(II)I" } : Jvm.MethodName)) ∈ gW := gW_in 940 (by decide +kernel) (by decide +kernel)
theorem tw_941 : (Jvm.Cond.instanceMethod ({ cls := "MarlStore", name := "changes", desc := "(II)I" } : Jvm.MethodName)) ∈ gW := gW_in 941 (by decide +kernel) (by decide +kernel)
theorem tw_942 : (Jvm.Cond.selects "MarlStore" ({ cls := "MarlStore", name := "changes", desc := "(II)I" } : Jvm.MethodName) ({ cls := "MarlStore", name := "changes", desc := "(II)I" } : Jvm.MethodName)) ∈ gW := gW_in 942 (by decide +kernel) (by decide +kernel)
theorem cv_L_98 : gCv RL 98 yX10_changes := ⟨tw_940, tw_941, tw_942⟩
theorem tw_944 : (Jvm.Cond.methodLink "MarlStoreLaw" (101 : Nat) ({ cls := "MarlStore", name := "patches", desc := "()I" } : Jvm.MethodName)) ∈ gW := gW_in 944 (by decide +kernel) (by decide +kernel)
theorem tw_945 : (Jvm.Cond.instanceMethod ({ cls := "MarlStore", name := "patches", desc := "()I" } : Jvm.MethodName)) ∈ gW := gW_in 945 (by decide +kernel) (by decide +kernel)
theorem tw_946 : (Jvm.Cond.selects "MarlStore" ({ cls := "MarlStore", name := "patches", desc := "()I" } : Jvm.MethodName) ({ cls := "MarlStore", name := "patches", desc := "()I" } : Jvm.MethodName)) ∈ gW := gW_in 946 (by decide +kernel) (by decide +kernel)
theorem cv_L_101 : gCv RL 101 yX10_patches := ⟨tw_944, tw_945, tw_946⟩
theorem tw_948 : (Jvm.Cond.methodLink "MarlStoreLaw" (104 : Nat) ({ cls := "MarlStoreLaw", name := "isTurnedBack", desc := "(LMarlStore;II)Z" } : Jvm.MethodName)) ∈ gW := gW_in 948 (by decide +kernel) (by decide +kernel)
theorem tw_949 : (Jvm.Cond.static ({ cls := "MarlStoreLaw", name := "isTurnedBack", desc := "(LMarlStore;II)Z" } : Jvm.MethodName)) ∈ gW := gW_in 949 (by decide +kernel) (by decide +kernel)
theorem cs_L_104 : gCs RL 104 yL_isTurnedBack := ⟨tw_948, tw_949⟩
theorem tw_965 : (Jvm.Cond.methodLink "MarlStoreLaw" (108 : Nat) ({ cls := "MarlStore", name := "forget", desc := "()I" } : Jvm.MethodName)) ∈ gW := gW_in 965 (by decide +kernel) (by decide +kernel)
theorem tw_966 : (Jvm.Cond.instanceMethod ({ cls := "MarlStore", name := "forget", desc := "()I" } : Jvm.MethodName)) ∈ gW := gW_in 966 (by decide +kernel) (by decide +kernel)
theorem tw_967 : (Jvm.Cond.selects "MarlStore" ({ cls := "MarlStore", name := "forget", desc := "()I" } : Jvm.MethodName) ({ cls := "MarlStore", name := "forget", desc := "()I" } : Jvm.MethodName)) ∈ gW := gW_in 967 (by decide +kernel) (by decide +kernel)
theorem cv_L_108 : gCv RL 108 yX10_forget := ⟨tw_965, tw_966, tw_967⟩
theorem tw_970 : (Jvm.Cond.methodLink "MarlStoreLaw" (111 : Nat) ({ cls := "MarlStore", name := "addQuery", desc := "()I" } : Jvm.MethodName)) ∈ gW := gW_in 970 (by decide +kernel) (by decide +kernel)
theorem tw_971 : (Jvm.Cond.instanceMethod ({ cls := "MarlStore", name := "addQuery", desc := "()I" } : Jvm.MethodName)) ∈ gW := gW_in 971 (by decide +kernel) (by decide +kernel)
theorem tw_972 : (Jvm.Cond.selects "MarlStore" ({ cls := "MarlStore", name := "addQuery", desc := "()I" } : Jvm.MethodName) ({ cls := "MarlStore", name := "addQuery", desc := "()I" } : Jvm.MethodName)) ∈ gW := gW_in 972 (by decide +kernel) (by decide +kernel)
theorem cv_L_111 : gCv RL 111 yX10_addQuery := ⟨tw_970, tw_971, tw_972⟩
theorem tw_975 : (Jvm.Cond.methodLink "MarlStoreLaw" (114 : Nat) ({ cls := "MarlStore", name := "addPart", desc := "(III)I" } : Jvm.MethodName)) ∈ gW := gW_in 975 (by decide +kernel) (by decide +kernel)
theorem tw_976 : (Jvm.Cond.instanceMethod ({ cls := "MarlStore", name := "addPart", desc := "(III)I" } : Jvm.MethodName)) ∈ gW := gW_in 976 (by decide +kernel) (by decide +kernel)
theorem tw_977 : (Jvm.Cond.selects "MarlStore" ({ cls := "MarlStore", name := "addPart", desc := "(III)I" } : Jvm.MethodName) ({ cls := "MarlStore", name := "addPart", desc := "(III)I" } : Jvm.MethodName)) ∈ gW := gW_in 977 (by decide +kernel) (by decide +kernel)
theorem cv_L_114 : gCv RL 114 yX10_addPart := ⟨tw_975, tw_976, tw_977⟩
theorem tw_988 : (Jvm.Cond.methodLink "MarlStoreLaw" (118 : Nat) ({ cls := "MarlStore", name := "dropFound", desc := "(II)I" } : Jvm.MethodName)) ∈ gW := gW_in 988 (by decide +kernel) (by decide +kernel)
theorem tw_989 : (Jvm.Cond.instanceMethod ({ cls := "MarlStore", name := "dropFound", desc := "(II)I" } : Jvm.MethodName)) ∈ gW := gW_in 989 (by decide +kernel) (by decide +kernel)
theorem tw_990 : (Jvm.Cond.selects "MarlStore" ({ cls := "MarlStore", name := "dropFound", desc := "(II)I" } : Jvm.MethodName) ({ cls := "MarlStore", name := "dropFound", desc := "(II)I" } : Jvm.MethodName)) ∈ gW := gW_in 990 (by decide +kernel) (by decide +kernel)
theorem cv_L_118 : gCv RL 118 yX10_dropFound := ⟨tw_988, tw_989, tw_990⟩
theorem tw_951 : (Jvm.Cond.methodLink "MarlStoreLaw" (125 : Nat) ({ cls := "MarlStore", name := "apply", desc := "(II)I" } : Jvm.MethodName)) ∈ gW := gW_in 951 (by decide +kernel) (by decide +kernel)
theorem tw_952 : (Jvm.Cond.instanceMethod ({ cls := "MarlStore", name := "apply", desc := "(II)I" } : Jvm.MethodName)) ∈ gW := gW_in 952 (by decide +kernel) (by decide +kernel)
theorem tw_953 : (Jvm.Cond.selects "MarlStore" ({ cls := "MarlStore", name := "apply", desc := "(II)I" } : Jvm.MethodName) ({ cls := "MarlStore", name := "apply", desc := "(II)I" } : Jvm.MethodName)) ∈ gW := gW_in 953 (by decide +kernel) (by decide +kernel)
theorem cv_L_125 : gCv RL 125 yX10_apply := ⟨tw_951, tw_952, tw_953⟩
theorem tw_1001 : (Jvm.Cond.methodLink "MarlStoreLaw" (128 : Nat) ({ cls := "MarlStore", name := "depth", desc := "(I)I" } : Jvm.MethodName)) ∈ gW := gW_in 1001 (by decide +kernel) (by decide +kernel)
theorem tw_1002 : (Jvm.Cond.instanceMethod ({ cls := "MarlStore", name := "depth", desc := "(I)I" } : Jvm.MethodName)) ∈ gW := gW_in 1002 (by decide +kernel) (by decide +kernel)
theorem tw_1003 : (Jvm.Cond.selects "MarlStore" ({ cls := "MarlStore", name := "depth", desc := "(I)I" } : Jvm.MethodName) ({ cls := "MarlStore", name := "depth", desc := "(I)I" } : Jvm.MethodName)) ∈ gW := gW_in 1003 (by decide +kernel) (by decide +kernel)
theorem cv_L_128 : gCv RL 128 yX10_depth := ⟨tw_1001, tw_1002, tw_1003⟩
theorem tw_1005 : (Jvm.Cond.methodLink "MarlStoreLaw" (131 : Nat) ({ cls := "MarlStore", name := "difference", desc := "(II)I" } : Jvm.MethodName)) ∈ gW := gW_in 1005 (by decide +kernel) (by decide +kernel)
theorem cv_L_131 : gCv RL 131 yX10_difference := ⟨tw_1005, tw_469, tw_470⟩
theorem tw_1009 : (Jvm.Cond.methodLink "MarlStoreLaw" (134 : Nat) ({ cls := "MarlStore", name := "number", desc := "()I" } : Jvm.MethodName)) ∈ gW := gW_in 1009 (by decide +kernel) (by decide +kernel)
theorem tw_1010 : (Jvm.Cond.instanceMethod ({ cls := "MarlStore", name := "number", desc := "()I" } : Jvm.MethodName)) ∈ gW := gW_in 1010 (by decide +kernel) (by decide +kernel)
theorem tw_1011 : (Jvm.Cond.selects "MarlStore" ({ cls := "MarlStore", name := "number", desc := "()I" } : Jvm.MethodName) ({ cls := "MarlStore", name := "number", desc := "()I" } : Jvm.MethodName)) ∈ gW := gW_in 1011 (by decide +kernel) (by decide +kernel)
theorem cv_L_134 : gCv RL 134 yX10_number := ⟨tw_1009, tw_1010, tw_1011⟩
