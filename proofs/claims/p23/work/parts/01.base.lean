/-! base: the words of the tables, classes, methods, links (printed by program: wip/whole/tools/names.py, out of the printed texts of the task) -/
-- ===== PART A: goes FIRST, ahead of the names: the tables' words, and 'selects' of the private methods out of them =====
/-- a private method of a class that the tables say can be made, by its rows of tables_1 -/
def lw_okq (q : MethodName × Nat) : Prop := (q.1.cls ≠ "java/lang/invoke/MethodHandle" ∧ q.1.cls ≠ "java/lang/invoke/VarHandle") ∧ Cond.instantiable q.1.cls q.2 ∈ tables_1 ∧ Cond.privateMethod q.1 ∈ tables_1 ∧ Cond.instanceMethod q.1 ∈ tables_1
theorem lw_p0 : lw_okq (⟨"TriggerStages$Course", "carry", "(IIIIIII)Z"⟩, 11) := ⟨⟨by decide +kernel, by decide +kernel⟩, List.mem_of_getElem? (i := 103) (by decide +kernel), List.mem_of_getElem? (i := 271) (by decide +kernel), List.mem_of_getElem? (i := 272) (by decide +kernel)⟩
theorem lw_p1 : lw_okq (⟨"TriggerStages$Course", "begin", "(IIIIIII)I"⟩, 11) := ⟨⟨by decide +kernel, by decide +kernel⟩, List.mem_of_getElem? (i := 103) (by decide +kernel), List.mem_of_getElem? (i := 305) (by decide +kernel), List.mem_of_getElem? (i := 306) (by decide +kernel)⟩
theorem lw_p2 : lw_okq (⟨"TriggerStages$Course", "isLeftOut", "(I)Z"⟩, 11) := ⟨⟨by decide +kernel, by decide +kernel⟩, List.mem_of_getElem? (i := 103) (by decide +kernel), List.mem_of_getElem? (i := 317) (by decide +kernel), List.mem_of_getElem? (i := 318) (by decide +kernel)⟩
theorem lw_p3 : lw_okq (⟨"TriggerStages$Course", "doStage", "(III)Z"⟩, 11) := ⟨⟨by decide +kernel, by decide +kernel⟩, List.mem_of_getElem? (i := 103) (by decide +kernel), List.mem_of_getElem? (i := 321) (by decide +kernel), List.mem_of_getElem? (i := 322) (by decide +kernel)⟩
theorem lw_p4 : lw_okq (⟨"TriggerStages$Course", "isSetOff", "(III)Z"⟩, 11) := ⟨⟨by decide +kernel, by decide +kernel⟩, List.mem_of_getElem? (i := 103) (by decide +kernel), List.mem_of_getElem? (i := 325) (by decide +kernel), List.mem_of_getElem? (i := 326) (by decide +kernel)⟩
theorem lw_p5 : lw_okq (⟨"TriggerStages$Course", "doDeed", "(III)Z"⟩, 11) := ⟨⟨by decide +kernel, by decide +kernel⟩, List.mem_of_getElem? (i := 103) (by decide +kernel), List.mem_of_getElem? (i := 330) (by decide +kernel), List.mem_of_getElem? (i := 331) (by decide +kernel)⟩
theorem lw_p6 : lw_okq (⟨"TriggerStages$Tables", "insert", "(III)V"⟩, 3) := ⟨⟨by decide +kernel, by decide +kernel⟩, List.mem_of_getElem? (i := 27) (by decide +kernel), List.mem_of_getElem? (i := 338) (by decide +kernel), List.mem_of_getElem? (i := 339) (by decide +kernel)⟩
theorem lw_p7 : lw_okq (⟨"TriggerStages$Tables", "renumber", "(III)V"⟩, 3) := ⟨⟨by decide +kernel, by decide +kernel⟩, List.mem_of_getElem? (i := 27) (by decide +kernel), List.mem_of_getElem? (i := 342) (by decide +kernel), List.mem_of_getElem? (i := 343) (by decide +kernel)⟩
theorem lw_p8 : lw_okq (⟨"TriggerStages$Tables", "remove", "(II)V"⟩, 3) := ⟨⟨by decide +kernel, by decide +kernel⟩, List.mem_of_getElem? (i := 27) (by decide +kernel), List.mem_of_getElem? (i := 346) (by decide +kernel), List.mem_of_getElem? (i := 347) (by decide +kernel)⟩
theorem lw_p9 : lw_okq (⟨"TriggerStages$Course", "noteDone", "(I)V"⟩, 11) := ⟨⟨by decide +kernel, by decide +kernel⟩, List.mem_of_getElem? (i := 103) (by decide +kernel), List.mem_of_getElem? (i := 350) (by decide +kernel), List.mem_of_getElem? (i := 351) (by decide +kernel)⟩
theorem lw_p10 : lw_okq (⟨"TriggerStages$Course", "queueLastStage", "(I)V"⟩, 11) := ⟨⟨by decide +kernel, by decide +kernel⟩, List.mem_of_getElem? (i := 103) (by decide +kernel), List.mem_of_getElem? (i := 354) (by decide +kernel), List.mem_of_getElem? (i := 355) (by decide +kernel)⟩
theorem lw_p11 : lw_okq (⟨"TriggerStages$Triggers", "followersOfAll", "(I)I"⟩, 1) := ⟨⟨by decide +kernel, by decide +kernel⟩, List.mem_of_getElem? (i := 44) (by decide +kernel), List.mem_of_getElem? (i := 400) (by decide +kernel), List.mem_of_getElem? (i := 401) (by decide +kernel)⟩
theorem lw_p12 : lw_okq (⟨"TriggerStages", "takeOver", "()V"⟩, 5) := ⟨⟨by decide +kernel, by decide +kernel⟩, List.mem_of_getElem? (i := 13) (by decide +kernel), List.mem_of_getElem? (i := 535) (by decide +kernel), List.mem_of_getElem? (i := 536) (by decide +kernel)⟩
def lw_privs_1 : List (MethodName × Nat) := [(⟨"TriggerStages$Course", "carry", "(IIIIIII)Z"⟩, 11), (⟨"TriggerStages$Course", "begin", "(IIIIIII)I"⟩, 11), (⟨"TriggerStages$Course", "isLeftOut", "(I)Z"⟩, 11), (⟨"TriggerStages$Course", "doStage", "(III)Z"⟩, 11), (⟨"TriggerStages$Course", "isSetOff", "(III)Z"⟩, 11), (⟨"TriggerStages$Course", "doDeed", "(III)Z"⟩, 11), (⟨"TriggerStages$Tables", "insert", "(III)V"⟩, 3), (⟨"TriggerStages$Tables", "renumber", "(III)V"⟩, 3), (⟨"TriggerStages$Tables", "remove", "(II)V"⟩, 3), (⟨"TriggerStages$Course", "noteDone", "(I)V"⟩, 11), (⟨"TriggerStages$Course", "queueLastStage", "(I)V"⟩, 11), (⟨"TriggerStages$Triggers", "followersOfAll", "(I)I"⟩, 1), (⟨"TriggerStages", "takeOver", "()V"⟩, 5)]
theorem lw_r1 : ∀ q ∈ lw_privs_1, lw_okq q := List.forall_mem_cons.mpr ⟨lw_p0, List.forall_mem_cons.mpr ⟨lw_p1, List.forall_mem_cons.mpr ⟨lw_p2, List.forall_mem_cons.mpr ⟨lw_p3, List.forall_mem_cons.mpr ⟨lw_p4, List.forall_mem_cons.mpr ⟨lw_p5, List.forall_mem_cons.mpr ⟨lw_p6, List.forall_mem_cons.mpr ⟨lw_p7, List.forall_mem_cons.mpr ⟨lw_p8, List.forall_mem_cons.mpr ⟨lw_p9, List.forall_mem_cons.mpr ⟨lw_p10, List.forall_mem_cons.mpr ⟨lw_p11, List.forall_mem_cons.mpr ⟨lw_p12, fun _ h => absurd h List.not_mem_nil⟩⟩⟩⟩⟩⟩⟩⟩⟩⟩⟩⟩⟩
def lw_privs : List (MethodName × Nat) := lw_privs_1
def lw_tbl : List Cond := k2_sels lw_privs ++ tables_1
theorem lw_privs_ok : ∀ q ∈ lw_privs, lw_okq q := lw_r1
def RX0 : String := "TriggerStages$Course"
def TX0 : u_T := fun k => match k with
  | 0 => ("TriggerStages$Course", "tables", "LTriggerStages$Tables;", true)
  | 1 => ("TriggerStages$Course", "journal", "LTriggerStages$Sheet;", true)
  | 2 => ("TriggerStages$Course", "begun", "LTriggerStages$Sheet;", true)
  | 3 => ("TriggerStages$Course", "failure", "LTriggerStages$Failure;", true)
  | 4 => ("TriggerStages$Course", "leftOut", "I", false)
  | 5 => ("TriggerStages$Course", "triggers", "LTriggerStages$Sheet;", true)
  | 6 => ("TriggerStages$Course", "waiting", "LTriggerStages$Sheet;", true)
  | 7 => ("TriggerStages$Course", "isLenient", "Z", false)
  | 8 => ("TriggerStages$Course", "depthLimit", "I", false)
  | 9 => ("TriggerStages$Course", "without", "I", false)
  | _ => ("TriggerStages$Course", "inMotion", "I", false)
def tyX0 : Nat → FieldType := fun k => match k with
  | 0 => .object "TriggerStages$Tables"
  | 1 => .object "TriggerStages$Sheet"
  | 2 => .object "TriggerStages$Sheet"
  | 3 => .object "TriggerStages$Failure"
  | 4 => .int
  | 5 => .object "TriggerStages$Sheet"
  | 6 => .object "TriggerStages$Sheet"
  | 7 => .boolean
  | 8 => .int
  | 9 => .int
  | _ => .int
abbrev wsX00 : List Cond := u_ws RX0 TX0 11
theorem nmX0 : ∀ a, a < 11 → ∀ b, b < 11 → a ≠ b → (TX0 a).2.1 ≠ (TX0 b).2.1 := by decide +kernel
theorem tyX0_ok : ∀ k, k < 11 → parseFieldDescriptor (TX0 k).2.2.1 = some (tyX0 k) := by decide +kernel
abbrev cX0_init : ByteArray := prog_2_method_1_code
def yX0_init : MethodName := ⟨RX0, "<init>", "()V"⟩
abbrev cX0_run : ByteArray := prog_2_method_2_code
def yX0_run : MethodName := ⟨RX0, "run", "(LTriggerStages$State;IIIIII)V"⟩
abbrev cX0_greatestDepth : ByteArray := prog_2_method_3_code
def yX0_greatestDepth : MethodName := ⟨RX0, "greatestDepth", "()I"⟩
abbrev cX0_carry : ByteArray := prog_2_method_4_code
def yX0_carry : MethodName := ⟨RX0, "carry", "(IIIIIII)Z"⟩
abbrev cX0_begin : ByteArray := prog_2_method_5_code
def yX0_begin : MethodName := ⟨RX0, "begin", "(IIIIIII)I"⟩
abbrev cX0_noteDone : ByteArray := prog_2_method_6_code
def yX0_noteDone : MethodName := ⟨RX0, "noteDone", "(I)V"⟩
abbrev cX0_isLeftOut : ByteArray := prog_2_method_7_code
def yX0_isLeftOut : MethodName := ⟨RX0, "isLeftOut", "(I)Z"⟩
abbrev cX0_doStage : ByteArray := prog_2_method_8_code
def yX0_doStage : MethodName := ⟨RX0, "doStage", "(III)Z"⟩
abbrev cX0_queueLastStage : ByteArray := prog_2_method_9_code
def yX0_queueLastStage : MethodName := ⟨RX0, "queueLastStage", "(I)V"⟩
abbrev cX0_isSetOff : ByteArray := prog_2_method_10_code
def yX0_isSetOff : MethodName := ⟨RX0, "isSetOff", "(III)Z"⟩
abbrev cX0_doDeed : ByteArray := prog_2_method_11_code
def yX0_doDeed : MethodName := ⟨RX0, "doDeed", "(III)Z"⟩
def RX1 : String := "TriggerStages$Failure"
def TX1 : u_T := fun k => match k with
  | 0 => ("TriggerStages$Failure", "reason", "I", false)
  | 1 => ("TriggerStages$Failure", "table", "I", false)
  | 2 => ("TriggerStages$Failure", "key", "I", false)
  | 3 => ("TriggerStages$Failure", "blamed", "I", false)
  | _ => ("TriggerStages$Failure", "chain", "[I", true)
def tyX1 : Nat → FieldType := fun k => match k with
  | 0 => .int
  | 1 => .int
  | 2 => .int
  | 3 => .int
  | _ => .array .int
abbrev wsX10 : List Cond := u_ws RX1 TX1 5
theorem nmX1 : ∀ a, a < 5 → ∀ b, b < 5 → a ≠ b → (TX1 a).2.1 ≠ (TX1 b).2.1 := by decide +kernel
theorem tyX1_ok : ∀ k, k < 5 → parseFieldDescriptor (TX1 k).2.2.1 = some (tyX1 k) := by decide +kernel
abbrev cX1_init : ByteArray := prog_3_method_1_code
def yX1_init : MethodName := ⟨RX1, "<init>", "()V"⟩
abbrev cX1_clear : ByteArray := prog_3_method_2_code
def yX1_clear : MethodName := ⟨RX1, "clear", "()V"⟩
abbrev cX1_isThere : ByteArray := prog_3_method_3_code
def yX1_isThere : MethodName := ⟨RX1, "isThere", "()Z"⟩
abbrev cX1_blamedAt : ByteArray := prog_3_method_4_code
def yX1_blamedAt : MethodName := ⟨RX1, "blamedAt", "(I)I"⟩
abbrev cX1_tell : ByteArray := prog_3_method_5_code
def yX1_tell : MethodName := ⟨RX1, "tell", "(IIILTriggerStages$Sheet;II)Z"⟩
def RX2 : String := "TriggerStages$History"
def TX2 : u_T := fun k => match k with
  | 0 => ("TriggerStages$History", "ring", "[LTriggerStages$State;", true)
  | 1 => ("TriggerStages$History", "oldest", "I", false)
  | _ => ("TriggerStages$History", "size", "I", false)
def tyX2 : Nat → FieldType := fun k => match k with
  | 0 => .array (.object "TriggerStages$State")
  | 1 => .int
  | _ => .int
abbrev wsX20 : List Cond := u_ws RX2 TX2 3
theorem nmX2 : ∀ a, a < 3 → ∀ b, b < 3 → a ≠ b → (TX2 a).2.1 ≠ (TX2 b).2.1 := by decide +kernel
theorem tyX2_ok : ∀ k, k < 3 → parseFieldDescriptor (TX2 k).2.2.1 = some (tyX2 k) := by decide +kernel
abbrev cX2_init : ByteArray := prog_4_method_1_code
def yX2_init : MethodName := ⟨RX2, "<init>", "()V"⟩
abbrev cX2_size : ByteArray := prog_4_method_2_code
def yX2_size : MethodName := ⟨RX2, "size", "()I"⟩
abbrev cX2_keep : ByteArray := prog_4_method_3_code
def yX2_keep : MethodName := ⟨RX2, "keep", "(LTriggerStages$State;)V"⟩
abbrev cX2_takeBack : ByteArray := prog_4_method_4_code
def yX2_takeBack : MethodName := ⟨RX2, "takeBack", "(LTriggerStages$State;)Z"⟩
def RX3 : String := "TriggerStages$Pad"
def TX3 : u_T := fun k => match k with
  | 0 => ("TriggerStages$Pad", "signs", "[C", true)
  | 1 => ("TriggerStages$Pad", "parsed", "LTriggerStages$Sheet;", true)
  | 2 => ("TriggerStages$Pad", "length", "I", false)
  | _ => ("TriggerStages$Pad", "at", "I", false)
def tyX3 : Nat → FieldType := fun k => match k with
  | 0 => .array .char
  | 1 => .object "TriggerStages$Sheet"
  | 2 => .int
  | _ => .int
abbrev wsX30 : List Cond := u_ws RX3 TX3 4
theorem nmX3 : ∀ a, a < 4 → ∀ b, b < 4 → a ≠ b → (TX3 a).2.1 ≠ (TX3 b).2.1 := by decide +kernel
theorem tyX3_ok : ∀ k, k < 4 → parseFieldDescriptor (TX3 k).2.2.1 = some (tyX3 k) := by decide +kernel
abbrev cX3_init : ByteArray := prog_5_method_1_code
def yX3_init : MethodName := ⟨RX3, "<init>", "()V"⟩
abbrev cX3_length : ByteArray := prog_5_method_2_code
def yX3_length : MethodName := ⟨RX3, "length", "()I"⟩
def RX4 : String := "TriggerStages$Sheet"
def TX4 : u_T := fun k => match k with
  | 0 => ("TriggerStages$Sheet", "limit", "I", true)
  | 1 => ("TriggerStages$Sheet", "width", "I", true)
  | 2 => ("TriggerStages$Sheet", "cells", "[I", true)
  | _ => ("TriggerStages$Sheet", "size", "I", false)
def tyX4 : Nat → FieldType := fun k => match k with
  | 0 => .int
  | 1 => .int
  | 2 => .array .int
  | _ => .int
abbrev wsX40 : List Cond := u_ws RX4 TX4 4
theorem nmX4 : ∀ a, a < 4 → ∀ b, b < 4 → a ≠ b → (TX4 a).2.1 ≠ (TX4 b).2.1 := by decide +kernel
theorem tyX4_ok : ∀ k, k < 4 → parseFieldDescriptor (TX4 k).2.2.1 = some (tyX4 k) := by decide +kernel
abbrev cX4_init : ByteArray := prog_6_method_1_code
def yX4_init : MethodName := ⟨RX4, "<init>", "(II)V"⟩
abbrev cX4_copyFrom : ByteArray := prog_6_method_2_code
def yX4_copyFrom : MethodName := ⟨RX4, "copyFrom", "(LTriggerStages$Sheet;)V"⟩
abbrev cX4_clear : ByteArray := prog_6_method_3_code
def yX4_clear : MethodName := ⟨RX4, "clear", "()V"⟩
abbrev cX4_size : ByteArray := prog_6_method_4_code
def yX4_size : MethodName := ⟨RX4, "size", "()I"⟩
abbrev cX4_get : ByteArray := prog_6_method_5_code
def yX4_get : MethodName := ⟨RX4, "get", "(II)I"⟩
abbrev cX4_change : ByteArray := prog_6_method_6_code
def yX4_change : MethodName := ⟨RX4, "change", "(III)V"⟩
abbrev cX4_append : ByteArray := prog_6_method_7_code
def yX4_append : MethodName := ⟨RX4, "append", "()I"⟩
abbrev cX4_remove : ByteArray := prog_6_method_8_code
def yX4_remove : MethodName := ⟨RX4, "remove", "(I)V"⟩
def RX5 : String := "TriggerStages$State"
def TX5 : u_T := fun k => match k with
  | 0 => ("TriggerStages$State", "tables", "LTriggerStages$Tables;", true)
  | 1 => ("TriggerStages$State", "triggers", "LTriggerStages$Triggers;", true)
  | 2 => ("TriggerStages$State", "journal", "LTriggerStages$Sheet;", true)
  | 3 => ("TriggerStages$State", "depth", "I", false)
  | _ => ("TriggerStages$State", "lenient", "I", false)
def tyX5 : Nat → FieldType := fun k => match k with
  | 0 => .object "TriggerStages$Tables"
  | 1 => .object "TriggerStages$Triggers"
  | 2 => .object "TriggerStages$Sheet"
  | 3 => .int
  | _ => .int
abbrev wsX50 : List Cond := u_ws RX5 TX5 5
theorem nmX5 : ∀ a, a < 5 → ∀ b, b < 5 → a ≠ b → (TX5 a).2.1 ≠ (TX5 b).2.1 := by decide +kernel
theorem tyX5_ok : ∀ k, k < 5 → parseFieldDescriptor (TX5 k).2.2.1 = some (tyX5 k) := by decide +kernel
abbrev cX5_init : ByteArray := prog_7_method_1_code
def yX5_init : MethodName := ⟨RX5, "<init>", "()V"⟩
abbrev cX5_copyFrom : ByteArray := prog_7_method_2_code
def yX5_copyFrom : MethodName := ⟨RX5, "copyFrom", "(LTriggerStages$State;)V"⟩
def RX6 : String := "TriggerStages$Tables"
def TX6 : u_T := fun k => match k with
  | 0 => ("TriggerStages$Tables", "sizes", "[I", true)
  | 1 => ("TriggerStages$Tables", "keys", "[I", true)
  | _ => ("TriggerStages$Tables", "numbers", "[I", true)
def tyX6 : Nat → FieldType := fun k => match k with
  | 0 => .array .int
  | 1 => .array .int
  | _ => .array .int
abbrev wsX60 : List Cond := u_ws RX6 TX6 3
theorem nmX6 : ∀ a, a < 3 → ∀ b, b < 3 → a ≠ b → (TX6 a).2.1 ≠ (TX6 b).2.1 := by decide +kernel
theorem tyX6_ok : ∀ k, k < 3 → parseFieldDescriptor (TX6 k).2.2.1 = some (tyX6 k) := by decide +kernel
abbrev cX6_init : ByteArray := prog_8_method_1_code
def yX6_init : MethodName := ⟨RX6, "<init>", "()V"⟩
abbrev cX6_copyFrom : ByteArray := prog_8_method_2_code
def yX6_copyFrom : MethodName := ⟨RX6, "copyFrom", "(LTriggerStages$Tables;)V"⟩
abbrev cX6_sizeOf : ByteArray := prog_8_method_3_code
def yX6_sizeOf : MethodName := ⟨RX6, "sizeOf", "(I)I"⟩
abbrev cX6_rows : ByteArray := prog_8_method_4_code
def yX6_rows : MethodName := ⟨RX6, "rows", "()I"⟩
abbrev cX6_sumOfNumbers : ByteArray := prog_8_method_5_code
def yX6_sumOfNumbers : MethodName := ⟨RX6, "sumOfNumbers", "()I"⟩
abbrev cX6_keyAt : ByteArray := prog_8_method_6_code
def yX6_keyAt : MethodName := ⟨RX6, "keyAt", "(II)I"⟩
abbrev cX6_numberAt : ByteArray := prog_8_method_7_code
def yX6_numberAt : MethodName := ⟨RX6, "numberAt", "(II)I"⟩
abbrev cX6_placeOf : ByteArray := prog_8_method_8_code
def yX6_placeOf : MethodName := ⟨RX6, "placeOf", "(II)I"⟩
abbrev cX6_weightOf : ByteArray := prog_8_method_9_code
def yX6_weightOf : MethodName := ⟨RX6, "weightOf", "(IIII)I"⟩
abbrev cX6_apply : ByteArray := prog_8_method_10_code
def yX6_apply : MethodName := ⟨RX6, "apply", "(IIII)V"⟩
abbrev cX6_insert : ByteArray := prog_8_method_11_code
def yX6_insert : MethodName := ⟨RX6, "insert", "(III)V"⟩
abbrev cX6_renumber : ByteArray := prog_8_method_12_code
def yX6_renumber : MethodName := ⟨RX6, "renumber", "(III)V"⟩
abbrev cX6_remove : ByteArray := prog_8_method_13_code
def yX6_remove : MethodName := ⟨RX6, "remove", "(II)V"⟩
def RX7 : String := "TriggerStages$Triggers"
def TX7 : u_T := fun k => match k with
  | _ => ("TriggerStages$Triggers", "sheet", "LTriggerStages$Sheet;", true)
def tyX7 : Nat → FieldType := fun k => match k with
  | _ => .object "TriggerStages$Sheet"
abbrev wsX70 : List Cond := u_ws RX7 TX7 1
theorem nmX7 : ∀ a, a < 1 → ∀ b, b < 1 → a ≠ b → (TX7 a).2.1 ≠ (TX7 b).2.1 := by decide +kernel
theorem tyX7_ok : ∀ k, k < 1 → parseFieldDescriptor (TX7 k).2.2.1 = some (tyX7 k) := by decide +kernel
abbrev cX7_init : ByteArray := prog_9_method_1_code
def yX7_init : MethodName := ⟨RX7, "<init>", "()V"⟩
abbrev cX7_copyFrom : ByteArray := prog_9_method_2_code
def yX7_copyFrom : MethodName := ⟨RX7, "copyFrom", "(LTriggerStages$Triggers;)V"⟩
abbrev cX7_size : ByteArray := prog_9_method_3_code
def yX7_size : MethodName := ⟨RX7, "size", "()I"⟩
abbrev cX7_get : ByteArray := prog_9_method_4_code
def yX7_get : MethodName := ⟨RX7, "get", "(II)I"⟩
abbrev cX7_append : ByteArray := prog_9_method_5_code
def yX7_append : MethodName := ⟨RX7, "append", "(IIII)I"⟩
abbrev cX7_giveDeed : ByteArray := prog_9_method_6_code
def yX7_giveDeed : MethodName := ⟨RX7, "giveDeed", "(IIIII)V"⟩
abbrev cX7_remove : ByteArray := prog_9_method_7_code
def yX7_remove : MethodName := ⟨RX7, "remove", "(I)V"⟩
abbrev cX7_followers : ByteArray := prog_9_method_8_code
def yX7_followers : MethodName := ⟨RX7, "followers", "(I)I"⟩
abbrev cX7_couldSetOffItself : ByteArray := prog_9_method_9_code
def yX7_couldSetOffItself : MethodName := ⟨RX7, "couldSetOffItself", "(I)Z"⟩
abbrev cX7_thoseThatCouldSetOffThemselves : ByteArray := prog_9_method_10_code
def yX7_thoseThatCouldSetOffThemselves : MethodName := ⟨RX7, "thoseThatCouldSetOffThemselves", "()I"⟩
abbrev cX7_followersOfAll : ByteArray := prog_9_method_11_code
def yX7_followersOfAll : MethodName := ⟨RX7, "followersOfAll", "(I)I"⟩
abbrev cX7_isIn : ByteArray := prog_9_method_12_code
def yX7_isIn : MethodName := ⟨RX7, "isIn", "(II)Z"⟩
def RX8 : String := "TriggerStages"
def TX8 : u_T := fun k => match k with
  | 0 => ("TriggerStages", "now", "LTriggerStages$State;", true)
  | 1 => ("TriggerStages", "course", "LTriggerStages$Course;", true)
  | 2 => ("TriggerStages", "pad", "LTriggerStages$Pad;", true)
  | 3 => ("TriggerStages", "history", "LTriggerStages$History;", true)
  | _ => ("TriggerStages", "slots", "[LTriggerStages$State;", true)
def tyX8 : Nat → FieldType := fun k => match k with
  | 0 => .object "TriggerStages$State"
  | 1 => .object "TriggerStages$Course"
  | 2 => .object "TriggerStages$Pad"
  | 3 => .object "TriggerStages$History"
  | _ => .array (.object "TriggerStages$State")
abbrev wsX80 : List Cond := u_ws RX8 TX8 5
theorem nmX8 : ∀ a, a < 5 → ∀ b, b < 5 → a ≠ b → (TX8 a).2.1 ≠ (TX8 b).2.1 := by decide +kernel
theorem tyX8_ok : ∀ k, k < 5 → parseFieldDescriptor (TX8 k).2.2.1 = some (tyX8 k) := by decide +kernel
abbrev cX8_init : ByteArray := prog_1_method_1_code
def yX8_init : MethodName := ⟨RX8, "<init>", "()V"⟩
abbrev cX8_set : ByteArray := prog_1_method_2_code
def yX8_set : MethodName := ⟨RX8, "set", "(II)I"⟩
abbrev cX8_trigger : ByteArray := prog_1_method_3_code
def yX8_trigger : MethodName := ⟨RX8, "trigger", "(IIII)I"⟩
abbrev cX8_deed : ByteArray := prog_1_method_4_code
def yX8_deed : MethodName := ⟨RX8, "deed", "(IIIII)I"⟩
abbrev cX8_dropTrigger : ByteArray := prog_1_method_5_code
def yX8_dropTrigger : MethodName := ⟨RX8, "dropTrigger", "(I)I"⟩
abbrev cX8_state : ByteArray := prog_1_method_6_code
def yX8_state : MethodName := ⟨RX8, "state", "(IIII)I"⟩
abbrev cX8_tried : ByteArray := prog_1_method_7_code
def yX8_tried : MethodName := ⟨RX8, "tried", "(IIIII)I"⟩
abbrev cX8_row : ByteArray := prog_1_method_8_code
def yX8_row : MethodName := ⟨RX8, "row", "(III)I"⟩
abbrev cX8_value : ByteArray := prog_1_method_9_code
def yX8_value : MethodName := ⟨RX8, "value", "(II)I"⟩
abbrev cX8_ofTrigger : ByteArray := prog_1_method_10_code
def yX8_ofTrigger : MethodName := ⟨RX8, "ofTrigger", "(II)I"⟩
abbrev cX8_journal : ByteArray := prog_1_method_11_code
def yX8_journal : MethodName := ⟨RX8, "journal", "(II)I"⟩
abbrev cX8_count : ByteArray := prog_1_method_12_code
def yX8_count : MethodName := ⟨RX8, "count", "(I)I"⟩
abbrev cX8_culprits : ByteArray := prog_1_method_13_code
def yX8_culprits : MethodName := ⟨RX8, "culprits", "(IIII)I"⟩
abbrev cX8_undo : ByteArray := prog_1_method_19_code
def yX8_undo : MethodName := ⟨RX8, "undo", "()I"⟩
abbrev cX8_save : ByteArray := prog_1_method_20_code
def yX8_save : MethodName := ⟨RX8, "save", "(I)I"⟩
abbrev cX8_restore : ByteArray := prog_1_method_21_code
def yX8_restore : MethodName := ⟨RX8, "restore", "(I)I"⟩
abbrev cX8_isWithin : ByteArray := prog_1_method_22_code
def yX8_isWithin : MethodName := ⟨RX8, "isWithin", "(II)Z"⟩
abbrev cX8_errorOf : ByteArray := prog_1_method_23_code
def yX8_errorOf : MethodName := ⟨RX8, "errorOf", "(IIII)I"⟩
abbrev cX8_takeOver : ByteArray := prog_1_method_24_code
def yX8_takeOver : MethodName := ⟨RX8, "takeOver", "()V"⟩
def RX9 : String := "TriggerStagesModel"
def TX9 : u_T := fun k => match k with
  | _ => ("", "", "", false)
def tyX9 : Nat → FieldType := fun k => match k with
  | _ => .int
abbrev wsX90 : List Cond := u_ws RX9 TX9 0
theorem nmX9 : ∀ a, a < 0 → ∀ b, b < 0 → a ≠ b → (TX9 a).2.1 ≠ (TX9 b).2.1 := by decide +kernel
theorem tyX9_ok : ∀ k, k < 0 → parseFieldDescriptor (TX9 k).2.2.1 = some (tyX9 k) := by decide +kernel
def RL : String := "TriggerStagesLaw"
abbrev cL_cell : ByteArray := method_2_code
def yL_cell : MethodName := ⟨RL, "cell", "([II)I"⟩
abbrev cL_low : ByteArray := method_3_code
def yL_low : MethodName := ⟨RL, "low", "(II)I"⟩
abbrev cL_digest : ByteArray := method_4_code
def yL_digest : MethodName := ⟨RL, "digest", "(LTriggerStages;)J"⟩
abbrev cL_act : ByteArray := method_5_code
def yL_act : MethodName := ⟨RL, "act", "(LTriggerStages;II)I"⟩
abbrev cL_holds : ByteArray := method_6_code
def yL_holds : MethodName := ⟨RL, "holds", "(LTriggerStages;)Z"⟩
abbrev cL_law : ByteArray := code
def yL_law : MethodName := ⟨RL, "law", "([I)Z"⟩
abbrev vwCl : List vw_C := [(RX0, TX0, 11), (RX1, TX1, 5), (RX2, TX2, 3), (RX3, TX3, 4), (RX4, TX4, 4), (RX5, TX5, 5), (RX6, TX6, 3), (RX7, TX7, 1), (RX8, TX8, 5)]
/-- the words of the tables that every method carries -/
def TBL : List Cond := lw_tbl.filter goodWord
theorem tb_all {args : Array Value} {s : State} (h : ∀ w ∈ lw_tbl, w.before args s = true) : ∀ w ∈ TBL, w.before args s = true := fun w hw => h w (List.mem_filter.mp hw).1
theorem tb_good : ∀ w ∈ TBL, (w.onTables && w.keeps) = true ∨ ∃ ty, w = .arrayClass ty := fun w hw => good_of_word (List.mem_filter.mp hw).2
theorem tb_t {w : Cond} (h : w ∈ tables_1) (hg : goodWord w = true) : w ∈ TBL := List.mem_filter.mpr ⟨List.mem_append_right _ h, hg⟩
theorem tb_p {w : Cond} (h : w ∈ k2_sels lw_privs) (hg : goodWord w = true) : w ∈ TBL := List.mem_filter.mpr ⟨List.mem_append_left _ h, hg⟩
def ck0 : List Cond := [Cond.initialized RL, Cond.initialized RX8, Cond.initialized RX5, Cond.initialized RX6, Cond.initialized RX7, Cond.initialized RX4, Cond.initialized "java/lang/Math", Cond.initialized RX0, Cond.initialized RX1, Cond.initialized RX3, Cond.initialized RX2, Cond.initialized "java/lang/System", Cond.classLink RL 13 RX8, Cond.instantiable RX8 5, Cond.methodLink RL 57 yX8_init, Cond.instanceMethod yX8_init, Cond.code yX8_init cX8_init 1 none, Cond.methodLink RX8 1 objectInit, Cond.instanceMethod objectInit, Cond.code objectInit ⟨#[0xb1]⟩ 1 none, Cond.classLink RX8 7 RX5, Cond.instantiable RX5 5, Cond.methodLink RX8 9 yX5_init, Cond.instanceMethod yX5_init, Cond.code yX5_init cX5_init 1 none]
def ck1 : List Cond := [Cond.methodLink RX5 3 objectInit, Cond.classLink RX5 9 RX6, Cond.instantiable RX6 3, Cond.methodLink RX5 11 yX6_init, Cond.instanceMethod yX6_init, Cond.code yX6_init cX6_init 1 none, Cond.methodLink RX6 3 objectInit, Cond.fieldLink RX6 9 "TriggerStages$Tables" "sizes" "[I", Cond.fieldLink RX6 15 "TriggerStages$Tables" "keys" "[I", Cond.fieldLink RX6 18 "TriggerStages$Tables" "numbers" "[I", Cond.laysFinal RX6 "TriggerStages$Tables" "sizes" "[I", Cond.soleField RX6 "sizes", Cond.laysFinal RX6 "TriggerStages$Tables" "keys" "[I", Cond.soleField RX6 "keys", Cond.laysFinal RX6 "TriggerStages$Tables" "numbers" "[I", Cond.soleField RX6 "numbers", Cond.superclass RX6 "java/lang/Object", Cond.arrayClass FieldType.int, Cond.classLink RX5 18 RX7, Cond.instantiable RX7 1, Cond.methodLink RX5 20 yX7_init, Cond.instanceMethod yX7_init, Cond.code yX7_init cX7_init 1 none, Cond.methodLink RX7 3 objectInit, Cond.classLink RX7 9 RX4]
def ck2 : List Cond := [Cond.instantiable RX4 4, Cond.methodLink RX7 13 yX4_init, Cond.instanceMethod yX4_init, Cond.code yX4_init cX4_init 3 none, Cond.methodLink RX4 3 objectInit, Cond.methodLink RX4 15 Lib.Math.max.name, Cond.static Lib.Math.max.name, Cond.code Lib.Math.max.name Lib.Math.max.code 2 (some .int), Cond.fieldLink RX4 21 "TriggerStages$Sheet" "limit" "I", Cond.fieldLink RX4 24 "TriggerStages$Sheet" "width" "I", Cond.fieldLink RX4 27 "TriggerStages$Sheet" "cells" "[I", Cond.fieldLink RX4 9 "TriggerStages$Sheet" "size" "I", Cond.laysFinal RX4 "TriggerStages$Sheet" "limit" "I", Cond.soleField RX4 "limit", Cond.laysFinal RX4 "TriggerStages$Sheet" "width" "I", Cond.soleField RX4 "width", Cond.laysFinal RX4 "TriggerStages$Sheet" "cells" "[I", Cond.soleField RX4 "cells", Cond.lays RX4 "TriggerStages$Sheet" "size" "I", Cond.soleField RX4 "size", Cond.superclass RX4 "java/lang/Object", Cond.fieldLink RX7 16 "TriggerStages$Triggers" "sheet" "LTriggerStages$Sheet;", Cond.fieldLink RX0 72 "TriggerStages$Triggers" "sheet" "LTriggerStages$Sheet;", Cond.laysFinal RX7 "TriggerStages$Triggers" "sheet" "LTriggerStages$Sheet;", Cond.soleField RX7 "sheet"]
def ck3 : List Cond := [Cond.superclass RX7 "java/lang/Object", Cond.classLink RX5 25 RX4, Cond.methodLink RX5 29 yX4_init, Cond.fieldLink RX5 12 "TriggerStages$State" "tables" "LTriggerStages$Tables;", Cond.fieldLink RX0 62 "TriggerStages$State" "tables" "LTriggerStages$Tables;", Cond.fieldLink RX8 135 "TriggerStages$State" "tables" "LTriggerStages$Tables;", Cond.fieldLink RX5 21 "TriggerStages$State" "triggers" "LTriggerStages$Triggers;", Cond.fieldLink RX0 69 "TriggerStages$State" "triggers" "LTriggerStages$Triggers;", Cond.fieldLink RX8 56 "TriggerStages$State" "triggers" "LTriggerStages$Triggers;", Cond.fieldLink RX5 32 "TriggerStages$State" "journal" "LTriggerStages$Sheet;", Cond.fieldLink RX8 102 "TriggerStages$State" "journal" "LTriggerStages$Sheet;", Cond.fieldLink RX5 36 "TriggerStages$State" "depth" "I", Cond.fieldLink RX8 49 "TriggerStages$State" "depth" "I", Cond.fieldLink RX5 40 "TriggerStages$State" "lenient" "I", Cond.fieldLink RX0 78 "TriggerStages$State" "lenient" "I", Cond.fieldLink RX8 53 "TriggerStages$State" "lenient" "I", Cond.laysFinal RX5 "TriggerStages$State" "tables" "LTriggerStages$Tables;", Cond.soleField RX5 "tables", Cond.laysFinal RX5 "TriggerStages$State" "triggers" "LTriggerStages$Triggers;", Cond.soleField RX5 "triggers", Cond.laysFinal RX5 "TriggerStages$State" "journal" "LTriggerStages$Sheet;", Cond.soleField RX5 "journal", Cond.lays RX5 "TriggerStages$State" "depth" "I", Cond.soleField RX5 "depth", Cond.lays RX5 "TriggerStages$State" "lenient" "I"]
def ck4 : List Cond := [Cond.soleField RX5 "lenient", Cond.superclass RX5 "java/lang/Object", Cond.classLink RX8 16 RX0, Cond.instantiable RX0 11, Cond.methodLink RX8 18 yX0_init, Cond.instanceMethod yX0_init, Cond.code yX0_init cX0_init 1 none, Cond.methodLink RX0 3 objectInit, Cond.classLink RX0 9 RX6, Cond.methodLink RX0 11 yX6_init, Cond.classLink RX0 18 RX4, Cond.methodLink RX0 20 yX4_init, Cond.classLink RX0 30 RX1, Cond.instantiable RX1 5, Cond.methodLink RX0 32 yX1_init, Cond.instanceMethod yX1_init, Cond.code yX1_init cX1_init 1 none, Cond.methodLink RX1 3 objectInit, Cond.fieldLink RX1 9 "TriggerStages$Failure" "reason" "I", Cond.fieldLink RX8 109 "TriggerStages$Failure" "reason" "I", Cond.fieldLink RX1 15 "TriggerStages$Failure" "table" "I", Cond.fieldLink RX8 122 "TriggerStages$Failure" "table" "I", Cond.fieldLink RX1 18 "TriggerStages$Failure" "key" "I", Cond.fieldLink RX8 125 "TriggerStages$Failure" "key" "I", Cond.fieldLink RX1 21 "TriggerStages$Failure" "blamed" "I"]
def ck5 : List Cond := [Cond.fieldLink RX8 128 "TriggerStages$Failure" "blamed" "I", Cond.fieldLink RX1 24 "TriggerStages$Failure" "chain" "[I", Cond.lays RX1 "TriggerStages$Failure" "reason" "I", Cond.soleField RX1 "reason", Cond.lays RX1 "TriggerStages$Failure" "table" "I", Cond.soleField RX1 "table", Cond.lays RX1 "TriggerStages$Failure" "key" "I", Cond.soleField RX1 "key", Cond.lays RX1 "TriggerStages$Failure" "blamed" "I", Cond.soleField RX1 "blamed", Cond.laysFinal RX1 "TriggerStages$Failure" "chain" "[I", Cond.soleField RX1 "chain", Cond.superclass RX1 "java/lang/Object", Cond.fieldLink RX0 12 "TriggerStages$Course" "tables" "LTriggerStages$Tables;", Cond.fieldLink RX8 198 "TriggerStages$Course" "tables" "LTriggerStages$Tables;", Cond.fieldLink RX0 23 "TriggerStages$Course" "journal" "LTriggerStages$Sheet;", Cond.fieldLink RX8 112 "TriggerStages$Course" "journal" "LTriggerStages$Sheet;", Cond.fieldLink RX0 27 "TriggerStages$Course" "begun" "LTriggerStages$Sheet;", Cond.fieldLink RX8 113 "TriggerStages$Course" "begun" "LTriggerStages$Sheet;", Cond.fieldLink RX0 33 "TriggerStages$Course" "failure" "LTriggerStages$Failure;", Cond.fieldLink RX8 89 "TriggerStages$Course" "failure" "LTriggerStages$Failure;", Cond.fieldLink RX0 37 "TriggerStages$Course" "leftOut" "I", Cond.fieldLink RX8 116 "TriggerStages$Course" "leftOut" "I", Cond.fieldLink RX0 43 "TriggerStages$Course" "triggers" "LTriggerStages$Sheet;", Cond.fieldLink RX0 46 "TriggerStages$Course" "waiting" "LTriggerStages$Sheet;"]
def ck6 : List Cond := [Cond.fieldLink RX0 49 "TriggerStages$Course" "isLenient" "Z", Cond.fieldLink RX0 53 "TriggerStages$Course" "depthLimit" "I", Cond.fieldLink RX0 56 "TriggerStages$Course" "without" "I", Cond.fieldLink RX0 59 "TriggerStages$Course" "inMotion" "I", Cond.laysFinal RX0 "TriggerStages$Course" "tables" "LTriggerStages$Tables;", Cond.soleField RX0 "tables", Cond.laysFinal RX0 "TriggerStages$Course" "journal" "LTriggerStages$Sheet;", Cond.soleField RX0 "journal", Cond.laysFinal RX0 "TriggerStages$Course" "begun" "LTriggerStages$Sheet;", Cond.soleField RX0 "begun", Cond.laysFinal RX0 "TriggerStages$Course" "failure" "LTriggerStages$Failure;", Cond.soleField RX0 "failure", Cond.lays RX0 "TriggerStages$Course" "leftOut" "I", Cond.soleField RX0 "leftOut", Cond.laysFinal RX0 "TriggerStages$Course" "triggers" "LTriggerStages$Sheet;", Cond.soleField RX0 "triggers", Cond.laysFinal RX0 "TriggerStages$Course" "waiting" "LTriggerStages$Sheet;", Cond.soleField RX0 "waiting", Cond.lays RX0 "TriggerStages$Course" "isLenient" "Z", Cond.soleField RX0 "isLenient", Cond.lays RX0 "TriggerStages$Course" "depthLimit" "I", Cond.soleField RX0 "depthLimit", Cond.lays RX0 "TriggerStages$Course" "without" "I", Cond.soleField RX0 "without", Cond.lays RX0 "TriggerStages$Course" "inMotion" "I"]
def ck7 : List Cond := [Cond.soleField RX0 "inMotion", Cond.superclass RX0 "java/lang/Object", Cond.classLink RX8 23 RX3, Cond.instantiable RX3 4, Cond.methodLink RX8 25 yX3_init, Cond.instanceMethod yX3_init, Cond.code yX3_init cX3_init 1 none, Cond.methodLink RX3 3 objectInit, Cond.classLink RX3 15 RX4, Cond.methodLink RX3 17 yX4_init, Cond.fieldLink RX3 9 "TriggerStages$Pad" "signs" "[C", Cond.fieldLink RX3 20 "TriggerStages$Pad" "parsed" "LTriggerStages$Sheet;", Cond.fieldLink RX3 24 "TriggerStages$Pad" "length" "I", Cond.fieldLink RX3 28 "TriggerStages$Pad" "at" "I", Cond.laysFinal RX3 "TriggerStages$Pad" "signs" "[C", Cond.soleField RX3 "signs", Cond.laysFinal RX3 "TriggerStages$Pad" "parsed" "LTriggerStages$Sheet;", Cond.soleField RX3 "parsed", Cond.lays RX3 "TriggerStages$Pad" "length" "I", Cond.soleField RX3 "length", Cond.lays RX3 "TriggerStages$Pad" "at" "I", Cond.soleField RX3 "at", Cond.superclass RX3 "java/lang/Object", Cond.arrayClass FieldType.char, Cond.classLink RX8 30 RX2]
def ck8 : List Cond := [Cond.instantiable RX2 3, Cond.methodLink RX8 32 yX2_init, Cond.instanceMethod yX2_init, Cond.code yX2_init cX2_init 1 none, Cond.methodLink RX2 3 objectInit, Cond.classLink RX2 9 RX5, Cond.arrayOver (FieldType.object RX5), Cond.fieldLink RX2 11 "TriggerStages$History" "ring" "[LTriggerStages$State;", Cond.fieldLink RX2 17 "TriggerStages$History" "oldest" "I", Cond.fieldLink RX2 21 "TriggerStages$History" "size" "I", Cond.laysFinal RX2 "TriggerStages$History" "ring" "[LTriggerStages$State;", Cond.soleField RX2 "ring", Cond.lays RX2 "TriggerStages$History" "oldest" "I", Cond.soleField RX2 "oldest", Cond.lays RX2 "TriggerStages$History" "size" "I", Cond.soleField RX2 "size", Cond.superclass RX2 "java/lang/Object", Cond.fieldLink RX8 10 "TriggerStages" "now" "LTriggerStages$State;", Cond.fieldLink RX8 19 "TriggerStages" "course" "LTriggerStages$Course;", Cond.fieldLink RX8 26 "TriggerStages" "pad" "LTriggerStages$Pad;", Cond.fieldLink RX8 33 "TriggerStages" "history" "LTriggerStages$History;", Cond.fieldLink RX8 37 "TriggerStages" "slots" "[LTriggerStages$State;", Cond.laysFinal RX8 "TriggerStages" "now" "LTriggerStages$State;", Cond.soleField RX8 "now", Cond.laysFinal RX8 "TriggerStages" "course" "LTriggerStages$Course;"]
def ck9 : List Cond := [Cond.soleField RX8 "course", Cond.laysFinal RX8 "TriggerStages" "pad" "LTriggerStages$Pad;", Cond.soleField RX8 "pad", Cond.laysFinal RX8 "TriggerStages" "history" "LTriggerStages$History;", Cond.soleField RX8 "history", Cond.laysFinal RX8 "TriggerStages" "slots" "[LTriggerStages$State;", Cond.soleField RX8 "slots", Cond.superclass RX8 "java/lang/Object", Cond.methodLink RL 77 yX8_tried, Cond.instanceMethod yX8_tried, Cond.selects RX8 yX8_tried yX8_tried, Cond.code yX8_tried cX8_tried 8 (some .int), Cond.methodLink RX8 82 yX8_errorOf, Cond.static yX8_errorOf, Cond.code yX8_errorOf cX8_errorOf 4 (some .int)]
set_option maxRecDepth 100000 in
theorem tq1 : tables_1_1 = ck0 ++ (ck1 ++ (ck2 ++ (ck3 ++ (ck4 ++ (ck5 ++ (ck6 ++ (ck7 ++ (ck8 ++ (ck9))))))))) := rfl
theorem ck0_in : ∀ w ∈ ck0, goodWord w = true → w ∈ TBL := fun w h => tb_t (show w ∈ tables_1 from (List.mem_append_left _ (tq1 ▸ (List.mem_append_left _ h) : w ∈ tables_1_1)))
theorem ck1_in : ∀ w ∈ ck1, goodWord w = true → w ∈ TBL := fun w h => tb_t (show w ∈ tables_1 from (List.mem_append_left _ (tq1 ▸ (List.mem_append_right _ (List.mem_append_left _ h)) : w ∈ tables_1_1)))
theorem ck2_in : ∀ w ∈ ck2, goodWord w = true → w ∈ TBL := fun w h => tb_t (show w ∈ tables_1 from (List.mem_append_left _ (tq1 ▸ (List.mem_append_right _ (List.mem_append_right _ (List.mem_append_left _ h))) : w ∈ tables_1_1)))
theorem ck3_in : ∀ w ∈ ck3, goodWord w = true → w ∈ TBL := fun w h => tb_t (show w ∈ tables_1 from (List.mem_append_left _ (tq1 ▸ (List.mem_append_right _ (List.mem_append_right _ (List.mem_append_right _ (List.mem_append_left _ h)))) : w ∈ tables_1_1)))
theorem ck4_in : ∀ w ∈ ck4, goodWord w = true → w ∈ TBL := fun w h => tb_t (show w ∈ tables_1 from (List.mem_append_left _ (tq1 ▸ (List.mem_append_right _ (List.mem_append_right _ (List.mem_append_right _ (List.mem_append_right _ (List.mem_append_left _ h))))) : w ∈ tables_1_1)))
theorem ck5_in : ∀ w ∈ ck5, goodWord w = true → w ∈ TBL := fun w h => tb_t (show w ∈ tables_1 from (List.mem_append_left _ (tq1 ▸ (List.mem_append_right _ (List.mem_append_right _ (List.mem_append_right _ (List.mem_append_right _ (List.mem_append_right _ (List.mem_append_left _ h)))))) : w ∈ tables_1_1)))
theorem ck6_in : ∀ w ∈ ck6, goodWord w = true → w ∈ TBL := fun w h => tb_t (show w ∈ tables_1 from (List.mem_append_left _ (tq1 ▸ (List.mem_append_right _ (List.mem_append_right _ (List.mem_append_right _ (List.mem_append_right _ (List.mem_append_right _ (List.mem_append_right _ (List.mem_append_left _ h))))))) : w ∈ tables_1_1)))
theorem ck7_in : ∀ w ∈ ck7, goodWord w = true → w ∈ TBL := fun w h => tb_t (show w ∈ tables_1 from (List.mem_append_left _ (tq1 ▸ (List.mem_append_right _ (List.mem_append_right _ (List.mem_append_right _ (List.mem_append_right _ (List.mem_append_right _ (List.mem_append_right _ (List.mem_append_right _ (List.mem_append_left _ h)))))))) : w ∈ tables_1_1)))
theorem ck8_in : ∀ w ∈ ck8, goodWord w = true → w ∈ TBL := fun w h => tb_t (show w ∈ tables_1 from (List.mem_append_left _ (tq1 ▸ (List.mem_append_right _ (List.mem_append_right _ (List.mem_append_right _ (List.mem_append_right _ (List.mem_append_right _ (List.mem_append_right _ (List.mem_append_right _ (List.mem_append_right _ (List.mem_append_left _ h))))))))) : w ∈ tables_1_1)))
theorem ck9_in : ∀ w ∈ ck9, goodWord w = true → w ∈ TBL := fun w h => tb_t (show w ∈ tables_1 from (List.mem_append_left _ (tq1 ▸ (List.mem_append_right _ (List.mem_append_right _ (List.mem_append_right _ (List.mem_append_right _ (List.mem_append_right _ (List.mem_append_right _ (List.mem_append_right _ (List.mem_append_right _ (List.mem_append_right _ h))))))))) : w ∈ tables_1_1)))
def ck10 : List Cond := [Cond.methodLink RX8 41 yX8_isWithin, Cond.static yX8_isWithin, Cond.code yX8_isWithin cX8_isWithin 2 (some .boolean), Cond.methodLink RX8 85 yX0_run, Cond.instanceMethod yX0_run, Cond.selects RX0 yX0_run yX0_run, Cond.code yX0_run cX0_run 11 none, Cond.methodLink RX0 65 yX6_copyFrom, Cond.instanceMethod yX6_copyFrom, Cond.selects RX6 yX6_copyFrom yX6_copyFrom, Cond.code yX6_copyFrom cX6_copyFrom 2 none, Cond.methodLink RX6 21 arraycopyName, Cond.static arraycopyName, Cond.native arraycopyName, Cond.methodLink RX0 75 yX4_copyFrom, Cond.instanceMethod yX4_copyFrom, Cond.selects RX4 yX4_copyFrom yX4_copyFrom, Cond.code yX4_copyFrom cX4_copyFrom 3 none, Cond.methodLink RX4 31 Lib.Math.min.name, Cond.static Lib.Math.min.name, Cond.code Lib.Math.min.name Lib.Math.min.code 2 (some .int), Cond.methodLink RX4 34 arraycopyName, Cond.methodLink RX0 81 yX4_clear, Cond.instanceMethod yX4_clear, Cond.selects RX4 yX4_clear yX4_clear]
def ck11 : List Cond := [Cond.code yX4_clear cX4_clear 1 none, Cond.methodLink RX0 84 yX1_clear, Cond.instanceMethod yX1_clear, Cond.selects RX1 yX1_clear yX1_clear, Cond.code yX1_clear cX1_clear 1 none, Cond.methodLink RX0 85 yX0_carry, Cond.privateMethod yX0_carry, Cond.instanceMethod yX0_carry, Cond.code yX0_carry cX0_carry 12 (some .boolean), Cond.methodLink RX0 106 yX1_tell, Cond.instanceMethod yX1_tell, Cond.selects RX1 yX1_tell yX1_tell, Cond.code yX1_tell cX1_tell 10 (some .boolean), Cond.methodLink RX1 34 yX4_get, Cond.instanceMethod yX4_get, Cond.selects RX4 yX4_get yX4_get, Cond.code yX4_get cX4_get 4 (some .int), Cond.methodLink RX1 40 Lib.Math.min.name, Cond.methodLink RX0 89 yX4_size, Cond.instanceMethod yX4_size, Cond.selects RX4 yX4_size yX4_size, Cond.code yX4_size cX4_size 1 (some .int), Cond.methodLink RX0 110 yX6_weightOf, Cond.instanceMethod yX6_weightOf, Cond.selects RX6 yX6_weightOf yX6_weightOf]
def ck12 : List Cond := [Cond.code yX6_weightOf cX6_weightOf 7 (some .int), Cond.methodLink RX6 39 yX6_placeOf, Cond.instanceMethod yX6_placeOf, Cond.selects RX6 yX6_placeOf yX6_placeOf, Cond.code yX6_placeOf cX6_placeOf 5 (some .int), Cond.methodLink RX6 35 yX6_sizeOf, Cond.instanceMethod yX6_sizeOf, Cond.selects RX6 yX6_sizeOf yX6_sizeOf, Cond.code yX6_sizeOf cX6_sizeOf 2 (some .int)]
def ck13 : List Cond := [Cond.methodLinkNest RX6 27 yX8_isWithin RX8]
def ck14 : List Cond := [Cond.methodLink RX6 31 yX6_numberAt, Cond.instanceMethod yX6_numberAt, Cond.selects RX6 yX6_numberAt yX6_numberAt, Cond.code yX6_numberAt cX6_numberAt 3 (some .int), Cond.methodLink RX0 114 yX0_begin, Cond.privateMethod yX0_begin, Cond.instanceMethod yX0_begin, Cond.code yX0_begin cX0_begin 9 (some .int), Cond.methodLink RX0 136 yX4_append, Cond.instanceMethod yX4_append, Cond.selects RX4 yX4_append yX4_append, Cond.code yX4_append cX4_append 1 (some .int), Cond.methodLink RX0 139 yX4_change, Cond.instanceMethod yX4_change, Cond.selects RX4 yX4_change yX4_change, Cond.code yX4_change cX4_change 4 none, Cond.methodLink RX0 118 yX0_isLeftOut, Cond.privateMethod yX0_isLeftOut, Cond.instanceMethod yX0_isLeftOut, Cond.code yX0_isLeftOut cX0_isLeftOut 2 (some .boolean), Cond.methodLink RX0 122 yX0_doStage, Cond.privateMethod yX0_doStage, Cond.instanceMethod yX0_doStage, Cond.code yX0_doStage cX0_doStage 5 (some .boolean), Cond.methodLink RX0 143 yX0_isSetOff]
def ck15 : List Cond := [Cond.privateMethod yX0_isSetOff, Cond.instanceMethod yX0_isSetOff, Cond.code yX0_isSetOff cX0_isSetOff 4 (some .boolean), Cond.methodLink RX0 93 yX4_get, Cond.methodLink RX0 97 yX0_doDeed, Cond.privateMethod yX0_doDeed, Cond.instanceMethod yX0_doDeed, Cond.code yX0_doDeed cX0_doDeed 7 (some .boolean), Cond.methodLink RX0 125 yX6_apply, Cond.instanceMethod yX6_apply, Cond.selects RX6 yX6_apply yX6_apply, Cond.code yX6_apply cX6_apply 5 none, Cond.methodLink RX6 42 yX6_insert, Cond.privateMethod yX6_insert, Cond.instanceMethod yX6_insert, Cond.code yX6_insert cX6_insert 6 none, Cond.methodLink RX6 46 yX6_renumber, Cond.privateMethod yX6_renumber, Cond.instanceMethod yX6_renumber, Cond.code yX6_renumber cX6_renumber 4 none, Cond.methodLink RX6 49 yX6_remove, Cond.privateMethod yX6_remove, Cond.instanceMethod yX6_remove, Cond.code yX6_remove cX6_remove 5 none, Cond.methodLink RX0 129 yX0_noteDone]
def ck16 : List Cond := [Cond.privateMethod yX0_noteDone, Cond.instanceMethod yX0_noteDone, Cond.code yX0_noteDone cX0_noteDone 4 none, Cond.methodLink RX0 133 yX0_queueLastStage, Cond.privateMethod yX0_queueLastStage, Cond.instanceMethod yX0_queueLastStage, Cond.code yX0_queueLastStage cX0_queueLastStage 4 none, Cond.methodLink RX8 93 yX1_isThere, Cond.instanceMethod yX1_isThere, Cond.selects RX1 yX1_isThere yX1_isThere, Cond.code yX1_isThere cX1_isThere 1 (some .boolean), Cond.methodLink RX8 106 yX4_size, Cond.methodLink RX8 119 yX0_greatestDepth, Cond.instanceMethod yX0_greatestDepth, Cond.selects RX0 yX0_greatestDepth yX0_greatestDepth, Cond.code yX0_greatestDepth cX0_greatestDepth 3 (some .int), Cond.methodLink RX0 101 Lib.Math.max.name, Cond.methodLink RX8 131 yX1_blamedAt, Cond.instanceMethod yX1_blamedAt, Cond.selects RX1 yX1_blamedAt yX1_blamedAt, Cond.code yX1_blamedAt cX1_blamedAt 2 (some .int)]
def ck17 : List Cond := [Cond.methodLinkNest RX1 28 yX8_isWithin RX8]
def ck18 : List Cond := [Cond.methodLink RL 12 yX8_count, Cond.instanceMethod yX8_count, Cond.selects RX8 yX8_count yX8_count, Cond.code yX8_count cX8_count 2 (some .int), Cond.methodLink RX8 139 yX6_sizeOf, Cond.methodLink RX8 60 yX7_size, Cond.instanceMethod yX7_size, Cond.selects RX7 yX7_size yX7_size, Cond.code yX7_size cX7_size 1 (some .int), Cond.methodLink RX7 24 yX4_size, Cond.methodLink RX8 161 yX6_sumOfNumbers, Cond.instanceMethod yX6_sumOfNumbers, Cond.selects RX6 yX6_sumOfNumbers yX6_sumOfNumbers, Cond.code yX6_sumOfNumbers cX6_sumOfNumbers 4 (some .int), Cond.methodLink RX8 164 yX7_thoseThatCouldSetOffThemselves, Cond.instanceMethod yX7_thoseThatCouldSetOffThemselves, Cond.selects RX7 yX7_thoseThatCouldSetOffThemselves yX7_thoseThatCouldSetOffThemselves, Cond.code yX7_thoseThatCouldSetOffThemselves cX7_thoseThatCouldSetOffThemselves 3 (some .int), Cond.methodLink RX7 58 yX7_couldSetOffItself, Cond.instanceMethod yX7_couldSetOffItself, Cond.selects RX7 yX7_couldSetOffItself yX7_couldSetOffItself, Cond.code yX7_couldSetOffItself cX7_couldSetOffItself 4 (some .boolean), Cond.methodLink RX7 47 yX7_followers, Cond.instanceMethod yX7_followers, Cond.selects RX7 yX7_followers yX7_followers]
def ck19 : List Cond := [Cond.code yX7_followers cX7_followers 6 (some .int), Cond.methodLink RX7 28 yX4_get, Cond.methodLink RX7 51 yX7_followersOfAll, Cond.privateMethod yX7_followersOfAll, Cond.instanceMethod yX7_followersOfAll, Cond.code yX7_followersOfAll cX7_followersOfAll 4 (some .int), Cond.methodLink RX7 54 yX7_isIn, Cond.static yX7_isIn, Cond.code yX7_isIn cX7_isIn 2 (some .boolean), Cond.methodLink RX8 167 yX3_length, Cond.instanceMethod yX3_length, Cond.selects RX3 yX3_length yX3_length, Cond.code yX3_length cX3_length 1 (some .int), Cond.methodLink RX8 170 yX2_size, Cond.instanceMethod yX2_size, Cond.selects RX2 yX2_size yX2_size, Cond.code yX2_size cX2_size 1 (some .int), Cond.methodLink RL 80 yX8_culprits, Cond.instanceMethod yX8_culprits, Cond.selects RX8 yX8_culprits yX8_culprits, Cond.code yX8_culprits cX8_culprits 8 (some .int), Cond.methodLink RL 58 yX8_undo, Cond.instanceMethod yX8_undo, Cond.selects RX8 yX8_undo yX8_undo, Cond.code yX8_undo cX8_undo 1 (some .int)]
def ck20 : List Cond := [Cond.methodLink RX8 188 yX2_takeBack, Cond.instanceMethod yX2_takeBack, Cond.selects RX2 yX2_takeBack yX2_takeBack, Cond.code yX2_takeBack cX2_takeBack 4 (some .boolean)]
def ck21 : List Cond := [Cond.methodLinkNest RX2 24 yX8_isWithin RX8]
def ck22 : List Cond := [Cond.methodLink RX2 29 yX5_copyFrom, Cond.instanceMethod yX5_copyFrom, Cond.selects RX5 yX5_copyFrom yX5_copyFrom, Cond.code yX5_copyFrom cX5_copyFrom 2 none, Cond.methodLink RX5 43 yX6_copyFrom, Cond.methodLink RX5 47 yX7_copyFrom, Cond.instanceMethod yX7_copyFrom, Cond.selects RX7 yX7_copyFrom yX7_copyFrom, Cond.code yX7_copyFrom cX7_copyFrom 2 none, Cond.methodLink RX7 20 yX4_copyFrom, Cond.methodLink RX5 50 yX4_copyFrom, Cond.methodLink RL 62 yX8_save, Cond.instanceMethod yX8_save, Cond.selects RX8 yX8_save yX8_save, Cond.code yX8_save cX8_save 3 (some .int), Cond.methodLink RX8 192 yX5_copyFrom, Cond.methodLink RX8 195 yX6_rows, Cond.instanceMethod yX6_rows, Cond.selects RX6 yX6_rows yX6_rows, Cond.code yX6_rows cX6_rows 3 (some .int), Cond.methodLink RL 48 yX8_restore, Cond.instanceMethod yX8_restore, Cond.selects RX8 yX8_restore yX8_restore, Cond.code yX8_restore cX8_restore 3 (some .int), Cond.methodLink RX8 45 yX2_keep]
def ck23 : List Cond := [Cond.instanceMethod yX2_keep, Cond.selects RX2 yX2_keep yX2_keep, Cond.code yX2_keep cX2_keep 4 none, Cond.methodLink RX2 28 yX5_init, Cond.methodLink RL 69 yL_cell, Cond.static yL_cell, Cond.code yL_cell cL_cell 2 (some .int), Cond.methodLink RL 29 yL_low, Cond.static yL_low, Cond.code yL_low cL_low 2 (some .int), Cond.constant RL 7 (2147483647 : Int32), Cond.methodLink RL 65 yL_digest, Cond.static yL_digest, Cond.code yL_digest cL_digest 5 (some .long), Cond.constantLong RL 8 3, Cond.constantLong RL 10 31, Cond.methodLink RL 18 yX8_row, Cond.instanceMethod yX8_row, Cond.selects RX8 yX8_row yX8_row, Cond.code yX8_row cX8_row 4 (some .int), Cond.methodLink RX8 144 yX6_keyAt, Cond.instanceMethod yX6_keyAt, Cond.selects RX6 yX6_keyAt yX6_keyAt, Cond.code yX6_keyAt cX6_keyAt 3 (some .int), Cond.methodLink RX8 147 yX6_numberAt]
def ck24 : List Cond := [Cond.methodLink RL 22 yX8_ofTrigger, Cond.instanceMethod yX8_ofTrigger, Cond.selects RX8 yX8_ofTrigger yX8_ofTrigger]
set_option maxRecDepth 100000 in
theorem tq2 : tables_1_2 = ck10 ++ (ck11 ++ (ck12 ++ (ck13 ++ (ck14 ++ (ck15 ++ (ck16 ++ (ck17 ++ (ck18 ++ (ck19 ++ (ck20 ++ (ck21 ++ (ck22 ++ (ck23 ++ (ck24)))))))))))))) := rfl
theorem ck10_in : ∀ w ∈ ck10, goodWord w = true → w ∈ TBL := fun w h => tb_t (show w ∈ tables_1 from (List.mem_append_right _ (List.mem_append_left _ (tq2 ▸ (List.mem_append_left _ h) : w ∈ tables_1_2))))
theorem ck11_in : ∀ w ∈ ck11, goodWord w = true → w ∈ TBL := fun w h => tb_t (show w ∈ tables_1 from (List.mem_append_right _ (List.mem_append_left _ (tq2 ▸ (List.mem_append_right _ (List.mem_append_left _ h)) : w ∈ tables_1_2))))
theorem ck12_in : ∀ w ∈ ck12, goodWord w = true → w ∈ TBL := fun w h => tb_t (show w ∈ tables_1 from (List.mem_append_right _ (List.mem_append_left _ (tq2 ▸ (List.mem_append_right _ (List.mem_append_right _ (List.mem_append_left _ h))) : w ∈ tables_1_2))))
theorem ck13_lw : ∀ w ∈ ck13, w ∈ lw_tbl := fun w h => List.mem_append_right _ (show w ∈ tables_1 from (List.mem_append_right _ (List.mem_append_left _ (tq2 ▸ (List.mem_append_right _ (List.mem_append_right _ (List.mem_append_right _ (List.mem_append_left _ h)))) : w ∈ tables_1_2))))
theorem ck14_in : ∀ w ∈ ck14, goodWord w = true → w ∈ TBL := fun w h => tb_t (show w ∈ tables_1 from (List.mem_append_right _ (List.mem_append_left _ (tq2 ▸ (List.mem_append_right _ (List.mem_append_right _ (List.mem_append_right _ (List.mem_append_right _ (List.mem_append_left _ h))))) : w ∈ tables_1_2))))
theorem ck15_in : ∀ w ∈ ck15, goodWord w = true → w ∈ TBL := fun w h => tb_t (show w ∈ tables_1 from (List.mem_append_right _ (List.mem_append_left _ (tq2 ▸ (List.mem_append_right _ (List.mem_append_right _ (List.mem_append_right _ (List.mem_append_right _ (List.mem_append_right _ (List.mem_append_left _ h)))))) : w ∈ tables_1_2))))
theorem ck16_in : ∀ w ∈ ck16, goodWord w = true → w ∈ TBL := fun w h => tb_t (show w ∈ tables_1 from (List.mem_append_right _ (List.mem_append_left _ (tq2 ▸ (List.mem_append_right _ (List.mem_append_right _ (List.mem_append_right _ (List.mem_append_right _ (List.mem_append_right _ (List.mem_append_right _ (List.mem_append_left _ h))))))) : w ∈ tables_1_2))))
theorem ck17_lw : ∀ w ∈ ck17, w ∈ lw_tbl := fun w h => List.mem_append_right _ (show w ∈ tables_1 from (List.mem_append_right _ (List.mem_append_left _ (tq2 ▸ (List.mem_append_right _ (List.mem_append_right _ (List.mem_append_right _ (List.mem_append_right _ (List.mem_append_right _ (List.mem_append_right _ (List.mem_append_right _ (List.mem_append_left _ h)))))))) : w ∈ tables_1_2))))
theorem ck18_in : ∀ w ∈ ck18, goodWord w = true → w ∈ TBL := fun w h => tb_t (show w ∈ tables_1 from (List.mem_append_right _ (List.mem_append_left _ (tq2 ▸ (List.mem_append_right _ (List.mem_append_right _ (List.mem_append_right _ (List.mem_append_right _ (List.mem_append_right _ (List.mem_append_right _ (List.mem_append_right _ (List.mem_append_right _ (List.mem_append_left _ h))))))))) : w ∈ tables_1_2))))
theorem ck19_in : ∀ w ∈ ck19, goodWord w = true → w ∈ TBL := fun w h => tb_t (show w ∈ tables_1 from (List.mem_append_right _ (List.mem_append_left _ (tq2 ▸ (List.mem_append_right _ (List.mem_append_right _ (List.mem_append_right _ (List.mem_append_right _ (List.mem_append_right _ (List.mem_append_right _ (List.mem_append_right _ (List.mem_append_right _ (List.mem_append_right _ (List.mem_append_left _ h)))))))))) : w ∈ tables_1_2))))
theorem ck20_in : ∀ w ∈ ck20, goodWord w = true → w ∈ TBL := fun w h => tb_t (show w ∈ tables_1 from (List.mem_append_right _ (List.mem_append_left _ (tq2 ▸ (List.mem_append_right _ (List.mem_append_right _ (List.mem_append_right _ (List.mem_append_right _ (List.mem_append_right _ (List.mem_append_right _ (List.mem_append_right _ (List.mem_append_right _ (List.mem_append_right _ (List.mem_append_right _ (List.mem_append_left _ h))))))))))) : w ∈ tables_1_2))))
theorem ck21_lw : ∀ w ∈ ck21, w ∈ lw_tbl := fun w h => List.mem_append_right _ (show w ∈ tables_1 from (List.mem_append_right _ (List.mem_append_left _ (tq2 ▸ (List.mem_append_right _ (List.mem_append_right _ (List.mem_append_right _ (List.mem_append_right _ (List.mem_append_right _ (List.mem_append_right _ (List.mem_append_right _ (List.mem_append_right _ (List.mem_append_right _ (List.mem_append_right _ (List.mem_append_right _ (List.mem_append_left _ h)))))))))))) : w ∈ tables_1_2))))
theorem ck22_in : ∀ w ∈ ck22, goodWord w = true → w ∈ TBL := fun w h => tb_t (show w ∈ tables_1 from (List.mem_append_right _ (List.mem_append_left _ (tq2 ▸ (List.mem_append_right _ (List.mem_append_right _ (List.mem_append_right _ (List.mem_append_right _ (List.mem_append_right _ (List.mem_append_right _ (List.mem_append_right _ (List.mem_append_right _ (List.mem_append_right _ (List.mem_append_right _ (List.mem_append_right _ (List.mem_append_right _ (List.mem_append_left _ h))))))))))))) : w ∈ tables_1_2))))
theorem ck23_in : ∀ w ∈ ck23, goodWord w = true → w ∈ TBL := fun w h => tb_t (show w ∈ tables_1 from (List.mem_append_right _ (List.mem_append_left _ (tq2 ▸ (List.mem_append_right _ (List.mem_append_right _ (List.mem_append_right _ (List.mem_append_right _ (List.mem_append_right _ (List.mem_append_right _ (List.mem_append_right _ (List.mem_append_right _ (List.mem_append_right _ (List.mem_append_right _ (List.mem_append_right _ (List.mem_append_right _ (List.mem_append_right _ (List.mem_append_left _ h)))))))))))))) : w ∈ tables_1_2))))
theorem ck24_in : ∀ w ∈ ck24, goodWord w = true → w ∈ TBL := fun w h => tb_t (show w ∈ tables_1 from (List.mem_append_right _ (List.mem_append_left _ (tq2 ▸ (List.mem_append_right _ (List.mem_append_right _ (List.mem_append_right _ (List.mem_append_right _ (List.mem_append_right _ (List.mem_append_right _ (List.mem_append_right _ (List.mem_append_right _ (List.mem_append_right _ (List.mem_append_right _ (List.mem_append_right _ (List.mem_append_right _ (List.mem_append_right _ (List.mem_append_right _ h)))))))))))))) : w ∈ tables_1_2))))
def ck25 : List Cond := [Cond.code yX8_ofTrigger cX8_ofTrigger 3 (some .int), Cond.methodLink RX8 70 yX7_get, Cond.instanceMethod yX7_get, Cond.selects RX7 yX7_get yX7_get, Cond.code yX7_get cX7_get 3 (some .int), Cond.methodLink RX8 153 yX7_followers, Cond.methodLink RX8 156 yX7_couldSetOffItself, Cond.methodLink RL 26 yX8_journal, Cond.instanceMethod yX8_journal, Cond.selects RX8 yX8_journal yX8_journal, Cond.code yX8_journal cX8_journal 3 (some .int), Cond.methodLink RX8 160 yX4_get, Cond.methodLink RL 73 yL_act, Cond.static yL_act, Cond.code yL_act cL_act 4 (some .int), Cond.methodLink RL 34 yX8_set, Cond.instanceMethod yX8_set, Cond.selects RX8 yX8_set yX8_set, Cond.code yX8_set cX8_set 4 (some .int), Cond.methodLink RL 37 yX8_trigger, Cond.instanceMethod yX8_trigger, Cond.selects RX8 yX8_trigger yX8_trigger, Cond.code yX8_trigger cX8_trigger 5 (some .int), Cond.methodLink RX8 66 yX7_append, Cond.instanceMethod yX7_append]
def ck26 : List Cond := [Cond.selects RX7 yX7_append yX7_append, Cond.code yX7_append cX7_append 6 (some .int), Cond.methodLink RX7 32 yX4_append, Cond.methodLink RX7 35 yX4_change, Cond.methodLink RX7 39 yX7_giveDeed, Cond.instanceMethod yX7_giveDeed, Cond.selects RX7 yX7_giveDeed yX7_giveDeed, Cond.code yX7_giveDeed cX7_giveDeed 6 none, Cond.methodLink RL 41 yX8_deed, Cond.instanceMethod yX8_deed, Cond.selects RX8 yX8_deed yX8_deed, Cond.code yX8_deed cX8_deed 7 (some .int), Cond.methodLink RX8 74 yX7_giveDeed, Cond.methodLink RL 45 yX8_dropTrigger, Cond.instanceMethod yX8_dropTrigger, Cond.selects RX8 yX8_dropTrigger yX8_dropTrigger, Cond.code yX8_dropTrigger cX8_dropTrigger 2 (some .int), Cond.methodLink RX8 78 yX7_remove, Cond.instanceMethod yX7_remove, Cond.selects RX7 yX7_remove yX7_remove, Cond.code yX7_remove cX7_remove 2 none, Cond.methodLink RX7 43 yX4_remove, Cond.instanceMethod yX4_remove, Cond.selects RX4 yX4_remove yX4_remove, Cond.code yX4_remove cX4_remove 3 none]
def ck27 : List Cond := [Cond.methodLink RL 51 yX8_state, Cond.instanceMethod yX8_state, Cond.selects RX8 yX8_state yX8_state, Cond.code yX8_state cX8_state 6 (some .int), Cond.methodLink RX8 99 yX8_takeOver, Cond.privateMethod yX8_takeOver, Cond.instanceMethod yX8_takeOver, Cond.code yX8_takeOver cX8_takeOver 1 none, Cond.methodLink RX8 199 yX6_copyFrom, Cond.methodLink RX8 202 yX4_copyFrom, Cond.methodLink RL 83 yL_holds, Cond.static yL_holds, Cond.code yL_holds cL_holds 6 (some .boolean), Cond.methodLink RL 54 yX8_value, Cond.instanceMethod yX8_value, Cond.selects RX8 yX8_value yX8_value, Cond.code yX8_value cX8_value 4 (some .int), Cond.methodLink RX8 150 yX6_placeOf]
set_option maxRecDepth 100000 in
theorem tq3 : tables_1_3 = ck25 ++ (ck26 ++ (ck27)) := rfl
theorem ck25_in : ∀ w ∈ ck25, goodWord w = true → w ∈ TBL := fun w h => tb_t (show w ∈ tables_1 from (List.mem_append_right _ (List.mem_append_right _ (tq3 ▸ (List.mem_append_left _ h) : w ∈ tables_1_3))))
theorem ck26_in : ∀ w ∈ ck26, goodWord w = true → w ∈ TBL := fun w h => tb_t (show w ∈ tables_1 from (List.mem_append_right _ (List.mem_append_right _ (tq3 ▸ (List.mem_append_right _ (List.mem_append_left _ h)) : w ∈ tables_1_3))))
theorem ck27_in : ∀ w ∈ ck27, goodWord w = true → w ∈ TBL := fun w h => tb_t (show w ∈ tables_1 from (List.mem_append_right _ (List.mem_append_right _ (tq3 ▸ (List.mem_append_right _ (List.mem_append_right _ h)) : w ∈ tables_1_3))))
def ckp0 : List Cond := [Cond.selects RX0 yX0_carry yX0_carry, Cond.selects RX0 yX0_begin yX0_begin, Cond.selects RX0 yX0_isLeftOut yX0_isLeftOut, Cond.selects RX0 yX0_doStage yX0_doStage, Cond.selects RX0 yX0_isSetOff yX0_isSetOff, Cond.selects RX0 yX0_doDeed yX0_doDeed, Cond.selects RX6 yX6_insert yX6_insert, Cond.selects RX6 yX6_renumber yX6_renumber, Cond.selects RX6 yX6_remove yX6_remove, Cond.selects RX0 yX0_noteDone yX0_noteDone, Cond.selects RX0 yX0_queueLastStage yX0_queueLastStage, Cond.selects RX7 yX7_followersOfAll yX7_followersOfAll, Cond.selects RX8 yX8_takeOver yX8_takeOver]
set_option maxRecDepth 100000 in
theorem tqp : k2_sels lw_privs = ckp0 := rfl
theorem ckp0_in : ∀ w ∈ ckp0, goodWord w = true → w ∈ TBL := fun w h => tb_p (tqp ▸ h : w ∈ k2_sels lw_privs)
theorem wi_X0 : Cond.initialized RX0 ∈ TBL := ck0_in _ (List.mem_of_getElem? (i := 7) rfl) rfl
theorem wn_X0 : Cond.instantiable RX0 11 ∈ TBL := ck4_in _ (List.mem_of_getElem? (i := 3) rfl) rfl
theorem wf_X0 : ∀ w ∈ wsX00, w ∈ TBL := List.forall_mem_cons.mpr ⟨ck6_in _ (List.mem_of_getElem? (i := 4) rfl) rfl, List.forall_mem_cons.mpr ⟨ck6_in _ (List.mem_of_getElem? (i := 6) rfl) rfl, List.forall_mem_cons.mpr ⟨ck6_in _ (List.mem_of_getElem? (i := 8) rfl) rfl, List.forall_mem_cons.mpr ⟨ck6_in _ (List.mem_of_getElem? (i := 10) rfl) rfl, List.forall_mem_cons.mpr ⟨ck6_in _ (List.mem_of_getElem? (i := 12) rfl) rfl, List.forall_mem_cons.mpr ⟨ck6_in _ (List.mem_of_getElem? (i := 14) rfl) rfl, List.forall_mem_cons.mpr ⟨ck6_in _ (List.mem_of_getElem? (i := 16) rfl) rfl, List.forall_mem_cons.mpr ⟨ck6_in _ (List.mem_of_getElem? (i := 18) rfl) rfl, List.forall_mem_cons.mpr ⟨ck6_in _ (List.mem_of_getElem? (i := 20) rfl) rfl, List.forall_mem_cons.mpr ⟨ck6_in _ (List.mem_of_getElem? (i := 22) rfl) rfl, List.forall_mem_cons.mpr ⟨ck6_in _ (List.mem_of_getElem? (i := 24) rfl) rfl, fun w h => absurd h List.not_mem_nil⟩⟩⟩⟩⟩⟩⟩⟩⟩⟩⟩
theorem wi_X1 : Cond.initialized RX1 ∈ TBL := ck0_in _ (List.mem_of_getElem? (i := 8) rfl) rfl
theorem wn_X1 : Cond.instantiable RX1 5 ∈ TBL := ck4_in _ (List.mem_of_getElem? (i := 13) rfl) rfl
theorem wf_X1 : ∀ w ∈ wsX10, w ∈ TBL := List.forall_mem_cons.mpr ⟨ck5_in _ (List.mem_of_getElem? (i := 2) rfl) rfl, List.forall_mem_cons.mpr ⟨ck5_in _ (List.mem_of_getElem? (i := 4) rfl) rfl, List.forall_mem_cons.mpr ⟨ck5_in _ (List.mem_of_getElem? (i := 6) rfl) rfl, List.forall_mem_cons.mpr ⟨ck5_in _ (List.mem_of_getElem? (i := 8) rfl) rfl, List.forall_mem_cons.mpr ⟨ck5_in _ (List.mem_of_getElem? (i := 10) rfl) rfl, fun w h => absurd h List.not_mem_nil⟩⟩⟩⟩⟩
theorem wi_X2 : Cond.initialized RX2 ∈ TBL := ck0_in _ (List.mem_of_getElem? (i := 10) rfl) rfl
theorem wn_X2 : Cond.instantiable RX2 3 ∈ TBL := ck8_in _ (List.mem_of_getElem? (i := 0) rfl) rfl
theorem wf_X2 : ∀ w ∈ wsX20, w ∈ TBL := List.forall_mem_cons.mpr ⟨ck8_in _ (List.mem_of_getElem? (i := 10) rfl) rfl, List.forall_mem_cons.mpr ⟨ck8_in _ (List.mem_of_getElem? (i := 12) rfl) rfl, List.forall_mem_cons.mpr ⟨ck8_in _ (List.mem_of_getElem? (i := 14) rfl) rfl, fun w h => absurd h List.not_mem_nil⟩⟩⟩
theorem wi_X3 : Cond.initialized RX3 ∈ TBL := ck0_in _ (List.mem_of_getElem? (i := 9) rfl) rfl
theorem wn_X3 : Cond.instantiable RX3 4 ∈ TBL := ck7_in _ (List.mem_of_getElem? (i := 3) rfl) rfl
theorem wf_X3 : ∀ w ∈ wsX30, w ∈ TBL := List.forall_mem_cons.mpr ⟨ck7_in _ (List.mem_of_getElem? (i := 14) rfl) rfl, List.forall_mem_cons.mpr ⟨ck7_in _ (List.mem_of_getElem? (i := 16) rfl) rfl, List.forall_mem_cons.mpr ⟨ck7_in _ (List.mem_of_getElem? (i := 18) rfl) rfl, List.forall_mem_cons.mpr ⟨ck7_in _ (List.mem_of_getElem? (i := 20) rfl) rfl, fun w h => absurd h List.not_mem_nil⟩⟩⟩⟩
theorem wi_X4 : Cond.initialized RX4 ∈ TBL := ck0_in _ (List.mem_of_getElem? (i := 5) rfl) rfl
theorem wn_X4 : Cond.instantiable RX4 4 ∈ TBL := ck2_in _ (List.mem_of_getElem? (i := 0) rfl) rfl
theorem wf_X4 : ∀ w ∈ wsX40, w ∈ TBL := List.forall_mem_cons.mpr ⟨ck2_in _ (List.mem_of_getElem? (i := 12) rfl) rfl, List.forall_mem_cons.mpr ⟨ck2_in _ (List.mem_of_getElem? (i := 14) rfl) rfl, List.forall_mem_cons.mpr ⟨ck2_in _ (List.mem_of_getElem? (i := 16) rfl) rfl, List.forall_mem_cons.mpr ⟨ck2_in _ (List.mem_of_getElem? (i := 18) rfl) rfl, fun w h => absurd h List.not_mem_nil⟩⟩⟩⟩
theorem wi_X5 : Cond.initialized RX5 ∈ TBL := ck0_in _ (List.mem_of_getElem? (i := 2) rfl) rfl
theorem wn_X5 : Cond.instantiable RX5 5 ∈ TBL := ck0_in _ (List.mem_of_getElem? (i := 21) rfl) rfl
theorem wf_X5 : ∀ w ∈ wsX50, w ∈ TBL := List.forall_mem_cons.mpr ⟨ck3_in _ (List.mem_of_getElem? (i := 16) rfl) rfl, List.forall_mem_cons.mpr ⟨ck3_in _ (List.mem_of_getElem? (i := 18) rfl) rfl, List.forall_mem_cons.mpr ⟨ck3_in _ (List.mem_of_getElem? (i := 20) rfl) rfl, List.forall_mem_cons.mpr ⟨ck3_in _ (List.mem_of_getElem? (i := 22) rfl) rfl, List.forall_mem_cons.mpr ⟨ck3_in _ (List.mem_of_getElem? (i := 24) rfl) rfl, fun w h => absurd h List.not_mem_nil⟩⟩⟩⟩⟩
theorem wi_X6 : Cond.initialized RX6 ∈ TBL := ck0_in _ (List.mem_of_getElem? (i := 3) rfl) rfl
theorem wn_X6 : Cond.instantiable RX6 3 ∈ TBL := ck1_in _ (List.mem_of_getElem? (i := 2) rfl) rfl
theorem wf_X6 : ∀ w ∈ wsX60, w ∈ TBL := List.forall_mem_cons.mpr ⟨ck1_in _ (List.mem_of_getElem? (i := 10) rfl) rfl, List.forall_mem_cons.mpr ⟨ck1_in _ (List.mem_of_getElem? (i := 12) rfl) rfl, List.forall_mem_cons.mpr ⟨ck1_in _ (List.mem_of_getElem? (i := 14) rfl) rfl, fun w h => absurd h List.not_mem_nil⟩⟩⟩
theorem wi_X7 : Cond.initialized RX7 ∈ TBL := ck0_in _ (List.mem_of_getElem? (i := 4) rfl) rfl
theorem wn_X7 : Cond.instantiable RX7 1 ∈ TBL := ck1_in _ (List.mem_of_getElem? (i := 19) rfl) rfl
theorem wf_X7 : ∀ w ∈ wsX70, w ∈ TBL := List.forall_mem_cons.mpr ⟨ck2_in _ (List.mem_of_getElem? (i := 23) rfl) rfl, fun w h => absurd h List.not_mem_nil⟩
theorem wi_X8 : Cond.initialized RX8 ∈ TBL := ck0_in _ (List.mem_of_getElem? (i := 1) rfl) rfl
theorem wn_X8 : Cond.instantiable RX8 5 ∈ TBL := ck0_in _ (List.mem_of_getElem? (i := 13) rfl) rfl
theorem wf_X8 : ∀ w ∈ wsX80, w ∈ TBL := List.forall_mem_cons.mpr ⟨ck8_in _ (List.mem_of_getElem? (i := 22) rfl) rfl, List.forall_mem_cons.mpr ⟨ck8_in _ (List.mem_of_getElem? (i := 24) rfl) rfl, List.forall_mem_cons.mpr ⟨ck9_in _ (List.mem_of_getElem? (i := 1) rfl) rfl, List.forall_mem_cons.mpr ⟨ck9_in _ (List.mem_of_getElem? (i := 3) rfl) rfl, List.forall_mem_cons.mpr ⟨ck9_in _ (List.mem_of_getElem? (i := 5) rfl) rfl, fun w h => absurd h List.not_mem_nil⟩⟩⟩⟩⟩
theorem wf_X9 : ∀ w ∈ wsX90, w ∈ TBL := fun w h => absurd h List.not_mem_nil
theorem wi_Math : Cond.initialized "java/lang/Math" ∈ TBL := ck0_in _ (List.mem_of_getElem? (i := 6) rfl) rfl
theorem wi_System : Cond.initialized "java/lang/System" ∈ TBL := ck0_in _ (List.mem_of_getElem? (i := 11) rfl) rfl
theorem wi_L : Cond.initialized RL ∈ TBL := ck0_in _ (List.mem_of_getElem? (i := 0) rfl) rfl
theorem wc_X8_init : Cond.code yX8_init cX8_init 1 none ∈ TBL := ck0_in _ (List.mem_of_getElem? (i := 16) rfl) rfl
theorem wm_X8_init : Cond.instanceMethod yX8_init ∈ TBL := ck0_in _ (List.mem_of_getElem? (i := 15) rfl) rfl
theorem wc_obj : Cond.code objectInit ⟨#[0xb1]⟩ 1 none ∈ TBL := ck0_in _ (List.mem_of_getElem? (i := 19) rfl) rfl
theorem wc_X5_init : Cond.code yX5_init cX5_init 1 none ∈ TBL := ck0_in _ (List.mem_of_getElem? (i := 24) rfl) rfl
theorem wm_X5_init : Cond.instanceMethod yX5_init ∈ TBL := ck0_in _ (List.mem_of_getElem? (i := 23) rfl) rfl
theorem wc_X6_init : Cond.code yX6_init cX6_init 1 none ∈ TBL := ck1_in _ (List.mem_of_getElem? (i := 5) rfl) rfl
theorem wm_X6_init : Cond.instanceMethod yX6_init ∈ TBL := ck1_in _ (List.mem_of_getElem? (i := 4) rfl) rfl
theorem wc_X7_init : Cond.code yX7_init cX7_init 1 none ∈ TBL := ck1_in _ (List.mem_of_getElem? (i := 22) rfl) rfl
theorem wm_X7_init : Cond.instanceMethod yX7_init ∈ TBL := ck1_in _ (List.mem_of_getElem? (i := 21) rfl) rfl
theorem wc_X4_init : Cond.code yX4_init cX4_init 3 none ∈ TBL := ck2_in _ (List.mem_of_getElem? (i := 3) rfl) rfl
theorem wm_X4_init : Cond.instanceMethod yX4_init ∈ TBL := ck2_in _ (List.mem_of_getElem? (i := 2) rfl) rfl
theorem wc_Math_max : Cond.code Lib.Math.max.name Lib.Math.max.code 2 (some .int) ∈ TBL := ck2_in _ (List.mem_of_getElem? (i := 7) rfl) rfl
theorem wc_X0_init : Cond.code yX0_init cX0_init 1 none ∈ TBL := ck4_in _ (List.mem_of_getElem? (i := 6) rfl) rfl
theorem wm_X0_init : Cond.instanceMethod yX0_init ∈ TBL := ck4_in _ (List.mem_of_getElem? (i := 5) rfl) rfl
theorem wc_X1_init : Cond.code yX1_init cX1_init 1 none ∈ TBL := ck4_in _ (List.mem_of_getElem? (i := 16) rfl) rfl
theorem wm_X1_init : Cond.instanceMethod yX1_init ∈ TBL := ck4_in _ (List.mem_of_getElem? (i := 15) rfl) rfl
theorem wc_X3_init : Cond.code yX3_init cX3_init 1 none ∈ TBL := ck7_in _ (List.mem_of_getElem? (i := 6) rfl) rfl
theorem wm_X3_init : Cond.instanceMethod yX3_init ∈ TBL := ck7_in _ (List.mem_of_getElem? (i := 5) rfl) rfl
theorem wc_X2_init : Cond.code yX2_init cX2_init 1 none ∈ TBL := ck8_in _ (List.mem_of_getElem? (i := 3) rfl) rfl
theorem wm_X2_init : Cond.instanceMethod yX2_init ∈ TBL := ck8_in _ (List.mem_of_getElem? (i := 2) rfl) rfl
theorem wc_X8_tried : Cond.code yX8_tried cX8_tried 8 (some .int) ∈ TBL := ck9_in _ (List.mem_of_getElem? (i := 11) rfl) rfl
theorem wm_X8_tried : Cond.instanceMethod yX8_tried ∈ TBL := ck9_in _ (List.mem_of_getElem? (i := 9) rfl) rfl
theorem ws_X8_tried : Cond.selects RX8 yX8_tried yX8_tried ∈ TBL := ck9_in _ (List.mem_of_getElem? (i := 10) rfl) rfl
theorem wc_X8_errorOf : Cond.code yX8_errorOf cX8_errorOf 4 (some .int) ∈ TBL := ck9_in _ (List.mem_of_getElem? (i := 14) rfl) rfl
theorem wt_X8_errorOf : Cond.static yX8_errorOf ∈ TBL := ck9_in _ (List.mem_of_getElem? (i := 13) rfl) rfl
theorem wc_X8_isWithin : Cond.code yX8_isWithin cX8_isWithin 2 (some .boolean) ∈ TBL := ck10_in _ (List.mem_of_getElem? (i := 2) rfl) rfl
theorem wt_X8_isWithin : Cond.static yX8_isWithin ∈ TBL := ck10_in _ (List.mem_of_getElem? (i := 1) rfl) rfl
theorem wc_X0_run : Cond.code yX0_run cX0_run 11 none ∈ TBL := ck10_in _ (List.mem_of_getElem? (i := 6) rfl) rfl
theorem wm_X0_run : Cond.instanceMethod yX0_run ∈ TBL := ck10_in _ (List.mem_of_getElem? (i := 4) rfl) rfl
theorem ws_X0_run : Cond.selects RX0 yX0_run yX0_run ∈ TBL := ck10_in _ (List.mem_of_getElem? (i := 5) rfl) rfl
theorem wc_X6_copyFrom : Cond.code yX6_copyFrom cX6_copyFrom 2 none ∈ TBL := ck10_in _ (List.mem_of_getElem? (i := 10) rfl) rfl
theorem wm_X6_copyFrom : Cond.instanceMethod yX6_copyFrom ∈ TBL := ck10_in _ (List.mem_of_getElem? (i := 8) rfl) rfl
theorem ws_X6_copyFrom : Cond.selects RX6 yX6_copyFrom yX6_copyFrom ∈ TBL := ck10_in _ (List.mem_of_getElem? (i := 9) rfl) rfl
theorem wc_X4_copyFrom : Cond.code yX4_copyFrom cX4_copyFrom 3 none ∈ TBL := ck10_in _ (List.mem_of_getElem? (i := 17) rfl) rfl
theorem wm_X4_copyFrom : Cond.instanceMethod yX4_copyFrom ∈ TBL := ck10_in _ (List.mem_of_getElem? (i := 15) rfl) rfl
theorem ws_X4_copyFrom : Cond.selects RX4 yX4_copyFrom yX4_copyFrom ∈ TBL := ck10_in _ (List.mem_of_getElem? (i := 16) rfl) rfl
theorem wc_Math_min : Cond.code Lib.Math.min.name Lib.Math.min.code 2 (some .int) ∈ TBL := ck10_in _ (List.mem_of_getElem? (i := 20) rfl) rfl
theorem wc_X4_clear : Cond.code yX4_clear cX4_clear 1 none ∈ TBL := ck11_in _ (List.mem_of_getElem? (i := 0) rfl) rfl
theorem wm_X4_clear : Cond.instanceMethod yX4_clear ∈ TBL := ck10_in _ (List.mem_of_getElem? (i := 23) rfl) rfl
theorem ws_X4_clear : Cond.selects RX4 yX4_clear yX4_clear ∈ TBL := ck10_in _ (List.mem_of_getElem? (i := 24) rfl) rfl
theorem wc_X1_clear : Cond.code yX1_clear cX1_clear 1 none ∈ TBL := ck11_in _ (List.mem_of_getElem? (i := 4) rfl) rfl
theorem wm_X1_clear : Cond.instanceMethod yX1_clear ∈ TBL := ck11_in _ (List.mem_of_getElem? (i := 2) rfl) rfl
theorem ws_X1_clear : Cond.selects RX1 yX1_clear yX1_clear ∈ TBL := ck11_in _ (List.mem_of_getElem? (i := 3) rfl) rfl
theorem wc_X0_carry : Cond.code yX0_carry cX0_carry 12 (some .boolean) ∈ TBL := ck11_in _ (List.mem_of_getElem? (i := 8) rfl) rfl
theorem wm_X0_carry : Cond.instanceMethod yX0_carry ∈ TBL := ck11_in _ (List.mem_of_getElem? (i := 7) rfl) rfl
theorem ws_X0_carry : Cond.selects RX0 yX0_carry yX0_carry ∈ TBL := ckp0_in _ (List.mem_of_getElem? (i := 0) rfl) rfl
theorem wc_X1_tell : Cond.code yX1_tell cX1_tell 10 (some .boolean) ∈ TBL := ck11_in _ (List.mem_of_getElem? (i := 12) rfl) rfl
theorem wm_X1_tell : Cond.instanceMethod yX1_tell ∈ TBL := ck11_in _ (List.mem_of_getElem? (i := 10) rfl) rfl
theorem ws_X1_tell : Cond.selects RX1 yX1_tell yX1_tell ∈ TBL := ck11_in _ (List.mem_of_getElem? (i := 11) rfl) rfl
theorem wc_X4_get : Cond.code yX4_get cX4_get 4 (some .int) ∈ TBL := ck11_in _ (List.mem_of_getElem? (i := 16) rfl) rfl
theorem wm_X4_get : Cond.instanceMethod yX4_get ∈ TBL := ck11_in _ (List.mem_of_getElem? (i := 14) rfl) rfl
theorem ws_X4_get : Cond.selects RX4 yX4_get yX4_get ∈ TBL := ck11_in _ (List.mem_of_getElem? (i := 15) rfl) rfl
theorem wc_X4_size : Cond.code yX4_size cX4_size 1 (some .int) ∈ TBL := ck11_in _ (List.mem_of_getElem? (i := 21) rfl) rfl
theorem wm_X4_size : Cond.instanceMethod yX4_size ∈ TBL := ck11_in _ (List.mem_of_getElem? (i := 19) rfl) rfl
theorem ws_X4_size : Cond.selects RX4 yX4_size yX4_size ∈ TBL := ck11_in _ (List.mem_of_getElem? (i := 20) rfl) rfl
theorem wc_X6_weightOf : Cond.code yX6_weightOf cX6_weightOf 7 (some .int) ∈ TBL := ck12_in _ (List.mem_of_getElem? (i := 0) rfl) rfl
theorem wm_X6_weightOf : Cond.instanceMethod yX6_weightOf ∈ TBL := ck11_in _ (List.mem_of_getElem? (i := 23) rfl) rfl
theorem ws_X6_weightOf : Cond.selects RX6 yX6_weightOf yX6_weightOf ∈ TBL := ck11_in _ (List.mem_of_getElem? (i := 24) rfl) rfl
theorem wc_X6_placeOf : Cond.code yX6_placeOf cX6_placeOf 5 (some .int) ∈ TBL := ck12_in _ (List.mem_of_getElem? (i := 4) rfl) rfl
theorem wm_X6_placeOf : Cond.instanceMethod yX6_placeOf ∈ TBL := ck12_in _ (List.mem_of_getElem? (i := 2) rfl) rfl
theorem ws_X6_placeOf : Cond.selects RX6 yX6_placeOf yX6_placeOf ∈ TBL := ck12_in _ (List.mem_of_getElem? (i := 3) rfl) rfl
theorem wc_X6_sizeOf : Cond.code yX6_sizeOf cX6_sizeOf 2 (some .int) ∈ TBL := ck12_in _ (List.mem_of_getElem? (i := 8) rfl) rfl
theorem wm_X6_sizeOf : Cond.instanceMethod yX6_sizeOf ∈ TBL := ck12_in _ (List.mem_of_getElem? (i := 6) rfl) rfl
theorem ws_X6_sizeOf : Cond.selects RX6 yX6_sizeOf yX6_sizeOf ∈ TBL := ck12_in _ (List.mem_of_getElem? (i := 7) rfl) rfl
theorem wc_X6_numberAt : Cond.code yX6_numberAt cX6_numberAt 3 (some .int) ∈ TBL := ck14_in _ (List.mem_of_getElem? (i := 3) rfl) rfl
theorem wm_X6_numberAt : Cond.instanceMethod yX6_numberAt ∈ TBL := ck14_in _ (List.mem_of_getElem? (i := 1) rfl) rfl
theorem ws_X6_numberAt : Cond.selects RX6 yX6_numberAt yX6_numberAt ∈ TBL := ck14_in _ (List.mem_of_getElem? (i := 2) rfl) rfl
theorem wc_X0_begin : Cond.code yX0_begin cX0_begin 9 (some .int) ∈ TBL := ck14_in _ (List.mem_of_getElem? (i := 7) rfl) rfl
theorem wm_X0_begin : Cond.instanceMethod yX0_begin ∈ TBL := ck14_in _ (List.mem_of_getElem? (i := 6) rfl) rfl
theorem ws_X0_begin : Cond.selects RX0 yX0_begin yX0_begin ∈ TBL := ckp0_in _ (List.mem_of_getElem? (i := 1) rfl) rfl
theorem wc_X4_append : Cond.code yX4_append cX4_append 1 (some .int) ∈ TBL := ck14_in _ (List.mem_of_getElem? (i := 11) rfl) rfl
theorem wm_X4_append : Cond.instanceMethod yX4_append ∈ TBL := ck14_in _ (List.mem_of_getElem? (i := 9) rfl) rfl
theorem ws_X4_append : Cond.selects RX4 yX4_append yX4_append ∈ TBL := ck14_in _ (List.mem_of_getElem? (i := 10) rfl) rfl
theorem wc_X4_change : Cond.code yX4_change cX4_change 4 none ∈ TBL := ck14_in _ (List.mem_of_getElem? (i := 15) rfl) rfl
theorem wm_X4_change : Cond.instanceMethod yX4_change ∈ TBL := ck14_in _ (List.mem_of_getElem? (i := 13) rfl) rfl
theorem ws_X4_change : Cond.selects RX4 yX4_change yX4_change ∈ TBL := ck14_in _ (List.mem_of_getElem? (i := 14) rfl) rfl
theorem wc_X0_isLeftOut : Cond.code yX0_isLeftOut cX0_isLeftOut 2 (some .boolean) ∈ TBL := ck14_in _ (List.mem_of_getElem? (i := 19) rfl) rfl
theorem wm_X0_isLeftOut : Cond.instanceMethod yX0_isLeftOut ∈ TBL := ck14_in _ (List.mem_of_getElem? (i := 18) rfl) rfl
theorem ws_X0_isLeftOut : Cond.selects RX0 yX0_isLeftOut yX0_isLeftOut ∈ TBL := ckp0_in _ (List.mem_of_getElem? (i := 2) rfl) rfl
theorem wc_X0_doStage : Cond.code yX0_doStage cX0_doStage 5 (some .boolean) ∈ TBL := ck14_in _ (List.mem_of_getElem? (i := 23) rfl) rfl
theorem wm_X0_doStage : Cond.instanceMethod yX0_doStage ∈ TBL := ck14_in _ (List.mem_of_getElem? (i := 22) rfl) rfl
theorem ws_X0_doStage : Cond.selects RX0 yX0_doStage yX0_doStage ∈ TBL := ckp0_in _ (List.mem_of_getElem? (i := 3) rfl) rfl
theorem wc_X0_isSetOff : Cond.code yX0_isSetOff cX0_isSetOff 4 (some .boolean) ∈ TBL := ck15_in _ (List.mem_of_getElem? (i := 2) rfl) rfl
theorem wm_X0_isSetOff : Cond.instanceMethod yX0_isSetOff ∈ TBL := ck15_in _ (List.mem_of_getElem? (i := 1) rfl) rfl
theorem ws_X0_isSetOff : Cond.selects RX0 yX0_isSetOff yX0_isSetOff ∈ TBL := ckp0_in _ (List.mem_of_getElem? (i := 4) rfl) rfl
theorem wc_X0_doDeed : Cond.code yX0_doDeed cX0_doDeed 7 (some .boolean) ∈ TBL := ck15_in _ (List.mem_of_getElem? (i := 7) rfl) rfl
theorem wm_X0_doDeed : Cond.instanceMethod yX0_doDeed ∈ TBL := ck15_in _ (List.mem_of_getElem? (i := 6) rfl) rfl
theorem ws_X0_doDeed : Cond.selects RX0 yX0_doDeed yX0_doDeed ∈ TBL := ckp0_in _ (List.mem_of_getElem? (i := 5) rfl) rfl
theorem wc_X6_apply : Cond.code yX6_apply cX6_apply 5 none ∈ TBL := ck15_in _ (List.mem_of_getElem? (i := 11) rfl) rfl
theorem wm_X6_apply : Cond.instanceMethod yX6_apply ∈ TBL := ck15_in _ (List.mem_of_getElem? (i := 9) rfl) rfl
theorem ws_X6_apply : Cond.selects RX6 yX6_apply yX6_apply ∈ TBL := ck15_in _ (List.mem_of_getElem? (i := 10) rfl) rfl
theorem wc_X6_insert : Cond.code yX6_insert cX6_insert 6 none ∈ TBL := ck15_in _ (List.mem_of_getElem? (i := 15) rfl) rfl
theorem wm_X6_insert : Cond.instanceMethod yX6_insert ∈ TBL := ck15_in _ (List.mem_of_getElem? (i := 14) rfl) rfl
theorem ws_X6_insert : Cond.selects RX6 yX6_insert yX6_insert ∈ TBL := ckp0_in _ (List.mem_of_getElem? (i := 6) rfl) rfl
theorem wc_X6_renumber : Cond.code yX6_renumber cX6_renumber 4 none ∈ TBL := ck15_in _ (List.mem_of_getElem? (i := 19) rfl) rfl
theorem wm_X6_renumber : Cond.instanceMethod yX6_renumber ∈ TBL := ck15_in _ (List.mem_of_getElem? (i := 18) rfl) rfl
theorem ws_X6_renumber : Cond.selects RX6 yX6_renumber yX6_renumber ∈ TBL := ckp0_in _ (List.mem_of_getElem? (i := 7) rfl) rfl
theorem wc_X6_remove : Cond.code yX6_remove cX6_remove 5 none ∈ TBL := ck15_in _ (List.mem_of_getElem? (i := 23) rfl) rfl
theorem wm_X6_remove : Cond.instanceMethod yX6_remove ∈ TBL := ck15_in _ (List.mem_of_getElem? (i := 22) rfl) rfl
theorem ws_X6_remove : Cond.selects RX6 yX6_remove yX6_remove ∈ TBL := ckp0_in _ (List.mem_of_getElem? (i := 8) rfl) rfl
theorem wc_X0_noteDone : Cond.code yX0_noteDone cX0_noteDone 4 none ∈ TBL := ck16_in _ (List.mem_of_getElem? (i := 2) rfl) rfl
theorem wm_X0_noteDone : Cond.instanceMethod yX0_noteDone ∈ TBL := ck16_in _ (List.mem_of_getElem? (i := 1) rfl) rfl
theorem ws_X0_noteDone : Cond.selects RX0 yX0_noteDone yX0_noteDone ∈ TBL := ckp0_in _ (List.mem_of_getElem? (i := 9) rfl) rfl
theorem wc_X0_queueLastStage : Cond.code yX0_queueLastStage cX0_queueLastStage 4 none ∈ TBL := ck16_in _ (List.mem_of_getElem? (i := 6) rfl) rfl
theorem wm_X0_queueLastStage : Cond.instanceMethod yX0_queueLastStage ∈ TBL := ck16_in _ (List.mem_of_getElem? (i := 5) rfl) rfl
theorem ws_X0_queueLastStage : Cond.selects RX0 yX0_queueLastStage yX0_queueLastStage ∈ TBL := ckp0_in _ (List.mem_of_getElem? (i := 10) rfl) rfl
theorem wc_X1_isThere : Cond.code yX1_isThere cX1_isThere 1 (some .boolean) ∈ TBL := ck16_in _ (List.mem_of_getElem? (i := 10) rfl) rfl
theorem wm_X1_isThere : Cond.instanceMethod yX1_isThere ∈ TBL := ck16_in _ (List.mem_of_getElem? (i := 8) rfl) rfl
theorem ws_X1_isThere : Cond.selects RX1 yX1_isThere yX1_isThere ∈ TBL := ck16_in _ (List.mem_of_getElem? (i := 9) rfl) rfl
theorem wc_X0_greatestDepth : Cond.code yX0_greatestDepth cX0_greatestDepth 3 (some .int) ∈ TBL := ck16_in _ (List.mem_of_getElem? (i := 15) rfl) rfl
theorem wm_X0_greatestDepth : Cond.instanceMethod yX0_greatestDepth ∈ TBL := ck16_in _ (List.mem_of_getElem? (i := 13) rfl) rfl
theorem ws_X0_greatestDepth : Cond.selects RX0 yX0_greatestDepth yX0_greatestDepth ∈ TBL := ck16_in _ (List.mem_of_getElem? (i := 14) rfl) rfl
theorem wc_X1_blamedAt : Cond.code yX1_blamedAt cX1_blamedAt 2 (some .int) ∈ TBL := ck16_in _ (List.mem_of_getElem? (i := 20) rfl) rfl
theorem wm_X1_blamedAt : Cond.instanceMethod yX1_blamedAt ∈ TBL := ck16_in _ (List.mem_of_getElem? (i := 18) rfl) rfl
theorem ws_X1_blamedAt : Cond.selects RX1 yX1_blamedAt yX1_blamedAt ∈ TBL := ck16_in _ (List.mem_of_getElem? (i := 19) rfl) rfl
theorem wc_X8_count : Cond.code yX8_count cX8_count 2 (some .int) ∈ TBL := ck18_in _ (List.mem_of_getElem? (i := 3) rfl) rfl
theorem wm_X8_count : Cond.instanceMethod yX8_count ∈ TBL := ck18_in _ (List.mem_of_getElem? (i := 1) rfl) rfl
theorem ws_X8_count : Cond.selects RX8 yX8_count yX8_count ∈ TBL := ck18_in _ (List.mem_of_getElem? (i := 2) rfl) rfl
theorem wc_X7_size : Cond.code yX7_size cX7_size 1 (some .int) ∈ TBL := ck18_in _ (List.mem_of_getElem? (i := 8) rfl) rfl
theorem wm_X7_size : Cond.instanceMethod yX7_size ∈ TBL := ck18_in _ (List.mem_of_getElem? (i := 6) rfl) rfl
theorem ws_X7_size : Cond.selects RX7 yX7_size yX7_size ∈ TBL := ck18_in _ (List.mem_of_getElem? (i := 7) rfl) rfl
theorem wc_X6_sumOfNumbers : Cond.code yX6_sumOfNumbers cX6_sumOfNumbers 4 (some .int) ∈ TBL := ck18_in _ (List.mem_of_getElem? (i := 13) rfl) rfl
theorem wm_X6_sumOfNumbers : Cond.instanceMethod yX6_sumOfNumbers ∈ TBL := ck18_in _ (List.mem_of_getElem? (i := 11) rfl) rfl
theorem ws_X6_sumOfNumbers : Cond.selects RX6 yX6_sumOfNumbers yX6_sumOfNumbers ∈ TBL := ck18_in _ (List.mem_of_getElem? (i := 12) rfl) rfl
theorem wc_X7_thoseThatCouldSetOffThemselves : Cond.code yX7_thoseThatCouldSetOffThemselves cX7_thoseThatCouldSetOffThemselves 3 (some .int) ∈ TBL := ck18_in _ (List.mem_of_getElem? (i := 17) rfl) rfl
theorem wm_X7_thoseThatCouldSetOffThemselves : Cond.instanceMethod yX7_thoseThatCouldSetOffThemselves ∈ TBL := ck18_in _ (List.mem_of_getElem? (i := 15) rfl) rfl
theorem ws_X7_thoseThatCouldSetOffThemselves : Cond.selects RX7 yX7_thoseThatCouldSetOffThemselves yX7_thoseThatCouldSetOffThemselves ∈ TBL := ck18_in _ (List.mem_of_getElem? (i := 16) rfl) rfl
theorem wc_X7_couldSetOffItself : Cond.code yX7_couldSetOffItself cX7_couldSetOffItself 4 (some .boolean) ∈ TBL := ck18_in _ (List.mem_of_getElem? (i := 21) rfl) rfl
theorem wm_X7_couldSetOffItself : Cond.instanceMethod yX7_couldSetOffItself ∈ TBL := ck18_in _ (List.mem_of_getElem? (i := 19) rfl) rfl
theorem ws_X7_couldSetOffItself : Cond.selects RX7 yX7_couldSetOffItself yX7_couldSetOffItself ∈ TBL := ck18_in _ (List.mem_of_getElem? (i := 20) rfl) rfl
theorem wc_X7_followers : Cond.code yX7_followers cX7_followers 6 (some .int) ∈ TBL := ck19_in _ (List.mem_of_getElem? (i := 0) rfl) rfl
theorem wm_X7_followers : Cond.instanceMethod yX7_followers ∈ TBL := ck18_in _ (List.mem_of_getElem? (i := 23) rfl) rfl
theorem ws_X7_followers : Cond.selects RX7 yX7_followers yX7_followers ∈ TBL := ck18_in _ (List.mem_of_getElem? (i := 24) rfl) rfl
theorem wc_X7_followersOfAll : Cond.code yX7_followersOfAll cX7_followersOfAll 4 (some .int) ∈ TBL := ck19_in _ (List.mem_of_getElem? (i := 5) rfl) rfl
theorem wm_X7_followersOfAll : Cond.instanceMethod yX7_followersOfAll ∈ TBL := ck19_in _ (List.mem_of_getElem? (i := 4) rfl) rfl
theorem ws_X7_followersOfAll : Cond.selects RX7 yX7_followersOfAll yX7_followersOfAll ∈ TBL := ckp0_in _ (List.mem_of_getElem? (i := 11) rfl) rfl
theorem wc_X7_isIn : Cond.code yX7_isIn cX7_isIn 2 (some .boolean) ∈ TBL := ck19_in _ (List.mem_of_getElem? (i := 8) rfl) rfl
theorem wt_X7_isIn : Cond.static yX7_isIn ∈ TBL := ck19_in _ (List.mem_of_getElem? (i := 7) rfl) rfl
theorem wc_X3_length : Cond.code yX3_length cX3_length 1 (some .int) ∈ TBL := ck19_in _ (List.mem_of_getElem? (i := 12) rfl) rfl
theorem wm_X3_length : Cond.instanceMethod yX3_length ∈ TBL := ck19_in _ (List.mem_of_getElem? (i := 10) rfl) rfl
theorem ws_X3_length : Cond.selects RX3 yX3_length yX3_length ∈ TBL := ck19_in _ (List.mem_of_getElem? (i := 11) rfl) rfl
theorem wc_X2_size : Cond.code yX2_size cX2_size 1 (some .int) ∈ TBL := ck19_in _ (List.mem_of_getElem? (i := 16) rfl) rfl
theorem wm_X2_size : Cond.instanceMethod yX2_size ∈ TBL := ck19_in _ (List.mem_of_getElem? (i := 14) rfl) rfl
theorem ws_X2_size : Cond.selects RX2 yX2_size yX2_size ∈ TBL := ck19_in _ (List.mem_of_getElem? (i := 15) rfl) rfl
theorem wc_X8_culprits : Cond.code yX8_culprits cX8_culprits 8 (some .int) ∈ TBL := ck19_in _ (List.mem_of_getElem? (i := 20) rfl) rfl
theorem wm_X8_culprits : Cond.instanceMethod yX8_culprits ∈ TBL := ck19_in _ (List.mem_of_getElem? (i := 18) rfl) rfl
theorem ws_X8_culprits : Cond.selects RX8 yX8_culprits yX8_culprits ∈ TBL := ck19_in _ (List.mem_of_getElem? (i := 19) rfl) rfl
theorem wc_X8_undo : Cond.code yX8_undo cX8_undo 1 (some .int) ∈ TBL := ck19_in _ (List.mem_of_getElem? (i := 24) rfl) rfl
theorem wm_X8_undo : Cond.instanceMethod yX8_undo ∈ TBL := ck19_in _ (List.mem_of_getElem? (i := 22) rfl) rfl
theorem ws_X8_undo : Cond.selects RX8 yX8_undo yX8_undo ∈ TBL := ck19_in _ (List.mem_of_getElem? (i := 23) rfl) rfl
theorem wc_X2_takeBack : Cond.code yX2_takeBack cX2_takeBack 4 (some .boolean) ∈ TBL := ck20_in _ (List.mem_of_getElem? (i := 3) rfl) rfl
theorem wm_X2_takeBack : Cond.instanceMethod yX2_takeBack ∈ TBL := ck20_in _ (List.mem_of_getElem? (i := 1) rfl) rfl
theorem ws_X2_takeBack : Cond.selects RX2 yX2_takeBack yX2_takeBack ∈ TBL := ck20_in _ (List.mem_of_getElem? (i := 2) rfl) rfl
theorem wc_X5_copyFrom : Cond.code yX5_copyFrom cX5_copyFrom 2 none ∈ TBL := ck22_in _ (List.mem_of_getElem? (i := 3) rfl) rfl
theorem wm_X5_copyFrom : Cond.instanceMethod yX5_copyFrom ∈ TBL := ck22_in _ (List.mem_of_getElem? (i := 1) rfl) rfl
theorem ws_X5_copyFrom : Cond.selects RX5 yX5_copyFrom yX5_copyFrom ∈ TBL := ck22_in _ (List.mem_of_getElem? (i := 2) rfl) rfl
theorem wc_X7_copyFrom : Cond.code yX7_copyFrom cX7_copyFrom 2 none ∈ TBL := ck22_in _ (List.mem_of_getElem? (i := 8) rfl) rfl
theorem wm_X7_copyFrom : Cond.instanceMethod yX7_copyFrom ∈ TBL := ck22_in _ (List.mem_of_getElem? (i := 6) rfl) rfl
theorem ws_X7_copyFrom : Cond.selects RX7 yX7_copyFrom yX7_copyFrom ∈ TBL := ck22_in _ (List.mem_of_getElem? (i := 7) rfl) rfl
theorem wc_X8_save : Cond.code yX8_save cX8_save 3 (some .int) ∈ TBL := ck22_in _ (List.mem_of_getElem? (i := 14) rfl) rfl
theorem wm_X8_save : Cond.instanceMethod yX8_save ∈ TBL := ck22_in _ (List.mem_of_getElem? (i := 12) rfl) rfl
theorem ws_X8_save : Cond.selects RX8 yX8_save yX8_save ∈ TBL := ck22_in _ (List.mem_of_getElem? (i := 13) rfl) rfl
theorem wc_X6_rows : Cond.code yX6_rows cX6_rows 3 (some .int) ∈ TBL := ck22_in _ (List.mem_of_getElem? (i := 19) rfl) rfl
theorem wm_X6_rows : Cond.instanceMethod yX6_rows ∈ TBL := ck22_in _ (List.mem_of_getElem? (i := 17) rfl) rfl
theorem ws_X6_rows : Cond.selects RX6 yX6_rows yX6_rows ∈ TBL := ck22_in _ (List.mem_of_getElem? (i := 18) rfl) rfl
theorem wc_X8_restore : Cond.code yX8_restore cX8_restore 3 (some .int) ∈ TBL := ck22_in _ (List.mem_of_getElem? (i := 23) rfl) rfl
theorem wm_X8_restore : Cond.instanceMethod yX8_restore ∈ TBL := ck22_in _ (List.mem_of_getElem? (i := 21) rfl) rfl
theorem ws_X8_restore : Cond.selects RX8 yX8_restore yX8_restore ∈ TBL := ck22_in _ (List.mem_of_getElem? (i := 22) rfl) rfl
theorem wc_X2_keep : Cond.code yX2_keep cX2_keep 4 none ∈ TBL := ck23_in _ (List.mem_of_getElem? (i := 2) rfl) rfl
theorem wm_X2_keep : Cond.instanceMethod yX2_keep ∈ TBL := ck23_in _ (List.mem_of_getElem? (i := 0) rfl) rfl
theorem ws_X2_keep : Cond.selects RX2 yX2_keep yX2_keep ∈ TBL := ck23_in _ (List.mem_of_getElem? (i := 1) rfl) rfl
theorem wc_L_cell : Cond.code yL_cell cL_cell 2 (some .int) ∈ TBL := ck23_in _ (List.mem_of_getElem? (i := 6) rfl) rfl
theorem wt_L_cell : Cond.static yL_cell ∈ TBL := ck23_in _ (List.mem_of_getElem? (i := 5) rfl) rfl
theorem wc_L_low : Cond.code yL_low cL_low 2 (some .int) ∈ TBL := ck23_in _ (List.mem_of_getElem? (i := 9) rfl) rfl
theorem wt_L_low : Cond.static yL_low ∈ TBL := ck23_in _ (List.mem_of_getElem? (i := 8) rfl) rfl
theorem wc_L_digest : Cond.code yL_digest cL_digest 5 (some .long) ∈ TBL := ck23_in _ (List.mem_of_getElem? (i := 13) rfl) rfl
theorem wt_L_digest : Cond.static yL_digest ∈ TBL := ck23_in _ (List.mem_of_getElem? (i := 12) rfl) rfl
theorem wc_X8_row : Cond.code yX8_row cX8_row 4 (some .int) ∈ TBL := ck23_in _ (List.mem_of_getElem? (i := 19) rfl) rfl
theorem wm_X8_row : Cond.instanceMethod yX8_row ∈ TBL := ck23_in _ (List.mem_of_getElem? (i := 17) rfl) rfl
theorem ws_X8_row : Cond.selects RX8 yX8_row yX8_row ∈ TBL := ck23_in _ (List.mem_of_getElem? (i := 18) rfl) rfl
theorem wc_X6_keyAt : Cond.code yX6_keyAt cX6_keyAt 3 (some .int) ∈ TBL := ck23_in _ (List.mem_of_getElem? (i := 23) rfl) rfl
theorem wm_X6_keyAt : Cond.instanceMethod yX6_keyAt ∈ TBL := ck23_in _ (List.mem_of_getElem? (i := 21) rfl) rfl
theorem ws_X6_keyAt : Cond.selects RX6 yX6_keyAt yX6_keyAt ∈ TBL := ck23_in _ (List.mem_of_getElem? (i := 22) rfl) rfl
theorem wc_X8_ofTrigger : Cond.code yX8_ofTrigger cX8_ofTrigger 3 (some .int) ∈ TBL := ck25_in _ (List.mem_of_getElem? (i := 0) rfl) rfl
theorem wm_X8_ofTrigger : Cond.instanceMethod yX8_ofTrigger ∈ TBL := ck24_in _ (List.mem_of_getElem? (i := 1) rfl) rfl
theorem ws_X8_ofTrigger : Cond.selects RX8 yX8_ofTrigger yX8_ofTrigger ∈ TBL := ck24_in _ (List.mem_of_getElem? (i := 2) rfl) rfl
theorem wc_X7_get : Cond.code yX7_get cX7_get 3 (some .int) ∈ TBL := ck25_in _ (List.mem_of_getElem? (i := 4) rfl) rfl
theorem wm_X7_get : Cond.instanceMethod yX7_get ∈ TBL := ck25_in _ (List.mem_of_getElem? (i := 2) rfl) rfl
theorem ws_X7_get : Cond.selects RX7 yX7_get yX7_get ∈ TBL := ck25_in _ (List.mem_of_getElem? (i := 3) rfl) rfl
theorem wc_X8_journal : Cond.code yX8_journal cX8_journal 3 (some .int) ∈ TBL := ck25_in _ (List.mem_of_getElem? (i := 10) rfl) rfl
theorem wm_X8_journal : Cond.instanceMethod yX8_journal ∈ TBL := ck25_in _ (List.mem_of_getElem? (i := 8) rfl) rfl
theorem ws_X8_journal : Cond.selects RX8 yX8_journal yX8_journal ∈ TBL := ck25_in _ (List.mem_of_getElem? (i := 9) rfl) rfl
theorem wc_L_act : Cond.code yL_act cL_act 4 (some .int) ∈ TBL := ck25_in _ (List.mem_of_getElem? (i := 14) rfl) rfl
theorem wt_L_act : Cond.static yL_act ∈ TBL := ck25_in _ (List.mem_of_getElem? (i := 13) rfl) rfl
theorem wc_X8_set : Cond.code yX8_set cX8_set 4 (some .int) ∈ TBL := ck25_in _ (List.mem_of_getElem? (i := 18) rfl) rfl
theorem wm_X8_set : Cond.instanceMethod yX8_set ∈ TBL := ck25_in _ (List.mem_of_getElem? (i := 16) rfl) rfl
theorem ws_X8_set : Cond.selects RX8 yX8_set yX8_set ∈ TBL := ck25_in _ (List.mem_of_getElem? (i := 17) rfl) rfl
theorem wc_X8_trigger : Cond.code yX8_trigger cX8_trigger 5 (some .int) ∈ TBL := ck25_in _ (List.mem_of_getElem? (i := 22) rfl) rfl
theorem wm_X8_trigger : Cond.instanceMethod yX8_trigger ∈ TBL := ck25_in _ (List.mem_of_getElem? (i := 20) rfl) rfl
theorem ws_X8_trigger : Cond.selects RX8 yX8_trigger yX8_trigger ∈ TBL := ck25_in _ (List.mem_of_getElem? (i := 21) rfl) rfl
theorem wc_X7_append : Cond.code yX7_append cX7_append 6 (some .int) ∈ TBL := ck26_in _ (List.mem_of_getElem? (i := 1) rfl) rfl
theorem wm_X7_append : Cond.instanceMethod yX7_append ∈ TBL := ck25_in _ (List.mem_of_getElem? (i := 24) rfl) rfl
theorem ws_X7_append : Cond.selects RX7 yX7_append yX7_append ∈ TBL := ck26_in _ (List.mem_of_getElem? (i := 0) rfl) rfl
theorem wc_X7_giveDeed : Cond.code yX7_giveDeed cX7_giveDeed 6 none ∈ TBL := ck26_in _ (List.mem_of_getElem? (i := 7) rfl) rfl
theorem wm_X7_giveDeed : Cond.instanceMethod yX7_giveDeed ∈ TBL := ck26_in _ (List.mem_of_getElem? (i := 5) rfl) rfl
theorem ws_X7_giveDeed : Cond.selects RX7 yX7_giveDeed yX7_giveDeed ∈ TBL := ck26_in _ (List.mem_of_getElem? (i := 6) rfl) rfl
theorem wc_X8_deed : Cond.code yX8_deed cX8_deed 7 (some .int) ∈ TBL := ck26_in _ (List.mem_of_getElem? (i := 11) rfl) rfl
theorem wm_X8_deed : Cond.instanceMethod yX8_deed ∈ TBL := ck26_in _ (List.mem_of_getElem? (i := 9) rfl) rfl
theorem ws_X8_deed : Cond.selects RX8 yX8_deed yX8_deed ∈ TBL := ck26_in _ (List.mem_of_getElem? (i := 10) rfl) rfl
theorem wc_X8_dropTrigger : Cond.code yX8_dropTrigger cX8_dropTrigger 2 (some .int) ∈ TBL := ck26_in _ (List.mem_of_getElem? (i := 16) rfl) rfl
theorem wm_X8_dropTrigger : Cond.instanceMethod yX8_dropTrigger ∈ TBL := ck26_in _ (List.mem_of_getElem? (i := 14) rfl) rfl
theorem ws_X8_dropTrigger : Cond.selects RX8 yX8_dropTrigger yX8_dropTrigger ∈ TBL := ck26_in _ (List.mem_of_getElem? (i := 15) rfl) rfl
theorem wc_X7_remove : Cond.code yX7_remove cX7_remove 2 none ∈ TBL := ck26_in _ (List.mem_of_getElem? (i := 20) rfl) rfl
theorem wm_X7_remove : Cond.instanceMethod yX7_remove ∈ TBL := ck26_in _ (List.mem_of_getElem? (i := 18) rfl) rfl
theorem ws_X7_remove : Cond.selects RX7 yX7_remove yX7_remove ∈ TBL := ck26_in _ (List.mem_of_getElem? (i := 19) rfl) rfl
theorem wc_X4_remove : Cond.code yX4_remove cX4_remove 3 none ∈ TBL := ck26_in _ (List.mem_of_getElem? (i := 24) rfl) rfl
theorem wm_X4_remove : Cond.instanceMethod yX4_remove ∈ TBL := ck26_in _ (List.mem_of_getElem? (i := 22) rfl) rfl
theorem ws_X4_remove : Cond.selects RX4 yX4_remove yX4_remove ∈ TBL := ck26_in _ (List.mem_of_getElem? (i := 23) rfl) rfl
theorem wc_X8_state : Cond.code yX8_state cX8_state 6 (some .int) ∈ TBL := ck27_in _ (List.mem_of_getElem? (i := 3) rfl) rfl
theorem wm_X8_state : Cond.instanceMethod yX8_state ∈ TBL := ck27_in _ (List.mem_of_getElem? (i := 1) rfl) rfl
theorem ws_X8_state : Cond.selects RX8 yX8_state yX8_state ∈ TBL := ck27_in _ (List.mem_of_getElem? (i := 2) rfl) rfl
theorem wc_X8_takeOver : Cond.code yX8_takeOver cX8_takeOver 1 none ∈ TBL := ck27_in _ (List.mem_of_getElem? (i := 7) rfl) rfl
theorem wm_X8_takeOver : Cond.instanceMethod yX8_takeOver ∈ TBL := ck27_in _ (List.mem_of_getElem? (i := 6) rfl) rfl
theorem ws_X8_takeOver : Cond.selects RX8 yX8_takeOver yX8_takeOver ∈ TBL := ckp0_in _ (List.mem_of_getElem? (i := 12) rfl) rfl
theorem wc_L_holds : Cond.code yL_holds cL_holds 6 (some .boolean) ∈ TBL := ck27_in _ (List.mem_of_getElem? (i := 12) rfl) rfl
theorem wt_L_holds : Cond.static yL_holds ∈ TBL := ck27_in _ (List.mem_of_getElem? (i := 11) rfl) rfl
theorem wc_X8_value : Cond.code yX8_value cX8_value 4 (some .int) ∈ TBL := ck27_in _ (List.mem_of_getElem? (i := 16) rfl) rfl
theorem wm_X8_value : Cond.instanceMethod yX8_value ∈ TBL := ck27_in _ (List.mem_of_getElem? (i := 14) rfl) rfl
theorem ws_X8_value : Cond.selects RX8 yX8_value yX8_value ∈ TBL := ck27_in _ (List.mem_of_getElem? (i := 15) rfl) rfl
theorem wm_obj : Cond.instanceMethod objectInit ∈ TBL := ck0_in _ (List.mem_of_getElem? (i := 18) rfl) rfl
theorem wt_Math_max : Cond.static Lib.Math.max.name ∈ TBL := ck2_in _ (List.mem_of_getElem? (i := 6) rfl) rfl
theorem wt_Math_min : Cond.static Lib.Math.min.name ∈ TBL := ck10_in _ (List.mem_of_getElem? (i := 19) rfl) rfl
theorem wt_copy : Cond.static arraycopyName ∈ TBL := ck10_in _ (List.mem_of_getElem? (i := 12) rfl) rfl
theorem wa_int : Cond.arrayClass .int ∈ TBL := ck1_in _ (List.mem_of_getElem? (i := 17) rfl) rfl
theorem wa_char : Cond.arrayClass .char ∈ TBL := ck7_in _ (List.mem_of_getElem? (i := 23) rfl) rfl
theorem wo_X5 : Cond.arrayOver (.object RX5) ∈ lw_tbl := List.mem_append_right _ (List.mem_of_getElem? (i := 206) (by decide +kernel))
theorem wv_copy : Cond.native arraycopyName ∈ TBL := ck10_in _ (List.mem_of_getElem? (i := 13) rfl) rfl
theorem wk_L_7 : Cond.constant RL 7 2147483647 ∈ TBL := ck23_in _ (List.mem_of_getElem? (i := 10) rfl) rfl
theorem wk_L_8 : Cond.constantLong RL 8 3 ∈ TBL := ck23_in _ (List.mem_of_getElem? (i := 14) rfl) rfl
theorem wk_L_10 : Cond.constantLong RL 10 31 ∈ TBL := ck23_in _ (List.mem_of_getElem? (i := 15) rfl) rfl
theorem wl_X6_9 : Cond.fieldLink RX6 9 "TriggerStages$Tables" "sizes" "[I" ∈ TBL := ck1_in _ (List.mem_of_getElem? (i := 7) rfl) rfl
theorem wl_X6_15 : Cond.fieldLink RX6 15 "TriggerStages$Tables" "keys" "[I" ∈ TBL := ck1_in _ (List.mem_of_getElem? (i := 8) rfl) rfl
theorem wl_X6_18 : Cond.fieldLink RX6 18 "TriggerStages$Tables" "numbers" "[I" ∈ TBL := ck1_in _ (List.mem_of_getElem? (i := 9) rfl) rfl
theorem wl_X4_21 : Cond.fieldLink RX4 21 "TriggerStages$Sheet" "limit" "I" ∈ TBL := ck2_in _ (List.mem_of_getElem? (i := 8) rfl) rfl
theorem wl_X4_24 : Cond.fieldLink RX4 24 "TriggerStages$Sheet" "width" "I" ∈ TBL := ck2_in _ (List.mem_of_getElem? (i := 9) rfl) rfl
theorem wl_X4_27 : Cond.fieldLink RX4 27 "TriggerStages$Sheet" "cells" "[I" ∈ TBL := ck2_in _ (List.mem_of_getElem? (i := 10) rfl) rfl
theorem wl_X4_9 : Cond.fieldLink RX4 9 "TriggerStages$Sheet" "size" "I" ∈ TBL := ck2_in _ (List.mem_of_getElem? (i := 11) rfl) rfl
theorem wl_X7_16 : Cond.fieldLink RX7 16 "TriggerStages$Triggers" "sheet" "LTriggerStages$Sheet;" ∈ TBL := ck2_in _ (List.mem_of_getElem? (i := 21) rfl) rfl
theorem wl_X0_72 : Cond.fieldLink RX0 72 "TriggerStages$Triggers" "sheet" "LTriggerStages$Sheet;" ∈ TBL := ck2_in _ (List.mem_of_getElem? (i := 22) rfl) rfl
theorem wl_X5_12 : Cond.fieldLink RX5 12 "TriggerStages$State" "tables" "LTriggerStages$Tables;" ∈ TBL := ck3_in _ (List.mem_of_getElem? (i := 3) rfl) rfl
theorem wl_X0_62 : Cond.fieldLink RX0 62 "TriggerStages$State" "tables" "LTriggerStages$Tables;" ∈ TBL := ck3_in _ (List.mem_of_getElem? (i := 4) rfl) rfl
theorem wl_X8_135 : Cond.fieldLink RX8 135 "TriggerStages$State" "tables" "LTriggerStages$Tables;" ∈ TBL := ck3_in _ (List.mem_of_getElem? (i := 5) rfl) rfl
theorem wl_X5_21 : Cond.fieldLink RX5 21 "TriggerStages$State" "triggers" "LTriggerStages$Triggers;" ∈ TBL := ck3_in _ (List.mem_of_getElem? (i := 6) rfl) rfl
theorem wl_X0_69 : Cond.fieldLink RX0 69 "TriggerStages$State" "triggers" "LTriggerStages$Triggers;" ∈ TBL := ck3_in _ (List.mem_of_getElem? (i := 7) rfl) rfl
theorem wl_X8_56 : Cond.fieldLink RX8 56 "TriggerStages$State" "triggers" "LTriggerStages$Triggers;" ∈ TBL := ck3_in _ (List.mem_of_getElem? (i := 8) rfl) rfl
theorem wl_X5_32 : Cond.fieldLink RX5 32 "TriggerStages$State" "journal" "LTriggerStages$Sheet;" ∈ TBL := ck3_in _ (List.mem_of_getElem? (i := 9) rfl) rfl
theorem wl_X8_102 : Cond.fieldLink RX8 102 "TriggerStages$State" "journal" "LTriggerStages$Sheet;" ∈ TBL := ck3_in _ (List.mem_of_getElem? (i := 10) rfl) rfl
theorem wl_X5_36 : Cond.fieldLink RX5 36 "TriggerStages$State" "depth" "I" ∈ TBL := ck3_in _ (List.mem_of_getElem? (i := 11) rfl) rfl
theorem wl_X8_49 : Cond.fieldLink RX8 49 "TriggerStages$State" "depth" "I" ∈ TBL := ck3_in _ (List.mem_of_getElem? (i := 12) rfl) rfl
theorem wl_X5_40 : Cond.fieldLink RX5 40 "TriggerStages$State" "lenient" "I" ∈ TBL := ck3_in _ (List.mem_of_getElem? (i := 13) rfl) rfl
theorem wl_X0_78 : Cond.fieldLink RX0 78 "TriggerStages$State" "lenient" "I" ∈ TBL := ck3_in _ (List.mem_of_getElem? (i := 14) rfl) rfl
theorem wl_X8_53 : Cond.fieldLink RX8 53 "TriggerStages$State" "lenient" "I" ∈ TBL := ck3_in _ (List.mem_of_getElem? (i := 15) rfl) rfl
theorem wl_X1_9 : Cond.fieldLink RX1 9 "TriggerStages$Failure" "reason" "I" ∈ TBL := ck4_in _ (List.mem_of_getElem? (i := 18) rfl) rfl
theorem wl_X8_109 : Cond.fieldLink RX8 109 "TriggerStages$Failure" "reason" "I" ∈ TBL := ck4_in _ (List.mem_of_getElem? (i := 19) rfl) rfl
theorem wl_X1_15 : Cond.fieldLink RX1 15 "TriggerStages$Failure" "table" "I" ∈ TBL := ck4_in _ (List.mem_of_getElem? (i := 20) rfl) rfl
theorem wl_X8_122 : Cond.fieldLink RX8 122 "TriggerStages$Failure" "table" "I" ∈ TBL := ck4_in _ (List.mem_of_getElem? (i := 21) rfl) rfl
theorem wl_X1_18 : Cond.fieldLink RX1 18 "TriggerStages$Failure" "key" "I" ∈ TBL := ck4_in _ (List.mem_of_getElem? (i := 22) rfl) rfl
theorem wl_X8_125 : Cond.fieldLink RX8 125 "TriggerStages$Failure" "key" "I" ∈ TBL := ck4_in _ (List.mem_of_getElem? (i := 23) rfl) rfl
theorem wl_X1_21 : Cond.fieldLink RX1 21 "TriggerStages$Failure" "blamed" "I" ∈ TBL := ck4_in _ (List.mem_of_getElem? (i := 24) rfl) rfl
theorem wl_X8_128 : Cond.fieldLink RX8 128 "TriggerStages$Failure" "blamed" "I" ∈ TBL := ck5_in _ (List.mem_of_getElem? (i := 0) rfl) rfl
theorem wl_X1_24 : Cond.fieldLink RX1 24 "TriggerStages$Failure" "chain" "[I" ∈ TBL := ck5_in _ (List.mem_of_getElem? (i := 1) rfl) rfl
theorem wl_X0_12 : Cond.fieldLink RX0 12 "TriggerStages$Course" "tables" "LTriggerStages$Tables;" ∈ TBL := ck5_in _ (List.mem_of_getElem? (i := 13) rfl) rfl
theorem wl_X8_198 : Cond.fieldLink RX8 198 "TriggerStages$Course" "tables" "LTriggerStages$Tables;" ∈ TBL := ck5_in _ (List.mem_of_getElem? (i := 14) rfl) rfl
theorem wl_X0_23 : Cond.fieldLink RX0 23 "TriggerStages$Course" "journal" "LTriggerStages$Sheet;" ∈ TBL := ck5_in _ (List.mem_of_getElem? (i := 15) rfl) rfl
theorem wl_X8_112 : Cond.fieldLink RX8 112 "TriggerStages$Course" "journal" "LTriggerStages$Sheet;" ∈ TBL := ck5_in _ (List.mem_of_getElem? (i := 16) rfl) rfl
theorem wl_X0_27 : Cond.fieldLink RX0 27 "TriggerStages$Course" "begun" "LTriggerStages$Sheet;" ∈ TBL := ck5_in _ (List.mem_of_getElem? (i := 17) rfl) rfl
theorem wl_X8_113 : Cond.fieldLink RX8 113 "TriggerStages$Course" "begun" "LTriggerStages$Sheet;" ∈ TBL := ck5_in _ (List.mem_of_getElem? (i := 18) rfl) rfl
theorem wl_X0_33 : Cond.fieldLink RX0 33 "TriggerStages$Course" "failure" "LTriggerStages$Failure;" ∈ TBL := ck5_in _ (List.mem_of_getElem? (i := 19) rfl) rfl
theorem wl_X8_89 : Cond.fieldLink RX8 89 "TriggerStages$Course" "failure" "LTriggerStages$Failure;" ∈ TBL := ck5_in _ (List.mem_of_getElem? (i := 20) rfl) rfl
theorem wl_X0_37 : Cond.fieldLink RX0 37 "TriggerStages$Course" "leftOut" "I" ∈ TBL := ck5_in _ (List.mem_of_getElem? (i := 21) rfl) rfl
theorem wl_X8_116 : Cond.fieldLink RX8 116 "TriggerStages$Course" "leftOut" "I" ∈ TBL := ck5_in _ (List.mem_of_getElem? (i := 22) rfl) rfl
theorem wl_X0_43 : Cond.fieldLink RX0 43 "TriggerStages$Course" "triggers" "LTriggerStages$Sheet;" ∈ TBL := ck5_in _ (List.mem_of_getElem? (i := 23) rfl) rfl
theorem wl_X0_46 : Cond.fieldLink RX0 46 "TriggerStages$Course" "waiting" "LTriggerStages$Sheet;" ∈ TBL := ck5_in _ (List.mem_of_getElem? (i := 24) rfl) rfl
theorem wl_X0_49 : Cond.fieldLink RX0 49 "TriggerStages$Course" "isLenient" "Z" ∈ TBL := ck6_in _ (List.mem_of_getElem? (i := 0) rfl) rfl
theorem wl_X0_53 : Cond.fieldLink RX0 53 "TriggerStages$Course" "depthLimit" "I" ∈ TBL := ck6_in _ (List.mem_of_getElem? (i := 1) rfl) rfl
theorem wl_X0_56 : Cond.fieldLink RX0 56 "TriggerStages$Course" "without" "I" ∈ TBL := ck6_in _ (List.mem_of_getElem? (i := 2) rfl) rfl
theorem wl_X0_59 : Cond.fieldLink RX0 59 "TriggerStages$Course" "inMotion" "I" ∈ TBL := ck6_in _ (List.mem_of_getElem? (i := 3) rfl) rfl
theorem wl_X3_9 : Cond.fieldLink RX3 9 "TriggerStages$Pad" "signs" "[C" ∈ TBL := ck7_in _ (List.mem_of_getElem? (i := 10) rfl) rfl
theorem wl_X3_20 : Cond.fieldLink RX3 20 "TriggerStages$Pad" "parsed" "LTriggerStages$Sheet;" ∈ TBL := ck7_in _ (List.mem_of_getElem? (i := 11) rfl) rfl
theorem wl_X3_24 : Cond.fieldLink RX3 24 "TriggerStages$Pad" "length" "I" ∈ TBL := ck7_in _ (List.mem_of_getElem? (i := 12) rfl) rfl
theorem wl_X3_28 : Cond.fieldLink RX3 28 "TriggerStages$Pad" "at" "I" ∈ TBL := ck7_in _ (List.mem_of_getElem? (i := 13) rfl) rfl
theorem wl_X2_11 : Cond.fieldLink RX2 11 "TriggerStages$History" "ring" "[LTriggerStages$State;" ∈ TBL := ck8_in _ (List.mem_of_getElem? (i := 7) rfl) rfl
theorem wl_X2_17 : Cond.fieldLink RX2 17 "TriggerStages$History" "oldest" "I" ∈ TBL := ck8_in _ (List.mem_of_getElem? (i := 8) rfl) rfl
theorem wl_X2_21 : Cond.fieldLink RX2 21 "TriggerStages$History" "size" "I" ∈ TBL := ck8_in _ (List.mem_of_getElem? (i := 9) rfl) rfl
theorem wl_X8_10 : Cond.fieldLink RX8 10 "TriggerStages" "now" "LTriggerStages$State;" ∈ TBL := ck8_in _ (List.mem_of_getElem? (i := 17) rfl) rfl
theorem wl_X8_19 : Cond.fieldLink RX8 19 "TriggerStages" "course" "LTriggerStages$Course;" ∈ TBL := ck8_in _ (List.mem_of_getElem? (i := 18) rfl) rfl
theorem wl_X8_26 : Cond.fieldLink RX8 26 "TriggerStages" "pad" "LTriggerStages$Pad;" ∈ TBL := ck8_in _ (List.mem_of_getElem? (i := 19) rfl) rfl
theorem wl_X8_33 : Cond.fieldLink RX8 33 "TriggerStages" "history" "LTriggerStages$History;" ∈ TBL := ck8_in _ (List.mem_of_getElem? (i := 20) rfl) rfl
theorem wl_X8_37 : Cond.fieldLink RX8 37 "TriggerStages" "slots" "[LTriggerStages$State;" ∈ TBL := ck8_in _ (List.mem_of_getElem? (i := 21) rfl) rfl
theorem wl_L_57 : Cond.methodLink RL 57 yX8_init ∈ TBL := ck0_in _ (List.mem_of_getElem? (i := 14) rfl) rfl
theorem wl_X8_1 : Cond.methodLink RX8 1 objectInit ∈ TBL := ck0_in _ (List.mem_of_getElem? (i := 17) rfl) rfl
theorem wl_X8_9 : Cond.methodLink RX8 9 yX5_init ∈ TBL := ck0_in _ (List.mem_of_getElem? (i := 22) rfl) rfl
theorem wl_X5_3 : Cond.methodLink RX5 3 objectInit ∈ TBL := ck1_in _ (List.mem_of_getElem? (i := 0) rfl) rfl
theorem wl_X5_11 : Cond.methodLink RX5 11 yX6_init ∈ TBL := ck1_in _ (List.mem_of_getElem? (i := 3) rfl) rfl
theorem wl_X6_3 : Cond.methodLink RX6 3 objectInit ∈ TBL := ck1_in _ (List.mem_of_getElem? (i := 6) rfl) rfl
theorem wl_X5_20 : Cond.methodLink RX5 20 yX7_init ∈ TBL := ck1_in _ (List.mem_of_getElem? (i := 20) rfl) rfl
theorem wl_X7_3 : Cond.methodLink RX7 3 objectInit ∈ TBL := ck1_in _ (List.mem_of_getElem? (i := 23) rfl) rfl
theorem wl_X7_13 : Cond.methodLink RX7 13 yX4_init ∈ TBL := ck2_in _ (List.mem_of_getElem? (i := 1) rfl) rfl
theorem wl_X4_3 : Cond.methodLink RX4 3 objectInit ∈ TBL := ck2_in _ (List.mem_of_getElem? (i := 4) rfl) rfl
theorem wl_X4_15 : Cond.methodLink RX4 15 Lib.Math.max.name ∈ TBL := ck2_in _ (List.mem_of_getElem? (i := 5) rfl) rfl
theorem wl_X5_29 : Cond.methodLink RX5 29 yX4_init ∈ TBL := ck3_in _ (List.mem_of_getElem? (i := 2) rfl) rfl
theorem wl_X8_18 : Cond.methodLink RX8 18 yX0_init ∈ TBL := ck4_in _ (List.mem_of_getElem? (i := 4) rfl) rfl
theorem wl_X0_3 : Cond.methodLink RX0 3 objectInit ∈ TBL := ck4_in _ (List.mem_of_getElem? (i := 7) rfl) rfl
theorem wl_X0_11 : Cond.methodLink RX0 11 yX6_init ∈ TBL := ck4_in _ (List.mem_of_getElem? (i := 9) rfl) rfl
theorem wl_X0_20 : Cond.methodLink RX0 20 yX4_init ∈ TBL := ck4_in _ (List.mem_of_getElem? (i := 11) rfl) rfl
theorem wl_X0_32 : Cond.methodLink RX0 32 yX1_init ∈ TBL := ck4_in _ (List.mem_of_getElem? (i := 14) rfl) rfl
theorem wl_X1_3 : Cond.methodLink RX1 3 objectInit ∈ TBL := ck4_in _ (List.mem_of_getElem? (i := 17) rfl) rfl
theorem wl_X8_25 : Cond.methodLink RX8 25 yX3_init ∈ TBL := ck7_in _ (List.mem_of_getElem? (i := 4) rfl) rfl
theorem wl_X3_3 : Cond.methodLink RX3 3 objectInit ∈ TBL := ck7_in _ (List.mem_of_getElem? (i := 7) rfl) rfl
theorem wl_X3_17 : Cond.methodLink RX3 17 yX4_init ∈ TBL := ck7_in _ (List.mem_of_getElem? (i := 9) rfl) rfl
theorem wl_X8_32 : Cond.methodLink RX8 32 yX2_init ∈ TBL := ck8_in _ (List.mem_of_getElem? (i := 1) rfl) rfl
theorem wl_X2_3 : Cond.methodLink RX2 3 objectInit ∈ TBL := ck8_in _ (List.mem_of_getElem? (i := 4) rfl) rfl
theorem wl_L_77 : Cond.methodLink RL 77 yX8_tried ∈ TBL := ck9_in _ (List.mem_of_getElem? (i := 8) rfl) rfl
theorem wl_X8_82 : Cond.methodLink RX8 82 yX8_errorOf ∈ TBL := ck9_in _ (List.mem_of_getElem? (i := 12) rfl) rfl
theorem wl_X8_41 : Cond.methodLink RX8 41 yX8_isWithin ∈ TBL := ck10_in _ (List.mem_of_getElem? (i := 0) rfl) rfl
theorem wl_X8_85 : Cond.methodLink RX8 85 yX0_run ∈ TBL := ck10_in _ (List.mem_of_getElem? (i := 3) rfl) rfl
theorem wl_X0_65 : Cond.methodLink RX0 65 yX6_copyFrom ∈ TBL := ck10_in _ (List.mem_of_getElem? (i := 7) rfl) rfl
theorem wl_X6_21 : Cond.methodLink RX6 21 arraycopyName ∈ TBL := ck10_in _ (List.mem_of_getElem? (i := 11) rfl) rfl
theorem wl_X0_75 : Cond.methodLink RX0 75 yX4_copyFrom ∈ TBL := ck10_in _ (List.mem_of_getElem? (i := 14) rfl) rfl
theorem wl_X4_31 : Cond.methodLink RX4 31 Lib.Math.min.name ∈ TBL := ck10_in _ (List.mem_of_getElem? (i := 18) rfl) rfl
theorem wl_X4_34 : Cond.methodLink RX4 34 arraycopyName ∈ TBL := ck10_in _ (List.mem_of_getElem? (i := 21) rfl) rfl
theorem wl_X0_81 : Cond.methodLink RX0 81 yX4_clear ∈ TBL := ck10_in _ (List.mem_of_getElem? (i := 22) rfl) rfl
theorem wl_X0_84 : Cond.methodLink RX0 84 yX1_clear ∈ TBL := ck11_in _ (List.mem_of_getElem? (i := 1) rfl) rfl
theorem wl_X0_85 : Cond.methodLink RX0 85 yX0_carry ∈ TBL := ck11_in _ (List.mem_of_getElem? (i := 5) rfl) rfl
theorem wl_X0_106 : Cond.methodLink RX0 106 yX1_tell ∈ TBL := ck11_in _ (List.mem_of_getElem? (i := 9) rfl) rfl
theorem wl_X1_34 : Cond.methodLink RX1 34 yX4_get ∈ TBL := ck11_in _ (List.mem_of_getElem? (i := 13) rfl) rfl
theorem wl_X1_40 : Cond.methodLink RX1 40 Lib.Math.min.name ∈ TBL := ck11_in _ (List.mem_of_getElem? (i := 17) rfl) rfl
theorem wl_X0_89 : Cond.methodLink RX0 89 yX4_size ∈ TBL := ck11_in _ (List.mem_of_getElem? (i := 18) rfl) rfl
theorem wl_X0_110 : Cond.methodLink RX0 110 yX6_weightOf ∈ TBL := ck11_in _ (List.mem_of_getElem? (i := 22) rfl) rfl
theorem wl_X6_39 : Cond.methodLink RX6 39 yX6_placeOf ∈ TBL := ck12_in _ (List.mem_of_getElem? (i := 1) rfl) rfl
theorem wl_X6_35 : Cond.methodLink RX6 35 yX6_sizeOf ∈ TBL := ck12_in _ (List.mem_of_getElem? (i := 5) rfl) rfl
theorem wl_X6_31 : Cond.methodLink RX6 31 yX6_numberAt ∈ TBL := ck14_in _ (List.mem_of_getElem? (i := 0) rfl) rfl
theorem wl_X0_114 : Cond.methodLink RX0 114 yX0_begin ∈ TBL := ck14_in _ (List.mem_of_getElem? (i := 4) rfl) rfl
theorem wl_X0_136 : Cond.methodLink RX0 136 yX4_append ∈ TBL := ck14_in _ (List.mem_of_getElem? (i := 8) rfl) rfl
theorem wl_X0_139 : Cond.methodLink RX0 139 yX4_change ∈ TBL := ck14_in _ (List.mem_of_getElem? (i := 12) rfl) rfl
theorem wl_X0_118 : Cond.methodLink RX0 118 yX0_isLeftOut ∈ TBL := ck14_in _ (List.mem_of_getElem? (i := 16) rfl) rfl
theorem wl_X0_122 : Cond.methodLink RX0 122 yX0_doStage ∈ TBL := ck14_in _ (List.mem_of_getElem? (i := 20) rfl) rfl
theorem wl_X0_143 : Cond.methodLink RX0 143 yX0_isSetOff ∈ TBL := ck14_in _ (List.mem_of_getElem? (i := 24) rfl) rfl
theorem wl_X0_93 : Cond.methodLink RX0 93 yX4_get ∈ TBL := ck15_in _ (List.mem_of_getElem? (i := 3) rfl) rfl
theorem wl_X0_97 : Cond.methodLink RX0 97 yX0_doDeed ∈ TBL := ck15_in _ (List.mem_of_getElem? (i := 4) rfl) rfl
theorem wl_X0_125 : Cond.methodLink RX0 125 yX6_apply ∈ TBL := ck15_in _ (List.mem_of_getElem? (i := 8) rfl) rfl
theorem wl_X6_42 : Cond.methodLink RX6 42 yX6_insert ∈ TBL := ck15_in _ (List.mem_of_getElem? (i := 12) rfl) rfl
theorem wl_X6_46 : Cond.methodLink RX6 46 yX6_renumber ∈ TBL := ck15_in _ (List.mem_of_getElem? (i := 16) rfl) rfl
theorem wl_X6_49 : Cond.methodLink RX6 49 yX6_remove ∈ TBL := ck15_in _ (List.mem_of_getElem? (i := 20) rfl) rfl
theorem wl_X0_129 : Cond.methodLink RX0 129 yX0_noteDone ∈ TBL := ck15_in _ (List.mem_of_getElem? (i := 24) rfl) rfl
theorem wl_X0_133 : Cond.methodLink RX0 133 yX0_queueLastStage ∈ TBL := ck16_in _ (List.mem_of_getElem? (i := 3) rfl) rfl
theorem wl_X8_93 : Cond.methodLink RX8 93 yX1_isThere ∈ TBL := ck16_in _ (List.mem_of_getElem? (i := 7) rfl) rfl
theorem wl_X8_106 : Cond.methodLink RX8 106 yX4_size ∈ TBL := ck16_in _ (List.mem_of_getElem? (i := 11) rfl) rfl
theorem wl_X8_119 : Cond.methodLink RX8 119 yX0_greatestDepth ∈ TBL := ck16_in _ (List.mem_of_getElem? (i := 12) rfl) rfl
theorem wl_X0_101 : Cond.methodLink RX0 101 Lib.Math.max.name ∈ TBL := ck16_in _ (List.mem_of_getElem? (i := 16) rfl) rfl
theorem wl_X8_131 : Cond.methodLink RX8 131 yX1_blamedAt ∈ TBL := ck16_in _ (List.mem_of_getElem? (i := 17) rfl) rfl
theorem wl_L_12 : Cond.methodLink RL 12 yX8_count ∈ TBL := ck18_in _ (List.mem_of_getElem? (i := 0) rfl) rfl
theorem wl_X8_139 : Cond.methodLink RX8 139 yX6_sizeOf ∈ TBL := ck18_in _ (List.mem_of_getElem? (i := 4) rfl) rfl
theorem wl_X8_60 : Cond.methodLink RX8 60 yX7_size ∈ TBL := ck18_in _ (List.mem_of_getElem? (i := 5) rfl) rfl
theorem wl_X7_24 : Cond.methodLink RX7 24 yX4_size ∈ TBL := ck18_in _ (List.mem_of_getElem? (i := 9) rfl) rfl
theorem wl_X8_161 : Cond.methodLink RX8 161 yX6_sumOfNumbers ∈ TBL := ck18_in _ (List.mem_of_getElem? (i := 10) rfl) rfl
theorem wl_X8_164 : Cond.methodLink RX8 164 yX7_thoseThatCouldSetOffThemselves ∈ TBL := ck18_in _ (List.mem_of_getElem? (i := 14) rfl) rfl
theorem wl_X7_58 : Cond.methodLink RX7 58 yX7_couldSetOffItself ∈ TBL := ck18_in _ (List.mem_of_getElem? (i := 18) rfl) rfl
theorem wl_X7_47 : Cond.methodLink RX7 47 yX7_followers ∈ TBL := ck18_in _ (List.mem_of_getElem? (i := 22) rfl) rfl
theorem wl_X7_28 : Cond.methodLink RX7 28 yX4_get ∈ TBL := ck19_in _ (List.mem_of_getElem? (i := 1) rfl) rfl
theorem wl_X7_51 : Cond.methodLink RX7 51 yX7_followersOfAll ∈ TBL := ck19_in _ (List.mem_of_getElem? (i := 2) rfl) rfl
theorem wl_X7_54 : Cond.methodLink RX7 54 yX7_isIn ∈ TBL := ck19_in _ (List.mem_of_getElem? (i := 6) rfl) rfl
theorem wl_X8_167 : Cond.methodLink RX8 167 yX3_length ∈ TBL := ck19_in _ (List.mem_of_getElem? (i := 9) rfl) rfl
theorem wl_X8_170 : Cond.methodLink RX8 170 yX2_size ∈ TBL := ck19_in _ (List.mem_of_getElem? (i := 13) rfl) rfl
theorem wl_L_80 : Cond.methodLink RL 80 yX8_culprits ∈ TBL := ck19_in _ (List.mem_of_getElem? (i := 17) rfl) rfl
theorem wl_L_58 : Cond.methodLink RL 58 yX8_undo ∈ TBL := ck19_in _ (List.mem_of_getElem? (i := 21) rfl) rfl
theorem wl_X8_188 : Cond.methodLink RX8 188 yX2_takeBack ∈ TBL := ck20_in _ (List.mem_of_getElem? (i := 0) rfl) rfl
theorem wl_X2_29 : Cond.methodLink RX2 29 yX5_copyFrom ∈ TBL := ck22_in _ (List.mem_of_getElem? (i := 0) rfl) rfl
theorem wl_X5_43 : Cond.methodLink RX5 43 yX6_copyFrom ∈ TBL := ck22_in _ (List.mem_of_getElem? (i := 4) rfl) rfl
theorem wl_X5_47 : Cond.methodLink RX5 47 yX7_copyFrom ∈ TBL := ck22_in _ (List.mem_of_getElem? (i := 5) rfl) rfl
theorem wl_X7_20 : Cond.methodLink RX7 20 yX4_copyFrom ∈ TBL := ck22_in _ (List.mem_of_getElem? (i := 9) rfl) rfl
theorem wl_X5_50 : Cond.methodLink RX5 50 yX4_copyFrom ∈ TBL := ck22_in _ (List.mem_of_getElem? (i := 10) rfl) rfl
theorem wl_L_62 : Cond.methodLink RL 62 yX8_save ∈ TBL := ck22_in _ (List.mem_of_getElem? (i := 11) rfl) rfl
theorem wl_X8_192 : Cond.methodLink RX8 192 yX5_copyFrom ∈ TBL := ck22_in _ (List.mem_of_getElem? (i := 15) rfl) rfl
theorem wl_X8_195 : Cond.methodLink RX8 195 yX6_rows ∈ TBL := ck22_in _ (List.mem_of_getElem? (i := 16) rfl) rfl
theorem wl_L_48 : Cond.methodLink RL 48 yX8_restore ∈ TBL := ck22_in _ (List.mem_of_getElem? (i := 20) rfl) rfl
theorem wl_X8_45 : Cond.methodLink RX8 45 yX2_keep ∈ TBL := ck22_in _ (List.mem_of_getElem? (i := 24) rfl) rfl
theorem wl_X2_28 : Cond.methodLink RX2 28 yX5_init ∈ TBL := ck23_in _ (List.mem_of_getElem? (i := 3) rfl) rfl
theorem wl_L_69 : Cond.methodLink RL 69 yL_cell ∈ TBL := ck23_in _ (List.mem_of_getElem? (i := 4) rfl) rfl
theorem wl_L_29 : Cond.methodLink RL 29 yL_low ∈ TBL := ck23_in _ (List.mem_of_getElem? (i := 7) rfl) rfl
theorem wl_L_65 : Cond.methodLink RL 65 yL_digest ∈ TBL := ck23_in _ (List.mem_of_getElem? (i := 11) rfl) rfl
theorem wl_L_18 : Cond.methodLink RL 18 yX8_row ∈ TBL := ck23_in _ (List.mem_of_getElem? (i := 16) rfl) rfl
theorem wl_X8_144 : Cond.methodLink RX8 144 yX6_keyAt ∈ TBL := ck23_in _ (List.mem_of_getElem? (i := 20) rfl) rfl
theorem wl_X8_147 : Cond.methodLink RX8 147 yX6_numberAt ∈ TBL := ck23_in _ (List.mem_of_getElem? (i := 24) rfl) rfl
theorem wl_L_22 : Cond.methodLink RL 22 yX8_ofTrigger ∈ TBL := ck24_in _ (List.mem_of_getElem? (i := 0) rfl) rfl
theorem wl_X8_70 : Cond.methodLink RX8 70 yX7_get ∈ TBL := ck25_in _ (List.mem_of_getElem? (i := 1) rfl) rfl
theorem wl_X8_153 : Cond.methodLink RX8 153 yX7_followers ∈ TBL := ck25_in _ (List.mem_of_getElem? (i := 5) rfl) rfl
theorem wl_X8_156 : Cond.methodLink RX8 156 yX7_couldSetOffItself ∈ TBL := ck25_in _ (List.mem_of_getElem? (i := 6) rfl) rfl
theorem wl_L_26 : Cond.methodLink RL 26 yX8_journal ∈ TBL := ck25_in _ (List.mem_of_getElem? (i := 7) rfl) rfl
theorem wl_X8_160 : Cond.methodLink RX8 160 yX4_get ∈ TBL := ck25_in _ (List.mem_of_getElem? (i := 11) rfl) rfl
theorem wl_L_73 : Cond.methodLink RL 73 yL_act ∈ TBL := ck25_in _ (List.mem_of_getElem? (i := 12) rfl) rfl
theorem wl_L_34 : Cond.methodLink RL 34 yX8_set ∈ TBL := ck25_in _ (List.mem_of_getElem? (i := 15) rfl) rfl
theorem wl_L_37 : Cond.methodLink RL 37 yX8_trigger ∈ TBL := ck25_in _ (List.mem_of_getElem? (i := 19) rfl) rfl
theorem wl_X8_66 : Cond.methodLink RX8 66 yX7_append ∈ TBL := ck25_in _ (List.mem_of_getElem? (i := 23) rfl) rfl
theorem wl_X7_32 : Cond.methodLink RX7 32 yX4_append ∈ TBL := ck26_in _ (List.mem_of_getElem? (i := 2) rfl) rfl
theorem wl_X7_35 : Cond.methodLink RX7 35 yX4_change ∈ TBL := ck26_in _ (List.mem_of_getElem? (i := 3) rfl) rfl
theorem wl_X7_39 : Cond.methodLink RX7 39 yX7_giveDeed ∈ TBL := ck26_in _ (List.mem_of_getElem? (i := 4) rfl) rfl
theorem wl_L_41 : Cond.methodLink RL 41 yX8_deed ∈ TBL := ck26_in _ (List.mem_of_getElem? (i := 8) rfl) rfl
theorem wl_X8_74 : Cond.methodLink RX8 74 yX7_giveDeed ∈ TBL := ck26_in _ (List.mem_of_getElem? (i := 12) rfl) rfl
theorem wl_L_45 : Cond.methodLink RL 45 yX8_dropTrigger ∈ TBL := ck26_in _ (List.mem_of_getElem? (i := 13) rfl) rfl
theorem wl_X8_78 : Cond.methodLink RX8 78 yX7_remove ∈ TBL := ck26_in _ (List.mem_of_getElem? (i := 17) rfl) rfl
theorem wl_X7_43 : Cond.methodLink RX7 43 yX4_remove ∈ TBL := ck26_in _ (List.mem_of_getElem? (i := 21) rfl) rfl
theorem wl_L_51 : Cond.methodLink RL 51 yX8_state ∈ TBL := ck27_in _ (List.mem_of_getElem? (i := 0) rfl) rfl
theorem wl_X8_99 : Cond.methodLink RX8 99 yX8_takeOver ∈ TBL := ck27_in _ (List.mem_of_getElem? (i := 4) rfl) rfl
theorem wl_X8_199 : Cond.methodLink RX8 199 yX6_copyFrom ∈ TBL := ck27_in _ (List.mem_of_getElem? (i := 8) rfl) rfl
theorem wl_X8_202 : Cond.methodLink RX8 202 yX4_copyFrom ∈ TBL := ck27_in _ (List.mem_of_getElem? (i := 9) rfl) rfl
theorem wl_L_83 : Cond.methodLink RL 83 yL_holds ∈ TBL := ck27_in _ (List.mem_of_getElem? (i := 10) rfl) rfl
theorem wl_L_54 : Cond.methodLink RL 54 yX8_value ∈ TBL := ck27_in _ (List.mem_of_getElem? (i := 13) rfl) rfl
theorem wl_X8_150 : Cond.methodLink RX8 150 yX6_placeOf ∈ TBL := ck27_in _ (List.mem_of_getElem? (i := 17) rfl) rfl
theorem wl_L_13 : Cond.classLink RL 13 RX8 ∈ TBL := ck0_in _ (List.mem_of_getElem? (i := 12) rfl) rfl
theorem wl_X8_7 : Cond.classLink RX8 7 RX5 ∈ TBL := ck0_in _ (List.mem_of_getElem? (i := 20) rfl) rfl
theorem wl_X5_9 : Cond.classLink RX5 9 RX6 ∈ TBL := ck1_in _ (List.mem_of_getElem? (i := 1) rfl) rfl
theorem wl_X5_18 : Cond.classLink RX5 18 RX7 ∈ TBL := ck1_in _ (List.mem_of_getElem? (i := 18) rfl) rfl
theorem wl_X7_9 : Cond.classLink RX7 9 RX4 ∈ TBL := ck1_in _ (List.mem_of_getElem? (i := 24) rfl) rfl
theorem wl_X5_25 : Cond.classLink RX5 25 RX4 ∈ TBL := ck3_in _ (List.mem_of_getElem? (i := 1) rfl) rfl
theorem wl_X8_16 : Cond.classLink RX8 16 RX0 ∈ TBL := ck4_in _ (List.mem_of_getElem? (i := 2) rfl) rfl
theorem wl_X0_9 : Cond.classLink RX0 9 RX6 ∈ TBL := ck4_in _ (List.mem_of_getElem? (i := 8) rfl) rfl
theorem wl_X0_18 : Cond.classLink RX0 18 RX4 ∈ TBL := ck4_in _ (List.mem_of_getElem? (i := 10) rfl) rfl
theorem wl_X0_30 : Cond.classLink RX0 30 RX1 ∈ TBL := ck4_in _ (List.mem_of_getElem? (i := 12) rfl) rfl
theorem wl_X8_23 : Cond.classLink RX8 23 RX3 ∈ TBL := ck7_in _ (List.mem_of_getElem? (i := 2) rfl) rfl
theorem wl_X3_15 : Cond.classLink RX3 15 RX4 ∈ TBL := ck7_in _ (List.mem_of_getElem? (i := 8) rfl) rfl
theorem wl_X8_30 : Cond.classLink RX8 30 RX2 ∈ TBL := ck7_in _ (List.mem_of_getElem? (i := 24) rfl) rfl
theorem wl_X2_9 : Cond.classLink RX2 9 RX5 ∈ TBL := ck8_in _ (List.mem_of_getElem? (i := 5) rfl) rfl
/-- the words on nest mates: they travel in the state, not in the lists -/
def nestW : List Cond := [Cond.methodLinkNest RX6 27 yX8_isWithin RX8, Cond.methodLinkNest RX1 28 yX8_isWithin RX8, Cond.methodLinkNest RX2 24 yX8_isWithin RX8]
theorem nest_in : ∀ w ∈ nestW, w ∈ lw_tbl := List.forall_mem_cons.mpr ⟨ck13_lw _ (List.mem_of_getElem? (i := 0) rfl), List.forall_mem_cons.mpr ⟨ck17_lw _ (List.mem_of_getElem? (i := 0) rfl), List.forall_mem_cons.mpr ⟨ck21_lw _ (List.mem_of_getElem? (i := 0) rfl), fun w h => absurd h List.not_mem_nil⟩⟩⟩
theorem wx_X6_27 : Cond.methodLinkNest RX6 27 yX8_isWithin RX8 ∈ nestW := List.mem_of_getElem? (i := 0) rfl
theorem wx_X1_28 : Cond.methodLinkNest RX1 28 yX8_isWithin RX8 ∈ nestW := List.mem_of_getElem? (i := 1) rfl
theorem wx_X2_24 : Cond.methodLinkNest RX2 24 yX8_isWithin RX8 ∈ nestW := List.mem_of_getElem? (i := 2) rfl
