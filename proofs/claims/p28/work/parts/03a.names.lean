/-! ===== BEGIN printed: names, fields, word lists, decode rows ===== -/
def RX0 : String := "HangingChain$Balance"
def TX0 : u_T := fun k => match k with
  | 0 => ("HangingChain$Balance", "heights", "LHangingChain$Row;", true)
  | 1 => ("HangingChain$Balance", "burdens", "LHangingChain$Row;", true)
  | 2 => ("HangingChain$Balance", "byHangers", "LHangingChain$Row;", true)
  | 3 => ("HangingChain$Balance", "byProps", "LHangingChain$Row;", true)
  | 4 => ("HangingChain$Balance", "loads", "LHangingChain$Row;", true)
  | 5 => ("HangingChain$Balance", "forces", "LHangingChain$Row;", true)
  | 6 => ("HangingChain$Balance", "ahead", "I", false)
  | 7 => ("HangingChain$Balance", "behind", "I", false)
  | _ => ("HangingChain$Balance", "greatest", "I", false)
def tyX0 : Nat → FieldType := fun k => match k with
  | 0 => .object "HangingChain$Row"
  | 1 => .object "HangingChain$Row"
  | 2 => .object "HangingChain$Row"
  | 3 => .object "HangingChain$Row"
  | 4 => .object "HangingChain$Row"
  | 5 => .object "HangingChain$Row"
  | 6 => .int
  | 7 => .int
  | _ => .int
abbrev wsX00 : List Cond := u_ws RX0 TX0 9
theorem nmX0 : ∀ a, a < 9 → ∀ b, b < 9 → a ≠ b → (TX0 a).2.1 ≠ (TX0 b).2.1 := by decide +kernel
theorem tyX0_ok : ∀ k, k < 9 → parseFieldDescriptor (TX0 k).2.2.1 = some (tyX0 k) := by decide +kernel
abbrev cX0_init : ByteArray := prog_2_method_1_code
def yX0_init : MethodName := ⟨RX0, "<init>", "()V"⟩
abbrev cX0_weigh : ByteArray := prog_2_method_2_code
def yX0_weigh : MethodName := ⟨RX0, "weigh", "(LHangingChain$Chain;)I"⟩
abbrev cX0_placeJoints : ByteArray := prog_2_method_3_code
def yX0_placeJoints : MethodName := ⟨RX0, "placeJoints", "(LHangingChain$Chain;)V"⟩
abbrev cX0_hold : ByteArray := prog_2_method_4_code
def yX0_hold : MethodName := ⟨RX0, "hold", "(LHangingChain$Chain;I)V"⟩
abbrev cX0_loadWalls : ByteArray := prog_2_method_5_code
def yX0_loadWalls : MethodName := ⟨RX0, "loadWalls", "(LHangingChain$Chain;)V"⟩
abbrev cX0_pullLinks : ByteArray := prog_2_method_6_code
def yX0_pullLinks : MethodName := ⟨RX0, "pullLinks", "(LHangingChain$Chain;)V"⟩
abbrev cX0_breaks : ByteArray := prog_2_method_7_code
def yX0_breaks : MethodName := ⟨RX0, "breaks", "(LHangingChain$Chain;I)Z"⟩
abbrev cX0_holds : ByteArray := prog_2_method_8_code
def yX0_holds : MethodName := ⟨RX0, "holds", "(LHangingChain$Chain;)Z"⟩
abbrev cX0_broken : ByteArray := prog_2_method_9_code
def yX0_broken : MethodName := ⟨RX0, "broken", "(LHangingChain$Chain;)I"⟩
abbrev cX0_lowest : ByteArray := prog_2_method_10_code
def yX0_lowest : MethodName := ⟨RX0, "lowest", "(LHangingChain$Chain;)I"⟩
def RX1 : String := "HangingChain$Chain"
def TX1 : u_T := fun k => match k with
  | 0 => ("HangingChain$Chain", "steps", "LHangingChain$Row;", true)
  | 1 => ("HangingChain$Chain", "weights", "LHangingChain$Row;", true)
  | 2 => ("HangingChain$Chain", "hangers", "LHangingChain$Row;", true)
  | 3 => ("HangingChain$Chain", "props", "LHangingChain$Row;", true)
  | 4 => ("HangingChain$Chain", "settings", "LHangingChain$Row;", true)
  | _ => ("HangingChain$Chain", "links", "I", false)
def tyX1 : Nat → FieldType := fun k => match k with
  | 0 => .object "HangingChain$Row"
  | 1 => .object "HangingChain$Row"
  | 2 => .object "HangingChain$Row"
  | 3 => .object "HangingChain$Row"
  | 4 => .object "HangingChain$Row"
  | _ => .int
abbrev wsX10 : List Cond := u_ws RX1 TX1 6
theorem nmX1 : ∀ a, a < 6 → ∀ b, b < 6 → a ≠ b → (TX1 a).2.1 ≠ (TX1 b).2.1 := by decide +kernel
theorem tyX1_ok : ∀ k, k < 6 → parseFieldDescriptor (TX1 k).2.2.1 = some (tyX1 k) := by decide +kernel
abbrev cX1_init : ByteArray := prog_3_method_1_code
def yX1_init : MethodName := ⟨RX1, "<init>", "()V"⟩
abbrev cX1_copyFrom : ByteArray := prog_3_method_2_code
def yX1_copyFrom : MethodName := ⟨RX1, "copyFrom", "(LHangingChain$Chain;)V"⟩
abbrev cX1_addLink : ByteArray := prog_3_method_3_code
def yX1_addLink : MethodName := ⟨RX1, "addLink", "(I)V"⟩
abbrev cX1_takeLink : ByteArray := prog_3_method_4_code
def yX1_takeLink : MethodName := ⟨RX1, "takeLink", "(I)V"⟩
abbrev cX1_turnRound : ByteArray := prog_3_method_5_code
def yX1_turnRound : MethodName := ⟨RX1, "turnRound", "()V"⟩
abbrev cX1_moveWeight : ByteArray := prog_3_method_6_code
def yX1_moveWeight : MethodName := ⟨RX1, "moveWeight", "(II)I"⟩
def RX2 : String := "HangingChain$Past"
def TX2 : u_T := fun k => match k with
  | 0 => ("HangingChain$Past", "slots", "[LHangingChain$Chain;", true)
  | 1 => ("HangingChain$Past", "oldest", "I", false)
  | _ => ("HangingChain$Past", "kept", "I", false)
def tyX2 : Nat → FieldType := fun k => match k with
  | 0 => .array (.object "HangingChain$Chain")
  | 1 => .int
  | _ => .int
abbrev wsX20 : List Cond := u_ws RX2 TX2 3
theorem nmX2 : ∀ a, a < 3 → ∀ b, b < 3 → a ≠ b → (TX2 a).2.1 ≠ (TX2 b).2.1 := by decide +kernel
theorem tyX2_ok : ∀ k, k < 3 → parseFieldDescriptor (TX2 k).2.2.1 = some (tyX2 k) := by decide +kernel
abbrev cX2_init : ByteArray := prog_4_method_1_code
def yX2_init : MethodName := ⟨RX2, "<init>", "()V"⟩
abbrev cX2_save : ByteArray := prog_4_method_2_code
def yX2_save : MethodName := ⟨RX2, "save", "(LHangingChain$Chain;)V"⟩
abbrev cX2_restore : ByteArray := prog_4_method_3_code
def yX2_restore : MethodName := ⟨RX2, "restore", "(LHangingChain$Chain;)V"⟩
abbrev cX2_latest : ByteArray := prog_4_method_4_code
def yX2_latest : MethodName := ⟨RX2, "latest", "()LHangingChain$Chain;"⟩
def RX3 : String := "HangingChain$Row"
def TX3 : u_T := fun k => match k with
  | _ => ("HangingChain$Row", "cells", "[I", true)
def tyX3 : Nat → FieldType := fun k => match k with
  | _ => .array .int
abbrev wsX30 : List Cond := u_ws RX3 TX3 1
theorem nmX3 : ∀ a, a < 1 → ∀ b, b < 1 → a ≠ b → (TX3 a).2.1 ≠ (TX3 b).2.1 := by decide +kernel
theorem tyX3_ok : ∀ k, k < 1 → parseFieldDescriptor (TX3 k).2.2.1 = some (tyX3 k) := by decide +kernel
abbrev cX3_init : ByteArray := prog_5_method_1_code
def yX3_init : MethodName := ⟨RX3, "<init>", "(I)V"⟩
abbrev cX3_at : ByteArray := prog_5_method_2_code
def yX3_at : MethodName := ⟨RX3, "at", "(I)I"⟩
abbrev cX3_put : ByteArray := prog_5_method_3_code
def yX3_put : MethodName := ⟨RX3, "put", "(II)V"⟩
abbrev cX3_sum : ByteArray := prog_5_method_4_code
def yX3_sum : MethodName := ⟨RX3, "sum", "(I)I"⟩
abbrev cX3_copyFrom : ByteArray := prog_5_method_6_code
def yX3_copyFrom : MethodName := ⟨RX3, "copyFrom", "(LHangingChain$Row;)V"⟩
abbrev cX3_takeOut : ByteArray := prog_5_method_7_code
def yX3_takeOut : MethodName := ⟨RX3, "takeOut", "(I)V"⟩
abbrev cX3_turnRound : ByteArray := prog_5_method_8_code
def yX3_turnRound : MethodName := ⟨RX3, "turnRound", "(I)V"⟩
def RX4 : String := "HangingChain$ShapeReader"
def TX4 : u_T := fun k => match k with
  | 0 => ("HangingChain$ShapeReader", "steps", "LHangingChain$Row;", true)
  | 1 => ("HangingChain$ShapeReader", "weights", "LHangingChain$Row;", true)
  | 2 => ("HangingChain$ShapeReader", "links", "I", false)
  | _ => ("HangingChain$ShapeReader", "state", "I", false)
def tyX4 : Nat → FieldType := fun k => match k with
  | 0 => .object "HangingChain$Row"
  | 1 => .object "HangingChain$Row"
  | 2 => .int
  | _ => .int
abbrev wsX40 : List Cond := u_ws RX4 TX4 4
theorem nmX4 : ∀ a, a < 4 → ∀ b, b < 4 → a ≠ b → (TX4 a).2.1 ≠ (TX4 b).2.1 := by decide +kernel
theorem tyX4_ok : ∀ k, k < 4 → parseFieldDescriptor (TX4 k).2.2.1 = some (tyX4 k) := by decide +kernel
abbrev cX4_init : ByteArray := prog_6_method_1_code
def yX4_init : MethodName := ⟨RX4, "<init>", "()V"⟩
def RX5 : String := "HangingChain"
def TX5 : u_T := fun k => match k with
  | 0 => ("HangingChain", "chain", "LHangingChain$Chain;", true)
  | 1 => ("HangingChain", "trial", "LHangingChain$Chain;", true)
  | 2 => ("HangingChain", "balance", "LHangingChain$Balance;", true)
  | 3 => ("HangingChain", "past", "LHangingChain$Past;", true)
  | 4 => ("HangingChain", "codes", "LHangingChain$Row;", true)
  | 5 => ("HangingChain", "reader", "LHangingChain$ShapeReader;", true)
  | _ => ("HangingChain", "length", "I", false)
def tyX5 : Nat → FieldType := fun k => match k with
  | 0 => .object "HangingChain$Chain"
  | 1 => .object "HangingChain$Chain"
  | 2 => .object "HangingChain$Balance"
  | 3 => .object "HangingChain$Past"
  | 4 => .object "HangingChain$Row"
  | 5 => .object "HangingChain$ShapeReader"
  | _ => .int
theorem nmX5 : ∀ a, a < 7 → ∀ b, b < 7 → a ≠ b → (TX5 a).2.1 ≠ (TX5 b).2.1 := by decide +kernel
theorem tyX5_ok : ∀ k, k < 7 → parseFieldDescriptor (TX5 k).2.2.1 = some (tyX5 k) := by decide +kernel
abbrev cX5_init : ByteArray := prog_1_method_1_code
def yX5_init : MethodName := ⟨RX5, "<init>", "()V"⟩
abbrev cX5_link : ByteArray := prog_1_method_2_code
def yX5_link : MethodName := ⟨RX5, "link", "(I)I"⟩
abbrev cX5_cut : ByteArray := prog_1_method_3_code
def yX5_cut : MethodName := ⟨RX5, "cut", "(I)I"⟩
abbrev cX5_bend : ByteArray := prog_1_method_4_code
def yX5_bend : MethodName := ⟨RX5, "bend", "(II)I"⟩
abbrev cX5_turn : ByteArray := prog_1_method_5_code
def yX5_turn : MethodName := ⟨RX5, "turn", "()I"⟩
abbrev cX5_weight : ByteArray := prog_1_method_6_code
def yX5_weight : MethodName := ⟨RX5, "weight", "(II)I"⟩
abbrev cX5_hanger : ByteArray := prog_1_method_7_code
def yX5_hanger : MethodName := ⟨RX5, "hanger", "(II)I"⟩
abbrev cX5_prop : ByteArray := prog_1_method_8_code
def yX5_prop : MethodName := ⟨RX5, "prop", "(II)I"⟩
abbrev cX5_move : ByteArray := prog_1_method_9_code
def yX5_move : MethodName := ⟨RX5, "move", "(II)I"⟩
abbrev cX5_set : ByteArray := prog_1_method_10_code
def yX5_set : MethodName := ⟨RX5, "set", "(II)I"⟩
abbrev cX5_undo : ByteArray := prog_1_method_15_code
def yX5_undo : MethodName := ⟨RX5, "undo", "()I"⟩
abbrev cX5_linkOf : ByteArray := prog_1_method_16_code
def yX5_linkOf : MethodName := ⟨RX5, "linkOf", "(II)I"⟩
abbrev cX5_joint : ByteArray := prog_1_method_17_code
def yX5_joint : MethodName := ⟨RX5, "joint", "(II)I"⟩
abbrev cX5_count : ByteArray := prog_1_method_18_code
def yX5_count : MethodName := ⟨RX5, "count", "(I)I"⟩
abbrev cX5_setting : ByteArray := prog_1_method_19_code
def yX5_setting : MethodName := ⟨RX5, "setting", "(I)I"⟩
abbrev cX5_ifWeight : ByteArray := prog_1_method_20_code
def yX5_ifWeight : MethodName := ⟨RX5, "ifWeight", "(II)I"⟩
abbrev cX5_mostWeight : ByteArray := prog_1_method_21_code
def yX5_mostWeight : MethodName := ⟨RX5, "mostWeight", "(I)I"⟩
abbrev cX5_bestMove : ByteArray := prog_1_method_22_code
def yX5_bestMove : MethodName := ⟨RX5, "bestMove", "(I)I"⟩
abbrev cX5_bestHanger : ByteArray := prog_1_method_23_code
def yX5_bestHanger : MethodName := ⟨RX5, "bestHanger", "(I)I"⟩
abbrev cX5_bestStep : ByteArray := prog_1_method_24_code
def yX5_bestStep : MethodName := ⟨RX5, "bestStep", "(I)I"⟩
abbrev cX5_evenness : ByteArray := prog_1_method_25_code
def yX5_evenness : MethodName := ⟨RX5, "evenness", "()D"⟩
abbrev cX5_replace : ByteArray := prog_1_method_31_code
def yX5_replace : MethodName := ⟨RX5, "replace", "(LHangingChain$Row;II)I"⟩
abbrev cX5_requireLink : ByteArray := prog_1_method_32_code
def yX5_requireLink : MethodName := ⟨RX5, "requireLink", "(I)V"⟩
abbrev cX5_requireJoint : ByteArray := prog_1_method_33_code
def yX5_requireJoint : MethodName := ⟨RX5, "requireJoint", "(I)V"⟩
abbrev cX5_requireSetting : ByteArray := prog_1_method_34_code
def yX5_requireSetting : MethodName := ⟨RX5, "requireSetting", "(I)V"⟩
abbrev cX5_requireStep : ByteArray := prog_1_method_35_code
def yX5_requireStep : MethodName := ⟨RX5, "requireStep", "(I)V"⟩
abbrev cX5_requireAmount : ByteArray := prog_1_method_36_code
def yX5_requireAmount : MethodName := ⟨RX5, "requireAmount", "(I)V"⟩
abbrev cX5_requireWhat : ByteArray := prog_1_method_37_code
def yX5_requireWhat : MethodName := ⟨RX5, "requireWhat", "(II)V"⟩
abbrev cX5_leastOf : ByteArray := prog_1_method_38_code
def yX5_leastOf : MethodName := ⟨RX5, "leastOf", "(I)I"⟩
abbrev cX5_mostOf : ByteArray := prog_1_method_39_code
def yX5_mostOf : MethodName := ⟨RX5, "mostOf", "(I)I"⟩
def RX6 : String := "HangingChainModel"
def TX6 : u_T := fun k => match k with
  | _ => ("", "", "", false)
def tyX6 : Nat → FieldType := fun k => match k with
  | _ => .int
theorem nmX6 : ∀ a, a < 0 → ∀ b, b < 0 → a ≠ b → (TX6 a).2.1 ≠ (TX6 b).2.1 := by decide +kernel
theorem tyX6_ok : ∀ k, k < 0 → parseFieldDescriptor (TX6 k).2.2.1 = some (tyX6 k) := by decide +kernel
def RJ9 : String := "java/lang/Math"
def TJ9 : u_T := fun k => match k with
  | _ => ("", "", "", false)
def tyJ9 : Nat → FieldType := fun k => match k with
  | _ => .int
abbrev wsJ90 : List Cond := u_ws RJ9 TJ9 0
theorem nmJ9 : ∀ a, a < 0 → ∀ b, b < 0 → a ≠ b → (TJ9 a).2.1 ≠ (TJ9 b).2.1 := by decide +kernel
theorem tyJ9_ok : ∀ k, k < 0 → parseFieldDescriptor (TJ9 k).2.2.1 = some (tyJ9 k) := by decide +kernel
abbrev cJ9_abs_0f7a4 : ByteArray := prog_13_method_59_code
def yJ9_abs_0f7a4 : MethodName := ⟨RJ9, "abs", "(I)I"⟩
abbrev cJ9_max_7cf53 : ByteArray := prog_13_method_65_code
def yJ9_max_7cf53 : MethodName := ⟨RJ9, "max", "(II)I"⟩
abbrev cJ9_min_7cf53 : ByteArray := prog_13_method_69_code
def yJ9_min_7cf53 : MethodName := ⟨RJ9, "min", "(II)I"⟩
def RJ0 : String := "java/lang/String"
def TJ0 : u_T := fun k => match k with
  | _ => ("", "", "", false)
def tyJ0 : Nat → FieldType := fun k => match k with
  | _ => .int
abbrev wsJ00 : List Cond := u_ws RJ0 TJ0 0
theorem nmJ0 : ∀ a, a < 0 → ∀ b, b < 0 → a ≠ b → (TJ0 a).2.1 ≠ (TJ0 b).2.1 := by decide +kernel
theorem tyJ0_ok : ∀ k, k < 0 → parseFieldDescriptor (TJ0 k).2.2.1 = some (tyJ0 k) := by decide +kernel
def wsX3_init : List Cond := .code yX3_init cX3_init 2 none :: ([.methodLink RX3 1 objectInit, .instanceMethod objectInit, .code objectInit ⟨#[0xb1]⟩ 1 none, .arrayClass .int, .fieldLink RX3 7 "HangingChain$Row" "cells" "[I"] ++ wsX30)
def wsX0_init : List Cond := .code yX0_init cX0_init 1 none :: ([.methodLink RX0 3 objectInit, .instanceMethod objectInit, .code objectInit ⟨#[0xb1]⟩ 1 none, .classLink RX0 9 RX3, .instantiable RX3 1, .initialized RX3, .fieldLink RX0 14 "HangingChain$Balance" "heights" "LHangingChain$Row;", .fieldLink RX0 20 "HangingChain$Balance" "burdens" "LHangingChain$Row;", .fieldLink RX0 23 "HangingChain$Balance" "byHangers" "LHangingChain$Row;", .fieldLink RX0 26 "HangingChain$Balance" "byProps" "LHangingChain$Row;", .fieldLink RX0 29 "HangingChain$Balance" "loads" "LHangingChain$Row;", .fieldLink RX0 32 "HangingChain$Balance" "forces" "LHangingChain$Row;", .fieldLink RX0 35 "HangingChain$Balance" "ahead" "I", .fieldLink RX0 39 "HangingChain$Balance" "behind" "I", .fieldLink RX0 42 "HangingChain$Balance" "greatest" "I", .methodLink RX0 11 yX3_init, .instanceMethod yX3_init, .code yX3_init cX3_init 2 none, .methodLink RX3 1 objectInit, .arrayClass .int, .fieldLink RX3 7 "HangingChain$Row" "cells" "[I"] ++ wsX30 ++ wsX00)
def wsX3_put : List Cond := .code yX3_put cX3_put 3 none :: ([.fieldLink RX3 7 "HangingChain$Row" "cells" "[I"] ++ wsX30)
def wsX3_at : List Cond := .code yX3_at cX3_at 2 (some .int) :: ([.fieldLink RX3 7 "HangingChain$Row" "cells" "[I"] ++ wsX30)
def wsX0_placeJoints : List Cond := .code yX0_placeJoints cX0_placeJoints 4 none :: ([.fieldLink RX0 14 "HangingChain$Balance" "heights" "LHangingChain$Row;", .fieldLink RX0 49 "HangingChain$Chain" "links" "I", .fieldLink RX0 68 "HangingChain$Chain" "steps" "LHangingChain$Row;", .methodLink RX0 64 yX3_put, .instanceMethod yX3_put, .selects RX3 yX3_put yX3_put, .initialized RX3, .code yX3_put cX3_put 3 none, .fieldLink RX3 7 "HangingChain$Row" "cells" "[I", .methodLink RX0 71 yX3_at, .instanceMethod yX3_at, .selects RX3 yX3_at yX3_at, .code yX3_at cX3_at 2 (some .int)] ++ wsX00 ++ wsX10 ++ wsX30)
def wsX0_hold : List Cond := .code yX0_hold cX0_hold 9 none :: ([.fieldLink RX0 49 "HangingChain$Chain" "links" "I", .fieldLink RX0 75 "HangingChain$Chain" "weights" "LHangingChain$Row;", .fieldLink RX0 78 "HangingChain$Chain" "settings" "LHangingChain$Row;", .fieldLink RX0 81 "HangingChain$Chain" "hangers" "LHangingChain$Row;", .methodLink RX0 84 Lib.Math.min.name, .static Lib.Math.min.name, .initialized "java/lang/Math", .code Lib.Math.min.name Lib.Math.min.code 2 (some .int), .fieldLink RX0 14 "HangingChain$Balance" "heights" "LHangingChain$Row;", .fieldLink RX0 90 "HangingChain$Chain" "props" "LHangingChain$Row;", .fieldLink RX0 20 "HangingChain$Balance" "burdens" "LHangingChain$Row;", .fieldLink RX0 23 "HangingChain$Balance" "byHangers" "LHangingChain$Row;", .fieldLink RX0 26 "HangingChain$Balance" "byProps" "LHangingChain$Row;", .fieldLink RX0 29 "HangingChain$Balance" "loads" "LHangingChain$Row;", .methodLink RX0 71 yX3_at, .instanceMethod yX3_at, .selects RX3 yX3_at yX3_at, .initialized RX3, .code yX3_at cX3_at 2 (some .int), .fieldLink RX3 7 "HangingChain$Row" "cells" "[I", .methodLink RX0 64 yX3_put, .instanceMethod yX3_put, .selects RX3 yX3_put yX3_put, .code yX3_put cX3_put 3 none] ++ wsX10 ++ wsX00 ++ wsX30)
def wsX0_loadWalls : List Cond := .code yX0_loadWalls cX0_loadWalls 6 none :: ([.fieldLink RX0 35 "HangingChain$Balance" "ahead" "I", .fieldLink RX0 39 "HangingChain$Balance" "behind" "I", .fieldLink RX0 49 "HangingChain$Chain" "links" "I", .fieldLink RX0 29 "HangingChain$Balance" "loads" "LHangingChain$Row;", .methodLink RX0 71 yX3_at, .instanceMethod yX3_at, .selects RX3 yX3_at yX3_at, .initialized RX3, .code yX3_at cX3_at 2 (some .int), .fieldLink RX3 7 "HangingChain$Row" "cells" "[I"] ++ wsX00 ++ wsX10 ++ wsX30)
def wsX0_pullLinks : List Cond := .code yX0_pullLinks cX0_pullLinks 6 none :: ([.fieldLink RX0 35 "HangingChain$Balance" "ahead" "I", .fieldLink RX0 42 "HangingChain$Balance" "greatest" "I", .fieldLink RX0 49 "HangingChain$Chain" "links" "I", .fieldLink RX0 29 "HangingChain$Balance" "loads" "LHangingChain$Row;", .fieldLink RX0 68 "HangingChain$Chain" "steps" "LHangingChain$Row;", .methodLink RX0 93 Lib.Math.abs.name, .static Lib.Math.abs.name, .initialized "java/lang/Math", .code Lib.Math.abs.name Lib.Math.abs.code 1 (some .int), .fieldLink RX0 78 "HangingChain$Chain" "settings" "LHangingChain$Row;", .fieldLink RX0 32 "HangingChain$Balance" "forces" "LHangingChain$Row;", .methodLink RX0 96 Lib.Math.max.name, .static Lib.Math.max.name, .code Lib.Math.max.name Lib.Math.max.code 2 (some .int), .methodLink RX0 71 yX3_at, .instanceMethod yX3_at, .selects RX3 yX3_at yX3_at, .initialized RX3, .code yX3_at cX3_at 2 (some .int), .fieldLink RX3 7 "HangingChain$Row" "cells" "[I", .methodLink RX0 64 yX3_put, .instanceMethod yX3_put, .selects RX3 yX3_put yX3_put, .code yX3_put cX3_put 3 none] ++ wsX00 ++ wsX10 ++ wsX30)
def wsX0_weigh_r1 : List Cond := [Cond.fieldLink RX0 49 "HangingChain$Chain" "links" "I", Cond.fieldLink RX0 42 "HangingChain$Balance" "greatest" "I", Cond.methodLink RX0 45 yX0_placeJoints, Cond.instanceMethod yX0_placeJoints, Cond.selects RX0 yX0_placeJoints yX0_placeJoints, Cond.initialized RX0, Cond.code yX0_placeJoints cX0_placeJoints 4 none, Cond.fieldLink RX0 14 "HangingChain$Balance" "heights" "LHangingChain$Row;", Cond.fieldLink RX0 68 "HangingChain$Chain" "steps" "LHangingChain$Row;", Cond.methodLink RX0 64 yX3_put, Cond.instanceMethod yX3_put, Cond.selects RX3 yX3_put yX3_put, Cond.initialized RX3, Cond.code yX3_put cX3_put 3 none, Cond.fieldLink RX3 7 "HangingChain$Row" "cells" "[I", Cond.methodLink RX0 71 yX3_at, Cond.instanceMethod yX3_at, Cond.selects RX3 yX3_at yX3_at, Cond.code yX3_at cX3_at 2 (some .int), Cond.methodLink RX0 54 yX0_hold, Cond.instanceMethod yX0_hold, Cond.selects RX0 yX0_hold yX0_hold, Cond.code yX0_hold cX0_hold 9 none, Cond.fieldLink RX0 75 "HangingChain$Chain" "weights" "LHangingChain$Row;"]
def wsX0_weigh_r2 : List Cond := [Cond.fieldLink RX0 78 "HangingChain$Chain" "settings" "LHangingChain$Row;", Cond.fieldLink RX0 81 "HangingChain$Chain" "hangers" "LHangingChain$Row;", Cond.methodLink RX0 84 Lib.Math.min.name, Cond.static Lib.Math.min.name, Cond.initialized "java/lang/Math", Cond.code Lib.Math.min.name Lib.Math.min.code 2 (some .int), Cond.fieldLink RX0 90 "HangingChain$Chain" "props" "LHangingChain$Row;", Cond.fieldLink RX0 20 "HangingChain$Balance" "burdens" "LHangingChain$Row;", Cond.fieldLink RX0 23 "HangingChain$Balance" "byHangers" "LHangingChain$Row;", Cond.fieldLink RX0 26 "HangingChain$Balance" "byProps" "LHangingChain$Row;", Cond.fieldLink RX0 29 "HangingChain$Balance" "loads" "LHangingChain$Row;", Cond.methodLink RX0 58 yX0_loadWalls, Cond.instanceMethod yX0_loadWalls, Cond.selects RX0 yX0_loadWalls yX0_loadWalls, Cond.code yX0_loadWalls cX0_loadWalls 6 none, Cond.fieldLink RX0 35 "HangingChain$Balance" "ahead" "I", Cond.fieldLink RX0 39 "HangingChain$Balance" "behind" "I", Cond.methodLink RX0 61 yX0_pullLinks, Cond.instanceMethod yX0_pullLinks, Cond.selects RX0 yX0_pullLinks yX0_pullLinks, Cond.code yX0_pullLinks cX0_pullLinks 6 none, Cond.methodLink RX0 93 Lib.Math.abs.name, Cond.static Lib.Math.abs.name, Cond.code Lib.Math.abs.name Lib.Math.abs.code 1 (some .int)]
def wsX0_weigh_r3 : List Cond := [Cond.fieldLink RX0 32 "HangingChain$Balance" "forces" "LHangingChain$Row;", Cond.methodLink RX0 96 Lib.Math.max.name, Cond.static Lib.Math.max.name, Cond.code Lib.Math.max.name Lib.Math.max.code 2 (some .int)]
def wsX0_weigh : List Cond := .code yX0_weigh cX0_weigh 3 (some .int) :: ((wsX0_weigh_r1 ++ (wsX0_weigh_r2 ++ wsX0_weigh_r3)) ++ wsX10 ++ wsX00 ++ wsX30)
def wsX0_breaks : List Cond := .code yX0_breaks cX0_breaks 3 (some .boolean) :: ([.fieldLink RX0 32 "HangingChain$Balance" "forces" "LHangingChain$Row;", .fieldLink RX0 78 "HangingChain$Chain" "settings" "LHangingChain$Row;", .methodLink RX0 71 yX3_at, .instanceMethod yX3_at, .selects RX3 yX3_at yX3_at, .initialized RX3, .code yX3_at cX3_at 2 (some .int), .fieldLink RX3 7 "HangingChain$Row" "cells" "[I"] ++ wsX00 ++ wsX10 ++ wsX30)
def wsX0_holds : List Cond := .code yX0_holds cX0_holds 2 (some .boolean) :: ([.fieldLink RX0 42 "HangingChain$Balance" "greatest" "I", .fieldLink RX0 78 "HangingChain$Chain" "settings" "LHangingChain$Row;", .methodLink RX0 71 yX3_at, .instanceMethod yX3_at, .selects RX3 yX3_at yX3_at, .initialized RX3, .code yX3_at cX3_at 2 (some .int), .fieldLink RX3 7 "HangingChain$Row" "cells" "[I"] ++ wsX00 ++ wsX10 ++ wsX30)
def wsX0_broken : List Cond := .code yX0_broken cX0_broken 4 (some .int) :: ([.fieldLink RX0 49 "HangingChain$Chain" "links" "I", .methodLink RX0 99 yX0_breaks, .instanceMethod yX0_breaks, .selects RX0 yX0_breaks yX0_breaks, .initialized RX0, .code yX0_breaks cX0_breaks 3 (some .boolean), .fieldLink RX0 32 "HangingChain$Balance" "forces" "LHangingChain$Row;", .fieldLink RX0 78 "HangingChain$Chain" "settings" "LHangingChain$Row;", .methodLink RX0 71 yX3_at, .instanceMethod yX3_at, .selects RX3 yX3_at yX3_at, .initialized RX3, .code yX3_at cX3_at 2 (some .int), .fieldLink RX3 7 "HangingChain$Row" "cells" "[I"] ++ wsX10 ++ wsX00 ++ wsX30)
def wsX0_lowest : List Cond := .code yX0_lowest cX0_lowest 4 (some .int) :: ([.fieldLink RX0 49 "HangingChain$Chain" "links" "I", .fieldLink RX0 14 "HangingChain$Balance" "heights" "LHangingChain$Row;", .methodLink RX0 71 yX3_at, .instanceMethod yX3_at, .selects RX3 yX3_at yX3_at, .initialized RX3, .code yX3_at cX3_at 2 (some .int), .fieldLink RX3 7 "HangingChain$Row" "cells" "[I"] ++ wsX10 ++ wsX00 ++ wsX30)
def wsX1_init : List Cond := .code yX1_init cX1_init 1 none :: ([.methodLink RX1 3 objectInit, .instanceMethod objectInit, .code objectInit ⟨#[0xb1]⟩ 1 none, .classLink RX1 9 RX3, .instantiable RX3 1, .initialized RX3, .fieldLink RX1 14 "HangingChain$Chain" "steps" "LHangingChain$Row;", .fieldLink RX1 20 "HangingChain$Chain" "weights" "LHangingChain$Row;", .fieldLink RX1 23 "HangingChain$Chain" "hangers" "LHangingChain$Row;", .fieldLink RX1 26 "HangingChain$Chain" "props" "LHangingChain$Row;", .fieldLink RX1 29 "HangingChain$Chain" "settings" "LHangingChain$Row;", .fieldLink RX1 32 "HangingChain$Chain" "links" "I", .methodLink RX1 11 yX3_init, .instanceMethod yX3_init, .code yX3_init cX3_init 2 none, .methodLink RX3 1 objectInit, .arrayClass .int, .fieldLink RX3 7 "HangingChain$Row" "cells" "[I", .methodLink RX1 36 yX3_put, .instanceMethod yX3_put, .selects RX3 yX3_put yX3_put, .code yX3_put cX3_put 3 none] ++ wsX30 ++ wsX10)
def wsX3_copyFrom : List Cond := .code yX3_copyFrom cX3_copyFrom 3 none :: ([.fieldLink RX3 7 "HangingChain$Row" "cells" "[I", .methodLink RX3 13 yX3_at, .instanceMethod yX3_at, .selects RX3 yX3_at yX3_at, .initialized RX3, .code yX3_at cX3_at 2 (some .int)] ++ wsX30)
def wsX1_copyFrom : List Cond := .code yX1_copyFrom cX1_copyFrom 2 none :: ([.fieldLink RX1 32 "HangingChain$Chain" "links" "I", .fieldLink RX1 14 "HangingChain$Chain" "steps" "LHangingChain$Row;", .fieldLink RX1 20 "HangingChain$Chain" "weights" "LHangingChain$Row;", .fieldLink RX1 23 "HangingChain$Chain" "hangers" "LHangingChain$Row;", .fieldLink RX1 26 "HangingChain$Chain" "props" "LHangingChain$Row;", .fieldLink RX1 29 "HangingChain$Chain" "settings" "LHangingChain$Row;", .methodLink RX1 40 yX3_copyFrom, .instanceMethod yX3_copyFrom, .selects RX3 yX3_copyFrom yX3_copyFrom, .initialized RX3, .code yX3_copyFrom cX3_copyFrom 3 none, .fieldLink RX3 7 "HangingChain$Row" "cells" "[I", .methodLink RX3 13 yX3_at, .instanceMethod yX3_at, .selects RX3 yX3_at yX3_at, .code yX3_at cX3_at 2 (some .int)] ++ wsX10 ++ wsX30)
def wsX1_addLink : List Cond := .code yX1_addLink cX1_addLink 2 none :: ([.fieldLink RX1 14 "HangingChain$Chain" "steps" "LHangingChain$Row;", .fieldLink RX1 32 "HangingChain$Chain" "links" "I", .fieldLink RX1 20 "HangingChain$Chain" "weights" "LHangingChain$Row;", .fieldLink RX1 23 "HangingChain$Chain" "hangers" "LHangingChain$Row;", .fieldLink RX1 26 "HangingChain$Chain" "props" "LHangingChain$Row;", .methodLink RX1 36 yX3_put, .instanceMethod yX3_put, .selects RX3 yX3_put yX3_put, .initialized RX3, .code yX3_put cX3_put 3 none, .fieldLink RX3 7 "HangingChain$Row" "cells" "[I"] ++ wsX10 ++ wsX30)
def wsX3_takeOut : List Cond := .code yX3_takeOut cX3_takeOut 3 none :: ([.fieldLink RX3 7 "HangingChain$Row" "cells" "[I", .methodLink RX3 13 yX3_at, .instanceMethod yX3_at, .selects RX3 yX3_at yX3_at, .initialized RX3, .code yX3_at cX3_at 2 (some .int), .methodLink RX3 17 yX3_put, .instanceMethod yX3_put, .selects RX3 yX3_put yX3_put, .code yX3_put cX3_put 3 none] ++ wsX30)
def wsX1_takeLink : List Cond := .code yX1_takeLink cX1_takeLink 2 none :: ([.fieldLink RX1 14 "HangingChain$Chain" "steps" "LHangingChain$Row;", .fieldLink RX1 20 "HangingChain$Chain" "weights" "LHangingChain$Row;", .fieldLink RX1 23 "HangingChain$Chain" "hangers" "LHangingChain$Row;", .fieldLink RX1 26 "HangingChain$Chain" "props" "LHangingChain$Row;", .fieldLink RX1 32 "HangingChain$Chain" "links" "I", .methodLink RX1 44 yX3_takeOut, .instanceMethod yX3_takeOut, .selects RX3 yX3_takeOut yX3_takeOut, .initialized RX3, .code yX3_takeOut cX3_takeOut 3 none, .fieldLink RX3 7 "HangingChain$Row" "cells" "[I", .methodLink RX3 13 yX3_at, .instanceMethod yX3_at, .selects RX3 yX3_at yX3_at, .code yX3_at cX3_at 2 (some .int), .methodLink RX3 17 yX3_put, .instanceMethod yX3_put, .selects RX3 yX3_put yX3_put, .code yX3_put cX3_put 3 none] ++ wsX10 ++ wsX30)
def wsX3_turnRound : List Cond := .code yX3_turnRound cX3_turnRound 5 none :: ([.methodLink RX3 13 yX3_at, .instanceMethod yX3_at, .selects RX3 yX3_at yX3_at, .initialized RX3, .code yX3_at cX3_at 2 (some .int), .fieldLink RX3 7 "HangingChain$Row" "cells" "[I", .methodLink RX3 17 yX3_put, .instanceMethod yX3_put, .selects RX3 yX3_put yX3_put, .code yX3_put cX3_put 3 none] ++ wsX30)
def wsX1_turnRound : List Cond := .code yX1_turnRound cX1_turnRound 2 none :: ([.fieldLink RX1 14 "HangingChain$Chain" "steps" "LHangingChain$Row;", .fieldLink RX1 32 "HangingChain$Chain" "links" "I", .fieldLink RX1 20 "HangingChain$Chain" "weights" "LHangingChain$Row;", .fieldLink RX1 23 "HangingChain$Chain" "hangers" "LHangingChain$Row;", .fieldLink RX1 26 "HangingChain$Chain" "props" "LHangingChain$Row;", .methodLink RX1 47 yX3_turnRound, .instanceMethod yX3_turnRound, .selects RX3 yX3_turnRound yX3_turnRound, .initialized RX3, .code yX3_turnRound cX3_turnRound 5 none, .methodLink RX3 13 yX3_at, .instanceMethod yX3_at, .selects RX3 yX3_at yX3_at, .code yX3_at cX3_at 2 (some .int), .fieldLink RX3 7 "HangingChain$Row" "cells" "[I", .methodLink RX3 17 yX3_put, .instanceMethod yX3_put, .selects RX3 yX3_put yX3_put, .code yX3_put cX3_put 3 none, .methodLink RX1 50 yX3_at, .methodLink RX1 36 yX3_put] ++ wsX10 ++ wsX30)
def wsX1_moveWeight : List Cond := .code yX1_moveWeight cX1_moveWeight 4 (some .int) :: ([.fieldLink RX1 20 "HangingChain$Chain" "weights" "LHangingChain$Row;", .methodLink RX1 54 Lib.Math.min.name, .static Lib.Math.min.name, .initialized "java/lang/Math", .code Lib.Math.min.name Lib.Math.min.code 2 (some .int), .methodLink RX1 50 yX3_at, .instanceMethod yX3_at, .selects RX3 yX3_at yX3_at, .initialized RX3, .code yX3_at cX3_at 2 (some .int), .fieldLink RX3 7 "HangingChain$Row" "cells" "[I", .methodLink RX1 36 yX3_put, .instanceMethod yX3_put, .selects RX3 yX3_put yX3_put, .code yX3_put cX3_put 3 none] ++ wsX10 ++ wsX30)
def wsX2_init_r1 : List Cond := [Cond.methodLink RX2 3 objectInit, Cond.instanceMethod objectInit, Cond.code objectInit ⟨#[0xb1]⟩ 1 none, Cond.classLink RX2 9 RX1, Cond.fieldLink RX2 11 "HangingChain$Past" "slots" "[LHangingChain$Chain;", Cond.fieldLink RX2 17 "HangingChain$Past" "oldest" "I", Cond.fieldLink RX2 21 "HangingChain$Past" "kept" "I", Cond.instantiable RX1 6, Cond.initialized RX1, Cond.methodLink RX2 24 yX1_init, Cond.instanceMethod yX1_init, Cond.code yX1_init cX1_init 1 none, Cond.methodLink RX1 3 objectInit, Cond.classLink RX1 9 RX3, Cond.instantiable RX3 1, Cond.initialized RX3, Cond.fieldLink RX1 14 "HangingChain$Chain" "steps" "LHangingChain$Row;", Cond.fieldLink RX1 20 "HangingChain$Chain" "weights" "LHangingChain$Row;", Cond.fieldLink RX1 23 "HangingChain$Chain" "hangers" "LHangingChain$Row;", Cond.fieldLink RX1 26 "HangingChain$Chain" "props" "LHangingChain$Row;", Cond.fieldLink RX1 29 "HangingChain$Chain" "settings" "LHangingChain$Row;", Cond.fieldLink RX1 32 "HangingChain$Chain" "links" "I", Cond.methodLink RX1 11 yX3_init, Cond.instanceMethod yX3_init]
def wsX2_init_r2 : List Cond := [Cond.code yX3_init cX3_init 2 none, Cond.methodLink RX3 1 objectInit, Cond.arrayClass .int, Cond.fieldLink RX3 7 "HangingChain$Row" "cells" "[I", Cond.methodLink RX1 36 yX3_put, Cond.instanceMethod yX3_put, Cond.selects RX3 yX3_put yX3_put, Cond.code yX3_put cX3_put 3 none]
def wsX2_init : List Cond := .code yX2_init cX2_init 2 none :: ((wsX2_init_r1 ++ wsX2_init_r2) ++ wsX20 ++ wsX10 ++ wsX30)
def wsX2_latest : List Cond := .code yX2_latest cX2_latest 2 (some (.object "HangingChain$Chain")) :: ([.fieldLink RX2 21 "HangingChain$Past" "kept" "I", .fieldLink RX2 17 "HangingChain$Past" "oldest" "I", .fieldLink RX2 11 "HangingChain$Past" "slots" "[LHangingChain$Chain;"] ++ wsX20)
def wsX2_save_r1 : List Cond := [Cond.fieldLink RX2 21 "HangingChain$Past" "kept" "I", Cond.fieldLink RX2 17 "HangingChain$Past" "oldest" "I", Cond.methodLink RX2 25 yX2_latest, Cond.instanceMethod yX2_latest, Cond.selects RX2 yX2_latest yX2_latest, Cond.initialized RX2, Cond.code yX2_latest cX2_latest 2 (some (.object "HangingChain$Chain")), Cond.fieldLink RX2 11 "HangingChain$Past" "slots" "[LHangingChain$Chain;", Cond.methodLink RX2 29 yX1_copyFrom, Cond.instanceMethod yX1_copyFrom, Cond.selects RX1 yX1_copyFrom yX1_copyFrom, Cond.initialized RX1, Cond.code yX1_copyFrom cX1_copyFrom 2 none, Cond.fieldLink RX1 32 "HangingChain$Chain" "links" "I", Cond.fieldLink RX1 14 "HangingChain$Chain" "steps" "LHangingChain$Row;", Cond.fieldLink RX1 20 "HangingChain$Chain" "weights" "LHangingChain$Row;", Cond.fieldLink RX1 23 "HangingChain$Chain" "hangers" "LHangingChain$Row;", Cond.fieldLink RX1 26 "HangingChain$Chain" "props" "LHangingChain$Row;", Cond.fieldLink RX1 29 "HangingChain$Chain" "settings" "LHangingChain$Row;", Cond.methodLink RX1 40 yX3_copyFrom, Cond.instanceMethod yX3_copyFrom, Cond.selects RX3 yX3_copyFrom yX3_copyFrom, Cond.initialized RX3, Cond.code yX3_copyFrom cX3_copyFrom 3 none]
def wsX2_save_r2 : List Cond := [Cond.fieldLink RX3 7 "HangingChain$Row" "cells" "[I", Cond.methodLink RX3 13 yX3_at, Cond.instanceMethod yX3_at, Cond.selects RX3 yX3_at yX3_at, Cond.code yX3_at cX3_at 2 (some .int)]
def wsX2_save : List Cond := .code yX2_save cX2_save 3 none :: ((wsX2_save_r1 ++ wsX2_save_r2) ++ wsX20 ++ wsX10 ++ wsX30)
def wsX2_restore_r1 : List Cond := [Cond.fieldLink RX2 21 "HangingChain$Past" "kept" "I", Cond.methodLink RX2 25 yX2_latest, Cond.instanceMethod yX2_latest, Cond.selects RX2 yX2_latest yX2_latest, Cond.initialized RX2, Cond.code yX2_latest cX2_latest 2 (some (.object "HangingChain$Chain")), Cond.fieldLink RX2 17 "HangingChain$Past" "oldest" "I", Cond.fieldLink RX2 11 "HangingChain$Past" "slots" "[LHangingChain$Chain;", Cond.methodLink RX2 29 yX1_copyFrom, Cond.instanceMethod yX1_copyFrom, Cond.selects RX1 yX1_copyFrom yX1_copyFrom, Cond.initialized RX1, Cond.code yX1_copyFrom cX1_copyFrom 2 none, Cond.fieldLink RX1 32 "HangingChain$Chain" "links" "I", Cond.fieldLink RX1 14 "HangingChain$Chain" "steps" "LHangingChain$Row;", Cond.fieldLink RX1 20 "HangingChain$Chain" "weights" "LHangingChain$Row;", Cond.fieldLink RX1 23 "HangingChain$Chain" "hangers" "LHangingChain$Row;", Cond.fieldLink RX1 26 "HangingChain$Chain" "props" "LHangingChain$Row;", Cond.fieldLink RX1 29 "HangingChain$Chain" "settings" "LHangingChain$Row;", Cond.methodLink RX1 40 yX3_copyFrom, Cond.instanceMethod yX3_copyFrom, Cond.selects RX3 yX3_copyFrom yX3_copyFrom, Cond.initialized RX3, Cond.code yX3_copyFrom cX3_copyFrom 3 none]
def wsX2_restore_r2 : List Cond := [Cond.fieldLink RX3 7 "HangingChain$Row" "cells" "[I", Cond.methodLink RX3 13 yX3_at, Cond.instanceMethod yX3_at, Cond.selects RX3 yX3_at yX3_at, Cond.code yX3_at cX3_at 2 (some .int)]
def wsX2_restore : List Cond := .code yX2_restore cX2_restore 3 none :: ((wsX2_restore_r1 ++ wsX2_restore_r2) ++ wsX20 ++ wsX10 ++ wsX30)
def wsX3_sum : List Cond := .code yX3_sum cX3_sum 4 (some .int) :: ([.fieldLink RX3 7 "HangingChain$Row" "cells" "[I"] ++ wsX30)
def wsX4_init : List Cond := .code yX4_init cX4_init 1 none :: ([.methodLink RX4 3 objectInit, .instanceMethod objectInit, .code objectInit ⟨#[0xb1]⟩ 1 none, .classLink RX4 9 RX3, .instantiable RX3 1, .initialized RX3, .fieldLink RX4 14 "HangingChain$ShapeReader" "steps" "LHangingChain$Row;", .fieldLink RX4 20 "HangingChain$ShapeReader" "weights" "LHangingChain$Row;", .fieldLink RX4 23 "HangingChain$ShapeReader" "links" "I", .fieldLink RX4 27 "HangingChain$ShapeReader" "state" "I", .methodLink RX4 11 yX3_init, .instanceMethod yX3_init, .code yX3_init cX3_init 2 none, .methodLink RX3 1 objectInit, .arrayClass .int, .fieldLink RX3 7 "HangingChain$Row" "cells" "[I"] ++ wsX30 ++ wsX40)
def wsJ9_abs_0f7a4 : List Cond := .code yJ9_abs_0f7a4 cJ9_abs_0f7a4 1 (some .int) :: ([])
def wsJ9_max_7cf53 : List Cond := .code yJ9_max_7cf53 cJ9_max_7cf53 2 (some .int) :: ([])
def wsJ9_min_7cf53 : List Cond := .code yJ9_min_7cf53 cJ9_min_7cf53 2 (some .int) :: ([])
set_option maxRecDepth 20000 in
theorem ggX0_init_X3_init : GoodIn wsX0_init wsX3_init := goodIn_r _ [18, 19, 2, 3, 20, 21, 22] (by decide +kernel) (by decide +kernel)
set_option maxRecDepth 20000 in
theorem gX0_init_X3_init : GoodIn wsX0_init (wsX3_init) := ggX0_init_X3_init
theorem dX0_init_0 : decode cX0_init 0 = .ok (.aload_n 0, 1) := by decide +kernel
theorem dX0_init_1 : decode cX0_init 1 = .ok (.invokespecial 3, 3) := by decide +kernel
theorem dX0_init_4 : decode cX0_init 4 = .ok (.aload_n 0, 1) := by decide +kernel
theorem dX0_init_5 : decode cX0_init 5 = .ok (.new 9, 3) := by decide +kernel
theorem dX0_init_8 : decode cX0_init 8 = .ok (.dup, 1) := by decide +kernel
theorem dX0_init_9 : decode cX0_init 9 = .ok (.bipush 21, 2) := by decide +kernel
theorem dX0_init_11 : decode cX0_init 11 = .ok (.invokespecial 11, 3) := by decide +kernel
theorem dX0_init_14 : decode cX0_init 14 = .ok (.putfield 14, 3) := by decide +kernel
theorem dX0_init_17 : decode cX0_init 17 = .ok (.aload_n 0, 1) := by decide +kernel
theorem dX0_init_18 : decode cX0_init 18 = .ok (.new 9, 3) := by decide +kernel
theorem dX0_init_21 : decode cX0_init 21 = .ok (.dup, 1) := by decide +kernel
theorem dX0_init_22 : decode cX0_init 22 = .ok (.bipush 21, 2) := by decide +kernel
theorem dX0_init_24 : decode cX0_init 24 = .ok (.invokespecial 11, 3) := by decide +kernel
theorem dX0_init_27 : decode cX0_init 27 = .ok (.putfield 20, 3) := by decide +kernel
theorem dX0_init_30 : decode cX0_init 30 = .ok (.aload_n 0, 1) := by decide +kernel
theorem dX0_init_31 : decode cX0_init 31 = .ok (.new 9, 3) := by decide +kernel
theorem dX0_init_34 : decode cX0_init 34 = .ok (.dup, 1) := by decide +kernel
theorem dX0_init_35 : decode cX0_init 35 = .ok (.bipush 21, 2) := by decide +kernel
theorem dX0_init_37 : decode cX0_init 37 = .ok (.invokespecial 11, 3) := by decide +kernel
theorem dX0_init_40 : decode cX0_init 40 = .ok (.putfield 23, 3) := by decide +kernel
theorem dX0_init_43 : decode cX0_init 43 = .ok (.aload_n 0, 1) := by decide +kernel
theorem dX0_init_44 : decode cX0_init 44 = .ok (.new 9, 3) := by decide +kernel
theorem dX0_init_47 : decode cX0_init 47 = .ok (.dup, 1) := by decide +kernel
theorem dX0_init_48 : decode cX0_init 48 = .ok (.bipush 21, 2) := by decide +kernel
theorem dX0_init_50 : decode cX0_init 50 = .ok (.invokespecial 11, 3) := by decide +kernel
theorem dX0_init_53 : decode cX0_init 53 = .ok (.putfield 26, 3) := by decide +kernel
theorem dX0_init_56 : decode cX0_init 56 = .ok (.aload_n 0, 1) := by decide +kernel
theorem dX0_init_57 : decode cX0_init 57 = .ok (.new 9, 3) := by decide +kernel
theorem dX0_init_60 : decode cX0_init 60 = .ok (.dup, 1) := by decide +kernel
theorem dX0_init_61 : decode cX0_init 61 = .ok (.bipush 21, 2) := by decide +kernel
theorem dX0_init_63 : decode cX0_init 63 = .ok (.invokespecial 11, 3) := by decide +kernel
theorem dX0_init_66 : decode cX0_init 66 = .ok (.putfield 29, 3) := by decide +kernel
theorem dX0_init_69 : decode cX0_init 69 = .ok (.aload_n 0, 1) := by decide +kernel
theorem dX0_init_70 : decode cX0_init 70 = .ok (.new 9, 3) := by decide +kernel
theorem dX0_init_73 : decode cX0_init 73 = .ok (.dup, 1) := by decide +kernel
theorem dX0_init_74 : decode cX0_init 74 = .ok (.bipush 20, 2) := by decide +kernel
theorem dX0_init_76 : decode cX0_init 76 = .ok (.invokespecial 11, 3) := by decide +kernel
theorem dX0_init_79 : decode cX0_init 79 = .ok (.putfield 32, 3) := by decide +kernel
theorem dX0_init_82 : decode cX0_init 82 = .ok (.aload_n 0, 1) := by decide +kernel
theorem dX0_init_83 : decode cX0_init 83 = .ok (.iconst 0, 1) := by decide +kernel
theorem dX0_init_84 : decode cX0_init 84 = .ok (.putfield 35, 3) := by decide +kernel
theorem dX0_init_87 : decode cX0_init 87 = .ok (.aload_n 0, 1) := by decide +kernel
theorem dX0_init_88 : decode cX0_init 88 = .ok (.iconst 0, 1) := by decide +kernel
theorem dX0_init_89 : decode cX0_init 89 = .ok (.putfield 39, 3) := by decide +kernel
theorem dX0_init_92 : decode cX0_init 92 = .ok (.aload_n 0, 1) := by decide +kernel
theorem dX0_init_93 : decode cX0_init 93 = .ok (.iconst 0, 1) := by decide +kernel
theorem dX0_init_94 : decode cX0_init 94 = .ok (.putfield 42, 3) := by decide +kernel
theorem dX0_init_97 : decode cX0_init 97 = .ok (.return_, 1) := by decide +kernel
set_option maxRecDepth 20000 in
theorem ggX0_weigh_X0_placeJoints : GoodIn wsX0_weigh wsX0_placeJoints := goodIn_r _ [7, 8, 1, 9, 10, 11, 12, 13, 14, 15, 16, 17, 18, 19, 59, 60, 61, 62, 63, 64, 65, 66, 67, 53, 54, 55, 56, 57, 58, 68] (by decide +kernel) (by decide +kernel)
set_option maxRecDepth 20000 in
theorem gX0_weigh_X0_placeJoints : GoodIn wsX0_weigh (wsV RX0 45 RX0 yX0_placeJoints wsX0_placeJoints) := goodIn_app (goodIn_of _ (by decide +kernel)) ggX0_weigh_X0_placeJoints
set_option maxRecDepth 20000 in
theorem ggX0_weigh_X0_hold : GoodIn wsX0_weigh wsX0_hold := goodIn_r _ [23, 1, 24, 25, 26, 27, 28, 29, 30, 8, 31, 32, 33, 34, 35, 16, 17, 18, 13, 19, 15, 10, 11, 12, 14, 53, 54, 55, 56, 57, 58, 59, 60, 61, 62, 63, 64, 65, 66, 67, 68] (by decide +kernel) (by decide +kernel)
set_option maxRecDepth 20000 in
theorem gX0_weigh_X0_hold : GoodIn wsX0_weigh (wsV RX0 54 RX0 yX0_hold wsX0_hold) := goodIn_app (goodIn_of _ (by decide +kernel)) ggX0_weigh_X0_hold
set_option maxRecDepth 20000 in
theorem ggX0_weigh_X0_loadWalls : GoodIn wsX0_weigh wsX0_loadWalls := goodIn_r _ [39, 40, 41, 1, 35, 16, 17, 18, 13, 19, 15, 59, 60, 61, 62, 63, 64, 65, 66, 67, 53, 54, 55, 56, 57, 58, 68] (by decide +kernel) (by decide +kernel)
set_option maxRecDepth 20000 in
theorem gX0_weigh_X0_loadWalls : GoodIn wsX0_weigh (wsV RX0 58 RX0 yX0_loadWalls wsX0_loadWalls) := goodIn_app (goodIn_of _ (by decide +kernel)) ggX0_weigh_X0_loadWalls
set_option maxRecDepth 20000 in
theorem ggX0_weigh_X0_pullLinks : GoodIn wsX0_weigh wsX0_pullLinks := goodIn_r _ [45, 40, 2, 1, 35, 9, 46, 47, 29, 48, 25, 49, 50, 51, 52, 16, 17, 18, 13, 19, 15, 10, 11, 12, 14, 59, 60, 61, 62, 63, 64, 65, 66, 67, 53, 54, 55, 56, 57, 58, 68] (by decide +kernel) (by decide +kernel)
set_option maxRecDepth 20000 in
theorem gX0_weigh_X0_pullLinks : GoodIn wsX0_weigh (wsV RX0 61 RX0 yX0_pullLinks wsX0_pullLinks) := goodIn_app (goodIn_of _ (by decide +kernel)) ggX0_weigh_X0_pullLinks
theorem dX0_weigh_0 : decode cX0_weigh 0 = .ok (.aload_n 0, 1) := by decide +kernel
theorem dX0_weigh_1 : decode cX0_weigh 1 = .ok (.aload_n 1, 1) := by decide +kernel
theorem dX0_weigh_2 : decode cX0_weigh 2 = .ok (.invokevirtual 45, 3) := by decide +kernel
theorem dX0_weigh_5 : decode cX0_weigh 5 = .ok (.iconst 0, 1) := by decide +kernel
theorem dX0_weigh_6 : decode cX0_weigh 6 = .ok (.istore_n 2, 1) := by decide +kernel
theorem dX0_weigh_7 : decode cX0_weigh 7 = .ok (.iload_n 2, 1) := by decide +kernel
theorem dX0_weigh_8 : decode cX0_weigh 8 = .ok (.aload_n 1, 1) := by decide +kernel
theorem dX0_weigh_9 : decode cX0_weigh 9 = .ok (.getfield 49, 3) := by decide +kernel
theorem dX0_weigh_12 : decode cX0_weigh 12 = .ok (.if_icmp .gt 15, 3) := by decide +kernel
theorem dX0_weigh_15 : decode cX0_weigh 15 = .ok (.aload_n 0, 1) := by decide +kernel
theorem dX0_weigh_16 : decode cX0_weigh 16 = .ok (.aload_n 1, 1) := by decide +kernel
theorem dX0_weigh_17 : decode cX0_weigh 17 = .ok (.iload_n 2, 1) := by decide +kernel
theorem dX0_weigh_18 : decode cX0_weigh 18 = .ok (.invokevirtual 54, 3) := by decide +kernel
theorem dX0_weigh_21 : decode cX0_weigh 21 = .ok (.iinc 2 1, 3) := by decide +kernel
theorem dX0_weigh_24 : decode cX0_weigh 24 = .ok (.goto (-17), 3) := by decide +kernel
theorem dX0_weigh_27 : decode cX0_weigh 27 = .ok (.aload_n 0, 1) := by decide +kernel
theorem dX0_weigh_28 : decode cX0_weigh 28 = .ok (.aload_n 1, 1) := by decide +kernel
theorem dX0_weigh_29 : decode cX0_weigh 29 = .ok (.invokevirtual 58, 3) := by decide +kernel
theorem dX0_weigh_32 : decode cX0_weigh 32 = .ok (.aload_n 0, 1) := by decide +kernel
theorem dX0_weigh_33 : decode cX0_weigh 33 = .ok (.aload_n 1, 1) := by decide +kernel
theorem dX0_weigh_34 : decode cX0_weigh 34 = .ok (.invokevirtual 61, 3) := by decide +kernel
theorem dX0_weigh_37 : decode cX0_weigh 37 = .ok (.aload_n 0, 1) := by decide +kernel
theorem dX0_weigh_38 : decode cX0_weigh 38 = .ok (.getfield 42, 3) := by decide +kernel
theorem dX0_weigh_41 : decode cX0_weigh 41 = .ok (.ireturn, 1) := by decide +kernel
set_option maxRecDepth 20000 in
theorem ggX0_placeJoints_X3_put : GoodIn wsX0_placeJoints wsX3_put := goodIn_r _ [8, 9, 29] (by decide +kernel) (by decide +kernel)
set_option maxRecDepth 20000 in
theorem gX0_placeJoints_X3_put : GoodIn wsX0_placeJoints (wsV RX0 64 RX3 yX3_put wsX3_put) := goodIn_app (goodIn_of _ (by decide +kernel)) ggX0_placeJoints_X3_put
set_option maxRecDepth 20000 in
theorem ggX0_placeJoints_X3_at : GoodIn wsX0_placeJoints wsX3_at := goodIn_r _ [13, 9, 29] (by decide +kernel) (by decide +kernel)
set_option maxRecDepth 20000 in
theorem gX0_placeJoints_X3_at : GoodIn wsX0_placeJoints (wsV RX0 71 RX3 yX3_at wsX3_at) := goodIn_app (goodIn_of _ (by decide +kernel)) ggX0_placeJoints_X3_at
theorem dX0_placeJoints_0 : decode cX0_placeJoints 0 = .ok (.iconst 0, 1) := by decide +kernel
theorem dX0_placeJoints_1 : decode cX0_placeJoints 1 = .ok (.istore_n 2, 1) := by decide +kernel
theorem dX0_placeJoints_2 : decode cX0_placeJoints 2 = .ok (.aload_n 0, 1) := by decide +kernel
theorem dX0_placeJoints_3 : decode cX0_placeJoints 3 = .ok (.getfield 14, 3) := by decide +kernel
theorem dX0_placeJoints_6 : decode cX0_placeJoints 6 = .ok (.iconst 0, 1) := by decide +kernel
theorem dX0_placeJoints_7 : decode cX0_placeJoints 7 = .ok (.iconst 0, 1) := by decide +kernel
theorem dX0_placeJoints_8 : decode cX0_placeJoints 8 = .ok (.invokevirtual 64, 3) := by decide +kernel
theorem dX0_placeJoints_11 : decode cX0_placeJoints 11 = .ok (.iconst 0, 1) := by decide +kernel
theorem dX0_placeJoints_12 : decode cX0_placeJoints 12 = .ok (.istore_n 3, 1) := by decide +kernel
theorem dX0_placeJoints_13 : decode cX0_placeJoints 13 = .ok (.iload_n 3, 1) := by decide +kernel
theorem dX0_placeJoints_14 : decode cX0_placeJoints 14 = .ok (.aload_n 1, 1) := by decide +kernel
theorem dX0_placeJoints_15 : decode cX0_placeJoints 15 = .ok (.getfield 49, 3) := by decide +kernel
theorem dX0_placeJoints_18 : decode cX0_placeJoints 18 = .ok (.if_icmp .ge 31, 3) := by decide +kernel
theorem dX0_placeJoints_21 : decode cX0_placeJoints 21 = .ok (.iload_n 2, 1) := by decide +kernel
theorem dX0_placeJoints_22 : decode cX0_placeJoints 22 = .ok (.aload_n 1, 1) := by decide +kernel
theorem dX0_placeJoints_23 : decode cX0_placeJoints 23 = .ok (.getfield 68, 3) := by decide +kernel
theorem dX0_placeJoints_26 : decode cX0_placeJoints 26 = .ok (.iload_n 3, 1) := by decide +kernel
theorem dX0_placeJoints_27 : decode cX0_placeJoints 27 = .ok (.invokevirtual 71, 3) := by decide +kernel
theorem dX0_placeJoints_30 : decode cX0_placeJoints 30 = .ok (.iadd, 1) := by decide +kernel
theorem dX0_placeJoints_31 : decode cX0_placeJoints 31 = .ok (.istore_n 2, 1) := by decide +kernel
theorem dX0_placeJoints_32 : decode cX0_placeJoints 32 = .ok (.aload_n 0, 1) := by decide +kernel
theorem dX0_placeJoints_33 : decode cX0_placeJoints 33 = .ok (.getfield 14, 3) := by decide +kernel
theorem dX0_placeJoints_36 : decode cX0_placeJoints 36 = .ok (.iload_n 3, 1) := by decide +kernel
theorem dX0_placeJoints_37 : decode cX0_placeJoints 37 = .ok (.iconst 1, 1) := by decide +kernel
theorem dX0_placeJoints_38 : decode cX0_placeJoints 38 = .ok (.iadd, 1) := by decide +kernel
theorem dX0_placeJoints_39 : decode cX0_placeJoints 39 = .ok (.iload_n 2, 1) := by decide +kernel
theorem dX0_placeJoints_40 : decode cX0_placeJoints 40 = .ok (.invokevirtual 64, 3) := by decide +kernel
theorem dX0_placeJoints_43 : decode cX0_placeJoints 43 = .ok (.iinc 3 1, 3) := by decide +kernel
theorem dX0_placeJoints_46 : decode cX0_placeJoints 46 = .ok (.goto (-33), 3) := by decide +kernel
theorem dX0_placeJoints_49 : decode cX0_placeJoints 49 = .ok (.return_, 1) := by decide +kernel
set_option maxRecDepth 20000 in
theorem ggX0_hold_X3_at : GoodIn wsX0_hold wsX3_at := goodIn_r _ [19, 20, 40] (by decide +kernel) (by decide +kernel)
set_option maxRecDepth 20000 in
theorem gX0_hold_X3_at : GoodIn wsX0_hold (wsV RX0 71 RX3 yX3_at wsX3_at) := goodIn_app (goodIn_of _ (by decide +kernel)) ggX0_hold_X3_at
set_option maxRecDepth 20000 in
theorem ggX0_hold_X3_put : GoodIn wsX0_hold wsX3_put := goodIn_r _ [24, 20, 40] (by decide +kernel) (by decide +kernel)
set_option maxRecDepth 20000 in
theorem gX0_hold_X3_put : GoodIn wsX0_hold (wsV RX0 64 RX3 yX3_put wsX3_put) := goodIn_app (goodIn_of _ (by decide +kernel)) ggX0_hold_X3_put
theorem dX0_hold_0 : decode cX0_hold 0 = .ok (.iload_n 2, 1) := by decide +kernel
theorem dX0_hold_1 : decode cX0_hold 1 = .ok (.ifCond .eq 11, 3) := by decide +kernel
theorem dX0_hold_4 : decode cX0_hold 4 = .ok (.iload_n 2, 1) := by decide +kernel
theorem dX0_hold_5 : decode cX0_hold 5 = .ok (.aload_n 1, 1) := by decide +kernel
theorem dX0_hold_6 : decode cX0_hold 6 = .ok (.getfield 49, 3) := by decide +kernel
theorem dX0_hold_9 : decode cX0_hold 9 = .ok (.if_icmp .ne 7, 3) := by decide +kernel
theorem dX0_hold_12 : decode cX0_hold 12 = .ok (.iconst 1, 1) := by decide +kernel
theorem dX0_hold_13 : decode cX0_hold 13 = .ok (.goto 4, 3) := by decide +kernel
theorem dX0_hold_16 : decode cX0_hold 16 = .ok (.iconst 0, 1) := by decide +kernel
theorem dX0_hold_17 : decode cX0_hold 17 = .ok (.istore_n 3, 1) := by decide +kernel
theorem dX0_hold_18 : decode cX0_hold 18 = .ok (.iload_n 3, 1) := by decide +kernel
theorem dX0_hold_19 : decode cX0_hold 19 = .ok (.ifCond .eq 7, 3) := by decide +kernel
theorem dX0_hold_22 : decode cX0_hold 22 = .ok (.iconst 0, 1) := by decide +kernel
theorem dX0_hold_23 : decode cX0_hold 23 = .ok (.goto 22, 3) := by decide +kernel
theorem dX0_hold_26 : decode cX0_hold 26 = .ok (.aload_n 1, 1) := by decide +kernel
theorem dX0_hold_27 : decode cX0_hold 27 = .ok (.getfield 75, 3) := by decide +kernel
theorem dX0_hold_30 : decode cX0_hold 30 = .ok (.iload_n 2, 1) := by decide +kernel
theorem dX0_hold_31 : decode cX0_hold 31 = .ok (.invokevirtual 71, 3) := by decide +kernel
theorem dX0_hold_34 : decode cX0_hold 34 = .ok (.iconst 2, 1) := by decide +kernel
theorem dX0_hold_35 : decode cX0_hold 35 = .ok (.aload_n 1, 1) := by decide +kernel
theorem dX0_hold_36 : decode cX0_hold 36 = .ok (.getfield 78, 3) := by decide +kernel
theorem dX0_hold_39 : decode cX0_hold 39 = .ok (.iconst 0, 1) := by decide +kernel
theorem dX0_hold_40 : decode cX0_hold 40 = .ok (.invokevirtual 71, 3) := by decide +kernel
theorem dX0_hold_43 : decode cX0_hold 43 = .ok (.imul, 1) := by decide +kernel
theorem dX0_hold_44 : decode cX0_hold 44 = .ok (.iadd, 1) := by decide +kernel
theorem dX0_hold_45 : decode cX0_hold 45 = .ok (.istore 4, 2) := by decide +kernel
theorem dX0_hold_47 : decode cX0_hold 47 = .ok (.iload 4, 2) := by decide +kernel
theorem dX0_hold_49 : decode cX0_hold 49 = .ok (.aload_n 1, 1) := by decide +kernel
theorem dX0_hold_50 : decode cX0_hold 50 = .ok (.getfield 81, 3) := by decide +kernel
theorem dX0_hold_53 : decode cX0_hold 53 = .ok (.iload_n 2, 1) := by decide +kernel
theorem dX0_hold_54 : decode cX0_hold 54 = .ok (.invokevirtual 71, 3) := by decide +kernel
theorem dX0_hold_57 : decode cX0_hold 57 = .ok (.invokestatic 84, 3) := by decide +kernel
theorem dX0_hold_60 : decode cX0_hold 60 = .ok (.istore 5, 2) := by decide +kernel
theorem dX0_hold_62 : decode cX0_hold 62 = .ok (.iload 4, 2) := by decide +kernel
theorem dX0_hold_64 : decode cX0_hold 64 = .ok (.iload 5, 2) := by decide +kernel
theorem dX0_hold_66 : decode cX0_hold 66 = .ok (.isub, 1) := by decide +kernel
theorem dX0_hold_67 : decode cX0_hold 67 = .ok (.istore 6, 2) := by decide +kernel
theorem dX0_hold_69 : decode cX0_hold 69 = .ok (.aload_n 0, 1) := by decide +kernel
theorem dX0_hold_70 : decode cX0_hold 70 = .ok (.getfield 14, 3) := by decide +kernel
theorem dX0_hold_73 : decode cX0_hold 73 = .ok (.iload_n 2, 1) := by decide +kernel
theorem dX0_hold_74 : decode cX0_hold 74 = .ok (.invokevirtual 71, 3) := by decide +kernel
theorem dX0_hold_77 : decode cX0_hold 77 = .ok (.aload_n 1, 1) := by decide +kernel
theorem dX0_hold_78 : decode cX0_hold 78 = .ok (.getfield 78, 3) := by decide +kernel
theorem dX0_hold_81 : decode cX0_hold 81 = .ok (.iconst 1, 1) := by decide +kernel
theorem dX0_hold_82 : decode cX0_hold 82 = .ok (.invokevirtual 71, 3) := by decide +kernel
theorem dX0_hold_85 : decode cX0_hold 85 = .ok (.if_icmp .gt 7, 3) := by decide +kernel
theorem dX0_hold_88 : decode cX0_hold 88 = .ok (.iconst 1, 1) := by decide +kernel
theorem dX0_hold_89 : decode cX0_hold 89 = .ok (.goto 4, 3) := by decide +kernel
theorem dX0_hold_92 : decode cX0_hold 92 = .ok (.iconst 0, 1) := by decide +kernel
theorem dX0_hold_93 : decode cX0_hold 93 = .ok (.istore 7, 2) := by decide +kernel
theorem dX0_hold_95 : decode cX0_hold 95 = .ok (.iload 7, 2) := by decide +kernel
theorem dX0_hold_97 : decode cX0_hold 97 = .ok (.ifCond .eq 19, 3) := by decide +kernel
theorem dX0_hold_100 : decode cX0_hold 100 = .ok (.iload 6, 2) := by decide +kernel
theorem dX0_hold_102 : decode cX0_hold 102 = .ok (.aload_n 1, 1) := by decide +kernel
theorem dX0_hold_103 : decode cX0_hold 103 = .ok (.getfield 90, 3) := by decide +kernel
theorem dX0_hold_106 : decode cX0_hold 106 = .ok (.iload_n 2, 1) := by decide +kernel
theorem dX0_hold_107 : decode cX0_hold 107 = .ok (.invokevirtual 71, 3) := by decide +kernel
theorem dX0_hold_110 : decode cX0_hold 110 = .ok (.invokestatic 84, 3) := by decide +kernel
theorem dX0_hold_113 : decode cX0_hold 113 = .ok (.goto 4, 3) := by decide +kernel
theorem dX0_hold_116 : decode cX0_hold 116 = .ok (.iconst 0, 1) := by decide +kernel
theorem dX0_hold_117 : decode cX0_hold 117 = .ok (.istore 8, 2) := by decide +kernel
theorem dX0_hold_119 : decode cX0_hold 119 = .ok (.aload_n 0, 1) := by decide +kernel
theorem dX0_hold_120 : decode cX0_hold 120 = .ok (.getfield 20, 3) := by decide +kernel
theorem dX0_hold_123 : decode cX0_hold 123 = .ok (.iload_n 2, 1) := by decide +kernel
theorem dX0_hold_124 : decode cX0_hold 124 = .ok (.iload 4, 2) := by decide +kernel
theorem dX0_hold_126 : decode cX0_hold 126 = .ok (.invokevirtual 64, 3) := by decide +kernel
theorem dX0_hold_129 : decode cX0_hold 129 = .ok (.aload_n 0, 1) := by decide +kernel
theorem dX0_hold_130 : decode cX0_hold 130 = .ok (.getfield 23, 3) := by decide +kernel
theorem dX0_hold_133 : decode cX0_hold 133 = .ok (.iload_n 2, 1) := by decide +kernel
theorem dX0_hold_134 : decode cX0_hold 134 = .ok (.iload 5, 2) := by decide +kernel
theorem dX0_hold_136 : decode cX0_hold 136 = .ok (.invokevirtual 64, 3) := by decide +kernel
theorem dX0_hold_139 : decode cX0_hold 139 = .ok (.aload_n 0, 1) := by decide +kernel
theorem dX0_hold_140 : decode cX0_hold 140 = .ok (.getfield 26, 3) := by decide +kernel
theorem dX0_hold_143 : decode cX0_hold 143 = .ok (.iload_n 2, 1) := by decide +kernel
theorem dX0_hold_144 : decode cX0_hold 144 = .ok (.iload 8, 2) := by decide +kernel
theorem dX0_hold_146 : decode cX0_hold 146 = .ok (.invokevirtual 64, 3) := by decide +kernel
theorem dX0_hold_149 : decode cX0_hold 149 = .ok (.aload_n 0, 1) := by decide +kernel
theorem dX0_hold_150 : decode cX0_hold 150 = .ok (.getfield 29, 3) := by decide +kernel
theorem dX0_hold_153 : decode cX0_hold 153 = .ok (.iload_n 2, 1) := by decide +kernel
theorem dX0_hold_154 : decode cX0_hold 154 = .ok (.iload 6, 2) := by decide +kernel
theorem dX0_hold_156 : decode cX0_hold 156 = .ok (.iload 8, 2) := by decide +kernel
theorem dX0_hold_158 : decode cX0_hold 158 = .ok (.isub, 1) := by decide +kernel
theorem dX0_hold_159 : decode cX0_hold 159 = .ok (.invokevirtual 64, 3) := by decide +kernel
theorem dX0_hold_162 : decode cX0_hold 162 = .ok (.return_, 1) := by decide +kernel
set_option maxRecDepth 20000 in
theorem ggX0_loadWalls_X3_at : GoodIn wsX0_loadWalls wsX3_at := goodIn_r _ [9, 10, 26] (by decide +kernel) (by decide +kernel)
set_option maxRecDepth 20000 in
theorem gX0_loadWalls_X3_at : GoodIn wsX0_loadWalls (wsV RX0 71 RX3 yX3_at wsX3_at) := goodIn_app (goodIn_of _ (by decide +kernel)) ggX0_loadWalls_X3_at
theorem dX0_loadWalls_0 : decode cX0_loadWalls 0 = .ok (.aload_n 0, 1) := by decide +kernel
theorem dX0_loadWalls_1 : decode cX0_loadWalls 1 = .ok (.iconst 0, 1) := by decide +kernel
theorem dX0_loadWalls_2 : decode cX0_loadWalls 2 = .ok (.putfield 35, 3) := by decide +kernel
theorem dX0_loadWalls_5 : decode cX0_loadWalls 5 = .ok (.aload_n 0, 1) := by decide +kernel
theorem dX0_loadWalls_6 : decode cX0_loadWalls 6 = .ok (.iconst 0, 1) := by decide +kernel
theorem dX0_loadWalls_7 : decode cX0_loadWalls 7 = .ok (.putfield 39, 3) := by decide +kernel
theorem dX0_loadWalls_10 : decode cX0_loadWalls 10 = .ok (.aload_n 1, 1) := by decide +kernel
theorem dX0_loadWalls_11 : decode cX0_loadWalls 11 = .ok (.getfield 49, 3) := by decide +kernel
theorem dX0_loadWalls_14 : decode cX0_loadWalls 14 = .ok (.istore_n 2, 1) := by decide +kernel
theorem dX0_loadWalls_15 : decode cX0_loadWalls 15 = .ok (.iload_n 2, 1) := by decide +kernel
theorem dX0_loadWalls_16 : decode cX0_loadWalls 16 = .ok (.ifCond .gt 4, 3) := by decide +kernel
theorem dX0_loadWalls_19 : decode cX0_loadWalls 19 = .ok (.return_, 1) := by decide +kernel
theorem dX0_loadWalls_20 : decode cX0_loadWalls 20 = .ok (.iconst 1, 1) := by decide +kernel
theorem dX0_loadWalls_21 : decode cX0_loadWalls 21 = .ok (.istore_n 3, 1) := by decide +kernel
theorem dX0_loadWalls_22 : decode cX0_loadWalls 22 = .ok (.iload_n 3, 1) := by decide +kernel
theorem dX0_loadWalls_23 : decode cX0_loadWalls 23 = .ok (.iload_n 2, 1) := by decide +kernel
theorem dX0_loadWalls_24 : decode cX0_loadWalls 24 = .ok (.if_icmp .ge 52, 3) := by decide +kernel
theorem dX0_loadWalls_27 : decode cX0_loadWalls 27 = .ok (.aload_n 0, 1) := by decide +kernel
theorem dX0_loadWalls_28 : decode cX0_loadWalls 28 = .ok (.getfield 29, 3) := by decide +kernel
theorem dX0_loadWalls_31 : decode cX0_loadWalls 31 = .ok (.iload_n 3, 1) := by decide +kernel
theorem dX0_loadWalls_32 : decode cX0_loadWalls 32 = .ok (.invokevirtual 71, 3) := by decide +kernel
theorem dX0_loadWalls_35 : decode cX0_loadWalls 35 = .ok (.istore 4, 2) := by decide +kernel
theorem dX0_loadWalls_37 : decode cX0_loadWalls 37 = .ok (.iload 4, 2) := by decide +kernel
theorem dX0_loadWalls_39 : decode cX0_loadWalls 39 = .ok (.iload_n 3, 1) := by decide +kernel
theorem dX0_loadWalls_40 : decode cX0_loadWalls 40 = .ok (.imul, 1) := by decide +kernel
theorem dX0_loadWalls_41 : decode cX0_loadWalls 41 = .ok (.iload_n 2, 1) := by decide +kernel
theorem dX0_loadWalls_42 : decode cX0_loadWalls 42 = .ok (.idiv, 1) := by decide +kernel
theorem dX0_loadWalls_43 : decode cX0_loadWalls 43 = .ok (.istore 5, 2) := by decide +kernel
theorem dX0_loadWalls_45 : decode cX0_loadWalls 45 = .ok (.aload_n 0, 1) := by decide +kernel
theorem dX0_loadWalls_46 : decode cX0_loadWalls 46 = .ok (.dup, 1) := by decide +kernel
theorem dX0_loadWalls_47 : decode cX0_loadWalls 47 = .ok (.getfield 39, 3) := by decide +kernel
theorem dX0_loadWalls_50 : decode cX0_loadWalls 50 = .ok (.iload 5, 2) := by decide +kernel
theorem dX0_loadWalls_52 : decode cX0_loadWalls 52 = .ok (.iadd, 1) := by decide +kernel
theorem dX0_loadWalls_53 : decode cX0_loadWalls 53 = .ok (.putfield 39, 3) := by decide +kernel
theorem dX0_loadWalls_56 : decode cX0_loadWalls 56 = .ok (.aload_n 0, 1) := by decide +kernel
theorem dX0_loadWalls_57 : decode cX0_loadWalls 57 = .ok (.dup, 1) := by decide +kernel
theorem dX0_loadWalls_58 : decode cX0_loadWalls 58 = .ok (.getfield 35, 3) := by decide +kernel
theorem dX0_loadWalls_61 : decode cX0_loadWalls 61 = .ok (.iload 4, 2) := by decide +kernel
theorem dX0_loadWalls_63 : decode cX0_loadWalls 63 = .ok (.iload 5, 2) := by decide +kernel
theorem dX0_loadWalls_65 : decode cX0_loadWalls 65 = .ok (.isub, 1) := by decide +kernel
theorem dX0_loadWalls_66 : decode cX0_loadWalls 66 = .ok (.iadd, 1) := by decide +kernel
theorem dX0_loadWalls_67 : decode cX0_loadWalls 67 = .ok (.putfield 35, 3) := by decide +kernel
theorem dX0_loadWalls_70 : decode cX0_loadWalls 70 = .ok (.iinc 3 1, 3) := by decide +kernel
theorem dX0_loadWalls_73 : decode cX0_loadWalls 73 = .ok (.goto (-51), 3) := by decide +kernel
theorem dX0_loadWalls_76 : decode cX0_loadWalls 76 = .ok (.return_, 1) := by decide +kernel
set_option maxRecDepth 20000 in
theorem ggX0_pullLinks_X3_at : GoodIn wsX0_pullLinks wsX3_at := goodIn_r _ [19, 20, 40] (by decide +kernel) (by decide +kernel)
set_option maxRecDepth 20000 in
theorem gX0_pullLinks_X3_at : GoodIn wsX0_pullLinks (wsV RX0 71 RX3 yX3_at wsX3_at) := goodIn_app (goodIn_of _ (by decide +kernel)) ggX0_pullLinks_X3_at
set_option maxRecDepth 20000 in
theorem ggX0_pullLinks_X3_put : GoodIn wsX0_pullLinks wsX3_put := goodIn_r _ [24, 20, 40] (by decide +kernel) (by decide +kernel)
set_option maxRecDepth 20000 in
theorem gX0_pullLinks_X3_put : GoodIn wsX0_pullLinks (wsV RX0 64 RX3 yX3_put wsX3_put) := goodIn_app (goodIn_of _ (by decide +kernel)) ggX0_pullLinks_X3_put
theorem dX0_pullLinks_0 : decode cX0_pullLinks 0 = .ok (.aload_n 0, 1) := by decide +kernel
theorem dX0_pullLinks_1 : decode cX0_pullLinks 1 = .ok (.getfield 35, 3) := by decide +kernel
theorem dX0_pullLinks_4 : decode cX0_pullLinks 4 = .ok (.istore_n 2, 1) := by decide +kernel
theorem dX0_pullLinks_5 : decode cX0_pullLinks 5 = .ok (.aload_n 0, 1) := by decide +kernel
theorem dX0_pullLinks_6 : decode cX0_pullLinks 6 = .ok (.iconst 0, 1) := by decide +kernel
theorem dX0_pullLinks_7 : decode cX0_pullLinks 7 = .ok (.putfield 42, 3) := by decide +kernel
theorem dX0_pullLinks_10 : decode cX0_pullLinks 10 = .ok (.iconst 0, 1) := by decide +kernel
theorem dX0_pullLinks_11 : decode cX0_pullLinks 11 = .ok (.istore_n 3, 1) := by decide +kernel
theorem dX0_pullLinks_12 : decode cX0_pullLinks 12 = .ok (.iload_n 3, 1) := by decide +kernel
theorem dX0_pullLinks_13 : decode cX0_pullLinks 13 = .ok (.aload_n 1, 1) := by decide +kernel
theorem dX0_pullLinks_14 : decode cX0_pullLinks 14 = .ok (.getfield 49, 3) := by decide +kernel
theorem dX0_pullLinks_17 : decode cX0_pullLinks 17 = .ok (.if_icmp .ge 74, 3) := by decide +kernel
theorem dX0_pullLinks_20 : decode cX0_pullLinks 20 = .ok (.iload_n 2, 1) := by decide +kernel
theorem dX0_pullLinks_21 : decode cX0_pullLinks 21 = .ok (.aload_n 0, 1) := by decide +kernel
theorem dX0_pullLinks_22 : decode cX0_pullLinks 22 = .ok (.getfield 29, 3) := by decide +kernel
theorem dX0_pullLinks_25 : decode cX0_pullLinks 25 = .ok (.iload_n 3, 1) := by decide +kernel
theorem dX0_pullLinks_26 : decode cX0_pullLinks 26 = .ok (.invokevirtual 71, 3) := by decide +kernel
theorem dX0_pullLinks_29 : decode cX0_pullLinks 29 = .ok (.isub, 1) := by decide +kernel
theorem dX0_pullLinks_30 : decode cX0_pullLinks 30 = .ok (.istore_n 2, 1) := by decide +kernel
theorem dX0_pullLinks_31 : decode cX0_pullLinks 31 = .ok (.aload_n 1, 1) := by decide +kernel
theorem dX0_pullLinks_32 : decode cX0_pullLinks 32 = .ok (.getfield 68, 3) := by decide +kernel
theorem dX0_pullLinks_35 : decode cX0_pullLinks 35 = .ok (.iload_n 3, 1) := by decide +kernel
theorem dX0_pullLinks_36 : decode cX0_pullLinks 36 = .ok (.invokevirtual 71, 3) := by decide +kernel
theorem dX0_pullLinks_39 : decode cX0_pullLinks 39 = .ok (.invokestatic 93, 3) := by decide +kernel
theorem dX0_pullLinks_42 : decode cX0_pullLinks 42 = .ok (.istore 4, 2) := by decide +kernel
theorem dX0_pullLinks_44 : decode cX0_pullLinks 44 = .ok (.iload_n 2, 1) := by decide +kernel
theorem dX0_pullLinks_45 : decode cX0_pullLinks 45 = .ok (.invokestatic 93, 3) := by decide +kernel
theorem dX0_pullLinks_48 : decode cX0_pullLinks 48 = .ok (.iload 4, 2) := by decide +kernel
theorem dX0_pullLinks_50 : decode cX0_pullLinks 50 = .ok (.aload_n 1, 1) := by decide +kernel
theorem dX0_pullLinks_51 : decode cX0_pullLinks 51 = .ok (.getfield 78, 3) := by decide +kernel
theorem dX0_pullLinks_54 : decode cX0_pullLinks 54 = .ok (.iconst 2, 1) := by decide +kernel
theorem dX0_pullLinks_55 : decode cX0_pullLinks 55 = .ok (.invokevirtual 71, 3) := by decide +kernel
theorem dX0_pullLinks_58 : decode cX0_pullLinks 58 = .ok (.imul, 1) := by decide +kernel
theorem dX0_pullLinks_59 : decode cX0_pullLinks 59 = .ok (.iadd, 1) := by decide +kernel
theorem dX0_pullLinks_60 : decode cX0_pullLinks 60 = .ok (.istore 5, 2) := by decide +kernel
theorem dX0_pullLinks_62 : decode cX0_pullLinks 62 = .ok (.aload_n 0, 1) := by decide +kernel
theorem dX0_pullLinks_63 : decode cX0_pullLinks 63 = .ok (.getfield 32, 3) := by decide +kernel
theorem dX0_pullLinks_66 : decode cX0_pullLinks 66 = .ok (.iload_n 3, 1) := by decide +kernel
theorem dX0_pullLinks_67 : decode cX0_pullLinks 67 = .ok (.iload 5, 2) := by decide +kernel
theorem dX0_pullLinks_69 : decode cX0_pullLinks 69 = .ok (.invokevirtual 64, 3) := by decide +kernel
theorem dX0_pullLinks_72 : decode cX0_pullLinks 72 = .ok (.aload_n 0, 1) := by decide +kernel
theorem dX0_pullLinks_73 : decode cX0_pullLinks 73 = .ok (.aload_n 0, 1) := by decide +kernel
theorem dX0_pullLinks_74 : decode cX0_pullLinks 74 = .ok (.getfield 42, 3) := by decide +kernel
theorem dX0_pullLinks_77 : decode cX0_pullLinks 77 = .ok (.iload 5, 2) := by decide +kernel
theorem dX0_pullLinks_79 : decode cX0_pullLinks 79 = .ok (.invokestatic 96, 3) := by decide +kernel
theorem dX0_pullLinks_82 : decode cX0_pullLinks 82 = .ok (.putfield 42, 3) := by decide +kernel
theorem dX0_pullLinks_85 : decode cX0_pullLinks 85 = .ok (.iinc 3 1, 3) := by decide +kernel
theorem dX0_pullLinks_88 : decode cX0_pullLinks 88 = .ok (.goto (-76), 3) := by decide +kernel
theorem dX0_pullLinks_91 : decode cX0_pullLinks 91 = .ok (.return_, 1) := by decide +kernel
set_option maxRecDepth 20000 in
theorem ggX0_breaks_X3_at : GoodIn wsX0_breaks wsX3_at := goodIn_r _ [7, 8, 24] (by decide +kernel) (by decide +kernel)
set_option maxRecDepth 20000 in
theorem gX0_breaks_X3_at : GoodIn wsX0_breaks (wsV RX0 71 RX3 yX3_at wsX3_at) := goodIn_app (goodIn_of _ (by decide +kernel)) ggX0_breaks_X3_at
theorem dX0_breaks_0 : decode cX0_breaks 0 = .ok (.aload_n 0, 1) := by decide +kernel
theorem dX0_breaks_1 : decode cX0_breaks 1 = .ok (.getfield 32, 3) := by decide +kernel
theorem dX0_breaks_4 : decode cX0_breaks 4 = .ok (.iload_n 2, 1) := by decide +kernel
theorem dX0_breaks_5 : decode cX0_breaks 5 = .ok (.invokevirtual 71, 3) := by decide +kernel
theorem dX0_breaks_8 : decode cX0_breaks 8 = .ok (.aload_n 1, 1) := by decide +kernel
theorem dX0_breaks_9 : decode cX0_breaks 9 = .ok (.getfield 78, 3) := by decide +kernel
theorem dX0_breaks_12 : decode cX0_breaks 12 = .ok (.iconst 3, 1) := by decide +kernel
theorem dX0_breaks_13 : decode cX0_breaks 13 = .ok (.invokevirtual 71, 3) := by decide +kernel
theorem dX0_breaks_16 : decode cX0_breaks 16 = .ok (.if_icmp .le 7, 3) := by decide +kernel
theorem dX0_breaks_19 : decode cX0_breaks 19 = .ok (.iconst 1, 1) := by decide +kernel
theorem dX0_breaks_20 : decode cX0_breaks 20 = .ok (.goto 4, 3) := by decide +kernel
theorem dX0_breaks_23 : decode cX0_breaks 23 = .ok (.iconst 0, 1) := by decide +kernel
theorem dX0_breaks_24 : decode cX0_breaks 24 = .ok (.ireturn, 1) := by decide +kernel
set_option maxRecDepth 20000 in
theorem ggX0_holds_X3_at : GoodIn wsX0_holds wsX3_at := goodIn_r _ [7, 8, 24] (by decide +kernel) (by decide +kernel)
set_option maxRecDepth 20000 in
theorem gX0_holds_X3_at : GoodIn wsX0_holds (wsV RX0 71 RX3 yX3_at wsX3_at) := goodIn_app (goodIn_of _ (by decide +kernel)) ggX0_holds_X3_at
theorem dX0_holds_0 : decode cX0_holds 0 = .ok (.aload_n 0, 1) := by decide +kernel
theorem dX0_holds_1 : decode cX0_holds 1 = .ok (.getfield 42, 3) := by decide +kernel
theorem dX0_holds_4 : decode cX0_holds 4 = .ok (.aload_n 1, 1) := by decide +kernel
theorem dX0_holds_5 : decode cX0_holds 5 = .ok (.getfield 78, 3) := by decide +kernel
theorem dX0_holds_8 : decode cX0_holds 8 = .ok (.iconst 3, 1) := by decide +kernel
theorem dX0_holds_9 : decode cX0_holds 9 = .ok (.invokevirtual 71, 3) := by decide +kernel
theorem dX0_holds_12 : decode cX0_holds 12 = .ok (.if_icmp .gt 7, 3) := by decide +kernel
theorem dX0_holds_15 : decode cX0_holds 15 = .ok (.iconst 1, 1) := by decide +kernel
theorem dX0_holds_16 : decode cX0_holds 16 = .ok (.goto 4, 3) := by decide +kernel
theorem dX0_holds_19 : decode cX0_holds 19 = .ok (.iconst 0, 1) := by decide +kernel
theorem dX0_holds_20 : decode cX0_holds 20 = .ok (.ireturn, 1) := by decide +kernel
set_option maxRecDepth 20000 in
theorem ggX0_broken_X0_breaks : GoodIn wsX0_broken wsX0_breaks := goodIn_r _ [6, 7, 8, 9, 10, 11, 12, 13, 14, 21, 22, 23, 24, 25, 26, 27, 28, 29, 15, 16, 17, 18, 19, 20, 30] (by decide +kernel) (by decide +kernel)
set_option maxRecDepth 20000 in
theorem gX0_broken_X0_breaks : GoodIn wsX0_broken (wsV RX0 99 RX0 yX0_breaks wsX0_breaks) := goodIn_app (goodIn_of _ (by decide +kernel)) ggX0_broken_X0_breaks
theorem dX0_broken_0 : decode cX0_broken 0 = .ok (.iconst 0, 1) := by decide +kernel
theorem dX0_broken_1 : decode cX0_broken 1 = .ok (.istore_n 2, 1) := by decide +kernel
theorem dX0_broken_2 : decode cX0_broken 2 = .ok (.iconst 0, 1) := by decide +kernel
theorem dX0_broken_3 : decode cX0_broken 3 = .ok (.istore_n 3, 1) := by decide +kernel
theorem dX0_broken_4 : decode cX0_broken 4 = .ok (.iload_n 3, 1) := by decide +kernel
theorem dX0_broken_5 : decode cX0_broken 5 = .ok (.aload_n 1, 1) := by decide +kernel
theorem dX0_broken_6 : decode cX0_broken 6 = .ok (.getfield 49, 3) := by decide +kernel
theorem dX0_broken_9 : decode cX0_broken 9 = .ok (.if_icmp .ge 21, 3) := by decide +kernel
theorem dX0_broken_12 : decode cX0_broken 12 = .ok (.aload_n 0, 1) := by decide +kernel
theorem dX0_broken_13 : decode cX0_broken 13 = .ok (.aload_n 1, 1) := by decide +kernel
theorem dX0_broken_14 : decode cX0_broken 14 = .ok (.iload_n 3, 1) := by decide +kernel
theorem dX0_broken_15 : decode cX0_broken 15 = .ok (.invokevirtual 99, 3) := by decide +kernel
theorem dX0_broken_18 : decode cX0_broken 18 = .ok (.ifCond .eq 6, 3) := by decide +kernel
theorem dX0_broken_21 : decode cX0_broken 21 = .ok (.iinc 2 1, 3) := by decide +kernel
theorem dX0_broken_24 : decode cX0_broken 24 = .ok (.iinc 3 1, 3) := by decide +kernel
theorem dX0_broken_27 : decode cX0_broken 27 = .ok (.goto (-23), 3) := by decide +kernel
theorem dX0_broken_30 : decode cX0_broken 30 = .ok (.iload_n 2, 1) := by decide +kernel
theorem dX0_broken_31 : decode cX0_broken 31 = .ok (.ireturn, 1) := by decide +kernel
set_option maxRecDepth 20000 in
theorem ggX0_lowest_X3_at : GoodIn wsX0_lowest wsX3_at := goodIn_r _ [7, 8, 24] (by decide +kernel) (by decide +kernel)
set_option maxRecDepth 20000 in
theorem gX0_lowest_X3_at : GoodIn wsX0_lowest (wsV RX0 71 RX3 yX3_at wsX3_at) := goodIn_app (goodIn_of _ (by decide +kernel)) ggX0_lowest_X3_at
theorem dX0_lowest_0 : decode cX0_lowest 0 = .ok (.iconst 0, 1) := by decide +kernel
theorem dX0_lowest_1 : decode cX0_lowest 1 = .ok (.istore_n 2, 1) := by decide +kernel
theorem dX0_lowest_2 : decode cX0_lowest 2 = .ok (.iconst 1, 1) := by decide +kernel
theorem dX0_lowest_3 : decode cX0_lowest 3 = .ok (.istore_n 3, 1) := by decide +kernel
theorem dX0_lowest_4 : decode cX0_lowest 4 = .ok (.iload_n 3, 1) := by decide +kernel
theorem dX0_lowest_5 : decode cX0_lowest 5 = .ok (.aload_n 1, 1) := by decide +kernel
theorem dX0_lowest_6 : decode cX0_lowest 6 = .ok (.getfield 49, 3) := by decide +kernel
theorem dX0_lowest_9 : decode cX0_lowest 9 = .ok (.if_icmp .gt 30, 3) := by decide +kernel
theorem dX0_lowest_12 : decode cX0_lowest 12 = .ok (.aload_n 0, 1) := by decide +kernel
theorem dX0_lowest_13 : decode cX0_lowest 13 = .ok (.getfield 14, 3) := by decide +kernel
theorem dX0_lowest_16 : decode cX0_lowest 16 = .ok (.iload_n 3, 1) := by decide +kernel
theorem dX0_lowest_17 : decode cX0_lowest 17 = .ok (.invokevirtual 71, 3) := by decide +kernel
theorem dX0_lowest_20 : decode cX0_lowest 20 = .ok (.aload_n 0, 1) := by decide +kernel
theorem dX0_lowest_21 : decode cX0_lowest 21 = .ok (.getfield 14, 3) := by decide +kernel
theorem dX0_lowest_24 : decode cX0_lowest 24 = .ok (.iload_n 2, 1) := by decide +kernel
theorem dX0_lowest_25 : decode cX0_lowest 25 = .ok (.invokevirtual 71, 3) := by decide +kernel
theorem dX0_lowest_28 : decode cX0_lowest 28 = .ok (.if_icmp .ge 5, 3) := by decide +kernel
theorem dX0_lowest_31 : decode cX0_lowest 31 = .ok (.iload_n 3, 1) := by decide +kernel
theorem dX0_lowest_32 : decode cX0_lowest 32 = .ok (.istore_n 2, 1) := by decide +kernel
theorem dX0_lowest_33 : decode cX0_lowest 33 = .ok (.iinc 3 1, 3) := by decide +kernel
theorem dX0_lowest_36 : decode cX0_lowest 36 = .ok (.goto (-32), 3) := by decide +kernel
theorem dX0_lowest_39 : decode cX0_lowest 39 = .ok (.iload_n 2, 1) := by decide +kernel
theorem dX0_lowest_40 : decode cX0_lowest 40 = .ok (.ireturn, 1) := by decide +kernel
set_option maxRecDepth 20000 in
theorem ggX1_init_X3_init : GoodIn wsX1_init wsX3_init := goodIn_r _ [15, 16, 2, 3, 17, 18, 23] (by decide +kernel) (by decide +kernel)
set_option maxRecDepth 20000 in
theorem gX1_init_X3_init : GoodIn wsX1_init (wsX3_init) := ggX1_init_X3_init
set_option maxRecDepth 20000 in
theorem ggX1_init_X3_put : GoodIn wsX1_init wsX3_put := goodIn_r _ [22, 18, 23] (by decide +kernel) (by decide +kernel)
set_option maxRecDepth 20000 in
theorem gX1_init_X3_put : GoodIn wsX1_init (wsV RX1 36 RX3 yX3_put wsX3_put) := goodIn_app (goodIn_of _ (by decide +kernel)) ggX1_init_X3_put
theorem dX1_init_0 : decode cX1_init 0 = .ok (.aload_n 0, 1) := by decide +kernel
theorem dX1_init_1 : decode cX1_init 1 = .ok (.invokespecial 3, 3) := by decide +kernel
theorem dX1_init_4 : decode cX1_init 4 = .ok (.aload_n 0, 1) := by decide +kernel
theorem dX1_init_5 : decode cX1_init 5 = .ok (.new 9, 3) := by decide +kernel
theorem dX1_init_8 : decode cX1_init 8 = .ok (.dup, 1) := by decide +kernel
theorem dX1_init_9 : decode cX1_init 9 = .ok (.bipush 20, 2) := by decide +kernel
theorem dX1_init_11 : decode cX1_init 11 = .ok (.invokespecial 11, 3) := by decide +kernel
theorem dX1_init_14 : decode cX1_init 14 = .ok (.putfield 14, 3) := by decide +kernel
theorem dX1_init_17 : decode cX1_init 17 = .ok (.aload_n 0, 1) := by decide +kernel
theorem dX1_init_18 : decode cX1_init 18 = .ok (.new 9, 3) := by decide +kernel
theorem dX1_init_21 : decode cX1_init 21 = .ok (.dup, 1) := by decide +kernel
theorem dX1_init_22 : decode cX1_init 22 = .ok (.bipush 21, 2) := by decide +kernel
theorem dX1_init_24 : decode cX1_init 24 = .ok (.invokespecial 11, 3) := by decide +kernel
theorem dX1_init_27 : decode cX1_init 27 = .ok (.putfield 20, 3) := by decide +kernel
theorem dX1_init_30 : decode cX1_init 30 = .ok (.aload_n 0, 1) := by decide +kernel
theorem dX1_init_31 : decode cX1_init 31 = .ok (.new 9, 3) := by decide +kernel
theorem dX1_init_34 : decode cX1_init 34 = .ok (.dup, 1) := by decide +kernel
theorem dX1_init_35 : decode cX1_init 35 = .ok (.bipush 21, 2) := by decide +kernel
theorem dX1_init_37 : decode cX1_init 37 = .ok (.invokespecial 11, 3) := by decide +kernel
theorem dX1_init_40 : decode cX1_init 40 = .ok (.putfield 23, 3) := by decide +kernel
theorem dX1_init_43 : decode cX1_init 43 = .ok (.aload_n 0, 1) := by decide +kernel
theorem dX1_init_44 : decode cX1_init 44 = .ok (.new 9, 3) := by decide +kernel
theorem dX1_init_47 : decode cX1_init 47 = .ok (.dup, 1) := by decide +kernel
theorem dX1_init_48 : decode cX1_init 48 = .ok (.bipush 21, 2) := by decide +kernel
theorem dX1_init_50 : decode cX1_init 50 = .ok (.invokespecial 11, 3) := by decide +kernel
theorem dX1_init_53 : decode cX1_init 53 = .ok (.putfield 26, 3) := by decide +kernel
theorem dX1_init_56 : decode cX1_init 56 = .ok (.aload_n 0, 1) := by decide +kernel
theorem dX1_init_57 : decode cX1_init 57 = .ok (.new 9, 3) := by decide +kernel
theorem dX1_init_60 : decode cX1_init 60 = .ok (.dup, 1) := by decide +kernel
theorem dX1_init_61 : decode cX1_init 61 = .ok (.iconst 4, 1) := by decide +kernel
theorem dX1_init_62 : decode cX1_init 62 = .ok (.invokespecial 11, 3) := by decide +kernel
theorem dX1_init_65 : decode cX1_init 65 = .ok (.putfield 29, 3) := by decide +kernel
theorem dX1_init_68 : decode cX1_init 68 = .ok (.aload_n 0, 1) := by decide +kernel
theorem dX1_init_69 : decode cX1_init 69 = .ok (.iconst 1, 1) := by decide +kernel
theorem dX1_init_70 : decode cX1_init 70 = .ok (.putfield 32, 3) := by decide +kernel
theorem dX1_init_73 : decode cX1_init 73 = .ok (.aload_n 0, 1) := by decide +kernel
theorem dX1_init_74 : decode cX1_init 74 = .ok (.getfield 29, 3) := by decide +kernel
theorem dX1_init_77 : decode cX1_init 77 = .ok (.iconst 0, 1) := by decide +kernel
theorem dX1_init_78 : decode cX1_init 78 = .ok (.iconst 1, 1) := by decide +kernel
theorem dX1_init_79 : decode cX1_init 79 = .ok (.invokevirtual 36, 3) := by decide +kernel
theorem dX1_init_82 : decode cX1_init 82 = .ok (.aload_n 0, 1) := by decide +kernel
theorem dX1_init_83 : decode cX1_init 83 = .ok (.getfield 29, 3) := by decide +kernel
theorem dX1_init_86 : decode cX1_init 86 = .ok (.iconst 1, 1) := by decide +kernel
theorem dX1_init_87 : decode cX1_init 87 = .ok (.bipush (-2), 2) := by decide +kernel
theorem dX1_init_89 : decode cX1_init 89 = .ok (.invokevirtual 36, 3) := by decide +kernel
theorem dX1_init_92 : decode cX1_init 92 = .ok (.aload_n 0, 1) := by decide +kernel
theorem dX1_init_93 : decode cX1_init 93 = .ok (.getfield 29, 3) := by decide +kernel
theorem dX1_init_96 : decode cX1_init 96 = .ok (.iconst 2, 1) := by decide +kernel
theorem dX1_init_97 : decode cX1_init 97 = .ok (.iconst 1, 1) := by decide +kernel
theorem dX1_init_98 : decode cX1_init 98 = .ok (.invokevirtual 36, 3) := by decide +kernel
theorem dX1_init_101 : decode cX1_init 101 = .ok (.aload_n 0, 1) := by decide +kernel
theorem dX1_init_102 : decode cX1_init 102 = .ok (.getfield 29, 3) := by decide +kernel
theorem dX1_init_105 : decode cX1_init 105 = .ok (.iconst 3, 1) := by decide +kernel
theorem dX1_init_106 : decode cX1_init 106 = .ok (.bipush 60, 2) := by decide +kernel
theorem dX1_init_108 : decode cX1_init 108 = .ok (.invokevirtual 36, 3) := by decide +kernel
theorem dX1_init_111 : decode cX1_init 111 = .ok (.return_, 1) := by decide +kernel
set_option maxRecDepth 20000 in
theorem ggX1_copyFrom_X3_copyFrom : GoodIn wsX1_copyFrom wsX3_copyFrom := goodIn_r _ [11, 12, 13, 14, 15, 10, 16, 23] (by decide +kernel) (by decide +kernel)
set_option maxRecDepth 20000 in
theorem gX1_copyFrom_X3_copyFrom : GoodIn wsX1_copyFrom (wsV RX1 40 RX3 yX3_copyFrom wsX3_copyFrom) := goodIn_app (goodIn_of _ (by decide +kernel)) ggX1_copyFrom_X3_copyFrom
theorem dX1_copyFrom_0 : decode cX1_copyFrom 0 = .ok (.aload_n 0, 1) := by decide +kernel
theorem dX1_copyFrom_1 : decode cX1_copyFrom 1 = .ok (.aload_n 1, 1) := by decide +kernel
theorem dX1_copyFrom_2 : decode cX1_copyFrom 2 = .ok (.getfield 32, 3) := by decide +kernel
theorem dX1_copyFrom_5 : decode cX1_copyFrom 5 = .ok (.putfield 32, 3) := by decide +kernel
theorem dX1_copyFrom_8 : decode cX1_copyFrom 8 = .ok (.aload_n 0, 1) := by decide +kernel
theorem dX1_copyFrom_9 : decode cX1_copyFrom 9 = .ok (.getfield 14, 3) := by decide +kernel
theorem dX1_copyFrom_12 : decode cX1_copyFrom 12 = .ok (.aload_n 1, 1) := by decide +kernel
theorem dX1_copyFrom_13 : decode cX1_copyFrom 13 = .ok (.getfield 14, 3) := by decide +kernel
theorem dX1_copyFrom_16 : decode cX1_copyFrom 16 = .ok (.invokevirtual 40, 3) := by decide +kernel
theorem dX1_copyFrom_19 : decode cX1_copyFrom 19 = .ok (.aload_n 0, 1) := by decide +kernel
theorem dX1_copyFrom_20 : decode cX1_copyFrom 20 = .ok (.getfield 20, 3) := by decide +kernel
theorem dX1_copyFrom_23 : decode cX1_copyFrom 23 = .ok (.aload_n 1, 1) := by decide +kernel
theorem dX1_copyFrom_24 : decode cX1_copyFrom 24 = .ok (.getfield 20, 3) := by decide +kernel
theorem dX1_copyFrom_27 : decode cX1_copyFrom 27 = .ok (.invokevirtual 40, 3) := by decide +kernel
theorem dX1_copyFrom_30 : decode cX1_copyFrom 30 = .ok (.aload_n 0, 1) := by decide +kernel
theorem dX1_copyFrom_31 : decode cX1_copyFrom 31 = .ok (.getfield 23, 3) := by decide +kernel
theorem dX1_copyFrom_34 : decode cX1_copyFrom 34 = .ok (.aload_n 1, 1) := by decide +kernel
theorem dX1_copyFrom_35 : decode cX1_copyFrom 35 = .ok (.getfield 23, 3) := by decide +kernel
theorem dX1_copyFrom_38 : decode cX1_copyFrom 38 = .ok (.invokevirtual 40, 3) := by decide +kernel
theorem dX1_copyFrom_41 : decode cX1_copyFrom 41 = .ok (.aload_n 0, 1) := by decide +kernel
theorem dX1_copyFrom_42 : decode cX1_copyFrom 42 = .ok (.getfield 26, 3) := by decide +kernel
theorem dX1_copyFrom_45 : decode cX1_copyFrom 45 = .ok (.aload_n 1, 1) := by decide +kernel
theorem dX1_copyFrom_46 : decode cX1_copyFrom 46 = .ok (.getfield 26, 3) := by decide +kernel
theorem dX1_copyFrom_49 : decode cX1_copyFrom 49 = .ok (.invokevirtual 40, 3) := by decide +kernel
theorem dX1_copyFrom_52 : decode cX1_copyFrom 52 = .ok (.aload_n 0, 1) := by decide +kernel
theorem dX1_copyFrom_53 : decode cX1_copyFrom 53 = .ok (.getfield 29, 3) := by decide +kernel
theorem dX1_copyFrom_56 : decode cX1_copyFrom 56 = .ok (.aload_n 1, 1) := by decide +kernel
theorem dX1_copyFrom_57 : decode cX1_copyFrom 57 = .ok (.getfield 29, 3) := by decide +kernel
theorem dX1_copyFrom_60 : decode cX1_copyFrom 60 = .ok (.invokevirtual 40, 3) := by decide +kernel
theorem dX1_copyFrom_63 : decode cX1_copyFrom 63 = .ok (.return_, 1) := by decide +kernel
set_option maxRecDepth 20000 in
theorem ggX1_addLink_X3_put : GoodIn wsX1_addLink wsX3_put := goodIn_r _ [10, 11, 18] (by decide +kernel) (by decide +kernel)
set_option maxRecDepth 20000 in
theorem gX1_addLink_X3_put : GoodIn wsX1_addLink (wsV RX1 36 RX3 yX3_put wsX3_put) := goodIn_app (goodIn_of _ (by decide +kernel)) ggX1_addLink_X3_put
theorem dX1_addLink_0 : decode cX1_addLink 0 = .ok (.aload_n 0, 1) := by decide +kernel
theorem dX1_addLink_1 : decode cX1_addLink 1 = .ok (.getfield 14, 3) := by decide +kernel
theorem dX1_addLink_4 : decode cX1_addLink 4 = .ok (.aload_n 0, 1) := by decide +kernel
theorem dX1_addLink_5 : decode cX1_addLink 5 = .ok (.getfield 32, 3) := by decide +kernel
theorem dX1_addLink_8 : decode cX1_addLink 8 = .ok (.iload_n 1, 1) := by decide +kernel
theorem dX1_addLink_9 : decode cX1_addLink 9 = .ok (.invokevirtual 36, 3) := by decide +kernel
theorem dX1_addLink_12 : decode cX1_addLink 12 = .ok (.aload_n 0, 1) := by decide +kernel
theorem dX1_addLink_13 : decode cX1_addLink 13 = .ok (.dup, 1) := by decide +kernel
theorem dX1_addLink_14 : decode cX1_addLink 14 = .ok (.getfield 32, 3) := by decide +kernel
theorem dX1_addLink_17 : decode cX1_addLink 17 = .ok (.iconst 1, 1) := by decide +kernel
theorem dX1_addLink_18 : decode cX1_addLink 18 = .ok (.iadd, 1) := by decide +kernel
theorem dX1_addLink_19 : decode cX1_addLink 19 = .ok (.putfield 32, 3) := by decide +kernel
theorem dX1_addLink_22 : decode cX1_addLink 22 = .ok (.aload_n 0, 1) := by decide +kernel
theorem dX1_addLink_23 : decode cX1_addLink 23 = .ok (.getfield 20, 3) := by decide +kernel
theorem dX1_addLink_26 : decode cX1_addLink 26 = .ok (.aload_n 0, 1) := by decide +kernel
theorem dX1_addLink_27 : decode cX1_addLink 27 = .ok (.getfield 32, 3) := by decide +kernel
theorem dX1_addLink_30 : decode cX1_addLink 30 = .ok (.iconst 0, 1) := by decide +kernel
theorem dX1_addLink_31 : decode cX1_addLink 31 = .ok (.invokevirtual 36, 3) := by decide +kernel
theorem dX1_addLink_34 : decode cX1_addLink 34 = .ok (.aload_n 0, 1) := by decide +kernel
theorem dX1_addLink_35 : decode cX1_addLink 35 = .ok (.getfield 23, 3) := by decide +kernel
theorem dX1_addLink_38 : decode cX1_addLink 38 = .ok (.aload_n 0, 1) := by decide +kernel
theorem dX1_addLink_39 : decode cX1_addLink 39 = .ok (.getfield 32, 3) := by decide +kernel
theorem dX1_addLink_42 : decode cX1_addLink 42 = .ok (.iconst 0, 1) := by decide +kernel
theorem dX1_addLink_43 : decode cX1_addLink 43 = .ok (.invokevirtual 36, 3) := by decide +kernel
theorem dX1_addLink_46 : decode cX1_addLink 46 = .ok (.aload_n 0, 1) := by decide +kernel
theorem dX1_addLink_47 : decode cX1_addLink 47 = .ok (.getfield 26, 3) := by decide +kernel
theorem dX1_addLink_50 : decode cX1_addLink 50 = .ok (.aload_n 0, 1) := by decide +kernel
theorem dX1_addLink_51 : decode cX1_addLink 51 = .ok (.getfield 32, 3) := by decide +kernel
theorem dX1_addLink_54 : decode cX1_addLink 54 = .ok (.iconst 0, 1) := by decide +kernel
theorem dX1_addLink_55 : decode cX1_addLink 55 = .ok (.invokevirtual 36, 3) := by decide +kernel
theorem dX1_addLink_58 : decode cX1_addLink 58 = .ok (.return_, 1) := by decide +kernel
set_option maxRecDepth 20000 in
theorem ggX1_takeLink_X3_takeOut : GoodIn wsX1_takeLink wsX3_takeOut := goodIn_r _ [10, 11, 12, 13, 14, 9, 15, 16, 17, 18, 19, 26] (by decide +kernel) (by decide +kernel)
set_option maxRecDepth 20000 in
theorem gX1_takeLink_X3_takeOut : GoodIn wsX1_takeLink (wsV RX1 44 RX3 yX3_takeOut wsX3_takeOut) := goodIn_app (goodIn_of _ (by decide +kernel)) ggX1_takeLink_X3_takeOut
theorem dX1_takeLink_0 : decode cX1_takeLink 0 = .ok (.aload_n 0, 1) := by decide +kernel
theorem dX1_takeLink_1 : decode cX1_takeLink 1 = .ok (.getfield 14, 3) := by decide +kernel
theorem dX1_takeLink_4 : decode cX1_takeLink 4 = .ok (.iload_n 1, 1) := by decide +kernel
theorem dX1_takeLink_5 : decode cX1_takeLink 5 = .ok (.invokevirtual 44, 3) := by decide +kernel
theorem dX1_takeLink_8 : decode cX1_takeLink 8 = .ok (.aload_n 0, 1) := by decide +kernel
theorem dX1_takeLink_9 : decode cX1_takeLink 9 = .ok (.getfield 20, 3) := by decide +kernel
theorem dX1_takeLink_12 : decode cX1_takeLink 12 = .ok (.iload_n 1, 1) := by decide +kernel
theorem dX1_takeLink_13 : decode cX1_takeLink 13 = .ok (.iconst 1, 1) := by decide +kernel
theorem dX1_takeLink_14 : decode cX1_takeLink 14 = .ok (.iadd, 1) := by decide +kernel
theorem dX1_takeLink_15 : decode cX1_takeLink 15 = .ok (.invokevirtual 44, 3) := by decide +kernel
theorem dX1_takeLink_18 : decode cX1_takeLink 18 = .ok (.aload_n 0, 1) := by decide +kernel
theorem dX1_takeLink_19 : decode cX1_takeLink 19 = .ok (.getfield 23, 3) := by decide +kernel
theorem dX1_takeLink_22 : decode cX1_takeLink 22 = .ok (.iload_n 1, 1) := by decide +kernel
theorem dX1_takeLink_23 : decode cX1_takeLink 23 = .ok (.iconst 1, 1) := by decide +kernel
theorem dX1_takeLink_24 : decode cX1_takeLink 24 = .ok (.iadd, 1) := by decide +kernel
theorem dX1_takeLink_25 : decode cX1_takeLink 25 = .ok (.invokevirtual 44, 3) := by decide +kernel
theorem dX1_takeLink_28 : decode cX1_takeLink 28 = .ok (.aload_n 0, 1) := by decide +kernel
theorem dX1_takeLink_29 : decode cX1_takeLink 29 = .ok (.getfield 26, 3) := by decide +kernel
theorem dX1_takeLink_32 : decode cX1_takeLink 32 = .ok (.iload_n 1, 1) := by decide +kernel
theorem dX1_takeLink_33 : decode cX1_takeLink 33 = .ok (.iconst 1, 1) := by decide +kernel
theorem dX1_takeLink_34 : decode cX1_takeLink 34 = .ok (.iadd, 1) := by decide +kernel
theorem dX1_takeLink_35 : decode cX1_takeLink 35 = .ok (.invokevirtual 44, 3) := by decide +kernel
theorem dX1_takeLink_38 : decode cX1_takeLink 38 = .ok (.aload_n 0, 1) := by decide +kernel
theorem dX1_takeLink_39 : decode cX1_takeLink 39 = .ok (.dup, 1) := by decide +kernel
theorem dX1_takeLink_40 : decode cX1_takeLink 40 = .ok (.getfield 32, 3) := by decide +kernel
theorem dX1_takeLink_43 : decode cX1_takeLink 43 = .ok (.iconst 1, 1) := by decide +kernel
theorem dX1_takeLink_44 : decode cX1_takeLink 44 = .ok (.isub, 1) := by decide +kernel
theorem dX1_takeLink_45 : decode cX1_takeLink 45 = .ok (.putfield 32, 3) := by decide +kernel
theorem dX1_takeLink_48 : decode cX1_takeLink 48 = .ok (.return_, 1) := by decide +kernel
set_option maxRecDepth 20000 in
theorem ggX1_turnRound_X3_turnRound : GoodIn wsX1_turnRound wsX3_turnRound := goodIn_r _ [10, 11, 12, 13, 9, 14, 15, 16, 17, 18, 19, 28] (by decide +kernel) (by decide +kernel)
set_option maxRecDepth 20000 in
theorem gX1_turnRound_X3_turnRound : GoodIn wsX1_turnRound (wsV RX1 47 RX3 yX3_turnRound wsX3_turnRound) := goodIn_app (goodIn_of _ (by decide +kernel)) ggX1_turnRound_X3_turnRound
set_option maxRecDepth 20000 in
theorem ggX1_turnRound_X3_at : GoodIn wsX1_turnRound wsX3_at := goodIn_r _ [14, 15, 28] (by decide +kernel) (by decide +kernel)
set_option maxRecDepth 20000 in
theorem gX1_turnRound_X3_at : GoodIn wsX1_turnRound (wsV RX1 50 RX3 yX3_at wsX3_at) := goodIn_app (goodIn_of _ (by decide +kernel)) ggX1_turnRound_X3_at
set_option maxRecDepth 20000 in
theorem ggX1_turnRound_X3_put : GoodIn wsX1_turnRound wsX3_put := goodIn_r _ [19, 15, 28] (by decide +kernel) (by decide +kernel)
set_option maxRecDepth 20000 in
theorem gX1_turnRound_X3_put : GoodIn wsX1_turnRound (wsV RX1 36 RX3 yX3_put wsX3_put) := goodIn_app (goodIn_of _ (by decide +kernel)) ggX1_turnRound_X3_put
theorem dX1_turnRound_0 : decode cX1_turnRound 0 = .ok (.aload_n 0, 1) := by decide +kernel
theorem dX1_turnRound_1 : decode cX1_turnRound 1 = .ok (.getfield 14, 3) := by decide +kernel
theorem dX1_turnRound_4 : decode cX1_turnRound 4 = .ok (.aload_n 0, 1) := by decide +kernel
theorem dX1_turnRound_5 : decode cX1_turnRound 5 = .ok (.getfield 32, 3) := by decide +kernel
theorem dX1_turnRound_8 : decode cX1_turnRound 8 = .ok (.invokevirtual 47, 3) := by decide +kernel
theorem dX1_turnRound_11 : decode cX1_turnRound 11 = .ok (.iconst 0, 1) := by decide +kernel
theorem dX1_turnRound_12 : decode cX1_turnRound 12 = .ok (.istore_n 1, 1) := by decide +kernel
theorem dX1_turnRound_13 : decode cX1_turnRound 13 = .ok (.iload_n 1, 1) := by decide +kernel
theorem dX1_turnRound_14 : decode cX1_turnRound 14 = .ok (.aload_n 0, 1) := by decide +kernel
theorem dX1_turnRound_15 : decode cX1_turnRound 15 = .ok (.getfield 32, 3) := by decide +kernel
theorem dX1_turnRound_18 : decode cX1_turnRound 18 = .ok (.if_icmp .ge 26, 3) := by decide +kernel
theorem dX1_turnRound_21 : decode cX1_turnRound 21 = .ok (.aload_n 0, 1) := by decide +kernel
theorem dX1_turnRound_22 : decode cX1_turnRound 22 = .ok (.getfield 14, 3) := by decide +kernel
theorem dX1_turnRound_25 : decode cX1_turnRound 25 = .ok (.iload_n 1, 1) := by decide +kernel
theorem dX1_turnRound_26 : decode cX1_turnRound 26 = .ok (.aload_n 0, 1) := by decide +kernel
theorem dX1_turnRound_27 : decode cX1_turnRound 27 = .ok (.getfield 14, 3) := by decide +kernel
theorem dX1_turnRound_30 : decode cX1_turnRound 30 = .ok (.iload_n 1, 1) := by decide +kernel
theorem dX1_turnRound_31 : decode cX1_turnRound 31 = .ok (.invokevirtual 50, 3) := by decide +kernel
theorem dX1_turnRound_34 : decode cX1_turnRound 34 = .ok (.ineg, 1) := by decide +kernel
theorem dX1_turnRound_35 : decode cX1_turnRound 35 = .ok (.invokevirtual 36, 3) := by decide +kernel
theorem dX1_turnRound_38 : decode cX1_turnRound 38 = .ok (.iinc 1 1, 3) := by decide +kernel
theorem dX1_turnRound_41 : decode cX1_turnRound 41 = .ok (.goto (-28), 3) := by decide +kernel
theorem dX1_turnRound_44 : decode cX1_turnRound 44 = .ok (.aload_n 0, 1) := by decide +kernel
theorem dX1_turnRound_45 : decode cX1_turnRound 45 = .ok (.getfield 20, 3) := by decide +kernel
theorem dX1_turnRound_48 : decode cX1_turnRound 48 = .ok (.aload_n 0, 1) := by decide +kernel
theorem dX1_turnRound_49 : decode cX1_turnRound 49 = .ok (.getfield 32, 3) := by decide +kernel
theorem dX1_turnRound_52 : decode cX1_turnRound 52 = .ok (.iconst 1, 1) := by decide +kernel
theorem dX1_turnRound_53 : decode cX1_turnRound 53 = .ok (.iadd, 1) := by decide +kernel
theorem dX1_turnRound_54 : decode cX1_turnRound 54 = .ok (.invokevirtual 47, 3) := by decide +kernel
theorem dX1_turnRound_57 : decode cX1_turnRound 57 = .ok (.aload_n 0, 1) := by decide +kernel
theorem dX1_turnRound_58 : decode cX1_turnRound 58 = .ok (.getfield 23, 3) := by decide +kernel
theorem dX1_turnRound_61 : decode cX1_turnRound 61 = .ok (.aload_n 0, 1) := by decide +kernel
theorem dX1_turnRound_62 : decode cX1_turnRound 62 = .ok (.getfield 32, 3) := by decide +kernel
theorem dX1_turnRound_65 : decode cX1_turnRound 65 = .ok (.iconst 1, 1) := by decide +kernel
theorem dX1_turnRound_66 : decode cX1_turnRound 66 = .ok (.iadd, 1) := by decide +kernel
theorem dX1_turnRound_67 : decode cX1_turnRound 67 = .ok (.invokevirtual 47, 3) := by decide +kernel
theorem dX1_turnRound_70 : decode cX1_turnRound 70 = .ok (.aload_n 0, 1) := by decide +kernel
theorem dX1_turnRound_71 : decode cX1_turnRound 71 = .ok (.getfield 26, 3) := by decide +kernel
theorem dX1_turnRound_74 : decode cX1_turnRound 74 = .ok (.aload_n 0, 1) := by decide +kernel
theorem dX1_turnRound_75 : decode cX1_turnRound 75 = .ok (.getfield 32, 3) := by decide +kernel
theorem dX1_turnRound_78 : decode cX1_turnRound 78 = .ok (.iconst 1, 1) := by decide +kernel
theorem dX1_turnRound_79 : decode cX1_turnRound 79 = .ok (.iadd, 1) := by decide +kernel
theorem dX1_turnRound_80 : decode cX1_turnRound 80 = .ok (.invokevirtual 47, 3) := by decide +kernel
theorem dX1_turnRound_83 : decode cX1_turnRound 83 = .ok (.return_, 1) := by decide +kernel
set_option maxRecDepth 20000 in
theorem ggX1_moveWeight_X3_at : GoodIn wsX1_moveWeight wsX3_at := goodIn_r _ [10, 11, 22] (by decide +kernel) (by decide +kernel)
set_option maxRecDepth 20000 in
theorem gX1_moveWeight_X3_at : GoodIn wsX1_moveWeight (wsV RX1 50 RX3 yX3_at wsX3_at) := goodIn_app (goodIn_of _ (by decide +kernel)) ggX1_moveWeight_X3_at
set_option maxRecDepth 20000 in
theorem ggX1_moveWeight_X3_put : GoodIn wsX1_moveWeight wsX3_put := goodIn_r _ [15, 11, 22] (by decide +kernel) (by decide +kernel)
set_option maxRecDepth 20000 in
theorem gX1_moveWeight_X3_put : GoodIn wsX1_moveWeight (wsV RX1 36 RX3 yX3_put wsX3_put) := goodIn_app (goodIn_of _ (by decide +kernel)) ggX1_moveWeight_X3_put
theorem dX1_moveWeight_0 : decode cX1_moveWeight 0 = .ok (.aload_n 0, 1) := by decide +kernel
theorem dX1_moveWeight_1 : decode cX1_moveWeight 1 = .ok (.getfield 20, 3) := by decide +kernel
theorem dX1_moveWeight_4 : decode cX1_moveWeight 4 = .ok (.iload_n 1, 1) := by decide +kernel
theorem dX1_moveWeight_5 : decode cX1_moveWeight 5 = .ok (.invokevirtual 50, 3) := by decide +kernel
theorem dX1_moveWeight_8 : decode cX1_moveWeight 8 = .ok (.bipush 99, 2) := by decide +kernel
theorem dX1_moveWeight_10 : decode cX1_moveWeight 10 = .ok (.aload_n 0, 1) := by decide +kernel
theorem dX1_moveWeight_11 : decode cX1_moveWeight 11 = .ok (.getfield 20, 3) := by decide +kernel
theorem dX1_moveWeight_14 : decode cX1_moveWeight 14 = .ok (.iload_n 2, 1) := by decide +kernel
theorem dX1_moveWeight_15 : decode cX1_moveWeight 15 = .ok (.invokevirtual 50, 3) := by decide +kernel
theorem dX1_moveWeight_18 : decode cX1_moveWeight 18 = .ok (.isub, 1) := by decide +kernel
theorem dX1_moveWeight_19 : decode cX1_moveWeight 19 = .ok (.invokestatic 54, 3) := by decide +kernel
theorem dX1_moveWeight_22 : decode cX1_moveWeight 22 = .ok (.istore_n 3, 1) := by decide +kernel
theorem dX1_moveWeight_23 : decode cX1_moveWeight 23 = .ok (.aload_n 0, 1) := by decide +kernel
theorem dX1_moveWeight_24 : decode cX1_moveWeight 24 = .ok (.getfield 20, 3) := by decide +kernel
theorem dX1_moveWeight_27 : decode cX1_moveWeight 27 = .ok (.iload_n 1, 1) := by decide +kernel
theorem dX1_moveWeight_28 : decode cX1_moveWeight 28 = .ok (.aload_n 0, 1) := by decide +kernel
theorem dX1_moveWeight_29 : decode cX1_moveWeight 29 = .ok (.getfield 20, 3) := by decide +kernel
theorem dX1_moveWeight_32 : decode cX1_moveWeight 32 = .ok (.iload_n 1, 1) := by decide +kernel
theorem dX1_moveWeight_33 : decode cX1_moveWeight 33 = .ok (.invokevirtual 50, 3) := by decide +kernel
theorem dX1_moveWeight_36 : decode cX1_moveWeight 36 = .ok (.iload_n 3, 1) := by decide +kernel
theorem dX1_moveWeight_37 : decode cX1_moveWeight 37 = .ok (.isub, 1) := by decide +kernel
theorem dX1_moveWeight_38 : decode cX1_moveWeight 38 = .ok (.invokevirtual 36, 3) := by decide +kernel
theorem dX1_moveWeight_41 : decode cX1_moveWeight 41 = .ok (.aload_n 0, 1) := by decide +kernel
theorem dX1_moveWeight_42 : decode cX1_moveWeight 42 = .ok (.getfield 20, 3) := by decide +kernel
theorem dX1_moveWeight_45 : decode cX1_moveWeight 45 = .ok (.iload_n 2, 1) := by decide +kernel
theorem dX1_moveWeight_46 : decode cX1_moveWeight 46 = .ok (.aload_n 0, 1) := by decide +kernel
theorem dX1_moveWeight_47 : decode cX1_moveWeight 47 = .ok (.getfield 20, 3) := by decide +kernel
theorem dX1_moveWeight_50 : decode cX1_moveWeight 50 = .ok (.iload_n 2, 1) := by decide +kernel
theorem dX1_moveWeight_51 : decode cX1_moveWeight 51 = .ok (.invokevirtual 50, 3) := by decide +kernel
theorem dX1_moveWeight_54 : decode cX1_moveWeight 54 = .ok (.iload_n 3, 1) := by decide +kernel
theorem dX1_moveWeight_55 : decode cX1_moveWeight 55 = .ok (.iadd, 1) := by decide +kernel
theorem dX1_moveWeight_56 : decode cX1_moveWeight 56 = .ok (.invokevirtual 36, 3) := by decide +kernel
theorem dX1_moveWeight_59 : decode cX1_moveWeight 59 = .ok (.iload_n 3, 1) := by decide +kernel
theorem dX1_moveWeight_60 : decode cX1_moveWeight 60 = .ok (.ireturn, 1) := by decide +kernel
set_option maxRecDepth 20000 in
theorem ggX2_init_X1_init : GoodIn wsX2_init wsX1_init := goodIn_r _ [12, 13, 2, 3, 14, 15, 16, 17, 18, 19, 20, 21, 22, 23, 24, 25, 26, 27, 28, 29, 30, 31, 32, 42, 36, 37, 38, 39, 40, 41] (by decide +kernel) (by decide +kernel)
set_option maxRecDepth 20000 in
theorem gX2_init_X1_init : GoodIn wsX2_init (wsX1_init) := ggX2_init_X1_init
theorem dX2_init_0 : decode cX2_init 0 = .ok (.aload_n 0, 1) := by decide +kernel
theorem dX2_init_1 : decode cX2_init 1 = .ok (.invokespecial 3, 3) := by decide +kernel
theorem dX2_init_4 : decode cX2_init 4 = .ok (.aload_n 0, 1) := by decide +kernel
theorem dX2_init_5 : decode cX2_init 5 = .ok (.bipush 6, 2) := by decide +kernel
theorem dX2_init_7 : decode cX2_init 7 = .ok (.anewarray 9, 3) := by decide +kernel
theorem dX2_init_10 : decode cX2_init 10 = .ok (.putfield 11, 3) := by decide +kernel
theorem dX2_init_13 : decode cX2_init 13 = .ok (.aload_n 0, 1) := by decide +kernel
theorem dX2_init_14 : decode cX2_init 14 = .ok (.iconst 0, 1) := by decide +kernel
theorem dX2_init_15 : decode cX2_init 15 = .ok (.putfield 17, 3) := by decide +kernel
theorem dX2_init_18 : decode cX2_init 18 = .ok (.aload_n 0, 1) := by decide +kernel
theorem dX2_init_19 : decode cX2_init 19 = .ok (.iconst 0, 1) := by decide +kernel
theorem dX2_init_20 : decode cX2_init 20 = .ok (.putfield 21, 3) := by decide +kernel
theorem dX2_init_23 : decode cX2_init 23 = .ok (.iconst 0, 1) := by decide +kernel
theorem dX2_init_24 : decode cX2_init 24 = .ok (.istore_n 1, 1) := by decide +kernel
theorem dX2_init_25 : decode cX2_init 25 = .ok (.iload_n 1, 1) := by decide +kernel
theorem dX2_init_26 : decode cX2_init 26 = .ok (.aload_n 0, 1) := by decide +kernel
theorem dX2_init_27 : decode cX2_init 27 = .ok (.getfield 11, 3) := by decide +kernel
theorem dX2_init_30 : decode cX2_init 30 = .ok (.arraylength, 1) := by decide +kernel
theorem dX2_init_31 : decode cX2_init 31 = .ok (.if_icmp .ge 22, 3) := by decide +kernel
theorem dX2_init_34 : decode cX2_init 34 = .ok (.aload_n 0, 1) := by decide +kernel
theorem dX2_init_35 : decode cX2_init 35 = .ok (.getfield 11, 3) := by decide +kernel
theorem dX2_init_38 : decode cX2_init 38 = .ok (.iload_n 1, 1) := by decide +kernel
theorem dX2_init_39 : decode cX2_init 39 = .ok (.new 9, 3) := by decide +kernel
theorem dX2_init_42 : decode cX2_init 42 = .ok (.dup, 1) := by decide +kernel
theorem dX2_init_43 : decode cX2_init 43 = .ok (.invokespecial 24, 3) := by decide +kernel
theorem dX2_init_46 : decode cX2_init 46 = .ok (.aastore, 1) := by decide +kernel
theorem dX2_init_47 : decode cX2_init 47 = .ok (.iinc 1 1, 3) := by decide +kernel
theorem dX2_init_50 : decode cX2_init 50 = .ok (.goto (-25), 3) := by decide +kernel
theorem dX2_init_53 : decode cX2_init 53 = .ok (.return_, 1) := by decide +kernel
set_option maxRecDepth 20000 in
theorem ggX2_save_X2_latest : GoodIn wsX2_save wsX2_latest := goodIn_r _ [7, 1, 2, 8, 30, 31, 32] (by decide +kernel) (by decide +kernel)
set_option maxRecDepth 20000 in
theorem gX2_save_X2_latest : GoodIn wsX2_save (wsV RX2 25 RX2 yX2_latest wsX2_latest) := goodIn_app (goodIn_of _ (by decide +kernel)) ggX2_save_X2_latest
set_option maxRecDepth 20000 in
theorem ggX2_save_X1_copyFrom : GoodIn wsX2_save wsX1_copyFrom := goodIn_r _ [13, 14, 15, 16, 17, 18, 19, 20, 21, 22, 23, 24, 25, 26, 27, 28, 29, 33, 34, 35, 36, 37, 38, 39] (by decide +kernel) (by decide +kernel)
set_option maxRecDepth 20000 in
theorem gX2_save_X1_copyFrom : GoodIn wsX2_save (wsV RX2 29 RX1 yX1_copyFrom wsX1_copyFrom) := goodIn_app (goodIn_of _ (by decide +kernel)) ggX2_save_X1_copyFrom
theorem dX2_save_0 : decode cX2_save 0 = .ok (.aload_n 0, 1) := by decide +kernel
theorem dX2_save_1 : decode cX2_save 1 = .ok (.getfield 21, 3) := by decide +kernel
theorem dX2_save_4 : decode cX2_save 4 = .ok (.bipush 6, 2) := by decide +kernel
theorem dX2_save_6 : decode cX2_save 6 = .ok (.if_icmp .ge 16, 3) := by decide +kernel
theorem dX2_save_9 : decode cX2_save 9 = .ok (.aload_n 0, 1) := by decide +kernel
theorem dX2_save_10 : decode cX2_save 10 = .ok (.dup, 1) := by decide +kernel
theorem dX2_save_11 : decode cX2_save 11 = .ok (.getfield 21, 3) := by decide +kernel
theorem dX2_save_14 : decode cX2_save 14 = .ok (.iconst 1, 1) := by decide +kernel
theorem dX2_save_15 : decode cX2_save 15 = .ok (.iadd, 1) := by decide +kernel
theorem dX2_save_16 : decode cX2_save 16 = .ok (.putfield 21, 3) := by decide +kernel
theorem dX2_save_19 : decode cX2_save 19 = .ok (.goto 16, 3) := by decide +kernel
theorem dX2_save_22 : decode cX2_save 22 = .ok (.aload_n 0, 1) := by decide +kernel
theorem dX2_save_23 : decode cX2_save 23 = .ok (.aload_n 0, 1) := by decide +kernel
theorem dX2_save_24 : decode cX2_save 24 = .ok (.getfield 17, 3) := by decide +kernel
theorem dX2_save_27 : decode cX2_save 27 = .ok (.iconst 1, 1) := by decide +kernel
theorem dX2_save_28 : decode cX2_save 28 = .ok (.iadd, 1) := by decide +kernel
theorem dX2_save_29 : decode cX2_save 29 = .ok (.bipush 6, 2) := by decide +kernel
theorem dX2_save_31 : decode cX2_save 31 = .ok (.irem, 1) := by decide +kernel
theorem dX2_save_32 : decode cX2_save 32 = .ok (.putfield 17, 3) := by decide +kernel
theorem dX2_save_35 : decode cX2_save 35 = .ok (.aload_n 0, 1) := by decide +kernel
theorem dX2_save_36 : decode cX2_save 36 = .ok (.invokevirtual 25, 3) := by decide +kernel
theorem dX2_save_39 : decode cX2_save 39 = .ok (.astore_n 2, 1) := by decide +kernel
theorem dX2_save_40 : decode cX2_save 40 = .ok (.aload_n 2, 1) := by decide +kernel
theorem dX2_save_41 : decode cX2_save 41 = .ok (.ifnull 8, 3) := by decide +kernel
theorem dX2_save_44 : decode cX2_save 44 = .ok (.aload_n 2, 1) := by decide +kernel
theorem dX2_save_45 : decode cX2_save 45 = .ok (.aload_n 1, 1) := by decide +kernel
theorem dX2_save_46 : decode cX2_save 46 = .ok (.invokevirtual 29, 3) := by decide +kernel
theorem dX2_save_49 : decode cX2_save 49 = .ok (.return_, 1) := by decide +kernel
set_option maxRecDepth 20000 in
theorem ggX2_restore_X2_latest : GoodIn wsX2_restore wsX2_latest := goodIn_r _ [6, 1, 7, 8, 30, 31, 32] (by decide +kernel) (by decide +kernel)
set_option maxRecDepth 20000 in
theorem gX2_restore_X2_latest : GoodIn wsX2_restore (wsV RX2 25 RX2 yX2_latest wsX2_latest) := goodIn_app (goodIn_of _ (by decide +kernel)) ggX2_restore_X2_latest
set_option maxRecDepth 20000 in
theorem ggX2_restore_X1_copyFrom : GoodIn wsX2_restore wsX1_copyFrom := goodIn_r _ [13, 14, 15, 16, 17, 18, 19, 20, 21, 22, 23, 24, 25, 26, 27, 28, 29, 33, 34, 35, 36, 37, 38, 39] (by decide +kernel) (by decide +kernel)
set_option maxRecDepth 20000 in
theorem gX2_restore_X1_copyFrom : GoodIn wsX2_restore (wsV RX2 29 RX1 yX1_copyFrom wsX1_copyFrom) := goodIn_app (goodIn_of _ (by decide +kernel)) ggX2_restore_X1_copyFrom
theorem dX2_restore_0 : decode cX2_restore 0 = .ok (.aload_n 0, 1) := by decide +kernel
theorem dX2_restore_1 : decode cX2_restore 1 = .ok (.invokevirtual 25, 3) := by decide +kernel
theorem dX2_restore_4 : decode cX2_restore 4 = .ok (.astore_n 2, 1) := by decide +kernel
theorem dX2_restore_5 : decode cX2_restore 5 = .ok (.aload_n 2, 1) := by decide +kernel
theorem dX2_restore_6 : decode cX2_restore 6 = .ok (.ifnull 18, 3) := by decide +kernel
theorem dX2_restore_9 : decode cX2_restore 9 = .ok (.aload_n 1, 1) := by decide +kernel
theorem dX2_restore_10 : decode cX2_restore 10 = .ok (.aload_n 2, 1) := by decide +kernel
theorem dX2_restore_11 : decode cX2_restore 11 = .ok (.invokevirtual 29, 3) := by decide +kernel
theorem dX2_restore_14 : decode cX2_restore 14 = .ok (.aload_n 0, 1) := by decide +kernel
theorem dX2_restore_15 : decode cX2_restore 15 = .ok (.dup, 1) := by decide +kernel
theorem dX2_restore_16 : decode cX2_restore 16 = .ok (.getfield 21, 3) := by decide +kernel
theorem dX2_restore_19 : decode cX2_restore 19 = .ok (.iconst 1, 1) := by decide +kernel
theorem dX2_restore_20 : decode cX2_restore 20 = .ok (.isub, 1) := by decide +kernel
theorem dX2_restore_21 : decode cX2_restore 21 = .ok (.putfield 21, 3) := by decide +kernel
theorem dX2_restore_24 : decode cX2_restore 24 = .ok (.return_, 1) := by decide +kernel
theorem dX2_latest_0 : decode cX2_latest 0 = .ok (.aload_n 0, 1) := by decide +kernel
theorem dX2_latest_1 : decode cX2_latest 1 = .ok (.getfield 21, 3) := by decide +kernel
theorem dX2_latest_4 : decode cX2_latest 4 = .ok (.ifCond .gt 5, 3) := by decide +kernel
theorem dX2_latest_7 : decode cX2_latest 7 = .ok (.aconst_null, 1) := by decide +kernel
theorem dX2_latest_8 : decode cX2_latest 8 = .ok (.areturn, 1) := by decide +kernel
theorem dX2_latest_9 : decode cX2_latest 9 = .ok (.aload_n 0, 1) := by decide +kernel
theorem dX2_latest_10 : decode cX2_latest 10 = .ok (.getfield 17, 3) := by decide +kernel
theorem dX2_latest_13 : decode cX2_latest 13 = .ok (.aload_n 0, 1) := by decide +kernel
theorem dX2_latest_14 : decode cX2_latest 14 = .ok (.getfield 21, 3) := by decide +kernel
theorem dX2_latest_17 : decode cX2_latest 17 = .ok (.iadd, 1) := by decide +kernel
theorem dX2_latest_18 : decode cX2_latest 18 = .ok (.iconst 1, 1) := by decide +kernel
theorem dX2_latest_19 : decode cX2_latest 19 = .ok (.isub, 1) := by decide +kernel
theorem dX2_latest_20 : decode cX2_latest 20 = .ok (.bipush 6, 2) := by decide +kernel
theorem dX2_latest_22 : decode cX2_latest 22 = .ok (.irem, 1) := by decide +kernel
theorem dX2_latest_23 : decode cX2_latest 23 = .ok (.istore_n 1, 1) := by decide +kernel
theorem dX2_latest_24 : decode cX2_latest 24 = .ok (.iload_n 1, 1) := by decide +kernel
theorem dX2_latest_25 : decode cX2_latest 25 = .ok (.ifCond .lt 21, 3) := by decide +kernel
theorem dX2_latest_28 : decode cX2_latest 28 = .ok (.iload_n 1, 1) := by decide +kernel
theorem dX2_latest_29 : decode cX2_latest 29 = .ok (.aload_n 0, 1) := by decide +kernel
theorem dX2_latest_30 : decode cX2_latest 30 = .ok (.getfield 11, 3) := by decide +kernel
theorem dX2_latest_33 : decode cX2_latest 33 = .ok (.arraylength, 1) := by decide +kernel
theorem dX2_latest_34 : decode cX2_latest 34 = .ok (.if_icmp .ge 12, 3) := by decide +kernel
theorem dX2_latest_37 : decode cX2_latest 37 = .ok (.aload_n 0, 1) := by decide +kernel
theorem dX2_latest_38 : decode cX2_latest 38 = .ok (.getfield 11, 3) := by decide +kernel
theorem dX2_latest_41 : decode cX2_latest 41 = .ok (.iload_n 1, 1) := by decide +kernel
theorem dX2_latest_42 : decode cX2_latest 42 = .ok (.aaload, 1) := by decide +kernel
theorem dX2_latest_43 : decode cX2_latest 43 = .ok (.goto 4, 3) := by decide +kernel
theorem dX2_latest_46 : decode cX2_latest 46 = .ok (.aconst_null, 1) := by decide +kernel
theorem dX2_latest_47 : decode cX2_latest 47 = .ok (.areturn, 1) := by decide +kernel
theorem dX3_init_0 : decode cX3_init 0 = .ok (.aload_n 0, 1) := by decide +kernel
theorem dX3_init_1 : decode cX3_init 1 = .ok (.invokespecial 1, 3) := by decide +kernel
theorem dX3_init_4 : decode cX3_init 4 = .ok (.aload_n 0, 1) := by decide +kernel
theorem dX3_init_5 : decode cX3_init 5 = .ok (.iload_n 1, 1) := by decide +kernel
theorem dX3_init_6 : decode cX3_init 6 = .ok (.ifCond .ge 7, 3) := by decide +kernel
theorem dX3_init_9 : decode cX3_init 9 = .ok (.iconst 0, 1) := by decide +kernel
theorem dX3_init_10 : decode cX3_init 10 = .ok (.goto 4, 3) := by decide +kernel
theorem dX3_init_13 : decode cX3_init 13 = .ok (.iload_n 1, 1) := by decide +kernel
theorem dX3_init_14 : decode cX3_init 14 = .ok (.newarray .int, 2) := by decide +kernel
theorem dX3_init_16 : decode cX3_init 16 = .ok (.putfield 7, 3) := by decide +kernel
theorem dX3_init_19 : decode cX3_init 19 = .ok (.return_, 1) := by decide +kernel
theorem dX3_at_0 : decode cX3_at 0 = .ok (.iload_n 1, 1) := by decide +kernel
theorem dX3_at_1 : decode cX3_at 1 = .ok (.ifCond .lt 21, 3) := by decide +kernel
theorem dX3_at_4 : decode cX3_at 4 = .ok (.iload_n 1, 1) := by decide +kernel
theorem dX3_at_5 : decode cX3_at 5 = .ok (.aload_n 0, 1) := by decide +kernel
theorem dX3_at_6 : decode cX3_at 6 = .ok (.getfield 7, 3) := by decide +kernel
theorem dX3_at_9 : decode cX3_at 9 = .ok (.arraylength, 1) := by decide +kernel
theorem dX3_at_10 : decode cX3_at 10 = .ok (.if_icmp .ge 12, 3) := by decide +kernel
theorem dX3_at_13 : decode cX3_at 13 = .ok (.aload_n 0, 1) := by decide +kernel
theorem dX3_at_14 : decode cX3_at 14 = .ok (.getfield 7, 3) := by decide +kernel
theorem dX3_at_17 : decode cX3_at 17 = .ok (.iload_n 1, 1) := by decide +kernel
theorem dX3_at_18 : decode cX3_at 18 = .ok (.iaload, 1) := by decide +kernel
theorem dX3_at_19 : decode cX3_at 19 = .ok (.goto 4, 3) := by decide +kernel
theorem dX3_at_22 : decode cX3_at 22 = .ok (.iconst 0, 1) := by decide +kernel
theorem dX3_at_23 : decode cX3_at 23 = .ok (.ireturn, 1) := by decide +kernel
theorem dX3_put_0 : decode cX3_put 0 = .ok (.iload_n 1, 1) := by decide +kernel
theorem dX3_put_1 : decode cX3_put 1 = .ok (.ifCond .lt 19, 3) := by decide +kernel
theorem dX3_put_4 : decode cX3_put 4 = .ok (.iload_n 1, 1) := by decide +kernel
theorem dX3_put_5 : decode cX3_put 5 = .ok (.aload_n 0, 1) := by decide +kernel
theorem dX3_put_6 : decode cX3_put 6 = .ok (.getfield 7, 3) := by decide +kernel
theorem dX3_put_9 : decode cX3_put 9 = .ok (.arraylength, 1) := by decide +kernel
theorem dX3_put_10 : decode cX3_put 10 = .ok (.if_icmp .ge 10, 3) := by decide +kernel
theorem dX3_put_13 : decode cX3_put 13 = .ok (.aload_n 0, 1) := by decide +kernel
theorem dX3_put_14 : decode cX3_put 14 = .ok (.getfield 7, 3) := by decide +kernel
theorem dX3_put_17 : decode cX3_put 17 = .ok (.iload_n 1, 1) := by decide +kernel
theorem dX3_put_18 : decode cX3_put 18 = .ok (.iload_n 2, 1) := by decide +kernel
theorem dX3_put_19 : decode cX3_put 19 = .ok (.iastore, 1) := by decide +kernel
theorem dX3_put_20 : decode cX3_put 20 = .ok (.return_, 1) := by decide +kernel
theorem dX3_sum_0 : decode cX3_sum 0 = .ok (.iconst 0, 1) := by decide +kernel
theorem dX3_sum_1 : decode cX3_sum 1 = .ok (.istore_n 2, 1) := by decide +kernel
theorem dX3_sum_2 : decode cX3_sum 2 = .ok (.iconst 0, 1) := by decide +kernel
theorem dX3_sum_3 : decode cX3_sum 3 = .ok (.istore_n 3, 1) := by decide +kernel
theorem dX3_sum_4 : decode cX3_sum 4 = .ok (.iload_n 3, 1) := by decide +kernel
theorem dX3_sum_5 : decode cX3_sum 5 = .ok (.iload_n 1, 1) := by decide +kernel
theorem dX3_sum_6 : decode cX3_sum 6 = .ok (.if_icmp .ge 27, 3) := by decide +kernel
theorem dX3_sum_9 : decode cX3_sum 9 = .ok (.iload_n 3, 1) := by decide +kernel
theorem dX3_sum_10 : decode cX3_sum 10 = .ok (.aload_n 0, 1) := by decide +kernel
theorem dX3_sum_11 : decode cX3_sum 11 = .ok (.getfield 7, 3) := by decide +kernel
theorem dX3_sum_14 : decode cX3_sum 14 = .ok (.arraylength, 1) := by decide +kernel
theorem dX3_sum_15 : decode cX3_sum 15 = .ok (.if_icmp .ge 18, 3) := by decide +kernel
theorem dX3_sum_18 : decode cX3_sum 18 = .ok (.iload_n 2, 1) := by decide +kernel
theorem dX3_sum_19 : decode cX3_sum 19 = .ok (.aload_n 0, 1) := by decide +kernel
theorem dX3_sum_20 : decode cX3_sum 20 = .ok (.getfield 7, 3) := by decide +kernel
theorem dX3_sum_23 : decode cX3_sum 23 = .ok (.iload_n 3, 1) := by decide +kernel
theorem dX3_sum_24 : decode cX3_sum 24 = .ok (.iaload, 1) := by decide +kernel
theorem dX3_sum_25 : decode cX3_sum 25 = .ok (.iadd, 1) := by decide +kernel
theorem dX3_sum_26 : decode cX3_sum 26 = .ok (.istore_n 2, 1) := by decide +kernel
theorem dX3_sum_27 : decode cX3_sum 27 = .ok (.iinc 3 1, 3) := by decide +kernel
theorem dX3_sum_30 : decode cX3_sum 30 = .ok (.goto (-26), 3) := by decide +kernel
theorem dX3_sum_33 : decode cX3_sum 33 = .ok (.iload_n 2, 1) := by decide +kernel
theorem dX3_sum_34 : decode cX3_sum 34 = .ok (.ireturn, 1) := by decide +kernel
set_option maxRecDepth 20000 in
theorem ggX3_copyFrom_X3_at : GoodIn wsX3_copyFrom wsX3_at := goodIn_r _ [6, 1, 7] (by decide +kernel) (by decide +kernel)
set_option maxRecDepth 20000 in
theorem gX3_copyFrom_X3_at : GoodIn wsX3_copyFrom (wsV RX3 13 RX3 yX3_at wsX3_at) := goodIn_app (goodIn_of _ (by decide +kernel)) ggX3_copyFrom_X3_at
theorem dX3_copyFrom_0 : decode cX3_copyFrom 0 = .ok (.iconst 0, 1) := by decide +kernel
theorem dX3_copyFrom_1 : decode cX3_copyFrom 1 = .ok (.istore_n 2, 1) := by decide +kernel
theorem dX3_copyFrom_2 : decode cX3_copyFrom 2 = .ok (.iload_n 2, 1) := by decide +kernel
theorem dX3_copyFrom_3 : decode cX3_copyFrom 3 = .ok (.aload_n 0, 1) := by decide +kernel
theorem dX3_copyFrom_4 : decode cX3_copyFrom 4 = .ok (.getfield 7, 3) := by decide +kernel
theorem dX3_copyFrom_7 : decode cX3_copyFrom 7 = .ok (.arraylength, 1) := by decide +kernel
theorem dX3_copyFrom_8 : decode cX3_copyFrom 8 = .ok (.if_icmp .ge 20, 3) := by decide +kernel
theorem dX3_copyFrom_11 : decode cX3_copyFrom 11 = .ok (.aload_n 0, 1) := by decide +kernel
theorem dX3_copyFrom_12 : decode cX3_copyFrom 12 = .ok (.getfield 7, 3) := by decide +kernel
theorem dX3_copyFrom_15 : decode cX3_copyFrom 15 = .ok (.iload_n 2, 1) := by decide +kernel
theorem dX3_copyFrom_16 : decode cX3_copyFrom 16 = .ok (.aload_n 1, 1) := by decide +kernel
theorem dX3_copyFrom_17 : decode cX3_copyFrom 17 = .ok (.iload_n 2, 1) := by decide +kernel
theorem dX3_copyFrom_18 : decode cX3_copyFrom 18 = .ok (.invokevirtual 13, 3) := by decide +kernel
theorem dX3_copyFrom_21 : decode cX3_copyFrom 21 = .ok (.iastore, 1) := by decide +kernel
theorem dX3_copyFrom_22 : decode cX3_copyFrom 22 = .ok (.iinc 2 1, 3) := by decide +kernel
theorem dX3_copyFrom_25 : decode cX3_copyFrom 25 = .ok (.goto (-23), 3) := by decide +kernel
theorem dX3_copyFrom_28 : decode cX3_copyFrom 28 = .ok (.return_, 1) := by decide +kernel
set_option maxRecDepth 20000 in
theorem ggX3_takeOut_X3_at : GoodIn wsX3_takeOut wsX3_at := goodIn_r _ [6, 1, 11] (by decide +kernel) (by decide +kernel)
set_option maxRecDepth 20000 in
theorem gX3_takeOut_X3_at : GoodIn wsX3_takeOut (wsV RX3 13 RX3 yX3_at wsX3_at) := goodIn_app (goodIn_of _ (by decide +kernel)) ggX3_takeOut_X3_at
set_option maxRecDepth 20000 in
theorem ggX3_takeOut_X3_put : GoodIn wsX3_takeOut wsX3_put := goodIn_r _ [10, 1, 11] (by decide +kernel) (by decide +kernel)
set_option maxRecDepth 20000 in
theorem gX3_takeOut_X3_put : GoodIn wsX3_takeOut (wsV RX3 17 RX3 yX3_put wsX3_put) := goodIn_app (goodIn_of _ (by decide +kernel)) ggX3_takeOut_X3_put
theorem dX3_takeOut_0 : decode cX3_takeOut 0 = .ok (.iload_n 1, 1) := by decide +kernel
theorem dX3_takeOut_1 : decode cX3_takeOut 1 = .ok (.istore_n 2, 1) := by decide +kernel
theorem dX3_takeOut_2 : decode cX3_takeOut 2 = .ok (.iload_n 2, 1) := by decide +kernel
theorem dX3_takeOut_3 : decode cX3_takeOut 3 = .ok (.aload_n 0, 1) := by decide +kernel
theorem dX3_takeOut_4 : decode cX3_takeOut 4 = .ok (.getfield 7, 3) := by decide +kernel
theorem dX3_takeOut_7 : decode cX3_takeOut 7 = .ok (.arraylength, 1) := by decide +kernel
theorem dX3_takeOut_8 : decode cX3_takeOut 8 = .ok (.if_icmp .ge 21, 3) := by decide +kernel
theorem dX3_takeOut_11 : decode cX3_takeOut 11 = .ok (.aload_n 0, 1) := by decide +kernel
theorem dX3_takeOut_12 : decode cX3_takeOut 12 = .ok (.iload_n 2, 1) := by decide +kernel
theorem dX3_takeOut_13 : decode cX3_takeOut 13 = .ok (.aload_n 0, 1) := by decide +kernel
theorem dX3_takeOut_14 : decode cX3_takeOut 14 = .ok (.iload_n 2, 1) := by decide +kernel
theorem dX3_takeOut_15 : decode cX3_takeOut 15 = .ok (.iconst 1, 1) := by decide +kernel
theorem dX3_takeOut_16 : decode cX3_takeOut 16 = .ok (.iadd, 1) := by decide +kernel
theorem dX3_takeOut_17 : decode cX3_takeOut 17 = .ok (.invokevirtual 13, 3) := by decide +kernel
theorem dX3_takeOut_20 : decode cX3_takeOut 20 = .ok (.invokevirtual 17, 3) := by decide +kernel
theorem dX3_takeOut_23 : decode cX3_takeOut 23 = .ok (.iinc 2 1, 3) := by decide +kernel
theorem dX3_takeOut_26 : decode cX3_takeOut 26 = .ok (.goto (-24), 3) := by decide +kernel
theorem dX3_takeOut_29 : decode cX3_takeOut 29 = .ok (.return_, 1) := by decide +kernel
set_option maxRecDepth 20000 in
theorem ggX3_turnRound_X3_at : GoodIn wsX3_turnRound wsX3_at := goodIn_r _ [5, 6, 11] (by decide +kernel) (by decide +kernel)
set_option maxRecDepth 20000 in
theorem gX3_turnRound_X3_at : GoodIn wsX3_turnRound (wsV RX3 13 RX3 yX3_at wsX3_at) := goodIn_app (goodIn_of _ (by decide +kernel)) ggX3_turnRound_X3_at
set_option maxRecDepth 20000 in
theorem ggX3_turnRound_X3_put : GoodIn wsX3_turnRound wsX3_put := goodIn_r _ [10, 6, 11] (by decide +kernel) (by decide +kernel)
set_option maxRecDepth 20000 in
theorem gX3_turnRound_X3_put : GoodIn wsX3_turnRound (wsV RX3 17 RX3 yX3_put wsX3_put) := goodIn_app (goodIn_of _ (by decide +kernel)) ggX3_turnRound_X3_put
theorem dX3_turnRound_0 : decode cX3_turnRound 0 = .ok (.iload_n 1, 1) := by decide +kernel
theorem dX3_turnRound_1 : decode cX3_turnRound 1 = .ok (.iconst 1, 1) := by decide +kernel
theorem dX3_turnRound_2 : decode cX3_turnRound 2 = .ok (.isub, 1) := by decide +kernel
theorem dX3_turnRound_3 : decode cX3_turnRound 3 = .ok (.istore_n 2, 1) := by decide +kernel
theorem dX3_turnRound_4 : decode cX3_turnRound 4 = .ok (.iconst 0, 1) := by decide +kernel
theorem dX3_turnRound_5 : decode cX3_turnRound 5 = .ok (.istore_n 3, 1) := by decide +kernel
theorem dX3_turnRound_6 : decode cX3_turnRound 6 = .ok (.iload_n 3, 1) := by decide +kernel
theorem dX3_turnRound_7 : decode cX3_turnRound 7 = .ok (.iload_n 2, 1) := by decide +kernel
theorem dX3_turnRound_8 : decode cX3_turnRound 8 = .ok (.if_icmp .ge 36, 3) := by decide +kernel
theorem dX3_turnRound_11 : decode cX3_turnRound 11 = .ok (.aload_n 0, 1) := by decide +kernel
theorem dX3_turnRound_12 : decode cX3_turnRound 12 = .ok (.iload_n 3, 1) := by decide +kernel
theorem dX3_turnRound_13 : decode cX3_turnRound 13 = .ok (.invokevirtual 13, 3) := by decide +kernel
theorem dX3_turnRound_16 : decode cX3_turnRound 16 = .ok (.istore 4, 2) := by decide +kernel
theorem dX3_turnRound_18 : decode cX3_turnRound 18 = .ok (.aload_n 0, 1) := by decide +kernel
theorem dX3_turnRound_19 : decode cX3_turnRound 19 = .ok (.iload_n 3, 1) := by decide +kernel
theorem dX3_turnRound_20 : decode cX3_turnRound 20 = .ok (.aload_n 0, 1) := by decide +kernel
theorem dX3_turnRound_21 : decode cX3_turnRound 21 = .ok (.iload_n 2, 1) := by decide +kernel
theorem dX3_turnRound_22 : decode cX3_turnRound 22 = .ok (.invokevirtual 13, 3) := by decide +kernel
theorem dX3_turnRound_25 : decode cX3_turnRound 25 = .ok (.invokevirtual 17, 3) := by decide +kernel
theorem dX3_turnRound_28 : decode cX3_turnRound 28 = .ok (.aload_n 0, 1) := by decide +kernel
theorem dX3_turnRound_29 : decode cX3_turnRound 29 = .ok (.iload_n 2, 1) := by decide +kernel
theorem dX3_turnRound_30 : decode cX3_turnRound 30 = .ok (.iload 4, 2) := by decide +kernel
theorem dX3_turnRound_32 : decode cX3_turnRound 32 = .ok (.invokevirtual 17, 3) := by decide +kernel
theorem dX3_turnRound_35 : decode cX3_turnRound 35 = .ok (.iinc 2 (-1), 3) := by decide +kernel
theorem dX3_turnRound_38 : decode cX3_turnRound 38 = .ok (.iinc 3 1, 3) := by decide +kernel
theorem dX3_turnRound_41 : decode cX3_turnRound 41 = .ok (.goto (-35), 3) := by decide +kernel
theorem dX3_turnRound_44 : decode cX3_turnRound 44 = .ok (.return_, 1) := by decide +kernel
set_option maxRecDepth 20000 in
theorem ggX4_init_X3_init : GoodIn wsX4_init wsX3_init := goodIn_r _ [13, 14, 2, 3, 15, 16, 17] (by decide +kernel) (by decide +kernel)
set_option maxRecDepth 20000 in
theorem gX4_init_X3_init : GoodIn wsX4_init (wsX3_init) := ggX4_init_X3_init
theorem dX4_init_0 : decode cX4_init 0 = .ok (.aload_n 0, 1) := by decide +kernel
theorem dX4_init_1 : decode cX4_init 1 = .ok (.invokespecial 3, 3) := by decide +kernel
theorem dX4_init_4 : decode cX4_init 4 = .ok (.aload_n 0, 1) := by decide +kernel
theorem dX4_init_5 : decode cX4_init 5 = .ok (.new 9, 3) := by decide +kernel
theorem dX4_init_8 : decode cX4_init 8 = .ok (.dup, 1) := by decide +kernel
theorem dX4_init_9 : decode cX4_init 9 = .ok (.bipush 20, 2) := by decide +kernel
theorem dX4_init_11 : decode cX4_init 11 = .ok (.invokespecial 11, 3) := by decide +kernel
theorem dX4_init_14 : decode cX4_init 14 = .ok (.putfield 14, 3) := by decide +kernel
theorem dX4_init_17 : decode cX4_init 17 = .ok (.aload_n 0, 1) := by decide +kernel
theorem dX4_init_18 : decode cX4_init 18 = .ok (.new 9, 3) := by decide +kernel
theorem dX4_init_21 : decode cX4_init 21 = .ok (.dup, 1) := by decide +kernel
theorem dX4_init_22 : decode cX4_init 22 = .ok (.bipush 21, 2) := by decide +kernel
theorem dX4_init_24 : decode cX4_init 24 = .ok (.invokespecial 11, 3) := by decide +kernel
theorem dX4_init_27 : decode cX4_init 27 = .ok (.putfield 20, 3) := by decide +kernel
theorem dX4_init_30 : decode cX4_init 30 = .ok (.aload_n 0, 1) := by decide +kernel
theorem dX4_init_31 : decode cX4_init 31 = .ok (.iconst 0, 1) := by decide +kernel
theorem dX4_init_32 : decode cX4_init 32 = .ok (.putfield 23, 3) := by decide +kernel
theorem dX4_init_35 : decode cX4_init 35 = .ok (.aload_n 0, 1) := by decide +kernel
theorem dX4_init_36 : decode cX4_init 36 = .ok (.iconst 0, 1) := by decide +kernel
theorem dX4_init_37 : decode cX4_init 37 = .ok (.putfield 27, 3) := by decide +kernel
theorem dX4_init_40 : decode cX4_init 40 = .ok (.return_, 1) := by decide +kernel
theorem dJ9_abs_0f7a4_0 : decode cJ9_abs_0f7a4 0 = .ok (.iload_n 0, 1) := by decide +kernel
theorem dJ9_abs_0f7a4_1 : decode cJ9_abs_0f7a4 1 = .ok (.ifCond .ge 8, 3) := by decide +kernel
theorem dJ9_abs_0f7a4_4 : decode cJ9_abs_0f7a4 4 = .ok (.iload_n 0, 1) := by decide +kernel
theorem dJ9_abs_0f7a4_5 : decode cJ9_abs_0f7a4 5 = .ok (.ineg, 1) := by decide +kernel
theorem dJ9_abs_0f7a4_6 : decode cJ9_abs_0f7a4 6 = .ok (.goto 4, 3) := by decide +kernel
theorem dJ9_abs_0f7a4_9 : decode cJ9_abs_0f7a4 9 = .ok (.iload_n 0, 1) := by decide +kernel
theorem dJ9_abs_0f7a4_10 : decode cJ9_abs_0f7a4 10 = .ok (.ireturn, 1) := by decide +kernel
theorem dJ9_max_7cf53_0 : decode cJ9_max_7cf53 0 = .ok (.iload_n 0, 1) := by decide +kernel
theorem dJ9_max_7cf53_1 : decode cJ9_max_7cf53 1 = .ok (.iload_n 1, 1) := by decide +kernel
theorem dJ9_max_7cf53_2 : decode cJ9_max_7cf53 2 = .ok (.if_icmp .lt 7, 3) := by decide +kernel
theorem dJ9_max_7cf53_5 : decode cJ9_max_7cf53 5 = .ok (.iload_n 0, 1) := by decide +kernel
theorem dJ9_max_7cf53_6 : decode cJ9_max_7cf53 6 = .ok (.goto 4, 3) := by decide +kernel
theorem dJ9_max_7cf53_9 : decode cJ9_max_7cf53 9 = .ok (.iload_n 1, 1) := by decide +kernel
theorem dJ9_max_7cf53_10 : decode cJ9_max_7cf53 10 = .ok (.ireturn, 1) := by decide +kernel
theorem dJ9_min_7cf53_0 : decode cJ9_min_7cf53 0 = .ok (.iload_n 0, 1) := by decide +kernel
theorem dJ9_min_7cf53_1 : decode cJ9_min_7cf53 1 = .ok (.iload_n 1, 1) := by decide +kernel
theorem dJ9_min_7cf53_2 : decode cJ9_min_7cf53 2 = .ok (.if_icmp .gt 7, 3) := by decide +kernel
theorem dJ9_min_7cf53_5 : decode cJ9_min_7cf53 5 = .ok (.iload_n 0, 1) := by decide +kernel
theorem dJ9_min_7cf53_6 : decode cJ9_min_7cf53 6 = .ok (.goto 4, 3) := by decide +kernel
theorem dJ9_min_7cf53_9 : decode cJ9_min_7cf53 9 = .ok (.iload_n 1, 1) := by decide +kernel
theorem dJ9_min_7cf53_10 : decode cJ9_min_7cf53 10 = .ok (.ireturn, 1) := by decide +kernel
abbrev vwCl : List vw_C := [(RX0, TX0, 9), (RX1, TX1, 6), (RX2, TX2, 3), (RX3, TX3, 1), (RX4, TX4, 4), (RX5, TX5, 7)]
