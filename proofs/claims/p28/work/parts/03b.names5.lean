abbrev wsX50 : List Cond := u_ws RX5 TX5 7
def wsX5_init_r1 : List Cond := [Cond.methodLink RX5 1 objectInit, Cond.instanceMethod objectInit, Cond.code objectInit ⟨#[0xb1]⟩ 1 none, Cond.classLink RX5 7 RX1, Cond.instantiable RX1 6, Cond.initialized RX1, Cond.fieldLink RX5 10 "HangingChain" "chain" "LHangingChain$Chain;", Cond.fieldLink RX5 16 "HangingChain" "trial" "LHangingChain$Chain;", Cond.classLink RX5 19 RX0, Cond.instantiable RX0 9, Cond.initialized RX0, Cond.fieldLink RX5 22 "HangingChain" "balance" "LHangingChain$Balance;", Cond.classLink RX5 26 RX2, Cond.instantiable RX2 3, Cond.initialized RX2, Cond.fieldLink RX5 29 "HangingChain" "past" "LHangingChain$Past;", Cond.classLink RX5 33 RX3, Cond.instantiable RX3 1, Cond.initialized RX3, Cond.fieldLink RX5 38 "HangingChain" "codes" "LHangingChain$Row;", Cond.classLink RX5 42 RX4, Cond.instantiable RX4 4, Cond.initialized RX4, Cond.fieldLink RX5 45 "HangingChain" "reader" "LHangingChain$ShapeReader;"]
def wsX5_init_r2 : List Cond := [Cond.fieldLink RX5 49 "HangingChain" "length" "I", Cond.methodLink RX5 9 yX1_init, Cond.instanceMethod yX1_init, Cond.code yX1_init cX1_init 1 none, Cond.methodLink RX1 3 objectInit, Cond.classLink RX1 9 RX3, Cond.fieldLink RX1 14 "HangingChain$Chain" "steps" "LHangingChain$Row;", Cond.fieldLink RX1 20 "HangingChain$Chain" "weights" "LHangingChain$Row;", Cond.fieldLink RX1 23 "HangingChain$Chain" "hangers" "LHangingChain$Row;", Cond.fieldLink RX1 26 "HangingChain$Chain" "props" "LHangingChain$Row;", Cond.fieldLink RX1 29 "HangingChain$Chain" "settings" "LHangingChain$Row;", Cond.fieldLink RX1 32 "HangingChain$Chain" "links" "I", Cond.methodLink RX1 11 yX3_init, Cond.instanceMethod yX3_init, Cond.code yX3_init cX3_init 2 none, Cond.methodLink RX3 1 objectInit, Cond.arrayClass .int, Cond.fieldLink RX3 7 "HangingChain$Row" "cells" "[I", Cond.methodLink RX1 36 yX3_put, Cond.instanceMethod yX3_put, Cond.selects RX3 yX3_put yX3_put, Cond.code yX3_put cX3_put 3 none, Cond.instanceMethod yX0_init, Cond.code yX0_init cX0_init 1 none]
def wsX5_init_r3 : List Cond := [Cond.methodLink RX0 3 objectInit, Cond.classLink RX0 9 RX3, Cond.fieldLink RX0 14 "HangingChain$Balance" "heights" "LHangingChain$Row;", Cond.fieldLink RX0 20 "HangingChain$Balance" "burdens" "LHangingChain$Row;", Cond.fieldLink RX0 23 "HangingChain$Balance" "byHangers" "LHangingChain$Row;", Cond.fieldLink RX0 26 "HangingChain$Balance" "byProps" "LHangingChain$Row;", Cond.fieldLink RX0 29 "HangingChain$Balance" "loads" "LHangingChain$Row;", Cond.fieldLink RX0 32 "HangingChain$Balance" "forces" "LHangingChain$Row;", Cond.fieldLink RX0 35 "HangingChain$Balance" "ahead" "I", Cond.fieldLink RX0 39 "HangingChain$Balance" "behind" "I", Cond.fieldLink RX0 42 "HangingChain$Balance" "greatest" "I", Cond.methodLink RX0 11 yX3_init, Cond.methodLink RX5 28 yX2_init, Cond.instanceMethod yX2_init, Cond.code yX2_init cX2_init 2 none, Cond.methodLink RX2 3 objectInit, Cond.classLink RX2 9 RX1, Cond.fieldLink RX2 11 "HangingChain$Past" "slots" "[LHangingChain$Chain;", Cond.fieldLink RX2 17 "HangingChain$Past" "oldest" "I", Cond.fieldLink RX2 21 "HangingChain$Past" "kept" "I", Cond.methodLink RX2 24 yX1_init, Cond.methodLink RX5 35 yX3_init, Cond.instanceMethod yX4_init, Cond.code yX4_init cX4_init 1 none]
def wsX5_init_r4 : List Cond := [Cond.methodLink RX4 3 objectInit, Cond.classLink RX4 9 RX3, Cond.fieldLink RX4 14 "HangingChain$ShapeReader" "steps" "LHangingChain$Row;", Cond.fieldLink RX4 20 "HangingChain$ShapeReader" "weights" "LHangingChain$Row;", Cond.fieldLink RX4 23 "HangingChain$ShapeReader" "links" "I", Cond.fieldLink RX4 27 "HangingChain$ShapeReader" "state" "I", Cond.methodLink RX4 11 yX3_init]
def wsX5_init : List Cond := .code yX5_init cX5_init 1 none :: ((wsX5_init_r1 ++ (wsX5_init_r2 ++ (wsX5_init_r3 ++ wsX5_init_r4))) ++ wsX10 ++ wsX50 ++ wsX00 ++ wsX20 ++ wsX30 ++ wsX40)
def wsX5_requireStep : List Cond := .code yX5_requireStep cX5_requireStep 1 none :: ([.classLink RX5 121 "java/lang/IllegalArgumentException", .initialized "java/lang/IllegalArgumentException"] ++ (vx_atS RX5 125 "java/lang/IllegalArgumentException" ["java/lang/RuntimeException", "java/lang/Exception"]).filter goodWord)
def wsX5_link_r1 : List Cond := [Cond.classLink RX5 59 "java/lang/IllegalStateException", Cond.initialized "java/lang/IllegalStateException", Cond.fieldLink RX5 10 "HangingChain" "chain" "LHangingChain$Chain;", Cond.fieldLink RX5 56 "HangingChain$Chain" "links" "I", Cond.fieldLink RX5 29 "HangingChain" "past" "LHangingChain$Past;", Cond.methodLink RX5 53 yX5_requireStep, Cond.static yX5_requireStep, Cond.initialized RX5, Cond.code yX5_requireStep cX5_requireStep 1 none, Cond.classLink RX5 121 "java/lang/IllegalArgumentException", Cond.initialized "java/lang/IllegalArgumentException", Cond.methodLink RX5 66 yX2_save, Cond.instanceMethod yX2_save, Cond.selects RX2 yX2_save yX2_save, Cond.initialized RX2, Cond.code yX2_save cX2_save 3 none, Cond.fieldLink RX2 21 "HangingChain$Past" "kept" "I", Cond.fieldLink RX2 17 "HangingChain$Past" "oldest" "I", Cond.methodLink RX2 25 yX2_latest, Cond.instanceMethod yX2_latest, Cond.selects RX2 yX2_latest yX2_latest, Cond.code yX2_latest cX2_latest 2 (some (.object "HangingChain$Chain")), Cond.fieldLink RX2 11 "HangingChain$Past" "slots" "[LHangingChain$Chain;", Cond.methodLink RX2 29 yX1_copyFrom]
def wsX5_link_r2 : List Cond := [Cond.instanceMethod yX1_copyFrom, Cond.selects RX1 yX1_copyFrom yX1_copyFrom, Cond.initialized RX1, Cond.code yX1_copyFrom cX1_copyFrom 2 none, Cond.fieldLink RX1 32 "HangingChain$Chain" "links" "I", Cond.fieldLink RX1 14 "HangingChain$Chain" "steps" "LHangingChain$Row;", Cond.fieldLink RX1 20 "HangingChain$Chain" "weights" "LHangingChain$Row;", Cond.fieldLink RX1 23 "HangingChain$Chain" "hangers" "LHangingChain$Row;", Cond.fieldLink RX1 26 "HangingChain$Chain" "props" "LHangingChain$Row;", Cond.fieldLink RX1 29 "HangingChain$Chain" "settings" "LHangingChain$Row;", Cond.methodLink RX1 40 yX3_copyFrom, Cond.instanceMethod yX3_copyFrom, Cond.selects RX3 yX3_copyFrom yX3_copyFrom, Cond.initialized RX3, Cond.code yX3_copyFrom cX3_copyFrom 3 none, Cond.fieldLink RX3 7 "HangingChain$Row" "cells" "[I", Cond.methodLink RX3 13 yX3_at, Cond.instanceMethod yX3_at, Cond.selects RX3 yX3_at yX3_at, Cond.code yX3_at cX3_at 2 (some .int), Cond.methodLink RX5 70 yX1_addLink, Cond.instanceMethod yX1_addLink, Cond.selects RX1 yX1_addLink yX1_addLink, Cond.code yX1_addLink cX1_addLink 2 none]
def wsX5_link_r3 : List Cond := [Cond.methodLink RX1 36 yX3_put, Cond.instanceMethod yX3_put, Cond.selects RX3 yX3_put yX3_put, Cond.code yX3_put cX3_put 3 none]
def wsX5_link : List Cond := .code yX5_link cX5_link 2 (some .int) :: ((wsX5_link_r1 ++ (wsX5_link_r2 ++ wsX5_link_r3)) ++ wsX50 ++ wsX10 ++ wsX20 ++ wsX30 ++ (vx_atS RX5 63 "java/lang/IllegalStateException" ["java/lang/RuntimeException", "java/lang/Exception"]).filter goodWord ++ (vx_atS RX5 125 "java/lang/IllegalArgumentException" ["java/lang/RuntimeException", "java/lang/Exception"]).filter goodWord)
def wsX5_requireLink : List Cond := .code yX5_requireLink cX5_requireLink 2 none :: ([.classLink RX5 284 "java/lang/IndexOutOfBoundsException", .initialized "java/lang/IndexOutOfBoundsException", .fieldLink RX5 10 "HangingChain" "chain" "LHangingChain$Chain;", .fieldLink RX5 56 "HangingChain$Chain" "links" "I"] ++ wsX50 ++ wsX10 ++ (vx_atS RX5 288 "java/lang/IndexOutOfBoundsException" ["java/lang/RuntimeException", "java/lang/Exception"]).filter goodWord)
def wsX5_cut_r1 : List Cond := [Cond.classLink RX5 59 "java/lang/IllegalStateException", Cond.initialized "java/lang/IllegalStateException", Cond.fieldLink RX5 10 "HangingChain" "chain" "LHangingChain$Chain;", Cond.fieldLink RX5 56 "HangingChain$Chain" "links" "I", Cond.fieldLink RX5 29 "HangingChain" "past" "LHangingChain$Past;", Cond.methodLink RX5 73 yX5_requireLink, Cond.instanceMethod yX5_requireLink, Cond.selects RX5 yX5_requireLink yX5_requireLink, Cond.initialized RX5, Cond.code yX5_requireLink cX5_requireLink 2 none, Cond.classLink RX5 284 "java/lang/IndexOutOfBoundsException", Cond.initialized "java/lang/IndexOutOfBoundsException", Cond.methodLink RX5 66 yX2_save, Cond.instanceMethod yX2_save, Cond.selects RX2 yX2_save yX2_save, Cond.initialized RX2, Cond.code yX2_save cX2_save 3 none, Cond.fieldLink RX2 21 "HangingChain$Past" "kept" "I", Cond.fieldLink RX2 17 "HangingChain$Past" "oldest" "I", Cond.methodLink RX2 25 yX2_latest, Cond.instanceMethod yX2_latest, Cond.selects RX2 yX2_latest yX2_latest, Cond.code yX2_latest cX2_latest 2 (some (.object "HangingChain$Chain")), Cond.fieldLink RX2 11 "HangingChain$Past" "slots" "[LHangingChain$Chain;"]
def wsX5_cut_r2 : List Cond := [Cond.methodLink RX2 29 yX1_copyFrom, Cond.instanceMethod yX1_copyFrom, Cond.selects RX1 yX1_copyFrom yX1_copyFrom, Cond.initialized RX1, Cond.code yX1_copyFrom cX1_copyFrom 2 none, Cond.fieldLink RX1 32 "HangingChain$Chain" "links" "I", Cond.fieldLink RX1 14 "HangingChain$Chain" "steps" "LHangingChain$Row;", Cond.fieldLink RX1 20 "HangingChain$Chain" "weights" "LHangingChain$Row;", Cond.fieldLink RX1 23 "HangingChain$Chain" "hangers" "LHangingChain$Row;", Cond.fieldLink RX1 26 "HangingChain$Chain" "props" "LHangingChain$Row;", Cond.fieldLink RX1 29 "HangingChain$Chain" "settings" "LHangingChain$Row;", Cond.methodLink RX1 40 yX3_copyFrom, Cond.instanceMethod yX3_copyFrom, Cond.selects RX3 yX3_copyFrom yX3_copyFrom, Cond.initialized RX3, Cond.code yX3_copyFrom cX3_copyFrom 3 none, Cond.fieldLink RX3 7 "HangingChain$Row" "cells" "[I", Cond.methodLink RX3 13 yX3_at, Cond.instanceMethod yX3_at, Cond.selects RX3 yX3_at yX3_at, Cond.code yX3_at cX3_at 2 (some .int), Cond.methodLink RX5 78 yX1_takeLink, Cond.instanceMethod yX1_takeLink, Cond.selects RX1 yX1_takeLink yX1_takeLink]
def wsX5_cut_r3 : List Cond := [Cond.code yX1_takeLink cX1_takeLink 2 none, Cond.methodLink RX1 44 yX3_takeOut, Cond.instanceMethod yX3_takeOut, Cond.selects RX3 yX3_takeOut yX3_takeOut, Cond.code yX3_takeOut cX3_takeOut 3 none, Cond.methodLink RX3 17 yX3_put, Cond.instanceMethod yX3_put, Cond.selects RX3 yX3_put yX3_put, Cond.code yX3_put cX3_put 3 none]
def wsX5_cut : List Cond := .code yX5_cut cX5_cut 2 (some .int) :: ((wsX5_cut_r1 ++ (wsX5_cut_r2 ++ wsX5_cut_r3)) ++ wsX50 ++ wsX10 ++ wsX20 ++ wsX30 ++ (vx_atS RX5 63 "java/lang/IllegalStateException" ["java/lang/RuntimeException", "java/lang/Exception"]).filter goodWord ++ (vx_atS RX5 288 "java/lang/IndexOutOfBoundsException" ["java/lang/RuntimeException", "java/lang/Exception"]).filter goodWord)
def wsX5_bend_r1 : List Cond := [Cond.fieldLink RX5 29 "HangingChain" "past" "LHangingChain$Past;", Cond.fieldLink RX5 10 "HangingChain" "chain" "LHangingChain$Chain;", Cond.fieldLink RX5 81 "HangingChain$Chain" "steps" "LHangingChain$Row;", Cond.methodLink RX5 73 yX5_requireLink, Cond.instanceMethod yX5_requireLink, Cond.selects RX5 yX5_requireLink yX5_requireLink, Cond.initialized RX5, Cond.code yX5_requireLink cX5_requireLink 2 none, Cond.classLink RX5 284 "java/lang/IndexOutOfBoundsException", Cond.initialized "java/lang/IndexOutOfBoundsException", Cond.fieldLink RX5 56 "HangingChain$Chain" "links" "I", Cond.methodLink RX5 53 yX5_requireStep, Cond.static yX5_requireStep, Cond.code yX5_requireStep cX5_requireStep 1 none, Cond.classLink RX5 121 "java/lang/IllegalArgumentException", Cond.initialized "java/lang/IllegalArgumentException", Cond.methodLink RX5 66 yX2_save, Cond.instanceMethod yX2_save, Cond.selects RX2 yX2_save yX2_save, Cond.initialized RX2, Cond.code yX2_save cX2_save 3 none, Cond.fieldLink RX2 21 "HangingChain$Past" "kept" "I", Cond.fieldLink RX2 17 "HangingChain$Past" "oldest" "I", Cond.methodLink RX2 25 yX2_latest]
def wsX5_bend_r2 : List Cond := [Cond.instanceMethod yX2_latest, Cond.selects RX2 yX2_latest yX2_latest, Cond.code yX2_latest cX2_latest 2 (some (.object "HangingChain$Chain")), Cond.fieldLink RX2 11 "HangingChain$Past" "slots" "[LHangingChain$Chain;", Cond.methodLink RX2 29 yX1_copyFrom, Cond.instanceMethod yX1_copyFrom, Cond.selects RX1 yX1_copyFrom yX1_copyFrom, Cond.initialized RX1, Cond.code yX1_copyFrom cX1_copyFrom 2 none, Cond.fieldLink RX1 32 "HangingChain$Chain" "links" "I", Cond.fieldLink RX1 14 "HangingChain$Chain" "steps" "LHangingChain$Row;", Cond.fieldLink RX1 20 "HangingChain$Chain" "weights" "LHangingChain$Row;", Cond.fieldLink RX1 23 "HangingChain$Chain" "hangers" "LHangingChain$Row;", Cond.fieldLink RX1 26 "HangingChain$Chain" "props" "LHangingChain$Row;", Cond.fieldLink RX1 29 "HangingChain$Chain" "settings" "LHangingChain$Row;", Cond.methodLink RX1 40 yX3_copyFrom, Cond.instanceMethod yX3_copyFrom, Cond.selects RX3 yX3_copyFrom yX3_copyFrom, Cond.initialized RX3, Cond.code yX3_copyFrom cX3_copyFrom 3 none, Cond.fieldLink RX3 7 "HangingChain$Row" "cells" "[I", Cond.methodLink RX3 13 yX3_at, Cond.instanceMethod yX3_at, Cond.selects RX3 yX3_at yX3_at]
def wsX5_bend_r3 : List Cond := [Cond.code yX3_at cX3_at 2 (some .int), Cond.methodLink RX5 84 yX3_at, Cond.methodLink RX5 88 yX3_put, Cond.instanceMethod yX3_put, Cond.selects RX3 yX3_put yX3_put, Cond.code yX3_put cX3_put 3 none]
def wsX5_bend : List Cond := .code yX5_bend cX5_bend 4 (some .int) :: ((wsX5_bend_r1 ++ (wsX5_bend_r2 ++ wsX5_bend_r3)) ++ wsX50 ++ wsX10 ++ wsX20 ++ wsX30 ++ (vx_atS RX5 288 "java/lang/IndexOutOfBoundsException" ["java/lang/RuntimeException", "java/lang/Exception"]).filter goodWord ++ (vx_atS RX5 125 "java/lang/IllegalArgumentException" ["java/lang/RuntimeException", "java/lang/Exception"]).filter goodWord)
def wsX5_turn_r1 : List Cond := [Cond.fieldLink RX5 29 "HangingChain" "past" "LHangingChain$Past;", Cond.fieldLink RX5 10 "HangingChain" "chain" "LHangingChain$Chain;", Cond.fieldLink RX5 22 "HangingChain" "balance" "LHangingChain$Balance;", Cond.fieldLink RX5 99 "HangingChain$Balance" "heights" "LHangingChain$Row;", Cond.fieldLink RX5 56 "HangingChain$Chain" "links" "I", Cond.methodLink RX5 66 yX2_save, Cond.instanceMethod yX2_save, Cond.selects RX2 yX2_save yX2_save, Cond.initialized RX2, Cond.code yX2_save cX2_save 3 none, Cond.fieldLink RX2 21 "HangingChain$Past" "kept" "I", Cond.fieldLink RX2 17 "HangingChain$Past" "oldest" "I", Cond.methodLink RX2 25 yX2_latest, Cond.instanceMethod yX2_latest, Cond.selects RX2 yX2_latest yX2_latest, Cond.code yX2_latest cX2_latest 2 (some (.object "HangingChain$Chain")), Cond.fieldLink RX2 11 "HangingChain$Past" "slots" "[LHangingChain$Chain;", Cond.methodLink RX2 29 yX1_copyFrom, Cond.instanceMethod yX1_copyFrom, Cond.selects RX1 yX1_copyFrom yX1_copyFrom, Cond.initialized RX1, Cond.code yX1_copyFrom cX1_copyFrom 2 none, Cond.fieldLink RX1 32 "HangingChain$Chain" "links" "I", Cond.fieldLink RX1 14 "HangingChain$Chain" "steps" "LHangingChain$Row;"]
def wsX5_turn_r2 : List Cond := [Cond.fieldLink RX1 20 "HangingChain$Chain" "weights" "LHangingChain$Row;", Cond.fieldLink RX1 23 "HangingChain$Chain" "hangers" "LHangingChain$Row;", Cond.fieldLink RX1 26 "HangingChain$Chain" "props" "LHangingChain$Row;", Cond.fieldLink RX1 29 "HangingChain$Chain" "settings" "LHangingChain$Row;", Cond.methodLink RX1 40 yX3_copyFrom, Cond.instanceMethod yX3_copyFrom, Cond.selects RX3 yX3_copyFrom yX3_copyFrom, Cond.initialized RX3, Cond.code yX3_copyFrom cX3_copyFrom 3 none, Cond.fieldLink RX3 7 "HangingChain$Row" "cells" "[I", Cond.methodLink RX3 13 yX3_at, Cond.instanceMethod yX3_at, Cond.selects RX3 yX3_at yX3_at, Cond.code yX3_at cX3_at 2 (some .int), Cond.methodLink RX5 92 yX1_turnRound, Cond.instanceMethod yX1_turnRound, Cond.selects RX1 yX1_turnRound yX1_turnRound, Cond.code yX1_turnRound cX1_turnRound 2 none, Cond.methodLink RX1 47 yX3_turnRound, Cond.instanceMethod yX3_turnRound, Cond.selects RX3 yX3_turnRound yX3_turnRound, Cond.code yX3_turnRound cX3_turnRound 5 none, Cond.methodLink RX3 17 yX3_put, Cond.instanceMethod yX3_put]
def wsX5_turn_r3 : List Cond := [Cond.selects RX3 yX3_put yX3_put, Cond.code yX3_put cX3_put 3 none, Cond.methodLink RX1 50 yX3_at, Cond.methodLink RX1 36 yX3_put, Cond.methodLink RX5 95 yX0_weigh, Cond.instanceMethod yX0_weigh, Cond.selects RX0 yX0_weigh yX0_weigh, Cond.initialized RX0, Cond.code yX0_weigh cX0_weigh 3 (some .int), Cond.fieldLink RX0 49 "HangingChain$Chain" "links" "I", Cond.fieldLink RX0 42 "HangingChain$Balance" "greatest" "I", Cond.methodLink RX0 45 yX0_placeJoints, Cond.instanceMethod yX0_placeJoints, Cond.selects RX0 yX0_placeJoints yX0_placeJoints, Cond.code yX0_placeJoints cX0_placeJoints 4 none, Cond.fieldLink RX0 14 "HangingChain$Balance" "heights" "LHangingChain$Row;", Cond.fieldLink RX0 68 "HangingChain$Chain" "steps" "LHangingChain$Row;", Cond.methodLink RX0 64 yX3_put, Cond.methodLink RX0 71 yX3_at, Cond.methodLink RX0 54 yX0_hold, Cond.instanceMethod yX0_hold, Cond.selects RX0 yX0_hold yX0_hold, Cond.code yX0_hold cX0_hold 9 none, Cond.fieldLink RX0 75 "HangingChain$Chain" "weights" "LHangingChain$Row;"]
def wsX5_turn_r4 : List Cond := [Cond.fieldLink RX0 78 "HangingChain$Chain" "settings" "LHangingChain$Row;", Cond.fieldLink RX0 81 "HangingChain$Chain" "hangers" "LHangingChain$Row;", Cond.methodLink RX0 84 Lib.Math.min.name, Cond.static Lib.Math.min.name, Cond.initialized "java/lang/Math", Cond.code Lib.Math.min.name Lib.Math.min.code 2 (some .int), Cond.fieldLink RX0 90 "HangingChain$Chain" "props" "LHangingChain$Row;", Cond.fieldLink RX0 20 "HangingChain$Balance" "burdens" "LHangingChain$Row;", Cond.fieldLink RX0 23 "HangingChain$Balance" "byHangers" "LHangingChain$Row;", Cond.fieldLink RX0 26 "HangingChain$Balance" "byProps" "LHangingChain$Row;", Cond.fieldLink RX0 29 "HangingChain$Balance" "loads" "LHangingChain$Row;", Cond.methodLink RX0 58 yX0_loadWalls, Cond.instanceMethod yX0_loadWalls, Cond.selects RX0 yX0_loadWalls yX0_loadWalls, Cond.code yX0_loadWalls cX0_loadWalls 6 none, Cond.fieldLink RX0 35 "HangingChain$Balance" "ahead" "I", Cond.fieldLink RX0 39 "HangingChain$Balance" "behind" "I", Cond.methodLink RX0 61 yX0_pullLinks, Cond.instanceMethod yX0_pullLinks, Cond.selects RX0 yX0_pullLinks yX0_pullLinks, Cond.code yX0_pullLinks cX0_pullLinks 6 none, Cond.methodLink RX0 93 Lib.Math.abs.name, Cond.static Lib.Math.abs.name, Cond.code Lib.Math.abs.name Lib.Math.abs.code 1 (some .int)]
def wsX5_turn_r5 : List Cond := [Cond.fieldLink RX0 32 "HangingChain$Balance" "forces" "LHangingChain$Row;", Cond.methodLink RX0 96 Lib.Math.max.name, Cond.static Lib.Math.max.name, Cond.code Lib.Math.max.name Lib.Math.max.code 2 (some .int), Cond.methodLink RX5 84 yX3_at]
def wsX5_turn : List Cond := .code yX5_turn cX5_turn 1 (some .int) :: ((wsX5_turn_r1 ++ (wsX5_turn_r2 ++ (wsX5_turn_r3 ++ (wsX5_turn_r4 ++ wsX5_turn_r5)))) ++ wsX50 ++ wsX00 ++ wsX10 ++ wsX20 ++ wsX30)
def wsX5_requireJoint : List Cond := .code yX5_requireJoint cX5_requireJoint 2 none :: ([.classLink RX5 284 "java/lang/IndexOutOfBoundsException", .initialized "java/lang/IndexOutOfBoundsException", .fieldLink RX5 10 "HangingChain" "chain" "LHangingChain$Chain;", .fieldLink RX5 56 "HangingChain$Chain" "links" "I"] ++ wsX50 ++ wsX10 ++ (vx_atS RX5 288 "java/lang/IndexOutOfBoundsException" ["java/lang/RuntimeException", "java/lang/Exception"]).filter goodWord)
def wsX5_requireAmount : List Cond := .code yX5_requireAmount cX5_requireAmount 1 none :: ([.classLink RX5 121 "java/lang/IllegalArgumentException", .initialized "java/lang/IllegalArgumentException"] ++ (vx_atS RX5 125 "java/lang/IllegalArgumentException" ["java/lang/RuntimeException", "java/lang/Exception"]).filter goodWord)
def wsX5_replace_r1 : List Cond := [Cond.fieldLink RX5 29 "HangingChain" "past" "LHangingChain$Past;", Cond.fieldLink RX5 10 "HangingChain" "chain" "LHangingChain$Chain;", Cond.methodLink RX5 66 yX2_save, Cond.instanceMethod yX2_save, Cond.selects RX2 yX2_save yX2_save, Cond.initialized RX2, Cond.code yX2_save cX2_save 3 none, Cond.fieldLink RX2 21 "HangingChain$Past" "kept" "I", Cond.fieldLink RX2 17 "HangingChain$Past" "oldest" "I", Cond.methodLink RX2 25 yX2_latest, Cond.instanceMethod yX2_latest, Cond.selects RX2 yX2_latest yX2_latest, Cond.code yX2_latest cX2_latest 2 (some (.object "HangingChain$Chain")), Cond.fieldLink RX2 11 "HangingChain$Past" "slots" "[LHangingChain$Chain;", Cond.methodLink RX2 29 yX1_copyFrom, Cond.instanceMethod yX1_copyFrom, Cond.selects RX1 yX1_copyFrom yX1_copyFrom, Cond.initialized RX1, Cond.code yX1_copyFrom cX1_copyFrom 2 none, Cond.fieldLink RX1 32 "HangingChain$Chain" "links" "I", Cond.fieldLink RX1 14 "HangingChain$Chain" "steps" "LHangingChain$Row;", Cond.fieldLink RX1 20 "HangingChain$Chain" "weights" "LHangingChain$Row;", Cond.fieldLink RX1 23 "HangingChain$Chain" "hangers" "LHangingChain$Row;", Cond.fieldLink RX1 26 "HangingChain$Chain" "props" "LHangingChain$Row;"]
def wsX5_replace_r2 : List Cond := [Cond.fieldLink RX1 29 "HangingChain$Chain" "settings" "LHangingChain$Row;", Cond.methodLink RX1 40 yX3_copyFrom, Cond.instanceMethod yX3_copyFrom, Cond.selects RX3 yX3_copyFrom yX3_copyFrom, Cond.initialized RX3, Cond.code yX3_copyFrom cX3_copyFrom 3 none, Cond.fieldLink RX3 7 "HangingChain$Row" "cells" "[I", Cond.methodLink RX3 13 yX3_at, Cond.instanceMethod yX3_at, Cond.selects RX3 yX3_at yX3_at, Cond.code yX3_at cX3_at 2 (some .int), Cond.methodLink RX5 84 yX3_at, Cond.methodLink RX5 88 yX3_put, Cond.instanceMethod yX3_put, Cond.selects RX3 yX3_put yX3_put, Cond.code yX3_put cX3_put 3 none]
def wsX5_replace : List Cond := .code yX5_replace cX5_replace 5 (some .int) :: ((wsX5_replace_r1 ++ wsX5_replace_r2) ++ wsX50 ++ wsX20 ++ wsX10 ++ wsX30)
def wsX5_weight_r1 : List Cond := [Cond.fieldLink RX5 10 "HangingChain" "chain" "LHangingChain$Chain;", Cond.fieldLink RX5 108 "HangingChain$Chain" "weights" "LHangingChain$Row;", Cond.methodLink RX5 102 yX5_requireJoint, Cond.instanceMethod yX5_requireJoint, Cond.selects RX5 yX5_requireJoint yX5_requireJoint, Cond.initialized RX5, Cond.code yX5_requireJoint cX5_requireJoint 2 none, Cond.classLink RX5 284 "java/lang/IndexOutOfBoundsException", Cond.initialized "java/lang/IndexOutOfBoundsException", Cond.fieldLink RX5 56 "HangingChain$Chain" "links" "I", Cond.methodLink RX5 105 yX5_requireAmount, Cond.static yX5_requireAmount, Cond.code yX5_requireAmount cX5_requireAmount 1 none, Cond.classLink RX5 121 "java/lang/IllegalArgumentException", Cond.initialized "java/lang/IllegalArgumentException", Cond.methodLink RX5 111 yX5_replace, Cond.instanceMethod yX5_replace, Cond.selects RX5 yX5_replace yX5_replace, Cond.code yX5_replace cX5_replace 5 (some .int), Cond.fieldLink RX5 29 "HangingChain" "past" "LHangingChain$Past;", Cond.methodLink RX5 66 yX2_save, Cond.instanceMethod yX2_save, Cond.selects RX2 yX2_save yX2_save, Cond.initialized RX2]
def wsX5_weight_r2 : List Cond := [Cond.code yX2_save cX2_save 3 none, Cond.fieldLink RX2 21 "HangingChain$Past" "kept" "I", Cond.fieldLink RX2 17 "HangingChain$Past" "oldest" "I", Cond.methodLink RX2 25 yX2_latest, Cond.instanceMethod yX2_latest, Cond.selects RX2 yX2_latest yX2_latest, Cond.code yX2_latest cX2_latest 2 (some (.object "HangingChain$Chain")), Cond.fieldLink RX2 11 "HangingChain$Past" "slots" "[LHangingChain$Chain;", Cond.methodLink RX2 29 yX1_copyFrom, Cond.instanceMethod yX1_copyFrom, Cond.selects RX1 yX1_copyFrom yX1_copyFrom, Cond.initialized RX1, Cond.code yX1_copyFrom cX1_copyFrom 2 none, Cond.fieldLink RX1 32 "HangingChain$Chain" "links" "I", Cond.fieldLink RX1 14 "HangingChain$Chain" "steps" "LHangingChain$Row;", Cond.fieldLink RX1 20 "HangingChain$Chain" "weights" "LHangingChain$Row;", Cond.fieldLink RX1 23 "HangingChain$Chain" "hangers" "LHangingChain$Row;", Cond.fieldLink RX1 26 "HangingChain$Chain" "props" "LHangingChain$Row;", Cond.fieldLink RX1 29 "HangingChain$Chain" "settings" "LHangingChain$Row;", Cond.methodLink RX1 40 yX3_copyFrom, Cond.instanceMethod yX3_copyFrom, Cond.selects RX3 yX3_copyFrom yX3_copyFrom, Cond.initialized RX3, Cond.code yX3_copyFrom cX3_copyFrom 3 none]
def wsX5_weight_r3 : List Cond := [Cond.fieldLink RX3 7 "HangingChain$Row" "cells" "[I", Cond.methodLink RX3 13 yX3_at, Cond.instanceMethod yX3_at, Cond.selects RX3 yX3_at yX3_at, Cond.code yX3_at cX3_at 2 (some .int), Cond.methodLink RX5 84 yX3_at, Cond.methodLink RX5 88 yX3_put, Cond.instanceMethod yX3_put, Cond.selects RX3 yX3_put yX3_put, Cond.code yX3_put cX3_put 3 none]
def wsX5_weight : List Cond := .code yX5_weight cX5_weight 3 (some .int) :: ((wsX5_weight_r1 ++ (wsX5_weight_r2 ++ wsX5_weight_r3)) ++ wsX50 ++ wsX10 ++ wsX20 ++ wsX30 ++ (vx_atS RX5 288 "java/lang/IndexOutOfBoundsException" ["java/lang/RuntimeException", "java/lang/Exception"]).filter goodWord ++ (vx_atS RX5 125 "java/lang/IllegalArgumentException" ["java/lang/RuntimeException", "java/lang/Exception"]).filter goodWord)
def wsX5_hanger_r1 : List Cond := [Cond.fieldLink RX5 10 "HangingChain" "chain" "LHangingChain$Chain;", Cond.fieldLink RX5 115 "HangingChain$Chain" "hangers" "LHangingChain$Row;", Cond.methodLink RX5 102 yX5_requireJoint, Cond.instanceMethod yX5_requireJoint, Cond.selects RX5 yX5_requireJoint yX5_requireJoint, Cond.initialized RX5, Cond.code yX5_requireJoint cX5_requireJoint 2 none, Cond.classLink RX5 284 "java/lang/IndexOutOfBoundsException", Cond.initialized "java/lang/IndexOutOfBoundsException", Cond.fieldLink RX5 56 "HangingChain$Chain" "links" "I", Cond.methodLink RX5 105 yX5_requireAmount, Cond.static yX5_requireAmount, Cond.code yX5_requireAmount cX5_requireAmount 1 none, Cond.classLink RX5 121 "java/lang/IllegalArgumentException", Cond.initialized "java/lang/IllegalArgumentException", Cond.methodLink RX5 111 yX5_replace, Cond.instanceMethod yX5_replace, Cond.selects RX5 yX5_replace yX5_replace, Cond.code yX5_replace cX5_replace 5 (some .int), Cond.fieldLink RX5 29 "HangingChain" "past" "LHangingChain$Past;", Cond.methodLink RX5 66 yX2_save, Cond.instanceMethod yX2_save, Cond.selects RX2 yX2_save yX2_save, Cond.initialized RX2]
def wsX5_hanger_r2 : List Cond := [Cond.code yX2_save cX2_save 3 none, Cond.fieldLink RX2 21 "HangingChain$Past" "kept" "I", Cond.fieldLink RX2 17 "HangingChain$Past" "oldest" "I", Cond.methodLink RX2 25 yX2_latest, Cond.instanceMethod yX2_latest, Cond.selects RX2 yX2_latest yX2_latest, Cond.code yX2_latest cX2_latest 2 (some (.object "HangingChain$Chain")), Cond.fieldLink RX2 11 "HangingChain$Past" "slots" "[LHangingChain$Chain;", Cond.methodLink RX2 29 yX1_copyFrom, Cond.instanceMethod yX1_copyFrom, Cond.selects RX1 yX1_copyFrom yX1_copyFrom, Cond.initialized RX1, Cond.code yX1_copyFrom cX1_copyFrom 2 none, Cond.fieldLink RX1 32 "HangingChain$Chain" "links" "I", Cond.fieldLink RX1 14 "HangingChain$Chain" "steps" "LHangingChain$Row;", Cond.fieldLink RX1 20 "HangingChain$Chain" "weights" "LHangingChain$Row;", Cond.fieldLink RX1 23 "HangingChain$Chain" "hangers" "LHangingChain$Row;", Cond.fieldLink RX1 26 "HangingChain$Chain" "props" "LHangingChain$Row;", Cond.fieldLink RX1 29 "HangingChain$Chain" "settings" "LHangingChain$Row;", Cond.methodLink RX1 40 yX3_copyFrom, Cond.instanceMethod yX3_copyFrom, Cond.selects RX3 yX3_copyFrom yX3_copyFrom, Cond.initialized RX3, Cond.code yX3_copyFrom cX3_copyFrom 3 none]
def wsX5_hanger_r3 : List Cond := [Cond.fieldLink RX3 7 "HangingChain$Row" "cells" "[I", Cond.methodLink RX3 13 yX3_at, Cond.instanceMethod yX3_at, Cond.selects RX3 yX3_at yX3_at, Cond.code yX3_at cX3_at 2 (some .int), Cond.methodLink RX5 84 yX3_at, Cond.methodLink RX5 88 yX3_put, Cond.instanceMethod yX3_put, Cond.selects RX3 yX3_put yX3_put, Cond.code yX3_put cX3_put 3 none]
def wsX5_hanger : List Cond := .code yX5_hanger cX5_hanger 3 (some .int) :: ((wsX5_hanger_r1 ++ (wsX5_hanger_r2 ++ wsX5_hanger_r3)) ++ wsX50 ++ wsX10 ++ wsX20 ++ wsX30 ++ (vx_atS RX5 288 "java/lang/IndexOutOfBoundsException" ["java/lang/RuntimeException", "java/lang/Exception"]).filter goodWord ++ (vx_atS RX5 125 "java/lang/IllegalArgumentException" ["java/lang/RuntimeException", "java/lang/Exception"]).filter goodWord)
def wsX5_prop_r1 : List Cond := [Cond.fieldLink RX5 10 "HangingChain" "chain" "LHangingChain$Chain;", Cond.fieldLink RX5 118 "HangingChain$Chain" "props" "LHangingChain$Row;", Cond.methodLink RX5 102 yX5_requireJoint, Cond.instanceMethod yX5_requireJoint, Cond.selects RX5 yX5_requireJoint yX5_requireJoint, Cond.initialized RX5, Cond.code yX5_requireJoint cX5_requireJoint 2 none, Cond.classLink RX5 284 "java/lang/IndexOutOfBoundsException", Cond.initialized "java/lang/IndexOutOfBoundsException", Cond.fieldLink RX5 56 "HangingChain$Chain" "links" "I", Cond.methodLink RX5 105 yX5_requireAmount, Cond.static yX5_requireAmount, Cond.code yX5_requireAmount cX5_requireAmount 1 none, Cond.classLink RX5 121 "java/lang/IllegalArgumentException", Cond.initialized "java/lang/IllegalArgumentException", Cond.methodLink RX5 111 yX5_replace, Cond.instanceMethod yX5_replace, Cond.selects RX5 yX5_replace yX5_replace, Cond.code yX5_replace cX5_replace 5 (some .int), Cond.fieldLink RX5 29 "HangingChain" "past" "LHangingChain$Past;", Cond.methodLink RX5 66 yX2_save, Cond.instanceMethod yX2_save, Cond.selects RX2 yX2_save yX2_save, Cond.initialized RX2]
def wsX5_prop_r2 : List Cond := [Cond.code yX2_save cX2_save 3 none, Cond.fieldLink RX2 21 "HangingChain$Past" "kept" "I", Cond.fieldLink RX2 17 "HangingChain$Past" "oldest" "I", Cond.methodLink RX2 25 yX2_latest, Cond.instanceMethod yX2_latest, Cond.selects RX2 yX2_latest yX2_latest, Cond.code yX2_latest cX2_latest 2 (some (.object "HangingChain$Chain")), Cond.fieldLink RX2 11 "HangingChain$Past" "slots" "[LHangingChain$Chain;", Cond.methodLink RX2 29 yX1_copyFrom, Cond.instanceMethod yX1_copyFrom, Cond.selects RX1 yX1_copyFrom yX1_copyFrom, Cond.initialized RX1, Cond.code yX1_copyFrom cX1_copyFrom 2 none, Cond.fieldLink RX1 32 "HangingChain$Chain" "links" "I", Cond.fieldLink RX1 14 "HangingChain$Chain" "steps" "LHangingChain$Row;", Cond.fieldLink RX1 20 "HangingChain$Chain" "weights" "LHangingChain$Row;", Cond.fieldLink RX1 23 "HangingChain$Chain" "hangers" "LHangingChain$Row;", Cond.fieldLink RX1 26 "HangingChain$Chain" "props" "LHangingChain$Row;", Cond.fieldLink RX1 29 "HangingChain$Chain" "settings" "LHangingChain$Row;", Cond.methodLink RX1 40 yX3_copyFrom, Cond.instanceMethod yX3_copyFrom, Cond.selects RX3 yX3_copyFrom yX3_copyFrom, Cond.initialized RX3, Cond.code yX3_copyFrom cX3_copyFrom 3 none]
def wsX5_prop_r3 : List Cond := [Cond.fieldLink RX3 7 "HangingChain$Row" "cells" "[I", Cond.methodLink RX3 13 yX3_at, Cond.instanceMethod yX3_at, Cond.selects RX3 yX3_at yX3_at, Cond.code yX3_at cX3_at 2 (some .int), Cond.methodLink RX5 84 yX3_at, Cond.methodLink RX5 88 yX3_put, Cond.instanceMethod yX3_put, Cond.selects RX3 yX3_put yX3_put, Cond.code yX3_put cX3_put 3 none]
def wsX5_prop : List Cond := .code yX5_prop cX5_prop 3 (some .int) :: ((wsX5_prop_r1 ++ (wsX5_prop_r2 ++ wsX5_prop_r3)) ++ wsX50 ++ wsX10 ++ wsX20 ++ wsX30 ++ (vx_atS RX5 288 "java/lang/IndexOutOfBoundsException" ["java/lang/RuntimeException", "java/lang/Exception"]).filter goodWord ++ (vx_atS RX5 125 "java/lang/IllegalArgumentException" ["java/lang/RuntimeException", "java/lang/Exception"]).filter goodWord)
def wsX5_move_r1 : List Cond := [Cond.classLink RX5 121 "java/lang/IllegalArgumentException", Cond.initialized "java/lang/IllegalArgumentException", Cond.fieldLink RX5 29 "HangingChain" "past" "LHangingChain$Past;", Cond.fieldLink RX5 10 "HangingChain" "chain" "LHangingChain$Chain;", Cond.methodLink RX5 102 yX5_requireJoint, Cond.instanceMethod yX5_requireJoint, Cond.selects RX5 yX5_requireJoint yX5_requireJoint, Cond.initialized RX5, Cond.code yX5_requireJoint cX5_requireJoint 2 none, Cond.classLink RX5 284 "java/lang/IndexOutOfBoundsException", Cond.initialized "java/lang/IndexOutOfBoundsException", Cond.fieldLink RX5 56 "HangingChain$Chain" "links" "I", Cond.methodLink RX5 66 yX2_save, Cond.instanceMethod yX2_save, Cond.selects RX2 yX2_save yX2_save, Cond.initialized RX2, Cond.code yX2_save cX2_save 3 none, Cond.fieldLink RX2 21 "HangingChain$Past" "kept" "I", Cond.fieldLink RX2 17 "HangingChain$Past" "oldest" "I", Cond.methodLink RX2 25 yX2_latest, Cond.instanceMethod yX2_latest, Cond.selects RX2 yX2_latest yX2_latest, Cond.code yX2_latest cX2_latest 2 (some (.object "HangingChain$Chain")), Cond.fieldLink RX2 11 "HangingChain$Past" "slots" "[LHangingChain$Chain;"]
def wsX5_move_r2 : List Cond := [Cond.methodLink RX2 29 yX1_copyFrom, Cond.instanceMethod yX1_copyFrom, Cond.selects RX1 yX1_copyFrom yX1_copyFrom, Cond.initialized RX1, Cond.code yX1_copyFrom cX1_copyFrom 2 none, Cond.fieldLink RX1 32 "HangingChain$Chain" "links" "I", Cond.fieldLink RX1 14 "HangingChain$Chain" "steps" "LHangingChain$Row;", Cond.fieldLink RX1 20 "HangingChain$Chain" "weights" "LHangingChain$Row;", Cond.fieldLink RX1 23 "HangingChain$Chain" "hangers" "LHangingChain$Row;", Cond.fieldLink RX1 26 "HangingChain$Chain" "props" "LHangingChain$Row;", Cond.fieldLink RX1 29 "HangingChain$Chain" "settings" "LHangingChain$Row;", Cond.methodLink RX1 40 yX3_copyFrom, Cond.instanceMethod yX3_copyFrom, Cond.selects RX3 yX3_copyFrom yX3_copyFrom, Cond.initialized RX3, Cond.code yX3_copyFrom cX3_copyFrom 3 none, Cond.fieldLink RX3 7 "HangingChain$Row" "cells" "[I", Cond.methodLink RX3 13 yX3_at, Cond.instanceMethod yX3_at, Cond.selects RX3 yX3_at yX3_at, Cond.code yX3_at cX3_at 2 (some .int), Cond.methodLink RX5 126 yX1_moveWeight, Cond.instanceMethod yX1_moveWeight, Cond.selects RX1 yX1_moveWeight yX1_moveWeight]
def wsX5_move_r3 : List Cond := [Cond.code yX1_moveWeight cX1_moveWeight 4 (some .int), Cond.methodLink RX1 54 Lib.Math.min.name, Cond.static Lib.Math.min.name, Cond.initialized "java/lang/Math", Cond.code Lib.Math.min.name Lib.Math.min.code 2 (some .int), Cond.methodLink RX1 50 yX3_at, Cond.methodLink RX1 36 yX3_put, Cond.instanceMethod yX3_put, Cond.selects RX3 yX3_put yX3_put, Cond.code yX3_put cX3_put 3 none]
def wsX5_move : List Cond := .code yX5_move cX5_move 3 (some .int) :: ((wsX5_move_r1 ++ (wsX5_move_r2 ++ wsX5_move_r3)) ++ wsX50 ++ wsX10 ++ wsX20 ++ wsX30 ++ (vx_atS RX5 125 "java/lang/IllegalArgumentException" ["java/lang/RuntimeException", "java/lang/Exception"]).filter goodWord ++ (vx_atS RX5 288 "java/lang/IndexOutOfBoundsException" ["java/lang/RuntimeException", "java/lang/Exception"]).filter goodWord)
def wsX5_requireSetting : List Cond := .code yX5_requireSetting cX5_requireSetting 1 none :: ([.classLink RX5 284 "java/lang/IndexOutOfBoundsException", .initialized "java/lang/IndexOutOfBoundsException"] ++ (vx_atS RX5 288 "java/lang/IndexOutOfBoundsException" ["java/lang/RuntimeException", "java/lang/Exception"]).filter goodWord)
def wsX5_leastOf : List Cond := .code yX5_leastOf cX5_leastOf 1 (some .int) :: ([])
def wsX5_mostOf : List Cond := .code yX5_mostOf cX5_mostOf 1 (some .int) :: ([])
def wsX5_set_r1 : List Cond := [Cond.classLink RX5 121 "java/lang/IllegalArgumentException", Cond.initialized "java/lang/IllegalArgumentException", Cond.fieldLink RX5 10 "HangingChain" "chain" "LHangingChain$Chain;", Cond.fieldLink RX5 141 "HangingChain$Chain" "settings" "LHangingChain$Row;", Cond.methodLink RX5 130 yX5_requireSetting, Cond.static yX5_requireSetting, Cond.initialized RX5, Cond.code yX5_requireSetting cX5_requireSetting 1 none, Cond.classLink RX5 284 "java/lang/IndexOutOfBoundsException", Cond.initialized "java/lang/IndexOutOfBoundsException", Cond.methodLink RX5 133 yX5_leastOf, Cond.static yX5_leastOf, Cond.code yX5_leastOf cX5_leastOf 1 (some .int), Cond.methodLink RX5 136 yX5_mostOf, Cond.static yX5_mostOf, Cond.code yX5_mostOf cX5_mostOf 1 (some .int), Cond.methodLink RX5 111 yX5_replace, Cond.instanceMethod yX5_replace, Cond.selects RX5 yX5_replace yX5_replace, Cond.code yX5_replace cX5_replace 5 (some .int), Cond.fieldLink RX5 29 "HangingChain" "past" "LHangingChain$Past;", Cond.methodLink RX5 66 yX2_save, Cond.instanceMethod yX2_save, Cond.selects RX2 yX2_save yX2_save]
def wsX5_set_r2 : List Cond := [Cond.initialized RX2, Cond.code yX2_save cX2_save 3 none, Cond.fieldLink RX2 21 "HangingChain$Past" "kept" "I", Cond.fieldLink RX2 17 "HangingChain$Past" "oldest" "I", Cond.methodLink RX2 25 yX2_latest, Cond.instanceMethod yX2_latest, Cond.selects RX2 yX2_latest yX2_latest, Cond.code yX2_latest cX2_latest 2 (some (.object "HangingChain$Chain")), Cond.fieldLink RX2 11 "HangingChain$Past" "slots" "[LHangingChain$Chain;", Cond.methodLink RX2 29 yX1_copyFrom, Cond.instanceMethod yX1_copyFrom, Cond.selects RX1 yX1_copyFrom yX1_copyFrom, Cond.initialized RX1, Cond.code yX1_copyFrom cX1_copyFrom 2 none, Cond.fieldLink RX1 32 "HangingChain$Chain" "links" "I", Cond.fieldLink RX1 14 "HangingChain$Chain" "steps" "LHangingChain$Row;", Cond.fieldLink RX1 20 "HangingChain$Chain" "weights" "LHangingChain$Row;", Cond.fieldLink RX1 23 "HangingChain$Chain" "hangers" "LHangingChain$Row;", Cond.fieldLink RX1 26 "HangingChain$Chain" "props" "LHangingChain$Row;", Cond.fieldLink RX1 29 "HangingChain$Chain" "settings" "LHangingChain$Row;", Cond.methodLink RX1 40 yX3_copyFrom, Cond.instanceMethod yX3_copyFrom, Cond.selects RX3 yX3_copyFrom yX3_copyFrom, Cond.initialized RX3]
def wsX5_set_r3 : List Cond := [Cond.code yX3_copyFrom cX3_copyFrom 3 none, Cond.fieldLink RX3 7 "HangingChain$Row" "cells" "[I", Cond.methodLink RX3 13 yX3_at, Cond.instanceMethod yX3_at, Cond.selects RX3 yX3_at yX3_at, Cond.code yX3_at cX3_at 2 (some .int), Cond.methodLink RX5 84 yX3_at, Cond.methodLink RX5 88 yX3_put, Cond.instanceMethod yX3_put, Cond.selects RX3 yX3_put yX3_put, Cond.code yX3_put cX3_put 3 none]
def wsX5_set : List Cond := .code yX5_set cX5_set 3 (some .int) :: ((wsX5_set_r1 ++ (wsX5_set_r2 ++ wsX5_set_r3)) ++ wsX50 ++ wsX10 ++ wsX20 ++ wsX30 ++ (vx_atS RX5 125 "java/lang/IllegalArgumentException" ["java/lang/RuntimeException", "java/lang/Exception"]).filter goodWord ++ (vx_atS RX5 288 "java/lang/IndexOutOfBoundsException" ["java/lang/RuntimeException", "java/lang/Exception"]).filter goodWord)
def wsX5_undo_r1 : List Cond := [Cond.classLink RX5 59 "java/lang/IllegalStateException", Cond.initialized "java/lang/IllegalStateException", Cond.fieldLink RX5 29 "HangingChain" "past" "LHangingChain$Past;", Cond.fieldLink RX5 165 "HangingChain$Past" "kept" "I", Cond.fieldLink RX5 10 "HangingChain" "chain" "LHangingChain$Chain;", Cond.methodLink RX5 170 yX2_restore, Cond.instanceMethod yX2_restore, Cond.selects RX2 yX2_restore yX2_restore, Cond.initialized RX2, Cond.code yX2_restore cX2_restore 3 none, Cond.fieldLink RX2 21 "HangingChain$Past" "kept" "I", Cond.methodLink RX2 25 yX2_latest, Cond.instanceMethod yX2_latest, Cond.selects RX2 yX2_latest yX2_latest, Cond.code yX2_latest cX2_latest 2 (some (.object "HangingChain$Chain")), Cond.fieldLink RX2 17 "HangingChain$Past" "oldest" "I", Cond.fieldLink RX2 11 "HangingChain$Past" "slots" "[LHangingChain$Chain;", Cond.methodLink RX2 29 yX1_copyFrom, Cond.instanceMethod yX1_copyFrom, Cond.selects RX1 yX1_copyFrom yX1_copyFrom, Cond.initialized RX1, Cond.code yX1_copyFrom cX1_copyFrom 2 none, Cond.fieldLink RX1 32 "HangingChain$Chain" "links" "I", Cond.fieldLink RX1 14 "HangingChain$Chain" "steps" "LHangingChain$Row;"]
def wsX5_undo_r2 : List Cond := [Cond.fieldLink RX1 20 "HangingChain$Chain" "weights" "LHangingChain$Row;", Cond.fieldLink RX1 23 "HangingChain$Chain" "hangers" "LHangingChain$Row;", Cond.fieldLink RX1 26 "HangingChain$Chain" "props" "LHangingChain$Row;", Cond.fieldLink RX1 29 "HangingChain$Chain" "settings" "LHangingChain$Row;", Cond.methodLink RX1 40 yX3_copyFrom, Cond.instanceMethod yX3_copyFrom, Cond.selects RX3 yX3_copyFrom yX3_copyFrom, Cond.initialized RX3, Cond.code yX3_copyFrom cX3_copyFrom 3 none, Cond.fieldLink RX3 7 "HangingChain$Row" "cells" "[I", Cond.methodLink RX3 13 yX3_at, Cond.instanceMethod yX3_at, Cond.selects RX3 yX3_at yX3_at, Cond.code yX3_at cX3_at 2 (some .int)]
def wsX5_undo : List Cond := .code yX5_undo cX5_undo 1 (some .int) :: ((wsX5_undo_r1 ++ wsX5_undo_r2) ++ wsX50 ++ wsX20 ++ wsX10 ++ wsX30 ++ (vx_atS RX5 63 "java/lang/IllegalStateException" ["java/lang/RuntimeException", "java/lang/Exception"]).filter goodWord)
def wsX5_requireWhat : List Cond := .code yX5_requireWhat cX5_requireWhat 2 none :: ([.classLink RX5 121 "java/lang/IllegalArgumentException", .initialized "java/lang/IllegalArgumentException"] ++ (vx_atS RX5 125 "java/lang/IllegalArgumentException" ["java/lang/RuntimeException", "java/lang/Exception"]).filter goodWord)
def wsX5_linkOf_r1 : List Cond := [Cond.fieldLink RX5 22 "HangingChain" "balance" "LHangingChain$Balance;", Cond.fieldLink RX5 10 "HangingChain" "chain" "LHangingChain$Chain;", Cond.fieldLink RX5 81 "HangingChain$Chain" "steps" "LHangingChain$Row;", Cond.fieldLink RX5 176 "HangingChain$Balance" "forces" "LHangingChain$Row;", Cond.methodLink RX5 73 yX5_requireLink, Cond.instanceMethod yX5_requireLink, Cond.selects RX5 yX5_requireLink yX5_requireLink, Cond.initialized RX5, Cond.code yX5_requireLink cX5_requireLink 2 none, Cond.classLink RX5 284 "java/lang/IndexOutOfBoundsException", Cond.initialized "java/lang/IndexOutOfBoundsException", Cond.fieldLink RX5 56 "HangingChain$Chain" "links" "I", Cond.methodLink RX5 173 yX5_requireWhat, Cond.static yX5_requireWhat, Cond.code yX5_requireWhat cX5_requireWhat 2 none, Cond.classLink RX5 121 "java/lang/IllegalArgumentException", Cond.initialized "java/lang/IllegalArgumentException", Cond.methodLink RX5 95 yX0_weigh, Cond.instanceMethod yX0_weigh, Cond.selects RX0 yX0_weigh yX0_weigh, Cond.initialized RX0, Cond.code yX0_weigh cX0_weigh 3 (some .int), Cond.fieldLink RX0 49 "HangingChain$Chain" "links" "I", Cond.fieldLink RX0 42 "HangingChain$Balance" "greatest" "I"]
def wsX5_linkOf_r2 : List Cond := [Cond.methodLink RX0 45 yX0_placeJoints, Cond.instanceMethod yX0_placeJoints, Cond.selects RX0 yX0_placeJoints yX0_placeJoints, Cond.code yX0_placeJoints cX0_placeJoints 4 none, Cond.fieldLink RX0 14 "HangingChain$Balance" "heights" "LHangingChain$Row;", Cond.fieldLink RX0 68 "HangingChain$Chain" "steps" "LHangingChain$Row;", Cond.methodLink RX0 64 yX3_put, Cond.instanceMethod yX3_put, Cond.selects RX3 yX3_put yX3_put, Cond.initialized RX3, Cond.code yX3_put cX3_put 3 none, Cond.fieldLink RX3 7 "HangingChain$Row" "cells" "[I", Cond.methodLink RX0 71 yX3_at, Cond.instanceMethod yX3_at, Cond.selects RX3 yX3_at yX3_at, Cond.code yX3_at cX3_at 2 (some .int), Cond.methodLink RX0 54 yX0_hold, Cond.instanceMethod yX0_hold, Cond.selects RX0 yX0_hold yX0_hold, Cond.code yX0_hold cX0_hold 9 none, Cond.fieldLink RX0 75 "HangingChain$Chain" "weights" "LHangingChain$Row;", Cond.fieldLink RX0 78 "HangingChain$Chain" "settings" "LHangingChain$Row;", Cond.fieldLink RX0 81 "HangingChain$Chain" "hangers" "LHangingChain$Row;", Cond.methodLink RX0 84 Lib.Math.min.name]
def wsX5_linkOf_r3 : List Cond := [Cond.static Lib.Math.min.name, Cond.initialized "java/lang/Math", Cond.code Lib.Math.min.name Lib.Math.min.code 2 (some .int), Cond.fieldLink RX0 90 "HangingChain$Chain" "props" "LHangingChain$Row;", Cond.fieldLink RX0 20 "HangingChain$Balance" "burdens" "LHangingChain$Row;", Cond.fieldLink RX0 23 "HangingChain$Balance" "byHangers" "LHangingChain$Row;", Cond.fieldLink RX0 26 "HangingChain$Balance" "byProps" "LHangingChain$Row;", Cond.fieldLink RX0 29 "HangingChain$Balance" "loads" "LHangingChain$Row;", Cond.methodLink RX0 58 yX0_loadWalls, Cond.instanceMethod yX0_loadWalls, Cond.selects RX0 yX0_loadWalls yX0_loadWalls, Cond.code yX0_loadWalls cX0_loadWalls 6 none, Cond.fieldLink RX0 35 "HangingChain$Balance" "ahead" "I", Cond.fieldLink RX0 39 "HangingChain$Balance" "behind" "I", Cond.methodLink RX0 61 yX0_pullLinks, Cond.instanceMethod yX0_pullLinks, Cond.selects RX0 yX0_pullLinks yX0_pullLinks, Cond.code yX0_pullLinks cX0_pullLinks 6 none, Cond.methodLink RX0 93 Lib.Math.abs.name, Cond.static Lib.Math.abs.name, Cond.code Lib.Math.abs.name Lib.Math.abs.code 1 (some .int), Cond.fieldLink RX0 32 "HangingChain$Balance" "forces" "LHangingChain$Row;", Cond.methodLink RX0 96 Lib.Math.max.name, Cond.static Lib.Math.max.name]
def wsX5_linkOf_r4 : List Cond := [Cond.code Lib.Math.max.name Lib.Math.max.code 2 (some .int), Cond.methodLink RX5 84 yX3_at, Cond.methodLink RX5 179 yX0_breaks, Cond.instanceMethod yX0_breaks, Cond.selects RX0 yX0_breaks yX0_breaks, Cond.code yX0_breaks cX0_breaks 3 (some .boolean)]
def wsX5_linkOf : List Cond := .code yX5_linkOf cX5_linkOf 3 (some .int) :: ((wsX5_linkOf_r1 ++ (wsX5_linkOf_r2 ++ (wsX5_linkOf_r3 ++ wsX5_linkOf_r4))) ++ wsX50 ++ wsX10 ++ wsX00 ++ wsX30 ++ (vx_atS RX5 288 "java/lang/IndexOutOfBoundsException" ["java/lang/RuntimeException", "java/lang/Exception"]).filter goodWord ++ (vx_atS RX5 125 "java/lang/IllegalArgumentException" ["java/lang/RuntimeException", "java/lang/Exception"]).filter goodWord)
def wsX5_joint_r1 : List Cond := [Cond.fieldLink RX5 22 "HangingChain" "balance" "LHangingChain$Balance;", Cond.fieldLink RX5 10 "HangingChain" "chain" "LHangingChain$Chain;", Cond.fieldLink RX5 99 "HangingChain$Balance" "heights" "LHangingChain$Row;", Cond.fieldLink RX5 108 "HangingChain$Chain" "weights" "LHangingChain$Row;", Cond.fieldLink RX5 115 "HangingChain$Chain" "hangers" "LHangingChain$Row;", Cond.fieldLink RX5 118 "HangingChain$Chain" "props" "LHangingChain$Row;", Cond.fieldLink RX5 183 "HangingChain$Balance" "burdens" "LHangingChain$Row;", Cond.fieldLink RX5 186 "HangingChain$Balance" "byHangers" "LHangingChain$Row;", Cond.fieldLink RX5 189 "HangingChain$Balance" "byProps" "LHangingChain$Row;", Cond.fieldLink RX5 192 "HangingChain$Balance" "loads" "LHangingChain$Row;", Cond.methodLink RX5 102 yX5_requireJoint, Cond.instanceMethod yX5_requireJoint, Cond.selects RX5 yX5_requireJoint yX5_requireJoint, Cond.initialized RX5, Cond.code yX5_requireJoint cX5_requireJoint 2 none, Cond.classLink RX5 284 "java/lang/IndexOutOfBoundsException", Cond.initialized "java/lang/IndexOutOfBoundsException", Cond.fieldLink RX5 56 "HangingChain$Chain" "links" "I", Cond.methodLink RX5 173 yX5_requireWhat, Cond.static yX5_requireWhat, Cond.code yX5_requireWhat cX5_requireWhat 2 none, Cond.classLink RX5 121 "java/lang/IllegalArgumentException", Cond.initialized "java/lang/IllegalArgumentException", Cond.methodLink RX5 95 yX0_weigh]
def wsX5_joint_r2 : List Cond := [Cond.instanceMethod yX0_weigh, Cond.selects RX0 yX0_weigh yX0_weigh, Cond.initialized RX0, Cond.code yX0_weigh cX0_weigh 3 (some .int), Cond.fieldLink RX0 49 "HangingChain$Chain" "links" "I", Cond.fieldLink RX0 42 "HangingChain$Balance" "greatest" "I", Cond.methodLink RX0 45 yX0_placeJoints, Cond.instanceMethod yX0_placeJoints, Cond.selects RX0 yX0_placeJoints yX0_placeJoints, Cond.code yX0_placeJoints cX0_placeJoints 4 none, Cond.fieldLink RX0 14 "HangingChain$Balance" "heights" "LHangingChain$Row;", Cond.fieldLink RX0 68 "HangingChain$Chain" "steps" "LHangingChain$Row;", Cond.methodLink RX0 64 yX3_put, Cond.instanceMethod yX3_put, Cond.selects RX3 yX3_put yX3_put, Cond.initialized RX3, Cond.code yX3_put cX3_put 3 none, Cond.fieldLink RX3 7 "HangingChain$Row" "cells" "[I", Cond.methodLink RX0 71 yX3_at, Cond.instanceMethod yX3_at, Cond.selects RX3 yX3_at yX3_at, Cond.code yX3_at cX3_at 2 (some .int), Cond.methodLink RX0 54 yX0_hold, Cond.instanceMethod yX0_hold]
def wsX5_joint_r3 : List Cond := [Cond.selects RX0 yX0_hold yX0_hold, Cond.code yX0_hold cX0_hold 9 none, Cond.fieldLink RX0 75 "HangingChain$Chain" "weights" "LHangingChain$Row;", Cond.fieldLink RX0 78 "HangingChain$Chain" "settings" "LHangingChain$Row;", Cond.fieldLink RX0 81 "HangingChain$Chain" "hangers" "LHangingChain$Row;", Cond.methodLink RX0 84 Lib.Math.min.name, Cond.static Lib.Math.min.name, Cond.initialized "java/lang/Math", Cond.code Lib.Math.min.name Lib.Math.min.code 2 (some .int), Cond.fieldLink RX0 90 "HangingChain$Chain" "props" "LHangingChain$Row;", Cond.fieldLink RX0 20 "HangingChain$Balance" "burdens" "LHangingChain$Row;", Cond.fieldLink RX0 23 "HangingChain$Balance" "byHangers" "LHangingChain$Row;", Cond.fieldLink RX0 26 "HangingChain$Balance" "byProps" "LHangingChain$Row;", Cond.fieldLink RX0 29 "HangingChain$Balance" "loads" "LHangingChain$Row;", Cond.methodLink RX0 58 yX0_loadWalls, Cond.instanceMethod yX0_loadWalls, Cond.selects RX0 yX0_loadWalls yX0_loadWalls, Cond.code yX0_loadWalls cX0_loadWalls 6 none, Cond.fieldLink RX0 35 "HangingChain$Balance" "ahead" "I", Cond.fieldLink RX0 39 "HangingChain$Balance" "behind" "I", Cond.methodLink RX0 61 yX0_pullLinks, Cond.instanceMethod yX0_pullLinks, Cond.selects RX0 yX0_pullLinks yX0_pullLinks, Cond.code yX0_pullLinks cX0_pullLinks 6 none]
def wsX5_joint_r4 : List Cond := [Cond.methodLink RX0 93 Lib.Math.abs.name, Cond.static Lib.Math.abs.name, Cond.code Lib.Math.abs.name Lib.Math.abs.code 1 (some .int), Cond.fieldLink RX0 32 "HangingChain$Balance" "forces" "LHangingChain$Row;", Cond.methodLink RX0 96 Lib.Math.max.name, Cond.static Lib.Math.max.name, Cond.code Lib.Math.max.name Lib.Math.max.code 2 (some .int), Cond.methodLink RX5 84 yX3_at]
def wsX5_joint : List Cond := .code yX5_joint cX5_joint 3 (some .int) :: ((wsX5_joint_r1 ++ (wsX5_joint_r2 ++ (wsX5_joint_r3 ++ wsX5_joint_r4))) ++ wsX50 ++ wsX00 ++ wsX10 ++ wsX30 ++ (vx_atS RX5 288 "java/lang/IndexOutOfBoundsException" ["java/lang/RuntimeException", "java/lang/Exception"]).filter goodWord ++ (vx_atS RX5 125 "java/lang/IllegalArgumentException" ["java/lang/RuntimeException", "java/lang/Exception"]).filter goodWord)
def wsX5_count_r1 : List Cond := [Cond.fieldLink RX5 22 "HangingChain" "balance" "LHangingChain$Balance;", Cond.fieldLink RX5 10 "HangingChain" "chain" "LHangingChain$Chain;", Cond.fieldLink RX5 56 "HangingChain$Chain" "links" "I", Cond.fieldLink RX5 108 "HangingChain$Chain" "weights" "LHangingChain$Row;", Cond.fieldLink RX5 198 "HangingChain$Balance" "ahead" "I", Cond.fieldLink RX5 201 "HangingChain$Balance" "behind" "I", Cond.fieldLink RX5 204 "HangingChain$Balance" "greatest" "I", Cond.fieldLink RX5 99 "HangingChain$Balance" "heights" "LHangingChain$Row;", Cond.fieldLink RX5 29 "HangingChain" "past" "LHangingChain$Past;", Cond.fieldLink RX5 165 "HangingChain$Past" "kept" "I", Cond.methodLink RX5 173 yX5_requireWhat, Cond.static yX5_requireWhat, Cond.initialized RX5, Cond.code yX5_requireWhat cX5_requireWhat 2 none, Cond.classLink RX5 121 "java/lang/IllegalArgumentException", Cond.initialized "java/lang/IllegalArgumentException", Cond.methodLink RX5 95 yX0_weigh, Cond.instanceMethod yX0_weigh, Cond.selects RX0 yX0_weigh yX0_weigh, Cond.initialized RX0, Cond.code yX0_weigh cX0_weigh 3 (some .int), Cond.fieldLink RX0 49 "HangingChain$Chain" "links" "I", Cond.fieldLink RX0 42 "HangingChain$Balance" "greatest" "I", Cond.methodLink RX0 45 yX0_placeJoints]
def wsX5_count_r2 : List Cond := [Cond.instanceMethod yX0_placeJoints, Cond.selects RX0 yX0_placeJoints yX0_placeJoints, Cond.code yX0_placeJoints cX0_placeJoints 4 none, Cond.fieldLink RX0 14 "HangingChain$Balance" "heights" "LHangingChain$Row;", Cond.fieldLink RX0 68 "HangingChain$Chain" "steps" "LHangingChain$Row;", Cond.methodLink RX0 64 yX3_put, Cond.instanceMethod yX3_put, Cond.selects RX3 yX3_put yX3_put, Cond.initialized RX3, Cond.code yX3_put cX3_put 3 none, Cond.fieldLink RX3 7 "HangingChain$Row" "cells" "[I", Cond.methodLink RX0 71 yX3_at, Cond.instanceMethod yX3_at, Cond.selects RX3 yX3_at yX3_at, Cond.code yX3_at cX3_at 2 (some .int), Cond.methodLink RX0 54 yX0_hold, Cond.instanceMethod yX0_hold, Cond.selects RX0 yX0_hold yX0_hold, Cond.code yX0_hold cX0_hold 9 none, Cond.fieldLink RX0 75 "HangingChain$Chain" "weights" "LHangingChain$Row;", Cond.fieldLink RX0 78 "HangingChain$Chain" "settings" "LHangingChain$Row;", Cond.fieldLink RX0 81 "HangingChain$Chain" "hangers" "LHangingChain$Row;", Cond.methodLink RX0 84 Lib.Math.min.name, Cond.static Lib.Math.min.name]
def wsX5_count_r3 : List Cond := [Cond.initialized "java/lang/Math", Cond.code Lib.Math.min.name Lib.Math.min.code 2 (some .int), Cond.fieldLink RX0 90 "HangingChain$Chain" "props" "LHangingChain$Row;", Cond.fieldLink RX0 20 "HangingChain$Balance" "burdens" "LHangingChain$Row;", Cond.fieldLink RX0 23 "HangingChain$Balance" "byHangers" "LHangingChain$Row;", Cond.fieldLink RX0 26 "HangingChain$Balance" "byProps" "LHangingChain$Row;", Cond.fieldLink RX0 29 "HangingChain$Balance" "loads" "LHangingChain$Row;", Cond.methodLink RX0 58 yX0_loadWalls, Cond.instanceMethod yX0_loadWalls, Cond.selects RX0 yX0_loadWalls yX0_loadWalls, Cond.code yX0_loadWalls cX0_loadWalls 6 none, Cond.fieldLink RX0 35 "HangingChain$Balance" "ahead" "I", Cond.fieldLink RX0 39 "HangingChain$Balance" "behind" "I", Cond.methodLink RX0 61 yX0_pullLinks, Cond.instanceMethod yX0_pullLinks, Cond.selects RX0 yX0_pullLinks yX0_pullLinks, Cond.code yX0_pullLinks cX0_pullLinks 6 none, Cond.methodLink RX0 93 Lib.Math.abs.name, Cond.static Lib.Math.abs.name, Cond.code Lib.Math.abs.name Lib.Math.abs.code 1 (some .int), Cond.fieldLink RX0 32 "HangingChain$Balance" "forces" "LHangingChain$Row;", Cond.methodLink RX0 96 Lib.Math.max.name, Cond.static Lib.Math.max.name, Cond.code Lib.Math.max.name Lib.Math.max.code 2 (some .int)]
def wsX5_count_r4 : List Cond := [Cond.methodLink RX5 195 yX3_sum, Cond.instanceMethod yX3_sum, Cond.selects RX3 yX3_sum yX3_sum, Cond.code yX3_sum cX3_sum 4 (some .int), Cond.methodLink RX5 207 yX0_broken, Cond.instanceMethod yX0_broken, Cond.selects RX0 yX0_broken yX0_broken, Cond.code yX0_broken cX0_broken 4 (some .int), Cond.methodLink RX0 99 yX0_breaks, Cond.instanceMethod yX0_breaks, Cond.selects RX0 yX0_breaks yX0_breaks, Cond.code yX0_breaks cX0_breaks 3 (some .boolean), Cond.methodLink RX5 210 yX0_holds, Cond.instanceMethod yX0_holds, Cond.selects RX0 yX0_holds yX0_holds, Cond.code yX0_holds cX0_holds 2 (some .boolean), Cond.methodLink RX5 214 yX0_lowest, Cond.instanceMethod yX0_lowest, Cond.selects RX0 yX0_lowest yX0_lowest, Cond.code yX0_lowest cX0_lowest 4 (some .int), Cond.methodLink RX5 84 yX3_at]
def wsX5_count : List Cond := .code yX5_count cX5_count 2 (some .int) :: ((wsX5_count_r1 ++ (wsX5_count_r2 ++ (wsX5_count_r3 ++ wsX5_count_r4))) ++ wsX50 ++ wsX10 ++ wsX00 ++ wsX20 ++ wsX30 ++ (vx_atS RX5 125 "java/lang/IllegalArgumentException" ["java/lang/RuntimeException", "java/lang/Exception"]).filter goodWord)
def wsX5_setting : List Cond := .code yX5_setting cX5_setting 2 (some .int) :: ([.fieldLink RX5 10 "HangingChain" "chain" "LHangingChain$Chain;", .fieldLink RX5 141 "HangingChain$Chain" "settings" "LHangingChain$Row;", .methodLink RX5 130 yX5_requireSetting, .static yX5_requireSetting, .initialized RX5, .code yX5_requireSetting cX5_requireSetting 1 none, .classLink RX5 284 "java/lang/IndexOutOfBoundsException", .initialized "java/lang/IndexOutOfBoundsException", .methodLink RX5 84 yX3_at, .instanceMethod yX3_at, .selects RX3 yX3_at yX3_at, .initialized RX3, .code yX3_at cX3_at 2 (some .int), .fieldLink RX3 7 "HangingChain$Row" "cells" "[I"] ++ wsX50 ++ wsX10 ++ wsX30 ++ (vx_atS RX5 288 "java/lang/IndexOutOfBoundsException" ["java/lang/RuntimeException", "java/lang/Exception"]).filter goodWord)
def wsX5_ifWeight_r1 : List Cond := [Cond.fieldLink RX5 16 "HangingChain" "trial" "LHangingChain$Chain;", Cond.fieldLink RX5 10 "HangingChain" "chain" "LHangingChain$Chain;", Cond.fieldLink RX5 108 "HangingChain$Chain" "weights" "LHangingChain$Row;", Cond.fieldLink RX5 22 "HangingChain" "balance" "LHangingChain$Balance;", Cond.methodLink RX5 102 yX5_requireJoint, Cond.instanceMethod yX5_requireJoint, Cond.selects RX5 yX5_requireJoint yX5_requireJoint, Cond.initialized RX5, Cond.code yX5_requireJoint cX5_requireJoint 2 none, Cond.classLink RX5 284 "java/lang/IndexOutOfBoundsException", Cond.initialized "java/lang/IndexOutOfBoundsException", Cond.fieldLink RX5 56 "HangingChain$Chain" "links" "I", Cond.methodLink RX5 105 yX5_requireAmount, Cond.static yX5_requireAmount, Cond.code yX5_requireAmount cX5_requireAmount 1 none, Cond.classLink RX5 121 "java/lang/IllegalArgumentException", Cond.initialized "java/lang/IllegalArgumentException", Cond.methodLink RX5 217 yX1_copyFrom, Cond.instanceMethod yX1_copyFrom, Cond.selects RX1 yX1_copyFrom yX1_copyFrom, Cond.initialized RX1, Cond.code yX1_copyFrom cX1_copyFrom 2 none, Cond.fieldLink RX1 32 "HangingChain$Chain" "links" "I", Cond.fieldLink RX1 14 "HangingChain$Chain" "steps" "LHangingChain$Row;"]
def wsX5_ifWeight_r2 : List Cond := [Cond.fieldLink RX1 20 "HangingChain$Chain" "weights" "LHangingChain$Row;", Cond.fieldLink RX1 23 "HangingChain$Chain" "hangers" "LHangingChain$Row;", Cond.fieldLink RX1 26 "HangingChain$Chain" "props" "LHangingChain$Row;", Cond.fieldLink RX1 29 "HangingChain$Chain" "settings" "LHangingChain$Row;", Cond.methodLink RX1 40 yX3_copyFrom, Cond.instanceMethod yX3_copyFrom, Cond.selects RX3 yX3_copyFrom yX3_copyFrom, Cond.initialized RX3, Cond.code yX3_copyFrom cX3_copyFrom 3 none, Cond.fieldLink RX3 7 "HangingChain$Row" "cells" "[I", Cond.methodLink RX3 13 yX3_at, Cond.instanceMethod yX3_at, Cond.selects RX3 yX3_at yX3_at, Cond.code yX3_at cX3_at 2 (some .int), Cond.methodLink RX5 88 yX3_put, Cond.instanceMethod yX3_put, Cond.selects RX3 yX3_put yX3_put, Cond.code yX3_put cX3_put 3 none, Cond.methodLink RX5 95 yX0_weigh, Cond.instanceMethod yX0_weigh, Cond.selects RX0 yX0_weigh yX0_weigh, Cond.initialized RX0, Cond.code yX0_weigh cX0_weigh 3 (some .int), Cond.fieldLink RX0 49 "HangingChain$Chain" "links" "I"]
def wsX5_ifWeight_r3 : List Cond := [Cond.fieldLink RX0 42 "HangingChain$Balance" "greatest" "I", Cond.methodLink RX0 45 yX0_placeJoints, Cond.instanceMethod yX0_placeJoints, Cond.selects RX0 yX0_placeJoints yX0_placeJoints, Cond.code yX0_placeJoints cX0_placeJoints 4 none, Cond.fieldLink RX0 14 "HangingChain$Balance" "heights" "LHangingChain$Row;", Cond.fieldLink RX0 68 "HangingChain$Chain" "steps" "LHangingChain$Row;", Cond.methodLink RX0 64 yX3_put, Cond.methodLink RX0 71 yX3_at, Cond.methodLink RX0 54 yX0_hold, Cond.instanceMethod yX0_hold, Cond.selects RX0 yX0_hold yX0_hold, Cond.code yX0_hold cX0_hold 9 none, Cond.fieldLink RX0 75 "HangingChain$Chain" "weights" "LHangingChain$Row;", Cond.fieldLink RX0 78 "HangingChain$Chain" "settings" "LHangingChain$Row;", Cond.fieldLink RX0 81 "HangingChain$Chain" "hangers" "LHangingChain$Row;", Cond.methodLink RX0 84 Lib.Math.min.name, Cond.static Lib.Math.min.name, Cond.initialized "java/lang/Math", Cond.code Lib.Math.min.name Lib.Math.min.code 2 (some .int), Cond.fieldLink RX0 90 "HangingChain$Chain" "props" "LHangingChain$Row;", Cond.fieldLink RX0 20 "HangingChain$Balance" "burdens" "LHangingChain$Row;", Cond.fieldLink RX0 23 "HangingChain$Balance" "byHangers" "LHangingChain$Row;", Cond.fieldLink RX0 26 "HangingChain$Balance" "byProps" "LHangingChain$Row;"]
def wsX5_ifWeight_r4 : List Cond := [Cond.fieldLink RX0 29 "HangingChain$Balance" "loads" "LHangingChain$Row;", Cond.methodLink RX0 58 yX0_loadWalls, Cond.instanceMethod yX0_loadWalls, Cond.selects RX0 yX0_loadWalls yX0_loadWalls, Cond.code yX0_loadWalls cX0_loadWalls 6 none, Cond.fieldLink RX0 35 "HangingChain$Balance" "ahead" "I", Cond.fieldLink RX0 39 "HangingChain$Balance" "behind" "I", Cond.methodLink RX0 61 yX0_pullLinks, Cond.instanceMethod yX0_pullLinks, Cond.selects RX0 yX0_pullLinks yX0_pullLinks, Cond.code yX0_pullLinks cX0_pullLinks 6 none, Cond.methodLink RX0 93 Lib.Math.abs.name, Cond.static Lib.Math.abs.name, Cond.code Lib.Math.abs.name Lib.Math.abs.code 1 (some .int), Cond.fieldLink RX0 32 "HangingChain$Balance" "forces" "LHangingChain$Row;", Cond.methodLink RX0 96 Lib.Math.max.name, Cond.static Lib.Math.max.name, Cond.code Lib.Math.max.name Lib.Math.max.code 2 (some .int)]
def wsX5_ifWeight : List Cond := .code yX5_ifWeight cX5_ifWeight 3 (some .int) :: ((wsX5_ifWeight_r1 ++ (wsX5_ifWeight_r2 ++ (wsX5_ifWeight_r3 ++ wsX5_ifWeight_r4))) ++ wsX50 ++ wsX10 ++ wsX30 ++ wsX00 ++ (vx_atS RX5 288 "java/lang/IndexOutOfBoundsException" ["java/lang/RuntimeException", "java/lang/Exception"]).filter goodWord ++ (vx_atS RX5 125 "java/lang/IllegalArgumentException" ["java/lang/RuntimeException", "java/lang/Exception"]).filter goodWord)
def wsX5_mostWeight_r1 : List Cond := [Cond.fieldLink RX5 16 "HangingChain" "trial" "LHangingChain$Chain;", Cond.fieldLink RX5 10 "HangingChain" "chain" "LHangingChain$Chain;", Cond.fieldLink RX5 108 "HangingChain$Chain" "weights" "LHangingChain$Row;", Cond.fieldLink RX5 22 "HangingChain" "balance" "LHangingChain$Balance;", Cond.methodLink RX5 102 yX5_requireJoint, Cond.instanceMethod yX5_requireJoint, Cond.selects RX5 yX5_requireJoint yX5_requireJoint, Cond.initialized RX5, Cond.code yX5_requireJoint cX5_requireJoint 2 none, Cond.classLink RX5 284 "java/lang/IndexOutOfBoundsException", Cond.initialized "java/lang/IndexOutOfBoundsException", Cond.fieldLink RX5 56 "HangingChain$Chain" "links" "I", Cond.methodLink RX5 217 yX1_copyFrom, Cond.instanceMethod yX1_copyFrom, Cond.selects RX1 yX1_copyFrom yX1_copyFrom, Cond.initialized RX1, Cond.code yX1_copyFrom cX1_copyFrom 2 none, Cond.fieldLink RX1 32 "HangingChain$Chain" "links" "I", Cond.fieldLink RX1 14 "HangingChain$Chain" "steps" "LHangingChain$Row;", Cond.fieldLink RX1 20 "HangingChain$Chain" "weights" "LHangingChain$Row;", Cond.fieldLink RX1 23 "HangingChain$Chain" "hangers" "LHangingChain$Row;", Cond.fieldLink RX1 26 "HangingChain$Chain" "props" "LHangingChain$Row;", Cond.fieldLink RX1 29 "HangingChain$Chain" "settings" "LHangingChain$Row;", Cond.methodLink RX1 40 yX3_copyFrom]
def wsX5_mostWeight_r2 : List Cond := [Cond.instanceMethod yX3_copyFrom, Cond.selects RX3 yX3_copyFrom yX3_copyFrom, Cond.initialized RX3, Cond.code yX3_copyFrom cX3_copyFrom 3 none, Cond.fieldLink RX3 7 "HangingChain$Row" "cells" "[I", Cond.methodLink RX3 13 yX3_at, Cond.instanceMethod yX3_at, Cond.selects RX3 yX3_at yX3_at, Cond.code yX3_at cX3_at 2 (some .int), Cond.methodLink RX5 88 yX3_put, Cond.instanceMethod yX3_put, Cond.selects RX3 yX3_put yX3_put, Cond.code yX3_put cX3_put 3 none, Cond.methodLink RX5 95 yX0_weigh, Cond.instanceMethod yX0_weigh, Cond.selects RX0 yX0_weigh yX0_weigh, Cond.initialized RX0, Cond.code yX0_weigh cX0_weigh 3 (some .int), Cond.fieldLink RX0 49 "HangingChain$Chain" "links" "I", Cond.fieldLink RX0 42 "HangingChain$Balance" "greatest" "I", Cond.methodLink RX0 45 yX0_placeJoints, Cond.instanceMethod yX0_placeJoints, Cond.selects RX0 yX0_placeJoints yX0_placeJoints, Cond.code yX0_placeJoints cX0_placeJoints 4 none]
def wsX5_mostWeight_r3 : List Cond := [Cond.fieldLink RX0 14 "HangingChain$Balance" "heights" "LHangingChain$Row;", Cond.fieldLink RX0 68 "HangingChain$Chain" "steps" "LHangingChain$Row;", Cond.methodLink RX0 64 yX3_put, Cond.methodLink RX0 71 yX3_at, Cond.methodLink RX0 54 yX0_hold, Cond.instanceMethod yX0_hold, Cond.selects RX0 yX0_hold yX0_hold, Cond.code yX0_hold cX0_hold 9 none, Cond.fieldLink RX0 75 "HangingChain$Chain" "weights" "LHangingChain$Row;", Cond.fieldLink RX0 78 "HangingChain$Chain" "settings" "LHangingChain$Row;", Cond.fieldLink RX0 81 "HangingChain$Chain" "hangers" "LHangingChain$Row;", Cond.methodLink RX0 84 Lib.Math.min.name, Cond.static Lib.Math.min.name, Cond.initialized "java/lang/Math", Cond.code Lib.Math.min.name Lib.Math.min.code 2 (some .int), Cond.fieldLink RX0 90 "HangingChain$Chain" "props" "LHangingChain$Row;", Cond.fieldLink RX0 20 "HangingChain$Balance" "burdens" "LHangingChain$Row;", Cond.fieldLink RX0 23 "HangingChain$Balance" "byHangers" "LHangingChain$Row;", Cond.fieldLink RX0 26 "HangingChain$Balance" "byProps" "LHangingChain$Row;", Cond.fieldLink RX0 29 "HangingChain$Balance" "loads" "LHangingChain$Row;", Cond.methodLink RX0 58 yX0_loadWalls, Cond.instanceMethod yX0_loadWalls, Cond.selects RX0 yX0_loadWalls yX0_loadWalls, Cond.code yX0_loadWalls cX0_loadWalls 6 none]
def wsX5_mostWeight_r4 : List Cond := [Cond.fieldLink RX0 35 "HangingChain$Balance" "ahead" "I", Cond.fieldLink RX0 39 "HangingChain$Balance" "behind" "I", Cond.methodLink RX0 61 yX0_pullLinks, Cond.instanceMethod yX0_pullLinks, Cond.selects RX0 yX0_pullLinks yX0_pullLinks, Cond.code yX0_pullLinks cX0_pullLinks 6 none, Cond.methodLink RX0 93 Lib.Math.abs.name, Cond.static Lib.Math.abs.name, Cond.code Lib.Math.abs.name Lib.Math.abs.code 1 (some .int), Cond.fieldLink RX0 32 "HangingChain$Balance" "forces" "LHangingChain$Row;", Cond.methodLink RX0 96 Lib.Math.max.name, Cond.static Lib.Math.max.name, Cond.code Lib.Math.max.name Lib.Math.max.code 2 (some .int), Cond.methodLink RX5 210 yX0_holds, Cond.instanceMethod yX0_holds, Cond.selects RX0 yX0_holds yX0_holds, Cond.code yX0_holds cX0_holds 2 (some .boolean)]
def wsX5_mostWeight : List Cond := .code yX5_mostWeight cX5_mostWeight 3 (some .int) :: ((wsX5_mostWeight_r1 ++ (wsX5_mostWeight_r2 ++ (wsX5_mostWeight_r3 ++ wsX5_mostWeight_r4))) ++ wsX50 ++ wsX10 ++ wsX30 ++ wsX00 ++ (vx_atS RX5 288 "java/lang/IndexOutOfBoundsException" ["java/lang/RuntimeException", "java/lang/Exception"]).filter goodWord)
def wsX5_bestMove_r1 : List Cond := [Cond.fieldLink RX5 10 "HangingChain" "chain" "LHangingChain$Chain;", Cond.fieldLink RX5 108 "HangingChain$Chain" "weights" "LHangingChain$Row;", Cond.fieldLink RX5 56 "HangingChain$Chain" "links" "I", Cond.fieldLink RX5 16 "HangingChain" "trial" "LHangingChain$Chain;", Cond.fieldLink RX5 22 "HangingChain" "balance" "LHangingChain$Balance;", Cond.methodLink RX5 102 yX5_requireJoint, Cond.instanceMethod yX5_requireJoint, Cond.selects RX5 yX5_requireJoint yX5_requireJoint, Cond.initialized RX5, Cond.code yX5_requireJoint cX5_requireJoint 2 none, Cond.classLink RX5 284 "java/lang/IndexOutOfBoundsException", Cond.initialized "java/lang/IndexOutOfBoundsException", Cond.methodLink RX5 84 yX3_at, Cond.instanceMethod yX3_at, Cond.selects RX3 yX3_at yX3_at, Cond.initialized RX3, Cond.code yX3_at cX3_at 2 (some .int), Cond.fieldLink RX3 7 "HangingChain$Row" "cells" "[I", Cond.methodLink RX5 217 yX1_copyFrom, Cond.instanceMethod yX1_copyFrom, Cond.selects RX1 yX1_copyFrom yX1_copyFrom, Cond.initialized RX1, Cond.code yX1_copyFrom cX1_copyFrom 2 none, Cond.fieldLink RX1 32 "HangingChain$Chain" "links" "I"]
def wsX5_bestMove_r2 : List Cond := [Cond.fieldLink RX1 14 "HangingChain$Chain" "steps" "LHangingChain$Row;", Cond.fieldLink RX1 20 "HangingChain$Chain" "weights" "LHangingChain$Row;", Cond.fieldLink RX1 23 "HangingChain$Chain" "hangers" "LHangingChain$Row;", Cond.fieldLink RX1 26 "HangingChain$Chain" "props" "LHangingChain$Row;", Cond.fieldLink RX1 29 "HangingChain$Chain" "settings" "LHangingChain$Row;", Cond.methodLink RX1 40 yX3_copyFrom, Cond.instanceMethod yX3_copyFrom, Cond.selects RX3 yX3_copyFrom yX3_copyFrom, Cond.code yX3_copyFrom cX3_copyFrom 3 none, Cond.methodLink RX3 13 yX3_at, Cond.methodLink RX5 126 yX1_moveWeight, Cond.instanceMethod yX1_moveWeight, Cond.selects RX1 yX1_moveWeight yX1_moveWeight, Cond.code yX1_moveWeight cX1_moveWeight 4 (some .int), Cond.methodLink RX1 54 Lib.Math.min.name, Cond.static Lib.Math.min.name, Cond.initialized "java/lang/Math", Cond.code Lib.Math.min.name Lib.Math.min.code 2 (some .int), Cond.methodLink RX1 50 yX3_at, Cond.methodLink RX1 36 yX3_put, Cond.instanceMethod yX3_put, Cond.selects RX3 yX3_put yX3_put, Cond.code yX3_put cX3_put 3 none, Cond.methodLink RX5 95 yX0_weigh]
def wsX5_bestMove_r3 : List Cond := [Cond.instanceMethod yX0_weigh, Cond.selects RX0 yX0_weigh yX0_weigh, Cond.initialized RX0, Cond.code yX0_weigh cX0_weigh 3 (some .int), Cond.fieldLink RX0 49 "HangingChain$Chain" "links" "I", Cond.fieldLink RX0 42 "HangingChain$Balance" "greatest" "I", Cond.methodLink RX0 45 yX0_placeJoints, Cond.instanceMethod yX0_placeJoints, Cond.selects RX0 yX0_placeJoints yX0_placeJoints, Cond.code yX0_placeJoints cX0_placeJoints 4 none, Cond.fieldLink RX0 14 "HangingChain$Balance" "heights" "LHangingChain$Row;", Cond.fieldLink RX0 68 "HangingChain$Chain" "steps" "LHangingChain$Row;", Cond.methodLink RX0 64 yX3_put, Cond.methodLink RX0 71 yX3_at, Cond.methodLink RX0 54 yX0_hold, Cond.instanceMethod yX0_hold, Cond.selects RX0 yX0_hold yX0_hold, Cond.code yX0_hold cX0_hold 9 none, Cond.fieldLink RX0 75 "HangingChain$Chain" "weights" "LHangingChain$Row;", Cond.fieldLink RX0 78 "HangingChain$Chain" "settings" "LHangingChain$Row;", Cond.fieldLink RX0 81 "HangingChain$Chain" "hangers" "LHangingChain$Row;", Cond.methodLink RX0 84 Lib.Math.min.name, Cond.fieldLink RX0 90 "HangingChain$Chain" "props" "LHangingChain$Row;", Cond.fieldLink RX0 20 "HangingChain$Balance" "burdens" "LHangingChain$Row;"]
def wsX5_bestMove_r4 : List Cond := [Cond.fieldLink RX0 23 "HangingChain$Balance" "byHangers" "LHangingChain$Row;", Cond.fieldLink RX0 26 "HangingChain$Balance" "byProps" "LHangingChain$Row;", Cond.fieldLink RX0 29 "HangingChain$Balance" "loads" "LHangingChain$Row;", Cond.methodLink RX0 58 yX0_loadWalls, Cond.instanceMethod yX0_loadWalls, Cond.selects RX0 yX0_loadWalls yX0_loadWalls, Cond.code yX0_loadWalls cX0_loadWalls 6 none, Cond.fieldLink RX0 35 "HangingChain$Balance" "ahead" "I", Cond.fieldLink RX0 39 "HangingChain$Balance" "behind" "I", Cond.methodLink RX0 61 yX0_pullLinks, Cond.instanceMethod yX0_pullLinks, Cond.selects RX0 yX0_pullLinks yX0_pullLinks, Cond.code yX0_pullLinks cX0_pullLinks 6 none, Cond.methodLink RX0 93 Lib.Math.abs.name, Cond.static Lib.Math.abs.name, Cond.code Lib.Math.abs.name Lib.Math.abs.code 1 (some .int), Cond.fieldLink RX0 32 "HangingChain$Balance" "forces" "LHangingChain$Row;", Cond.methodLink RX0 96 Lib.Math.max.name, Cond.static Lib.Math.max.name, Cond.code Lib.Math.max.name Lib.Math.max.code 2 (some .int)]
def wsX5_bestMove : List Cond := .code yX5_bestMove cX5_bestMove 6 (some .int) :: ((wsX5_bestMove_r1 ++ (wsX5_bestMove_r2 ++ (wsX5_bestMove_r3 ++ wsX5_bestMove_r4))) ++ wsX50 ++ wsX10 ++ wsX30 ++ wsX00 ++ (vx_atS RX5 288 "java/lang/IndexOutOfBoundsException" ["java/lang/RuntimeException", "java/lang/Exception"]).filter goodWord)
def wsX5_bestHanger_r1 : List Cond := [Cond.fieldLink RX5 10 "HangingChain" "chain" "LHangingChain$Chain;", Cond.fieldLink RX5 56 "HangingChain$Chain" "links" "I", Cond.fieldLink RX5 16 "HangingChain" "trial" "LHangingChain$Chain;", Cond.fieldLink RX5 115 "HangingChain$Chain" "hangers" "LHangingChain$Row;", Cond.methodLink RX5 220 Lib.Math.min.name, Cond.static Lib.Math.min.name, Cond.initialized "java/lang/Math", Cond.code Lib.Math.min.name Lib.Math.min.code 2 (some .int), Cond.fieldLink RX5 22 "HangingChain" "balance" "LHangingChain$Balance;", Cond.methodLink RX5 105 yX5_requireAmount, Cond.static yX5_requireAmount, Cond.initialized RX5, Cond.code yX5_requireAmount cX5_requireAmount 1 none, Cond.classLink RX5 121 "java/lang/IllegalArgumentException", Cond.initialized "java/lang/IllegalArgumentException", Cond.methodLink RX5 217 yX1_copyFrom, Cond.instanceMethod yX1_copyFrom, Cond.selects RX1 yX1_copyFrom yX1_copyFrom, Cond.initialized RX1, Cond.code yX1_copyFrom cX1_copyFrom 2 none, Cond.fieldLink RX1 32 "HangingChain$Chain" "links" "I", Cond.fieldLink RX1 14 "HangingChain$Chain" "steps" "LHangingChain$Row;", Cond.fieldLink RX1 20 "HangingChain$Chain" "weights" "LHangingChain$Row;", Cond.fieldLink RX1 23 "HangingChain$Chain" "hangers" "LHangingChain$Row;"]
def wsX5_bestHanger_r2 : List Cond := [Cond.fieldLink RX1 26 "HangingChain$Chain" "props" "LHangingChain$Row;", Cond.fieldLink RX1 29 "HangingChain$Chain" "settings" "LHangingChain$Row;", Cond.methodLink RX1 40 yX3_copyFrom, Cond.instanceMethod yX3_copyFrom, Cond.selects RX3 yX3_copyFrom yX3_copyFrom, Cond.initialized RX3, Cond.code yX3_copyFrom cX3_copyFrom 3 none, Cond.fieldLink RX3 7 "HangingChain$Row" "cells" "[I", Cond.methodLink RX3 13 yX3_at, Cond.instanceMethod yX3_at, Cond.selects RX3 yX3_at yX3_at, Cond.code yX3_at cX3_at 2 (some .int), Cond.methodLink RX5 84 yX3_at, Cond.methodLink RX5 88 yX3_put, Cond.instanceMethod yX3_put, Cond.selects RX3 yX3_put yX3_put, Cond.code yX3_put cX3_put 3 none, Cond.methodLink RX5 95 yX0_weigh, Cond.instanceMethod yX0_weigh, Cond.selects RX0 yX0_weigh yX0_weigh, Cond.initialized RX0, Cond.code yX0_weigh cX0_weigh 3 (some .int), Cond.fieldLink RX0 49 "HangingChain$Chain" "links" "I", Cond.fieldLink RX0 42 "HangingChain$Balance" "greatest" "I"]
def wsX5_bestHanger_r3 : List Cond := [Cond.methodLink RX0 45 yX0_placeJoints, Cond.instanceMethod yX0_placeJoints, Cond.selects RX0 yX0_placeJoints yX0_placeJoints, Cond.code yX0_placeJoints cX0_placeJoints 4 none, Cond.fieldLink RX0 14 "HangingChain$Balance" "heights" "LHangingChain$Row;", Cond.fieldLink RX0 68 "HangingChain$Chain" "steps" "LHangingChain$Row;", Cond.methodLink RX0 64 yX3_put, Cond.methodLink RX0 71 yX3_at, Cond.methodLink RX0 54 yX0_hold, Cond.instanceMethod yX0_hold, Cond.selects RX0 yX0_hold yX0_hold, Cond.code yX0_hold cX0_hold 9 none, Cond.fieldLink RX0 75 "HangingChain$Chain" "weights" "LHangingChain$Row;", Cond.fieldLink RX0 78 "HangingChain$Chain" "settings" "LHangingChain$Row;", Cond.fieldLink RX0 81 "HangingChain$Chain" "hangers" "LHangingChain$Row;", Cond.methodLink RX0 84 Lib.Math.min.name, Cond.fieldLink RX0 90 "HangingChain$Chain" "props" "LHangingChain$Row;", Cond.fieldLink RX0 20 "HangingChain$Balance" "burdens" "LHangingChain$Row;", Cond.fieldLink RX0 23 "HangingChain$Balance" "byHangers" "LHangingChain$Row;", Cond.fieldLink RX0 26 "HangingChain$Balance" "byProps" "LHangingChain$Row;", Cond.fieldLink RX0 29 "HangingChain$Balance" "loads" "LHangingChain$Row;", Cond.methodLink RX0 58 yX0_loadWalls, Cond.instanceMethod yX0_loadWalls, Cond.selects RX0 yX0_loadWalls yX0_loadWalls]
def wsX5_bestHanger_r4 : List Cond := [Cond.code yX0_loadWalls cX0_loadWalls 6 none, Cond.fieldLink RX0 35 "HangingChain$Balance" "ahead" "I", Cond.fieldLink RX0 39 "HangingChain$Balance" "behind" "I", Cond.methodLink RX0 61 yX0_pullLinks, Cond.instanceMethod yX0_pullLinks, Cond.selects RX0 yX0_pullLinks yX0_pullLinks, Cond.code yX0_pullLinks cX0_pullLinks 6 none, Cond.methodLink RX0 93 Lib.Math.abs.name, Cond.static Lib.Math.abs.name, Cond.code Lib.Math.abs.name Lib.Math.abs.code 1 (some .int), Cond.fieldLink RX0 32 "HangingChain$Balance" "forces" "LHangingChain$Row;", Cond.methodLink RX0 96 Lib.Math.max.name, Cond.static Lib.Math.max.name, Cond.code Lib.Math.max.name Lib.Math.max.code 2 (some .int)]
def wsX5_bestHanger : List Cond := .code yX5_bestHanger cX5_bestHanger 6 (some .int) :: ((wsX5_bestHanger_r1 ++ (wsX5_bestHanger_r2 ++ (wsX5_bestHanger_r3 ++ wsX5_bestHanger_r4))) ++ wsX50 ++ wsX10 ++ wsX30 ++ wsX00 ++ (vx_atS RX5 125 "java/lang/IllegalArgumentException" ["java/lang/RuntimeException", "java/lang/Exception"]).filter goodWord)
def wsX5_bestStep_r1 : List Cond := [Cond.fieldLink RX5 16 "HangingChain" "trial" "LHangingChain$Chain;", Cond.fieldLink RX5 10 "HangingChain" "chain" "LHangingChain$Chain;", Cond.fieldLink RX5 81 "HangingChain$Chain" "steps" "LHangingChain$Row;", Cond.fieldLink RX5 22 "HangingChain" "balance" "LHangingChain$Balance;", Cond.methodLink RX5 73 yX5_requireLink, Cond.instanceMethod yX5_requireLink, Cond.selects RX5 yX5_requireLink yX5_requireLink, Cond.initialized RX5, Cond.code yX5_requireLink cX5_requireLink 2 none, Cond.classLink RX5 284 "java/lang/IndexOutOfBoundsException", Cond.initialized "java/lang/IndexOutOfBoundsException", Cond.fieldLink RX5 56 "HangingChain$Chain" "links" "I", Cond.methodLink RX5 217 yX1_copyFrom, Cond.instanceMethod yX1_copyFrom, Cond.selects RX1 yX1_copyFrom yX1_copyFrom, Cond.initialized RX1, Cond.code yX1_copyFrom cX1_copyFrom 2 none, Cond.fieldLink RX1 32 "HangingChain$Chain" "links" "I", Cond.fieldLink RX1 14 "HangingChain$Chain" "steps" "LHangingChain$Row;", Cond.fieldLink RX1 20 "HangingChain$Chain" "weights" "LHangingChain$Row;", Cond.fieldLink RX1 23 "HangingChain$Chain" "hangers" "LHangingChain$Row;", Cond.fieldLink RX1 26 "HangingChain$Chain" "props" "LHangingChain$Row;", Cond.fieldLink RX1 29 "HangingChain$Chain" "settings" "LHangingChain$Row;", Cond.methodLink RX1 40 yX3_copyFrom]
def wsX5_bestStep_r2 : List Cond := [Cond.instanceMethod yX3_copyFrom, Cond.selects RX3 yX3_copyFrom yX3_copyFrom, Cond.initialized RX3, Cond.code yX3_copyFrom cX3_copyFrom 3 none, Cond.fieldLink RX3 7 "HangingChain$Row" "cells" "[I", Cond.methodLink RX3 13 yX3_at, Cond.instanceMethod yX3_at, Cond.selects RX3 yX3_at yX3_at, Cond.code yX3_at cX3_at 2 (some .int), Cond.methodLink RX5 88 yX3_put, Cond.instanceMethod yX3_put, Cond.selects RX3 yX3_put yX3_put, Cond.code yX3_put cX3_put 3 none, Cond.methodLink RX5 95 yX0_weigh, Cond.instanceMethod yX0_weigh, Cond.selects RX0 yX0_weigh yX0_weigh, Cond.initialized RX0, Cond.code yX0_weigh cX0_weigh 3 (some .int), Cond.fieldLink RX0 49 "HangingChain$Chain" "links" "I", Cond.fieldLink RX0 42 "HangingChain$Balance" "greatest" "I", Cond.methodLink RX0 45 yX0_placeJoints, Cond.instanceMethod yX0_placeJoints, Cond.selects RX0 yX0_placeJoints yX0_placeJoints, Cond.code yX0_placeJoints cX0_placeJoints 4 none]
def wsX5_bestStep_r3 : List Cond := [Cond.fieldLink RX0 14 "HangingChain$Balance" "heights" "LHangingChain$Row;", Cond.fieldLink RX0 68 "HangingChain$Chain" "steps" "LHangingChain$Row;", Cond.methodLink RX0 64 yX3_put, Cond.methodLink RX0 71 yX3_at, Cond.methodLink RX0 54 yX0_hold, Cond.instanceMethod yX0_hold, Cond.selects RX0 yX0_hold yX0_hold, Cond.code yX0_hold cX0_hold 9 none, Cond.fieldLink RX0 75 "HangingChain$Chain" "weights" "LHangingChain$Row;", Cond.fieldLink RX0 78 "HangingChain$Chain" "settings" "LHangingChain$Row;", Cond.fieldLink RX0 81 "HangingChain$Chain" "hangers" "LHangingChain$Row;", Cond.methodLink RX0 84 Lib.Math.min.name, Cond.static Lib.Math.min.name, Cond.initialized "java/lang/Math", Cond.code Lib.Math.min.name Lib.Math.min.code 2 (some .int), Cond.fieldLink RX0 90 "HangingChain$Chain" "props" "LHangingChain$Row;", Cond.fieldLink RX0 20 "HangingChain$Balance" "burdens" "LHangingChain$Row;", Cond.fieldLink RX0 23 "HangingChain$Balance" "byHangers" "LHangingChain$Row;", Cond.fieldLink RX0 26 "HangingChain$Balance" "byProps" "LHangingChain$Row;", Cond.fieldLink RX0 29 "HangingChain$Balance" "loads" "LHangingChain$Row;", Cond.methodLink RX0 58 yX0_loadWalls, Cond.instanceMethod yX0_loadWalls, Cond.selects RX0 yX0_loadWalls yX0_loadWalls, Cond.code yX0_loadWalls cX0_loadWalls 6 none]
def wsX5_bestStep_r4 : List Cond := [Cond.fieldLink RX0 35 "HangingChain$Balance" "ahead" "I", Cond.fieldLink RX0 39 "HangingChain$Balance" "behind" "I", Cond.methodLink RX0 61 yX0_pullLinks, Cond.instanceMethod yX0_pullLinks, Cond.selects RX0 yX0_pullLinks yX0_pullLinks, Cond.code yX0_pullLinks cX0_pullLinks 6 none, Cond.methodLink RX0 93 Lib.Math.abs.name, Cond.static Lib.Math.abs.name, Cond.code Lib.Math.abs.name Lib.Math.abs.code 1 (some .int), Cond.fieldLink RX0 32 "HangingChain$Balance" "forces" "LHangingChain$Row;", Cond.methodLink RX0 96 Lib.Math.max.name, Cond.static Lib.Math.max.name, Cond.code Lib.Math.max.name Lib.Math.max.code 2 (some .int)]
def wsX5_bestStep : List Cond := .code yX5_bestStep cX5_bestStep 6 (some .int) :: ((wsX5_bestStep_r1 ++ (wsX5_bestStep_r2 ++ (wsX5_bestStep_r3 ++ wsX5_bestStep_r4))) ++ wsX50 ++ wsX10 ++ wsX30 ++ wsX00 ++ (vx_atS RX5 288 "java/lang/IndexOutOfBoundsException" ["java/lang/RuntimeException", "java/lang/Exception"]).filter goodWord)
def wsX5_evenness_r1 : List Cond := [Cond.fieldLink RX5 22 "HangingChain" "balance" "LHangingChain$Balance;", Cond.fieldLink RX5 10 "HangingChain" "chain" "LHangingChain$Chain;", Cond.fieldLink RX5 198 "HangingChain$Balance" "ahead" "I", Cond.fieldLink RX5 201 "HangingChain$Balance" "behind" "I", Cond.methodLink RX5 220 Lib.Math.min.name, Cond.static Lib.Math.min.name, Cond.initialized "java/lang/Math", Cond.code Lib.Math.min.name Lib.Math.min.code 2 (some .int), Cond.methodLink RX5 225 Lib.Math.max.name, Cond.static Lib.Math.max.name, Cond.code Lib.Math.max.name Lib.Math.max.code 2 (some .int), Cond.methodLink RX5 95 yX0_weigh, Cond.instanceMethod yX0_weigh, Cond.selects RX0 yX0_weigh yX0_weigh, Cond.initialized RX0, Cond.code yX0_weigh cX0_weigh 3 (some .int), Cond.fieldLink RX0 49 "HangingChain$Chain" "links" "I", Cond.fieldLink RX0 42 "HangingChain$Balance" "greatest" "I", Cond.methodLink RX0 45 yX0_placeJoints, Cond.instanceMethod yX0_placeJoints, Cond.selects RX0 yX0_placeJoints yX0_placeJoints, Cond.code yX0_placeJoints cX0_placeJoints 4 none, Cond.fieldLink RX0 14 "HangingChain$Balance" "heights" "LHangingChain$Row;", Cond.fieldLink RX0 68 "HangingChain$Chain" "steps" "LHangingChain$Row;"]
def wsX5_evenness_r2 : List Cond := [Cond.methodLink RX0 64 yX3_put, Cond.instanceMethod yX3_put, Cond.selects RX3 yX3_put yX3_put, Cond.initialized RX3, Cond.code yX3_put cX3_put 3 none, Cond.fieldLink RX3 7 "HangingChain$Row" "cells" "[I", Cond.methodLink RX0 71 yX3_at, Cond.instanceMethod yX3_at, Cond.selects RX3 yX3_at yX3_at, Cond.code yX3_at cX3_at 2 (some .int), Cond.methodLink RX0 54 yX0_hold, Cond.instanceMethod yX0_hold, Cond.selects RX0 yX0_hold yX0_hold, Cond.code yX0_hold cX0_hold 9 none, Cond.fieldLink RX0 75 "HangingChain$Chain" "weights" "LHangingChain$Row;", Cond.fieldLink RX0 78 "HangingChain$Chain" "settings" "LHangingChain$Row;", Cond.fieldLink RX0 81 "HangingChain$Chain" "hangers" "LHangingChain$Row;", Cond.methodLink RX0 84 Lib.Math.min.name, Cond.fieldLink RX0 90 "HangingChain$Chain" "props" "LHangingChain$Row;", Cond.fieldLink RX0 20 "HangingChain$Balance" "burdens" "LHangingChain$Row;", Cond.fieldLink RX0 23 "HangingChain$Balance" "byHangers" "LHangingChain$Row;", Cond.fieldLink RX0 26 "HangingChain$Balance" "byProps" "LHangingChain$Row;", Cond.fieldLink RX0 29 "HangingChain$Balance" "loads" "LHangingChain$Row;", Cond.methodLink RX0 58 yX0_loadWalls]
def wsX5_evenness_r3 : List Cond := [Cond.instanceMethod yX0_loadWalls, Cond.selects RX0 yX0_loadWalls yX0_loadWalls, Cond.code yX0_loadWalls cX0_loadWalls 6 none, Cond.fieldLink RX0 35 "HangingChain$Balance" "ahead" "I", Cond.fieldLink RX0 39 "HangingChain$Balance" "behind" "I", Cond.methodLink RX0 61 yX0_pullLinks, Cond.instanceMethod yX0_pullLinks, Cond.selects RX0 yX0_pullLinks yX0_pullLinks, Cond.code yX0_pullLinks cX0_pullLinks 6 none, Cond.methodLink RX0 93 Lib.Math.abs.name, Cond.static Lib.Math.abs.name, Cond.code Lib.Math.abs.name Lib.Math.abs.code 1 (some .int), Cond.fieldLink RX0 32 "HangingChain$Balance" "forces" "LHangingChain$Row;", Cond.methodLink RX0 96 Lib.Math.max.name]
def wsX5_evenness : List Cond := .code yX5_evenness cX5_evenness 3 (some .double) :: ((wsX5_evenness_r1 ++ (wsX5_evenness_r2 ++ wsX5_evenness_r3)) ++ wsX50 ++ wsX00 ++ wsX10 ++ wsX30)
set_option maxRecDepth 20000 in
theorem ggX5_init_X1_init : GoodIn wsX5_init wsX1_init := goodIn_r _ [28, 29, 2, 3, 30, 18, 19, 31, 32, 33, 34, 35, 36, 37, 38, 39, 40, 41, 42, 43, 44, 45, 46, 105, 80, 81, 82, 83, 84, 85] (by decide +kernel) (by decide +kernel)
set_option maxRecDepth 20000 in
theorem gX5_init_X1_init : GoodIn wsX5_init (wsX1_init) := ggX5_init_X1_init
set_option maxRecDepth 20000 in
theorem ggX5_init_X0_init : GoodIn wsX5_init wsX0_init := goodIn_r _ [48, 49, 2, 3, 50, 18, 19, 51, 52, 53, 54, 55, 56, 57, 58, 59, 60, 38, 39, 40, 41, 42, 105, 93, 94, 95, 96, 97, 98, 99, 100, 101] (by decide +kernel) (by decide +kernel)
set_option maxRecDepth 20000 in
theorem gX5_init_X0_init_n21 : GoodIn wsX5_init (wsX0_init) := ggX5_init_X0_init
set_option maxRecDepth 20000 in
theorem ggX5_init_X2_init : GoodIn wsX5_init wsX2_init := goodIn_r _ [63, 64, 2, 3, 65, 66, 67, 68, 5, 6, 69, 27, 28, 29, 30, 18, 19, 31, 32, 33, 34, 35, 36, 37, 38, 39, 40, 41, 42, 43, 44, 45, 46, 102, 103, 104, 80, 81, 82, 83, 84, 85, 105] (by decide +kernel) (by decide +kernel)
set_option maxRecDepth 20000 in
theorem gX5_init_X2_init : GoodIn wsX5_init (wsX2_init) := ggX5_init_X2_init
set_option maxRecDepth 20000 in
theorem ggX5_init_X3_init : GoodIn wsX5_init wsX3_init := goodIn_r _ [39, 40, 2, 3, 41, 42, 105] (by decide +kernel) (by decide +kernel)
set_option maxRecDepth 20000 in
theorem gX5_init_X3_init : GoodIn wsX5_init (wsX3_init) := ggX5_init_X3_init
set_option maxRecDepth 20000 in
theorem ggX5_init_X4_init : GoodIn wsX5_init wsX4_init := goodIn_r _ [72, 73, 2, 3, 74, 18, 19, 75, 76, 77, 78, 79, 38, 39, 40, 41, 42, 105, 106, 107, 108, 109] (by decide +kernel) (by decide +kernel)
set_option maxRecDepth 20000 in
theorem gX5_init_X4_init_n44 : GoodIn wsX5_init (wsX4_init) := ggX5_init_X4_init
theorem dX5_init_0 : decode cX5_init 0 = .ok (.aload_n 0, 1) := by decide +kernel
theorem dX5_init_1 : decode cX5_init 1 = .ok (.invokespecial 1, 3) := by decide +kernel
theorem dX5_init_4 : decode cX5_init 4 = .ok (.aload_n 0, 1) := by decide +kernel
theorem dX5_init_5 : decode cX5_init 5 = .ok (.new 7, 3) := by decide +kernel
theorem dX5_init_8 : decode cX5_init 8 = .ok (.dup, 1) := by decide +kernel
theorem dX5_init_9 : decode cX5_init 9 = .ok (.invokespecial 9, 3) := by decide +kernel
theorem dX5_init_12 : decode cX5_init 12 = .ok (.putfield 10, 3) := by decide +kernel
theorem dX5_init_15 : decode cX5_init 15 = .ok (.aload_n 0, 1) := by decide +kernel
theorem dX5_init_16 : decode cX5_init 16 = .ok (.new 7, 3) := by decide +kernel
theorem dX5_init_19 : decode cX5_init 19 = .ok (.dup, 1) := by decide +kernel
theorem dX5_init_20 : decode cX5_init 20 = .ok (.invokespecial 9, 3) := by decide +kernel
theorem dX5_init_23 : decode cX5_init 23 = .ok (.putfield 16, 3) := by decide +kernel
theorem dX5_init_26 : decode cX5_init 26 = .ok (.aload_n 0, 1) := by decide +kernel
theorem dX5_init_27 : decode cX5_init 27 = .ok (.new 19, 3) := by decide +kernel
theorem dX5_init_30 : decode cX5_init 30 = .ok (.dup, 1) := by decide +kernel
theorem dX5_init_31 : decode cX5_init 31 = .ok (.invokespecial 21, 3) := by decide +kernel
theorem dX5_init_34 : decode cX5_init 34 = .ok (.putfield 22, 3) := by decide +kernel
theorem dX5_init_37 : decode cX5_init 37 = .ok (.aload_n 0, 1) := by decide +kernel
theorem dX5_init_38 : decode cX5_init 38 = .ok (.new 26, 3) := by decide +kernel
theorem dX5_init_41 : decode cX5_init 41 = .ok (.dup, 1) := by decide +kernel
theorem dX5_init_42 : decode cX5_init 42 = .ok (.invokespecial 28, 3) := by decide +kernel
theorem dX5_init_45 : decode cX5_init 45 = .ok (.putfield 29, 3) := by decide +kernel
theorem dX5_init_48 : decode cX5_init 48 = .ok (.aload_n 0, 1) := by decide +kernel
theorem dX5_init_49 : decode cX5_init 49 = .ok (.new 33, 3) := by decide +kernel
theorem dX5_init_52 : decode cX5_init 52 = .ok (.dup, 1) := by decide +kernel
theorem dX5_init_53 : decode cX5_init 53 = .ok (.bipush 60, 2) := by decide +kernel
theorem dX5_init_55 : decode cX5_init 55 = .ok (.invokespecial 35, 3) := by decide +kernel
theorem dX5_init_58 : decode cX5_init 58 = .ok (.putfield 38, 3) := by decide +kernel
theorem dX5_init_61 : decode cX5_init 61 = .ok (.aload_n 0, 1) := by decide +kernel
theorem dX5_init_62 : decode cX5_init 62 = .ok (.new 42, 3) := by decide +kernel
theorem dX5_init_65 : decode cX5_init 65 = .ok (.dup, 1) := by decide +kernel
theorem dX5_init_66 : decode cX5_init 66 = .ok (.invokespecial 44, 3) := by decide +kernel
theorem dX5_init_69 : decode cX5_init 69 = .ok (.putfield 45, 3) := by decide +kernel
theorem dX5_init_72 : decode cX5_init 72 = .ok (.aload_n 0, 1) := by decide +kernel
theorem dX5_init_73 : decode cX5_init 73 = .ok (.iconst 0, 1) := by decide +kernel
theorem dX5_init_74 : decode cX5_init 74 = .ok (.putfield 49, 3) := by decide +kernel
theorem dX5_init_77 : decode cX5_init 77 = .ok (.return_, 1) := by decide +kernel
set_option maxRecDepth 20000 in
theorem ggX5_link_X5_requireStep : GoodIn wsX5_link wsX5_requireStep := goodIn_ca (goodIn_r _ [9, 10, 11] (by decide +kernel) (by decide +kernel)) (goodIn_sub (fun _ h => List.mem_cons_of_mem _ (List.mem_append_right _ h)) (by decide +kernel))
set_option maxRecDepth 20000 in
theorem gX5_link_X5_requireStep : GoodIn wsX5_link (va_wsS RX5 53 yX5_requireStep wsX5_requireStep) := goodIn_app (goodIn_of _ (by decide +kernel)) ggX5_link_X5_requireStep
set_option maxRecDepth 20000 in
theorem ggX5_link_X2_save : GoodIn wsX5_link wsX2_save := goodIn_r _ [16, 17, 18, 19, 20, 21, 15, 22, 23, 24, 25, 26, 27, 28, 29, 30, 31, 32, 33, 34, 35, 36, 37, 38, 39, 40, 41, 42, 43, 44, 66, 67, 68, 60, 61, 62, 63, 64, 65, 69] (by decide +kernel) (by decide +kernel)
set_option maxRecDepth 20000 in
theorem gX5_link_X2_save : GoodIn wsX5_link (wsV RX5 66 RX2 yX2_save wsX2_save) := goodIn_app (goodIn_of _ (by decide +kernel)) ggX5_link_X2_save
set_option maxRecDepth 20000 in
theorem ggX5_link_X1_addLink : GoodIn wsX5_link wsX1_addLink := goodIn_r _ [48, 30, 29, 31, 32, 33, 49, 50, 51, 38, 52, 40, 60, 61, 62, 63, 64, 65, 69] (by decide +kernel) (by decide +kernel)
set_option maxRecDepth 20000 in
theorem gX5_link_X1_addLink : GoodIn wsX5_link (wsV RX5 70 RX1 yX1_addLink wsX1_addLink) := goodIn_app (goodIn_of _ (by decide +kernel)) ggX5_link_X1_addLink
theorem dX5_link_0 : decode cX5_link 0 = .ok (.iload_n 1, 1) := by decide +kernel
theorem dX5_link_1 : decode cX5_link 1 = .ok (.invokestatic 53, 3) := by decide +kernel
theorem dX5_link_4 : decode cX5_link 4 = .ok (.aload_n 0, 1) := by decide +kernel
theorem dX5_link_5 : decode cX5_link 5 = .ok (.getfield 10, 3) := by decide +kernel
theorem dX5_link_8 : decode cX5_link 8 = .ok (.getfield 56, 3) := by decide +kernel
theorem dX5_link_11 : decode cX5_link 11 = .ok (.bipush 20, 2) := by decide +kernel
theorem dX5_link_13 : decode cX5_link 13 = .ok (.if_icmp .lt 13, 3) := by decide +kernel
theorem dX5_link_16 : decode cX5_link 16 = .ok (.new 59, 3) := by decide +kernel
theorem dX5_link_19 : decode cX5_link 19 = .ok (.dup, 1) := by decide +kernel
theorem dX5_link_20 : decode cX5_link 20 = .ok (.ldc 61, 2) := by decide +kernel
theorem dX5_link_22 : decode cX5_link 22 = .ok (.invokespecial 63, 3) := by decide +kernel
theorem dX5_link_25 : decode cX5_link 25 = .ok (.athrow, 1) := by decide +kernel
theorem dX5_link_26 : decode cX5_link 26 = .ok (.aload_n 0, 1) := by decide +kernel
theorem dX5_link_27 : decode cX5_link 27 = .ok (.getfield 29, 3) := by decide +kernel
theorem dX5_link_30 : decode cX5_link 30 = .ok (.aload_n 0, 1) := by decide +kernel
theorem dX5_link_31 : decode cX5_link 31 = .ok (.getfield 10, 3) := by decide +kernel
theorem dX5_link_34 : decode cX5_link 34 = .ok (.invokevirtual 66, 3) := by decide +kernel
theorem dX5_link_37 : decode cX5_link 37 = .ok (.aload_n 0, 1) := by decide +kernel
theorem dX5_link_38 : decode cX5_link 38 = .ok (.getfield 10, 3) := by decide +kernel
theorem dX5_link_41 : decode cX5_link 41 = .ok (.iload_n 1, 1) := by decide +kernel
theorem dX5_link_42 : decode cX5_link 42 = .ok (.invokevirtual 70, 3) := by decide +kernel
theorem dX5_link_45 : decode cX5_link 45 = .ok (.aload_n 0, 1) := by decide +kernel
theorem dX5_link_46 : decode cX5_link 46 = .ok (.getfield 10, 3) := by decide +kernel
theorem dX5_link_49 : decode cX5_link 49 = .ok (.getfield 56, 3) := by decide +kernel
theorem dX5_link_52 : decode cX5_link 52 = .ok (.ireturn, 1) := by decide +kernel
set_option maxRecDepth 20000 in
theorem ggX5_cut_X5_requireLink : GoodIn wsX5_cut wsX5_requireLink := goodIn_ca (goodIn_r _ [10, 11, 12, 3, 4, 58, 59, 60, 61, 62, 63, 64, 65, 66, 67, 68, 69, 70] (by decide +kernel) (by decide +kernel)) (goodIn_sub (fun _ h => List.mem_cons_of_mem _ (List.mem_append_right _ h)) (by decide +kernel))
set_option maxRecDepth 20000 in
theorem gX5_cut_X5_requireLink : GoodIn wsX5_cut (wsV RX5 73 RX5 yX5_requireLink wsX5_requireLink) := goodIn_app (goodIn_of _ (by decide +kernel)) ggX5_cut_X5_requireLink
set_option maxRecDepth 20000 in
theorem ggX5_cut_X2_save : GoodIn wsX5_cut wsX2_save := goodIn_r _ [17, 18, 19, 20, 21, 22, 16, 23, 24, 25, 26, 27, 28, 29, 30, 31, 32, 33, 34, 35, 36, 37, 38, 39, 40, 41, 42, 43, 44, 45, 71, 72, 73, 65, 66, 67, 68, 69, 70, 74] (by decide +kernel) (by decide +kernel)
set_option maxRecDepth 20000 in
theorem gX5_cut_X2_save : GoodIn wsX5_cut (wsV RX5 66 RX2 yX2_save wsX2_save) := goodIn_app (goodIn_of _ (by decide +kernel)) ggX5_cut_X2_save
set_option maxRecDepth 20000 in
theorem ggX5_cut_X1_takeLink : GoodIn wsX5_cut wsX1_takeLink := goodIn_r _ [49, 31, 32, 33, 34, 30, 50, 51, 52, 39, 53, 41, 42, 43, 44, 45, 54, 55, 56, 57, 65, 66, 67, 68, 69, 70, 74] (by decide +kernel) (by decide +kernel)
set_option maxRecDepth 20000 in
theorem gX5_cut_X1_takeLink : GoodIn wsX5_cut (wsV RX5 78 RX1 yX1_takeLink wsX1_takeLink) := goodIn_app (goodIn_of _ (by decide +kernel)) ggX5_cut_X1_takeLink
theorem dX5_cut_0 : decode cX5_cut 0 = .ok (.aload_n 0, 1) := by decide +kernel
theorem dX5_cut_1 : decode cX5_cut 1 = .ok (.iload_n 1, 1) := by decide +kernel
theorem dX5_cut_2 : decode cX5_cut 2 = .ok (.invokevirtual 73, 3) := by decide +kernel
theorem dX5_cut_5 : decode cX5_cut 5 = .ok (.aload_n 0, 1) := by decide +kernel
theorem dX5_cut_6 : decode cX5_cut 6 = .ok (.getfield 10, 3) := by decide +kernel
theorem dX5_cut_9 : decode cX5_cut 9 = .ok (.getfield 56, 3) := by decide +kernel
theorem dX5_cut_12 : decode cX5_cut 12 = .ok (.iconst 1, 1) := by decide +kernel
theorem dX5_cut_13 : decode cX5_cut 13 = .ok (.if_icmp .gt 13, 3) := by decide +kernel
theorem dX5_cut_16 : decode cX5_cut 16 = .ok (.new 59, 3) := by decide +kernel
theorem dX5_cut_19 : decode cX5_cut 19 = .ok (.dup, 1) := by decide +kernel
theorem dX5_cut_20 : decode cX5_cut 20 = .ok (.ldc 76, 2) := by decide +kernel
theorem dX5_cut_22 : decode cX5_cut 22 = .ok (.invokespecial 63, 3) := by decide +kernel
theorem dX5_cut_25 : decode cX5_cut 25 = .ok (.athrow, 1) := by decide +kernel
theorem dX5_cut_26 : decode cX5_cut 26 = .ok (.aload_n 0, 1) := by decide +kernel
theorem dX5_cut_27 : decode cX5_cut 27 = .ok (.getfield 29, 3) := by decide +kernel
theorem dX5_cut_30 : decode cX5_cut 30 = .ok (.aload_n 0, 1) := by decide +kernel
theorem dX5_cut_31 : decode cX5_cut 31 = .ok (.getfield 10, 3) := by decide +kernel
theorem dX5_cut_34 : decode cX5_cut 34 = .ok (.invokevirtual 66, 3) := by decide +kernel
theorem dX5_cut_37 : decode cX5_cut 37 = .ok (.aload_n 0, 1) := by decide +kernel
theorem dX5_cut_38 : decode cX5_cut 38 = .ok (.getfield 10, 3) := by decide +kernel
theorem dX5_cut_41 : decode cX5_cut 41 = .ok (.iload_n 1, 1) := by decide +kernel
theorem dX5_cut_42 : decode cX5_cut 42 = .ok (.invokevirtual 78, 3) := by decide +kernel
theorem dX5_cut_45 : decode cX5_cut 45 = .ok (.aload_n 0, 1) := by decide +kernel
theorem dX5_cut_46 : decode cX5_cut 46 = .ok (.getfield 10, 3) := by decide +kernel
theorem dX5_cut_49 : decode cX5_cut 49 = .ok (.getfield 56, 3) := by decide +kernel
theorem dX5_cut_52 : decode cX5_cut 52 = .ok (.ireturn, 1) := by decide +kernel
set_option maxRecDepth 20000 in
theorem ggX5_bend_X5_requireLink : GoodIn wsX5_bend wsX5_requireLink := goodIn_ca (goodIn_r _ [8, 9, 10, 2, 11, 55, 56, 57, 58, 59, 60, 61, 62, 63, 64, 65, 66, 67] (by decide +kernel) (by decide +kernel)) (goodIn_sub (fun _ h => List.mem_cons_of_mem _ (List.mem_append_left _ (List.mem_append_right _ h))) (by decide +kernel))
set_option maxRecDepth 20000 in
theorem gX5_bend_X5_requireLink : GoodIn wsX5_bend (wsV RX5 73 RX5 yX5_requireLink wsX5_requireLink) := goodIn_app (goodIn_of _ (by decide +kernel)) ggX5_bend_X5_requireLink
set_option maxRecDepth 20000 in
theorem ggX5_bend_X5_requireStep : GoodIn wsX5_bend wsX5_requireStep := goodIn_ca (goodIn_r _ [14, 15, 16] (by decide +kernel) (by decide +kernel)) (goodIn_sub (fun _ h => List.mem_cons_of_mem _ (List.mem_append_right _ h)) (by decide +kernel))
set_option maxRecDepth 20000 in
theorem gX5_bend_X5_requireStep : GoodIn wsX5_bend (va_wsS RX5 53 yX5_requireStep wsX5_requireStep) := goodIn_app (goodIn_of _ (by decide +kernel)) ggX5_bend_X5_requireStep
set_option maxRecDepth 20000 in
theorem ggX5_bend_X2_save : GoodIn wsX5_bend wsX2_save := goodIn_r _ [21, 22, 23, 24, 25, 26, 20, 27, 28, 29, 30, 31, 32, 33, 34, 35, 36, 37, 38, 39, 40, 41, 42, 43, 44, 45, 46, 47, 48, 49, 68, 69, 70, 62, 63, 64, 65, 66, 67, 71] (by decide +kernel) (by decide +kernel)
set_option maxRecDepth 20000 in
theorem gX5_bend_X2_save : GoodIn wsX5_bend (wsV RX5 66 RX2 yX2_save wsX2_save) := goodIn_app (goodIn_of _ (by decide +kernel)) ggX5_bend_X2_save
set_option maxRecDepth 20000 in
theorem ggX5_bend_X3_at : GoodIn wsX5_bend wsX3_at := goodIn_r _ [49, 45, 71] (by decide +kernel) (by decide +kernel)
set_option maxRecDepth 20000 in
theorem gX5_bend_X3_at : GoodIn wsX5_bend (wsV RX5 84 RX3 yX3_at wsX3_at) := goodIn_app (goodIn_of _ (by decide +kernel)) ggX5_bend_X3_at
set_option maxRecDepth 20000 in
theorem ggX5_bend_X3_put : GoodIn wsX5_bend wsX3_put := goodIn_r _ [54, 45, 71] (by decide +kernel) (by decide +kernel)
set_option maxRecDepth 20000 in
theorem gX5_bend_X3_put : GoodIn wsX5_bend (wsV RX5 88 RX3 yX3_put wsX3_put) := goodIn_app (goodIn_of _ (by decide +kernel)) ggX5_bend_X3_put
theorem dX5_bend_0 : decode cX5_bend 0 = .ok (.aload_n 0, 1) := by decide +kernel
theorem dX5_bend_1 : decode cX5_bend 1 = .ok (.iload_n 1, 1) := by decide +kernel
theorem dX5_bend_2 : decode cX5_bend 2 = .ok (.invokevirtual 73, 3) := by decide +kernel
theorem dX5_bend_5 : decode cX5_bend 5 = .ok (.iload_n 2, 1) := by decide +kernel
theorem dX5_bend_6 : decode cX5_bend 6 = .ok (.invokestatic 53, 3) := by decide +kernel
theorem dX5_bend_9 : decode cX5_bend 9 = .ok (.aload_n 0, 1) := by decide +kernel
theorem dX5_bend_10 : decode cX5_bend 10 = .ok (.getfield 29, 3) := by decide +kernel
theorem dX5_bend_13 : decode cX5_bend 13 = .ok (.aload_n 0, 1) := by decide +kernel
theorem dX5_bend_14 : decode cX5_bend 14 = .ok (.getfield 10, 3) := by decide +kernel
theorem dX5_bend_17 : decode cX5_bend 17 = .ok (.invokevirtual 66, 3) := by decide +kernel
theorem dX5_bend_20 : decode cX5_bend 20 = .ok (.aload_n 0, 1) := by decide +kernel
theorem dX5_bend_21 : decode cX5_bend 21 = .ok (.getfield 10, 3) := by decide +kernel
theorem dX5_bend_24 : decode cX5_bend 24 = .ok (.getfield 81, 3) := by decide +kernel
theorem dX5_bend_27 : decode cX5_bend 27 = .ok (.iload_n 1, 1) := by decide +kernel
theorem dX5_bend_28 : decode cX5_bend 28 = .ok (.invokevirtual 84, 3) := by decide +kernel
theorem dX5_bend_31 : decode cX5_bend 31 = .ok (.istore_n 3, 1) := by decide +kernel
theorem dX5_bend_32 : decode cX5_bend 32 = .ok (.aload_n 0, 1) := by decide +kernel
theorem dX5_bend_33 : decode cX5_bend 33 = .ok (.getfield 10, 3) := by decide +kernel
theorem dX5_bend_36 : decode cX5_bend 36 = .ok (.getfield 81, 3) := by decide +kernel
theorem dX5_bend_39 : decode cX5_bend 39 = .ok (.iload_n 1, 1) := by decide +kernel
theorem dX5_bend_40 : decode cX5_bend 40 = .ok (.iload_n 2, 1) := by decide +kernel
theorem dX5_bend_41 : decode cX5_bend 41 = .ok (.invokevirtual 88, 3) := by decide +kernel
theorem dX5_bend_44 : decode cX5_bend 44 = .ok (.iload_n 3, 1) := by decide +kernel
theorem dX5_bend_45 : decode cX5_bend 45 = .ok (.iconst 2, 1) := by decide +kernel
theorem dX5_bend_46 : decode cX5_bend 46 = .ok (.iadd, 1) := by decide +kernel
theorem dX5_bend_47 : decode cX5_bend 47 = .ok (.ireturn, 1) := by decide +kernel
set_option maxRecDepth 20000 in
theorem ggX5_turn_X2_save : GoodIn wsX5_turn wsX2_save := goodIn_r _ [10, 11, 12, 13, 14, 15, 9, 16, 17, 18, 19, 20, 21, 22, 23, 24, 25, 26, 27, 28, 29, 30, 31, 32, 33, 34, 35, 36, 37, 38, 124, 125, 126, 118, 119, 120, 121, 122, 123, 127] (by decide +kernel) (by decide +kernel)
set_option maxRecDepth 20000 in
theorem gX5_turn_X2_save : GoodIn wsX5_turn (wsV RX5 66 RX2 yX2_save wsX2_save) := goodIn_app (goodIn_of _ (by decide +kernel)) ggX5_turn_X2_save
set_option maxRecDepth 20000 in
theorem ggX5_turn_X1_turnRound : GoodIn wsX5_turn wsX1_turnRound := goodIn_r _ [42, 24, 23, 25, 26, 27, 43, 44, 45, 32, 46, 35, 36, 37, 38, 34, 47, 48, 49, 50, 51, 52, 118, 119, 120, 121, 122, 123, 127] (by decide +kernel) (by decide +kernel)
set_option maxRecDepth 20000 in
theorem gX5_turn_X1_turnRound : GoodIn wsX5_turn (wsV RX5 92 RX1 yX1_turnRound wsX1_turnRound) := goodIn_app (goodIn_of _ (by decide +kernel)) ggX5_turn_X1_turnRound
set_option maxRecDepth 20000 in
theorem ggX5_turn_X0_weigh : GoodIn wsX5_turn wsX0_weigh := goodIn_r _ [57, 58, 59, 60, 61, 62, 56, 63, 64, 65, 66, 48, 49, 32, 50, 34, 67, 36, 37, 38, 68, 69, 70, 71, 72, 73, 74, 75, 76, 77, 78, 79, 80, 81, 82, 83, 84, 85, 86, 87, 88, 89, 90, 91, 92, 93, 94, 95, 96, 97, 98, 99, 100, 118, 119, 120, 121, 122, 123, 109, 110, 111, 112, 113, 114, 115, 116, 117, 127] (by decide +kernel) (by decide +kernel)
set_option maxRecDepth 20000 in
theorem gX5_turn_X0_weigh : GoodIn wsX5_turn (wsV RX5 95 RX0 yX0_weigh wsX0_weigh) := goodIn_app (goodIn_of _ (by decide +kernel)) ggX5_turn_X0_weigh
set_option maxRecDepth 20000 in
theorem ggX5_turn_X3_at : GoodIn wsX5_turn wsX3_at := goodIn_r _ [38, 34, 127] (by decide +kernel) (by decide +kernel)
set_option maxRecDepth 20000 in
theorem gX5_turn_X3_at : GoodIn wsX5_turn (wsV RX5 84 RX3 yX3_at wsX3_at) := goodIn_app (goodIn_of _ (by decide +kernel)) ggX5_turn_X3_at
theorem dX5_turn_0 : decode cX5_turn 0 = .ok (.aload_n 0, 1) := by decide +kernel
theorem dX5_turn_1 : decode cX5_turn 1 = .ok (.getfield 29, 3) := by decide +kernel
theorem dX5_turn_4 : decode cX5_turn 4 = .ok (.aload_n 0, 1) := by decide +kernel
theorem dX5_turn_5 : decode cX5_turn 5 = .ok (.getfield 10, 3) := by decide +kernel
theorem dX5_turn_8 : decode cX5_turn 8 = .ok (.invokevirtual 66, 3) := by decide +kernel
theorem dX5_turn_11 : decode cX5_turn 11 = .ok (.aload_n 0, 1) := by decide +kernel
theorem dX5_turn_12 : decode cX5_turn 12 = .ok (.getfield 10, 3) := by decide +kernel
theorem dX5_turn_15 : decode cX5_turn 15 = .ok (.invokevirtual 92, 3) := by decide +kernel
theorem dX5_turn_18 : decode cX5_turn 18 = .ok (.aload_n 0, 1) := by decide +kernel
theorem dX5_turn_19 : decode cX5_turn 19 = .ok (.getfield 22, 3) := by decide +kernel
theorem dX5_turn_22 : decode cX5_turn 22 = .ok (.aload_n 0, 1) := by decide +kernel
theorem dX5_turn_23 : decode cX5_turn 23 = .ok (.getfield 10, 3) := by decide +kernel
theorem dX5_turn_26 : decode cX5_turn 26 = .ok (.invokevirtual 95, 3) := by decide +kernel
theorem dX5_turn_29 : decode cX5_turn 29 = .ok (.pop, 1) := by decide +kernel
theorem dX5_turn_30 : decode cX5_turn 30 = .ok (.aload_n 0, 1) := by decide +kernel
theorem dX5_turn_31 : decode cX5_turn 31 = .ok (.getfield 22, 3) := by decide +kernel
theorem dX5_turn_34 : decode cX5_turn 34 = .ok (.getfield 99, 3) := by decide +kernel
theorem dX5_turn_37 : decode cX5_turn 37 = .ok (.aload_n 0, 1) := by decide +kernel
theorem dX5_turn_38 : decode cX5_turn 38 = .ok (.getfield 10, 3) := by decide +kernel
theorem dX5_turn_41 : decode cX5_turn 41 = .ok (.getfield 56, 3) := by decide +kernel
theorem dX5_turn_44 : decode cX5_turn 44 = .ok (.invokevirtual 84, 3) := by decide +kernel
theorem dX5_turn_47 : decode cX5_turn 47 = .ok (.bipush 100, 2) := by decide +kernel
theorem dX5_turn_49 : decode cX5_turn 49 = .ok (.iadd, 1) := by decide +kernel
theorem dX5_turn_50 : decode cX5_turn 50 = .ok (.ireturn, 1) := by decide +kernel
set_option maxRecDepth 20000 in
theorem ggX5_weight_X5_requireJoint : GoodIn wsX5_weight wsX5_requireJoint := goodIn_ca (goodIn_r _ [7, 8, 9, 1, 10, 59, 60, 61, 62, 63, 64, 65, 66, 67, 68, 69, 70, 71] (by decide +kernel) (by decide +kernel)) (goodIn_sub (fun _ h => List.mem_cons_of_mem _ (List.mem_append_left _ (List.mem_append_right _ h))) (by decide +kernel))
set_option maxRecDepth 20000 in
theorem gX5_weight_X5_requireJoint : GoodIn wsX5_weight (wsV RX5 102 RX5 yX5_requireJoint wsX5_requireJoint) := goodIn_app (goodIn_of _ (by decide +kernel)) ggX5_weight_X5_requireJoint
set_option maxRecDepth 20000 in
theorem ggX5_weight_X5_requireAmount : GoodIn wsX5_weight wsX5_requireAmount := goodIn_ca (goodIn_r _ [13, 14, 15] (by decide +kernel) (by decide +kernel)) (goodIn_sub (fun _ h => List.mem_cons_of_mem _ (List.mem_append_right _ h)) (by decide +kernel))
set_option maxRecDepth 20000 in
theorem gX5_weight_X5_requireAmount : GoodIn wsX5_weight (va_wsS RX5 105 yX5_requireAmount wsX5_requireAmount) := goodIn_app (goodIn_of _ (by decide +kernel)) ggX5_weight_X5_requireAmount
set_option maxRecDepth 20000 in
theorem ggX5_weight_X5_replace : GoodIn wsX5_weight wsX5_replace := goodIn_r _ [19, 20, 1, 21, 22, 23, 24, 25, 26, 27, 28, 29, 30, 31, 32, 33, 34, 35, 36, 37, 38, 39, 40, 41, 42, 43, 44, 45, 46, 47, 48, 49, 50, 51, 52, 53, 54, 55, 56, 57, 58, 59, 60, 61, 62, 63, 64, 65, 72, 73, 74, 66, 67, 68, 69, 70, 71, 75] (by decide +kernel) (by decide +kernel)
set_option maxRecDepth 20000 in
theorem gX5_weight_X5_replace : GoodIn wsX5_weight (wsV RX5 111 RX5 yX5_replace wsX5_replace) := goodIn_app (goodIn_of _ (by decide +kernel)) ggX5_weight_X5_replace
theorem dX5_weight_0 : decode cX5_weight 0 = .ok (.aload_n 0, 1) := by decide +kernel
theorem dX5_weight_1 : decode cX5_weight 1 = .ok (.iload_n 1, 1) := by decide +kernel
theorem dX5_weight_2 : decode cX5_weight 2 = .ok (.invokevirtual 102, 3) := by decide +kernel
theorem dX5_weight_5 : decode cX5_weight 5 = .ok (.iload_n 2, 1) := by decide +kernel
theorem dX5_weight_6 : decode cX5_weight 6 = .ok (.invokestatic 105, 3) := by decide +kernel
theorem dX5_weight_9 : decode cX5_weight 9 = .ok (.aload_n 0, 1) := by decide +kernel
theorem dX5_weight_10 : decode cX5_weight 10 = .ok (.aload_n 0, 1) := by decide +kernel
theorem dX5_weight_11 : decode cX5_weight 11 = .ok (.getfield 10, 3) := by decide +kernel
theorem dX5_weight_14 : decode cX5_weight 14 = .ok (.getfield 108, 3) := by decide +kernel
theorem dX5_weight_17 : decode cX5_weight 17 = .ok (.iload_n 1, 1) := by decide +kernel
theorem dX5_weight_18 : decode cX5_weight 18 = .ok (.iload_n 2, 1) := by decide +kernel
theorem dX5_weight_19 : decode cX5_weight 19 = .ok (.invokevirtual 111, 3) := by decide +kernel
theorem dX5_weight_22 : decode cX5_weight 22 = .ok (.ireturn, 1) := by decide +kernel
set_option maxRecDepth 20000 in
theorem ggX5_hanger_X5_requireJoint : GoodIn wsX5_hanger wsX5_requireJoint := goodIn_ca (goodIn_r _ [7, 8, 9, 1, 10, 59, 60, 61, 62, 63, 64, 65, 66, 67, 68, 69, 70, 71] (by decide +kernel) (by decide +kernel)) (goodIn_sub (fun _ h => List.mem_cons_of_mem _ (List.mem_append_left _ (List.mem_append_right _ h))) (by decide +kernel))
set_option maxRecDepth 20000 in
theorem gX5_hanger_X5_requireJoint : GoodIn wsX5_hanger (wsV RX5 102 RX5 yX5_requireJoint wsX5_requireJoint) := goodIn_app (goodIn_of _ (by decide +kernel)) ggX5_hanger_X5_requireJoint
set_option maxRecDepth 20000 in
theorem ggX5_hanger_X5_requireAmount : GoodIn wsX5_hanger wsX5_requireAmount := goodIn_ca (goodIn_r _ [13, 14, 15] (by decide +kernel) (by decide +kernel)) (goodIn_sub (fun _ h => List.mem_cons_of_mem _ (List.mem_append_right _ h)) (by decide +kernel))
set_option maxRecDepth 20000 in
theorem gX5_hanger_X5_requireAmount : GoodIn wsX5_hanger (va_wsS RX5 105 yX5_requireAmount wsX5_requireAmount) := goodIn_app (goodIn_of _ (by decide +kernel)) ggX5_hanger_X5_requireAmount
set_option maxRecDepth 20000 in
theorem ggX5_hanger_X5_replace : GoodIn wsX5_hanger wsX5_replace := goodIn_r _ [19, 20, 1, 21, 22, 23, 24, 25, 26, 27, 28, 29, 30, 31, 32, 33, 34, 35, 36, 37, 38, 39, 40, 41, 42, 43, 44, 45, 46, 47, 48, 49, 50, 51, 52, 53, 54, 55, 56, 57, 58, 59, 60, 61, 62, 63, 64, 65, 72, 73, 74, 66, 67, 68, 69, 70, 71, 75] (by decide +kernel) (by decide +kernel)
set_option maxRecDepth 20000 in
theorem gX5_hanger_X5_replace : GoodIn wsX5_hanger (wsV RX5 111 RX5 yX5_replace wsX5_replace) := goodIn_app (goodIn_of _ (by decide +kernel)) ggX5_hanger_X5_replace
theorem dX5_hanger_0 : decode cX5_hanger 0 = .ok (.aload_n 0, 1) := by decide +kernel
theorem dX5_hanger_1 : decode cX5_hanger 1 = .ok (.iload_n 1, 1) := by decide +kernel
theorem dX5_hanger_2 : decode cX5_hanger 2 = .ok (.invokevirtual 102, 3) := by decide +kernel
theorem dX5_hanger_5 : decode cX5_hanger 5 = .ok (.iload_n 2, 1) := by decide +kernel
theorem dX5_hanger_6 : decode cX5_hanger 6 = .ok (.invokestatic 105, 3) := by decide +kernel
theorem dX5_hanger_9 : decode cX5_hanger 9 = .ok (.aload_n 0, 1) := by decide +kernel
theorem dX5_hanger_10 : decode cX5_hanger 10 = .ok (.aload_n 0, 1) := by decide +kernel
theorem dX5_hanger_11 : decode cX5_hanger 11 = .ok (.getfield 10, 3) := by decide +kernel
theorem dX5_hanger_14 : decode cX5_hanger 14 = .ok (.getfield 115, 3) := by decide +kernel
theorem dX5_hanger_17 : decode cX5_hanger 17 = .ok (.iload_n 1, 1) := by decide +kernel
theorem dX5_hanger_18 : decode cX5_hanger 18 = .ok (.iload_n 2, 1) := by decide +kernel
theorem dX5_hanger_19 : decode cX5_hanger 19 = .ok (.invokevirtual 111, 3) := by decide +kernel
theorem dX5_hanger_22 : decode cX5_hanger 22 = .ok (.ireturn, 1) := by decide +kernel
set_option maxRecDepth 20000 in
theorem ggX5_prop_X5_requireJoint : GoodIn wsX5_prop wsX5_requireJoint := goodIn_ca (goodIn_r _ [7, 8, 9, 1, 10, 59, 60, 61, 62, 63, 64, 65, 66, 67, 68, 69, 70, 71] (by decide +kernel) (by decide +kernel)) (goodIn_sub (fun _ h => List.mem_cons_of_mem _ (List.mem_append_left _ (List.mem_append_right _ h))) (by decide +kernel))
set_option maxRecDepth 20000 in
theorem gX5_prop_X5_requireJoint : GoodIn wsX5_prop (wsV RX5 102 RX5 yX5_requireJoint wsX5_requireJoint) := goodIn_app (goodIn_of _ (by decide +kernel)) ggX5_prop_X5_requireJoint
set_option maxRecDepth 20000 in
theorem ggX5_prop_X5_requireAmount : GoodIn wsX5_prop wsX5_requireAmount := goodIn_ca (goodIn_r _ [13, 14, 15] (by decide +kernel) (by decide +kernel)) (goodIn_sub (fun _ h => List.mem_cons_of_mem _ (List.mem_append_right _ h)) (by decide +kernel))
set_option maxRecDepth 20000 in
theorem gX5_prop_X5_requireAmount : GoodIn wsX5_prop (va_wsS RX5 105 yX5_requireAmount wsX5_requireAmount) := goodIn_app (goodIn_of _ (by decide +kernel)) ggX5_prop_X5_requireAmount
set_option maxRecDepth 20000 in
theorem ggX5_prop_X5_replace : GoodIn wsX5_prop wsX5_replace := goodIn_r _ [19, 20, 1, 21, 22, 23, 24, 25, 26, 27, 28, 29, 30, 31, 32, 33, 34, 35, 36, 37, 38, 39, 40, 41, 42, 43, 44, 45, 46, 47, 48, 49, 50, 51, 52, 53, 54, 55, 56, 57, 58, 59, 60, 61, 62, 63, 64, 65, 72, 73, 74, 66, 67, 68, 69, 70, 71, 75] (by decide +kernel) (by decide +kernel)
set_option maxRecDepth 20000 in
theorem gX5_prop_X5_replace : GoodIn wsX5_prop (wsV RX5 111 RX5 yX5_replace wsX5_replace) := goodIn_app (goodIn_of _ (by decide +kernel)) ggX5_prop_X5_replace
theorem dX5_prop_0 : decode cX5_prop 0 = .ok (.aload_n 0, 1) := by decide +kernel
theorem dX5_prop_1 : decode cX5_prop 1 = .ok (.iload_n 1, 1) := by decide +kernel
theorem dX5_prop_2 : decode cX5_prop 2 = .ok (.invokevirtual 102, 3) := by decide +kernel
theorem dX5_prop_5 : decode cX5_prop 5 = .ok (.iload_n 2, 1) := by decide +kernel
theorem dX5_prop_6 : decode cX5_prop 6 = .ok (.invokestatic 105, 3) := by decide +kernel
theorem dX5_prop_9 : decode cX5_prop 9 = .ok (.aload_n 0, 1) := by decide +kernel
theorem dX5_prop_10 : decode cX5_prop 10 = .ok (.aload_n 0, 1) := by decide +kernel
theorem dX5_prop_11 : decode cX5_prop 11 = .ok (.getfield 10, 3) := by decide +kernel
theorem dX5_prop_14 : decode cX5_prop 14 = .ok (.getfield 118, 3) := by decide +kernel
theorem dX5_prop_17 : decode cX5_prop 17 = .ok (.iload_n 1, 1) := by decide +kernel
theorem dX5_prop_18 : decode cX5_prop 18 = .ok (.iload_n 2, 1) := by decide +kernel
theorem dX5_prop_19 : decode cX5_prop 19 = .ok (.invokevirtual 111, 3) := by decide +kernel
theorem dX5_prop_22 : decode cX5_prop 22 = .ok (.ireturn, 1) := by decide +kernel
set_option maxRecDepth 20000 in
theorem ggX5_move_X5_requireJoint : GoodIn wsX5_move wsX5_requireJoint := goodIn_ca (goodIn_r _ [9, 10, 11, 4, 12, 59, 60, 61, 62, 63, 64, 65, 66, 67, 68, 69, 70, 71] (by decide +kernel) (by decide +kernel)) (goodIn_sub (fun _ h => List.mem_cons_of_mem _ (List.mem_append_right _ h)) (by decide +kernel))
set_option maxRecDepth 20000 in
theorem gX5_move_X5_requireJoint : GoodIn wsX5_move (wsV RX5 102 RX5 yX5_requireJoint wsX5_requireJoint) := goodIn_app (goodIn_of _ (by decide +kernel)) ggX5_move_X5_requireJoint
set_option maxRecDepth 20000 in
theorem ggX5_move_X2_save : GoodIn wsX5_move wsX2_save := goodIn_r _ [17, 18, 19, 20, 21, 22, 16, 23, 24, 25, 26, 27, 28, 29, 30, 31, 32, 33, 34, 35, 36, 37, 38, 39, 40, 41, 42, 43, 44, 45, 72, 73, 74, 66, 67, 68, 69, 70, 71, 75] (by decide +kernel) (by decide +kernel)
set_option maxRecDepth 20000 in
theorem gX5_move_X2_save : GoodIn wsX5_move (wsV RX5 66 RX2 yX2_save wsX2_save) := goodIn_app (goodIn_of _ (by decide +kernel)) ggX5_move_X2_save
set_option maxRecDepth 20000 in
theorem ggX5_move_X1_moveWeight : GoodIn wsX5_move wsX1_moveWeight := goodIn_r _ [49, 32, 50, 51, 52, 53, 54, 43, 44, 39, 45, 41, 55, 56, 57, 58, 66, 67, 68, 69, 70, 71, 75] (by decide +kernel) (by decide +kernel)
set_option maxRecDepth 20000 in
theorem gX5_move_X1_moveWeight : GoodIn wsX5_move (wsV RX5 126 RX1 yX1_moveWeight wsX1_moveWeight) := goodIn_app (goodIn_of _ (by decide +kernel)) ggX5_move_X1_moveWeight
theorem dX5_move_0 : decode cX5_move 0 = .ok (.aload_n 0, 1) := by decide +kernel
theorem dX5_move_1 : decode cX5_move 1 = .ok (.iload_n 1, 1) := by decide +kernel
theorem dX5_move_2 : decode cX5_move 2 = .ok (.invokevirtual 102, 3) := by decide +kernel
theorem dX5_move_5 : decode cX5_move 5 = .ok (.aload_n 0, 1) := by decide +kernel
theorem dX5_move_6 : decode cX5_move 6 = .ok (.iload_n 2, 1) := by decide +kernel
theorem dX5_move_7 : decode cX5_move 7 = .ok (.invokevirtual 102, 3) := by decide +kernel
theorem dX5_move_10 : decode cX5_move 10 = .ok (.iload_n 1, 1) := by decide +kernel
theorem dX5_move_11 : decode cX5_move 11 = .ok (.iload_n 2, 1) := by decide +kernel
theorem dX5_move_12 : decode cX5_move 12 = .ok (.if_icmp .ne 13, 3) := by decide +kernel
theorem dX5_move_15 : decode cX5_move 15 = .ok (.new 121, 3) := by decide +kernel
theorem dX5_move_18 : decode cX5_move 18 = .ok (.dup, 1) := by decide +kernel
theorem dX5_move_19 : decode cX5_move 19 = .ok (.ldc 123, 2) := by decide +kernel
theorem dX5_move_21 : decode cX5_move 21 = .ok (.invokespecial 125, 3) := by decide +kernel
theorem dX5_move_24 : decode cX5_move 24 = .ok (.athrow, 1) := by decide +kernel
theorem dX5_move_25 : decode cX5_move 25 = .ok (.aload_n 0, 1) := by decide +kernel
theorem dX5_move_26 : decode cX5_move 26 = .ok (.getfield 29, 3) := by decide +kernel
theorem dX5_move_29 : decode cX5_move 29 = .ok (.aload_n 0, 1) := by decide +kernel
theorem dX5_move_30 : decode cX5_move 30 = .ok (.getfield 10, 3) := by decide +kernel
theorem dX5_move_33 : decode cX5_move 33 = .ok (.invokevirtual 66, 3) := by decide +kernel
theorem dX5_move_36 : decode cX5_move 36 = .ok (.aload_n 0, 1) := by decide +kernel
theorem dX5_move_37 : decode cX5_move 37 = .ok (.getfield 10, 3) := by decide +kernel
theorem dX5_move_40 : decode cX5_move 40 = .ok (.iload_n 1, 1) := by decide +kernel
theorem dX5_move_41 : decode cX5_move 41 = .ok (.iload_n 2, 1) := by decide +kernel
theorem dX5_move_42 : decode cX5_move 42 = .ok (.invokevirtual 126, 3) := by decide +kernel
theorem dX5_move_45 : decode cX5_move 45 = .ok (.ireturn, 1) := by decide +kernel
set_option maxRecDepth 20000 in
theorem ggX5_set_X5_requireSetting : GoodIn wsX5_set wsX5_requireSetting := goodIn_ca (goodIn_r _ [8, 9, 10] (by decide +kernel) (by decide +kernel)) (goodIn_sub (fun _ h => List.mem_cons_of_mem _ (List.mem_append_right _ h)) (by decide +kernel))
set_option maxRecDepth 20000 in
theorem gX5_set_X5_requireSetting : GoodIn wsX5_set (va_wsS RX5 130 yX5_requireSetting wsX5_requireSetting) := goodIn_app (goodIn_of _ (by decide +kernel)) ggX5_set_X5_requireSetting
set_option maxRecDepth 20000 in
theorem ggX5_set_X5_leastOf : GoodIn wsX5_set wsX5_leastOf := goodIn_r _ [13] (by decide +kernel) (by decide +kernel)
set_option maxRecDepth 20000 in
theorem gX5_set_X5_leastOf : GoodIn wsX5_set (va_wsS RX5 133 yX5_leastOf wsX5_leastOf) := goodIn_app (goodIn_of _ (by decide +kernel)) ggX5_set_X5_leastOf
set_option maxRecDepth 20000 in
theorem ggX5_set_X5_mostOf : GoodIn wsX5_set wsX5_mostOf := goodIn_r _ [16] (by decide +kernel) (by decide +kernel)
set_option maxRecDepth 20000 in
theorem gX5_set_X5_mostOf : GoodIn wsX5_set (va_wsS RX5 136 yX5_mostOf wsX5_mostOf) := goodIn_app (goodIn_of _ (by decide +kernel)) ggX5_set_X5_mostOf
set_option maxRecDepth 20000 in
theorem ggX5_set_X5_replace : GoodIn wsX5_set wsX5_replace := goodIn_r _ [20, 21, 3, 22, 23, 24, 25, 26, 27, 28, 29, 30, 31, 32, 33, 34, 35, 36, 37, 38, 39, 40, 41, 42, 43, 44, 45, 46, 47, 48, 49, 50, 51, 52, 53, 54, 55, 56, 57, 58, 59, 60, 61, 62, 63, 64, 65, 66, 73, 74, 75, 67, 68, 69, 70, 71, 72, 76] (by decide +kernel) (by decide +kernel)
set_option maxRecDepth 20000 in
theorem gX5_set_X5_replace : GoodIn wsX5_set (wsV RX5 111 RX5 yX5_replace wsX5_replace) := goodIn_app (goodIn_of _ (by decide +kernel)) ggX5_set_X5_replace
theorem dX5_set_0 : decode cX5_set 0 = .ok (.iload_n 1, 1) := by decide +kernel
theorem dX5_set_1 : decode cX5_set 1 = .ok (.invokestatic 130, 3) := by decide +kernel
theorem dX5_set_4 : decode cX5_set 4 = .ok (.iload_n 2, 1) := by decide +kernel
theorem dX5_set_5 : decode cX5_set 5 = .ok (.iload_n 1, 1) := by decide +kernel
theorem dX5_set_6 : decode cX5_set 6 = .ok (.invokestatic 133, 3) := by decide +kernel
theorem dX5_set_9 : decode cX5_set 9 = .ok (.if_icmp .lt 11, 3) := by decide +kernel
theorem dX5_set_12 : decode cX5_set 12 = .ok (.iload_n 2, 1) := by decide +kernel
theorem dX5_set_13 : decode cX5_set 13 = .ok (.iload_n 1, 1) := by decide +kernel
theorem dX5_set_14 : decode cX5_set 14 = .ok (.invokestatic 136, 3) := by decide +kernel
theorem dX5_set_17 : decode cX5_set 17 = .ok (.if_icmp .le 13, 3) := by decide +kernel
theorem dX5_set_20 : decode cX5_set 20 = .ok (.new 121, 3) := by decide +kernel
theorem dX5_set_23 : decode cX5_set 23 = .ok (.dup, 1) := by decide +kernel
theorem dX5_set_24 : decode cX5_set 24 = .ok (.ldc 139, 2) := by decide +kernel
theorem dX5_set_26 : decode cX5_set 26 = .ok (.invokespecial 125, 3) := by decide +kernel
theorem dX5_set_29 : decode cX5_set 29 = .ok (.athrow, 1) := by decide +kernel
theorem dX5_set_30 : decode cX5_set 30 = .ok (.aload_n 0, 1) := by decide +kernel
theorem dX5_set_31 : decode cX5_set 31 = .ok (.aload_n 0, 1) := by decide +kernel
theorem dX5_set_32 : decode cX5_set 32 = .ok (.getfield 10, 3) := by decide +kernel
theorem dX5_set_35 : decode cX5_set 35 = .ok (.getfield 141, 3) := by decide +kernel
theorem dX5_set_38 : decode cX5_set 38 = .ok (.iload_n 1, 1) := by decide +kernel
theorem dX5_set_39 : decode cX5_set 39 = .ok (.iload_n 2, 1) := by decide +kernel
theorem dX5_set_40 : decode cX5_set 40 = .ok (.invokevirtual 111, 3) := by decide +kernel
theorem dX5_set_43 : decode cX5_set 43 = .ok (.bipush 100, 2) := by decide +kernel
theorem dX5_set_45 : decode cX5_set 45 = .ok (.iadd, 1) := by decide +kernel
theorem dX5_set_46 : decode cX5_set 46 = .ok (.ireturn, 1) := by decide +kernel
set_option maxRecDepth 20000 in
theorem ggX5_undo_X2_restore : GoodIn wsX5_undo wsX2_restore := goodIn_r _ [10, 11, 12, 13, 14, 9, 15, 16, 17, 18, 19, 20, 21, 22, 23, 24, 25, 26, 27, 28, 29, 30, 31, 32, 33, 34, 35, 36, 37, 38, 46, 47, 48, 49, 50, 51, 52, 53, 54, 55] (by decide +kernel) (by decide +kernel)
set_option maxRecDepth 20000 in
theorem gX5_undo_X2_restore : GoodIn wsX5_undo (wsV RX5 170 RX2 yX2_restore wsX2_restore) := goodIn_app (goodIn_of _ (by decide +kernel)) ggX5_undo_X2_restore
theorem dX5_undo_0 : decode cX5_undo 0 = .ok (.aload_n 0, 1) := by decide +kernel
theorem dX5_undo_1 : decode cX5_undo 1 = .ok (.getfield 29, 3) := by decide +kernel
theorem dX5_undo_4 : decode cX5_undo 4 = .ok (.getfield 165, 3) := by decide +kernel
theorem dX5_undo_7 : decode cX5_undo 7 = .ok (.ifCond .gt 13, 3) := by decide +kernel
theorem dX5_undo_10 : decode cX5_undo 10 = .ok (.new 59, 3) := by decide +kernel
theorem dX5_undo_13 : decode cX5_undo 13 = .ok (.dup, 1) := by decide +kernel
theorem dX5_undo_14 : decode cX5_undo 14 = .ok (.ldc 168, 2) := by decide +kernel
theorem dX5_undo_16 : decode cX5_undo 16 = .ok (.invokespecial 63, 3) := by decide +kernel
theorem dX5_undo_19 : decode cX5_undo 19 = .ok (.athrow, 1) := by decide +kernel
theorem dX5_undo_20 : decode cX5_undo 20 = .ok (.aload_n 0, 1) := by decide +kernel
theorem dX5_undo_21 : decode cX5_undo 21 = .ok (.getfield 29, 3) := by decide +kernel
theorem dX5_undo_24 : decode cX5_undo 24 = .ok (.aload_n 0, 1) := by decide +kernel
theorem dX5_undo_25 : decode cX5_undo 25 = .ok (.getfield 10, 3) := by decide +kernel
theorem dX5_undo_28 : decode cX5_undo 28 = .ok (.invokevirtual 170, 3) := by decide +kernel
theorem dX5_undo_31 : decode cX5_undo 31 = .ok (.aload_n 0, 1) := by decide +kernel
theorem dX5_undo_32 : decode cX5_undo 32 = .ok (.getfield 29, 3) := by decide +kernel
theorem dX5_undo_35 : decode cX5_undo 35 = .ok (.getfield 165, 3) := by decide +kernel
theorem dX5_undo_38 : decode cX5_undo 38 = .ok (.ireturn, 1) := by decide +kernel
set_option maxRecDepth 20000 in
theorem ggX5_linkOf_X5_requireLink : GoodIn wsX5_linkOf wsX5_requireLink := goodIn_ca (goodIn_r _ [9, 10, 11, 2, 12, 79, 80, 81, 82, 83, 84, 85, 86, 87, 88, 89, 90, 91] (by decide +kernel) (by decide +kernel)) (goodIn_sub (fun _ h => List.mem_cons_of_mem _ (List.mem_append_left _ (List.mem_append_right _ h))) (by decide +kernel))
set_option maxRecDepth 20000 in
theorem gX5_linkOf_X5_requireLink : GoodIn wsX5_linkOf (wsV RX5 73 RX5 yX5_requireLink wsX5_requireLink) := goodIn_app (goodIn_of _ (by decide +kernel)) ggX5_linkOf_X5_requireLink
set_option maxRecDepth 20000 in
theorem ggX5_linkOf_X5_requireWhat : GoodIn wsX5_linkOf wsX5_requireWhat := goodIn_ca (goodIn_r _ [15, 16, 17] (by decide +kernel) (by decide +kernel)) (goodIn_sub (fun _ h => List.mem_cons_of_mem _ (List.mem_append_right _ h)) (by decide +kernel))
set_option maxRecDepth 20000 in
theorem gX5_linkOf_X5_requireWhat : GoodIn wsX5_linkOf (va_wsS RX5 173 yX5_requireWhat wsX5_requireWhat) := goodIn_app (goodIn_of _ (by decide +kernel)) ggX5_linkOf_X5_requireWhat
set_option maxRecDepth 20000 in
theorem ggX5_linkOf_X0_weigh : GoodIn wsX5_linkOf wsX0_weigh := goodIn_r _ [22, 23, 24, 25, 26, 27, 21, 28, 29, 30, 31, 32, 33, 34, 35, 36, 37, 38, 39, 40, 41, 42, 43, 44, 45, 46, 47, 48, 49, 50, 51, 52, 53, 54, 55, 56, 57, 58, 59, 60, 61, 62, 63, 64, 65, 66, 67, 68, 69, 70, 71, 72, 73, 86, 87, 88, 89, 90, 91, 92, 93, 94, 95, 96, 97, 98, 99, 100, 101] (by decide +kernel) (by decide +kernel)
set_option maxRecDepth 20000 in
theorem gX5_linkOf_X0_weigh : GoodIn wsX5_linkOf (wsV RX5 95 RX0 yX0_weigh wsX0_weigh) := goodIn_app (goodIn_of _ (by decide +kernel)) ggX5_linkOf_X0_weigh
set_option maxRecDepth 20000 in
theorem ggX5_linkOf_X3_at : GoodIn wsX5_linkOf wsX3_at := goodIn_r _ [40, 36, 101] (by decide +kernel) (by decide +kernel)
set_option maxRecDepth 20000 in
theorem gX5_linkOf_X3_at : GoodIn wsX5_linkOf (wsV RX5 84 RX3 yX3_at wsX3_at) := goodIn_app (goodIn_of _ (by decide +kernel)) ggX5_linkOf_X3_at
set_option maxRecDepth 20000 in
theorem ggX5_linkOf_X0_breaks : GoodIn wsX5_linkOf wsX0_breaks := goodIn_r _ [78, 70, 46, 37, 38, 39, 34, 40, 36, 92, 93, 94, 95, 96, 97, 98, 99, 100, 86, 87, 88, 89, 90, 91, 101] (by decide +kernel) (by decide +kernel)
set_option maxRecDepth 20000 in
theorem gX5_linkOf_X0_breaks : GoodIn wsX5_linkOf (wsV RX5 179 RX0 yX0_breaks wsX0_breaks) := goodIn_app (goodIn_of _ (by decide +kernel)) ggX5_linkOf_X0_breaks
theorem dX5_linkOf_0 : decode cX5_linkOf 0 = .ok (.aload_n 0, 1) := by decide +kernel
theorem dX5_linkOf_1 : decode cX5_linkOf 1 = .ok (.iload_n 1, 1) := by decide +kernel
theorem dX5_linkOf_2 : decode cX5_linkOf 2 = .ok (.invokevirtual 73, 3) := by decide +kernel
theorem dX5_linkOf_5 : decode cX5_linkOf 5 = .ok (.iload_n 2, 1) := by decide +kernel
theorem dX5_linkOf_6 : decode cX5_linkOf 6 = .ok (.iconst 3, 1) := by decide +kernel
theorem dX5_linkOf_7 : decode cX5_linkOf 7 = .ok (.invokestatic 173, 3) := by decide +kernel
theorem dX5_linkOf_10 : decode cX5_linkOf 10 = .ok (.aload_n 0, 1) := by decide +kernel
theorem dX5_linkOf_11 : decode cX5_linkOf 11 = .ok (.getfield 22, 3) := by decide +kernel
theorem dX5_linkOf_14 : decode cX5_linkOf 14 = .ok (.aload_n 0, 1) := by decide +kernel
theorem dX5_linkOf_15 : decode cX5_linkOf 15 = .ok (.getfield 10, 3) := by decide +kernel
theorem dX5_linkOf_18 : decode cX5_linkOf 18 = .ok (.invokevirtual 95, 3) := by decide +kernel
theorem dX5_linkOf_21 : decode cX5_linkOf 21 = .ok (.pop, 1) := by decide +kernel
theorem dX5_linkOf_22 : decode cX5_linkOf 22 = .ok (.iload_n 2, 1) := by decide +kernel
theorem dX5_linkOf_23 : decode cX5_linkOf 23 = .ok (.lookupswitch 51 #[(0, 25), (1, 39)], 25) := by decide +kernel
theorem dX5_linkOf_48 : decode cX5_linkOf 48 = .ok (.aload_n 0, 1) := by decide +kernel
theorem dX5_linkOf_49 : decode cX5_linkOf 49 = .ok (.getfield 10, 3) := by decide +kernel
theorem dX5_linkOf_52 : decode cX5_linkOf 52 = .ok (.getfield 81, 3) := by decide +kernel
theorem dX5_linkOf_55 : decode cX5_linkOf 55 = .ok (.iload_n 1, 1) := by decide +kernel
theorem dX5_linkOf_56 : decode cX5_linkOf 56 = .ok (.invokevirtual 84, 3) := by decide +kernel
theorem dX5_linkOf_59 : decode cX5_linkOf 59 = .ok (.iconst 2, 1) := by decide +kernel
theorem dX5_linkOf_60 : decode cX5_linkOf 60 = .ok (.iadd, 1) := by decide +kernel
theorem dX5_linkOf_61 : decode cX5_linkOf 61 = .ok (.ireturn, 1) := by decide +kernel
theorem dX5_linkOf_62 : decode cX5_linkOf 62 = .ok (.aload_n 0, 1) := by decide +kernel
theorem dX5_linkOf_63 : decode cX5_linkOf 63 = .ok (.getfield 22, 3) := by decide +kernel
theorem dX5_linkOf_66 : decode cX5_linkOf 66 = .ok (.getfield 176, 3) := by decide +kernel
theorem dX5_linkOf_69 : decode cX5_linkOf 69 = .ok (.iload_n 1, 1) := by decide +kernel
theorem dX5_linkOf_70 : decode cX5_linkOf 70 = .ok (.invokevirtual 84, 3) := by decide +kernel
theorem dX5_linkOf_73 : decode cX5_linkOf 73 = .ok (.ireturn, 1) := by decide +kernel
theorem dX5_linkOf_74 : decode cX5_linkOf 74 = .ok (.aload_n 0, 1) := by decide +kernel
theorem dX5_linkOf_75 : decode cX5_linkOf 75 = .ok (.getfield 22, 3) := by decide +kernel
theorem dX5_linkOf_78 : decode cX5_linkOf 78 = .ok (.aload_n 0, 1) := by decide +kernel
theorem dX5_linkOf_79 : decode cX5_linkOf 79 = .ok (.getfield 10, 3) := by decide +kernel
theorem dX5_linkOf_82 : decode cX5_linkOf 82 = .ok (.iload_n 1, 1) := by decide +kernel
theorem dX5_linkOf_83 : decode cX5_linkOf 83 = .ok (.invokevirtual 179, 3) := by decide +kernel
theorem dX5_linkOf_86 : decode cX5_linkOf 86 = .ok (.ifCond .eq 7, 3) := by decide +kernel
theorem dX5_linkOf_89 : decode cX5_linkOf 89 = .ok (.iconst 1, 1) := by decide +kernel
theorem dX5_linkOf_90 : decode cX5_linkOf 90 = .ok (.goto 4, 3) := by decide +kernel
theorem dX5_linkOf_93 : decode cX5_linkOf 93 = .ok (.iconst 0, 1) := by decide +kernel
theorem dX5_linkOf_94 : decode cX5_linkOf 94 = .ok (.ireturn, 1) := by decide +kernel
set_option maxRecDepth 20000 in
theorem ggX5_joint_X5_requireJoint : GoodIn wsX5_joint wsX5_requireJoint := goodIn_ca (goodIn_r _ [15, 16, 17, 2, 18, 81, 82, 83, 84, 85, 86, 87, 97, 98, 99, 100, 101, 102] (by decide +kernel) (by decide +kernel)) (goodIn_sub (fun _ h => List.mem_cons_of_mem _ (List.mem_append_left _ (List.mem_append_right _ h))) (by decide +kernel))
set_option maxRecDepth 20000 in
theorem gX5_joint_X5_requireJoint : GoodIn wsX5_joint (wsV RX5 102 RX5 yX5_requireJoint wsX5_requireJoint) := goodIn_app (goodIn_of _ (by decide +kernel)) ggX5_joint_X5_requireJoint
set_option maxRecDepth 20000 in
theorem ggX5_joint_X5_requireWhat : GoodIn wsX5_joint wsX5_requireWhat := goodIn_ca (goodIn_r _ [21, 22, 23] (by decide +kernel) (by decide +kernel)) (goodIn_sub (fun _ h => List.mem_cons_of_mem _ (List.mem_append_right _ h)) (by decide +kernel))
set_option maxRecDepth 20000 in
theorem gX5_joint_X5_requireWhat : GoodIn wsX5_joint (va_wsS RX5 173 yX5_requireWhat wsX5_requireWhat) := goodIn_app (goodIn_of _ (by decide +kernel)) ggX5_joint_X5_requireWhat
set_option maxRecDepth 20000 in
theorem ggX5_joint_X0_weigh : GoodIn wsX5_joint wsX0_weigh := goodIn_r _ [28, 29, 30, 31, 32, 33, 27, 34, 35, 36, 37, 38, 39, 40, 41, 42, 43, 44, 45, 46, 47, 48, 49, 50, 51, 52, 53, 54, 55, 56, 57, 58, 59, 60, 61, 62, 63, 64, 65, 66, 67, 68, 69, 70, 71, 72, 73, 74, 75, 76, 77, 78, 79, 97, 98, 99, 100, 101, 102, 88, 89, 90, 91, 92, 93, 94, 95, 96, 103] (by decide +kernel) (by decide +kernel)
set_option maxRecDepth 20000 in
theorem gX5_joint_X0_weigh : GoodIn wsX5_joint (wsV RX5 95 RX0 yX0_weigh wsX0_weigh) := goodIn_app (goodIn_of _ (by decide +kernel)) ggX5_joint_X0_weigh
set_option maxRecDepth 20000 in
theorem ggX5_joint_X3_at : GoodIn wsX5_joint wsX3_at := goodIn_r _ [46, 42, 103] (by decide +kernel) (by decide +kernel)
set_option maxRecDepth 20000 in
theorem gX5_joint_X3_at : GoodIn wsX5_joint (wsV RX5 84 RX3 yX3_at wsX3_at) := goodIn_app (goodIn_of _ (by decide +kernel)) ggX5_joint_X3_at
theorem dX5_joint_0 : decode cX5_joint 0 = .ok (.aload_n 0, 1) := by decide +kernel
theorem dX5_joint_1 : decode cX5_joint 1 = .ok (.iload_n 1, 1) := by decide +kernel
theorem dX5_joint_2 : decode cX5_joint 2 = .ok (.invokevirtual 102, 3) := by decide +kernel
theorem dX5_joint_5 : decode cX5_joint 5 = .ok (.iload_n 2, 1) := by decide +kernel
theorem dX5_joint_6 : decode cX5_joint 6 = .ok (.bipush 8, 2) := by decide +kernel
theorem dX5_joint_8 : decode cX5_joint 8 = .ok (.invokestatic 173, 3) := by decide +kernel
theorem dX5_joint_11 : decode cX5_joint 11 = .ok (.aload_n 0, 1) := by decide +kernel
theorem dX5_joint_12 : decode cX5_joint 12 = .ok (.getfield 22, 3) := by decide +kernel
theorem dX5_joint_15 : decode cX5_joint 15 = .ok (.aload_n 0, 1) := by decide +kernel
theorem dX5_joint_16 : decode cX5_joint 16 = .ok (.getfield 10, 3) := by decide +kernel
theorem dX5_joint_19 : decode cX5_joint 19 = .ok (.invokevirtual 95, 3) := by decide +kernel
theorem dX5_joint_22 : decode cX5_joint 22 = .ok (.pop, 1) := by decide +kernel
theorem dX5_joint_23 : decode cX5_joint 23 = .ok (.iload_n 2, 1) := by decide +kernel
theorem dX5_joint_24 : decode cX5_joint 24 = .ok (.tableswitch 131 0 6 #[44, 59, 71, 83, 95, 107, 119], 44) := by decide +kernel
theorem dX5_joint_68 : decode cX5_joint 68 = .ok (.aload_n 0, 1) := by decide +kernel
theorem dX5_joint_69 : decode cX5_joint 69 = .ok (.getfield 22, 3) := by decide +kernel
theorem dX5_joint_72 : decode cX5_joint 72 = .ok (.getfield 99, 3) := by decide +kernel
theorem dX5_joint_75 : decode cX5_joint 75 = .ok (.iload_n 1, 1) := by decide +kernel
theorem dX5_joint_76 : decode cX5_joint 76 = .ok (.invokevirtual 84, 3) := by decide +kernel
theorem dX5_joint_79 : decode cX5_joint 79 = .ok (.bipush 100, 2) := by decide +kernel
theorem dX5_joint_81 : decode cX5_joint 81 = .ok (.iadd, 1) := by decide +kernel
theorem dX5_joint_82 : decode cX5_joint 82 = .ok (.ireturn, 1) := by decide +kernel
theorem dX5_joint_83 : decode cX5_joint 83 = .ok (.aload_n 0, 1) := by decide +kernel
theorem dX5_joint_84 : decode cX5_joint 84 = .ok (.getfield 10, 3) := by decide +kernel
theorem dX5_joint_87 : decode cX5_joint 87 = .ok (.getfield 108, 3) := by decide +kernel
theorem dX5_joint_90 : decode cX5_joint 90 = .ok (.iload_n 1, 1) := by decide +kernel
theorem dX5_joint_91 : decode cX5_joint 91 = .ok (.invokevirtual 84, 3) := by decide +kernel
theorem dX5_joint_94 : decode cX5_joint 94 = .ok (.ireturn, 1) := by decide +kernel
theorem dX5_joint_95 : decode cX5_joint 95 = .ok (.aload_n 0, 1) := by decide +kernel
theorem dX5_joint_96 : decode cX5_joint 96 = .ok (.getfield 10, 3) := by decide +kernel
theorem dX5_joint_99 : decode cX5_joint 99 = .ok (.getfield 115, 3) := by decide +kernel
theorem dX5_joint_102 : decode cX5_joint 102 = .ok (.iload_n 1, 1) := by decide +kernel
theorem dX5_joint_103 : decode cX5_joint 103 = .ok (.invokevirtual 84, 3) := by decide +kernel
theorem dX5_joint_106 : decode cX5_joint 106 = .ok (.ireturn, 1) := by decide +kernel
theorem dX5_joint_107 : decode cX5_joint 107 = .ok (.aload_n 0, 1) := by decide +kernel
theorem dX5_joint_108 : decode cX5_joint 108 = .ok (.getfield 10, 3) := by decide +kernel
theorem dX5_joint_111 : decode cX5_joint 111 = .ok (.getfield 118, 3) := by decide +kernel
theorem dX5_joint_114 : decode cX5_joint 114 = .ok (.iload_n 1, 1) := by decide +kernel
theorem dX5_joint_115 : decode cX5_joint 115 = .ok (.invokevirtual 84, 3) := by decide +kernel
theorem dX5_joint_118 : decode cX5_joint 118 = .ok (.ireturn, 1) := by decide +kernel
theorem dX5_joint_119 : decode cX5_joint 119 = .ok (.aload_n 0, 1) := by decide +kernel
theorem dX5_joint_120 : decode cX5_joint 120 = .ok (.getfield 22, 3) := by decide +kernel
theorem dX5_joint_123 : decode cX5_joint 123 = .ok (.getfield 183, 3) := by decide +kernel
theorem dX5_joint_126 : decode cX5_joint 126 = .ok (.iload_n 1, 1) := by decide +kernel
theorem dX5_joint_127 : decode cX5_joint 127 = .ok (.invokevirtual 84, 3) := by decide +kernel
theorem dX5_joint_130 : decode cX5_joint 130 = .ok (.ireturn, 1) := by decide +kernel
theorem dX5_joint_131 : decode cX5_joint 131 = .ok (.aload_n 0, 1) := by decide +kernel
theorem dX5_joint_132 : decode cX5_joint 132 = .ok (.getfield 22, 3) := by decide +kernel
theorem dX5_joint_135 : decode cX5_joint 135 = .ok (.getfield 186, 3) := by decide +kernel
theorem dX5_joint_138 : decode cX5_joint 138 = .ok (.iload_n 1, 1) := by decide +kernel
theorem dX5_joint_139 : decode cX5_joint 139 = .ok (.invokevirtual 84, 3) := by decide +kernel
theorem dX5_joint_142 : decode cX5_joint 142 = .ok (.ireturn, 1) := by decide +kernel
theorem dX5_joint_143 : decode cX5_joint 143 = .ok (.aload_n 0, 1) := by decide +kernel
theorem dX5_joint_144 : decode cX5_joint 144 = .ok (.getfield 22, 3) := by decide +kernel
theorem dX5_joint_147 : decode cX5_joint 147 = .ok (.getfield 189, 3) := by decide +kernel
theorem dX5_joint_150 : decode cX5_joint 150 = .ok (.iload_n 1, 1) := by decide +kernel
theorem dX5_joint_151 : decode cX5_joint 151 = .ok (.invokevirtual 84, 3) := by decide +kernel
theorem dX5_joint_154 : decode cX5_joint 154 = .ok (.ireturn, 1) := by decide +kernel
theorem dX5_joint_155 : decode cX5_joint 155 = .ok (.aload_n 0, 1) := by decide +kernel
theorem dX5_joint_156 : decode cX5_joint 156 = .ok (.getfield 22, 3) := by decide +kernel
theorem dX5_joint_159 : decode cX5_joint 159 = .ok (.getfield 192, 3) := by decide +kernel
theorem dX5_joint_162 : decode cX5_joint 162 = .ok (.iload_n 1, 1) := by decide +kernel
theorem dX5_joint_163 : decode cX5_joint 163 = .ok (.invokevirtual 84, 3) := by decide +kernel
theorem dX5_joint_166 : decode cX5_joint 166 = .ok (.ireturn, 1) := by decide +kernel
set_option maxRecDepth 20000 in
theorem ggX5_count_X5_requireWhat : GoodIn wsX5_count wsX5_requireWhat := goodIn_ca (goodIn_r _ [14, 15, 16] (by decide +kernel) (by decide +kernel)) (goodIn_sub (fun _ h => List.mem_cons_of_mem _ (List.mem_append_right _ h)) (by decide +kernel))
set_option maxRecDepth 20000 in
theorem gX5_count_X5_requireWhat : GoodIn wsX5_count (va_wsS RX5 173 yX5_requireWhat wsX5_requireWhat) := goodIn_app (goodIn_of _ (by decide +kernel)) ggX5_count_X5_requireWhat
set_option maxRecDepth 20000 in
theorem ggX5_count_X0_weigh : GoodIn wsX5_count wsX0_weigh := goodIn_r _ [21, 22, 23, 24, 25, 26, 20, 27, 28, 29, 30, 31, 32, 33, 34, 35, 36, 37, 38, 39, 40, 41, 42, 43, 44, 45, 46, 47, 48, 49, 50, 51, 52, 53, 54, 55, 56, 57, 58, 59, 60, 61, 62, 63, 64, 65, 66, 67, 68, 69, 70, 71, 72, 101, 102, 103, 104, 105, 106, 107, 108, 109, 110, 111, 112, 113, 114, 115, 119] (by decide +kernel) (by decide +kernel)
set_option maxRecDepth 20000 in
theorem gX5_count_X0_weigh : GoodIn wsX5_count (wsV RX5 95 RX0 yX0_weigh wsX0_weigh) := goodIn_app (goodIn_of _ (by decide +kernel)) ggX5_count_X0_weigh
set_option maxRecDepth 20000 in
theorem ggX5_count_X3_sum : GoodIn wsX5_count wsX3_sum := goodIn_r _ [76, 35, 119] (by decide +kernel) (by decide +kernel)
set_option maxRecDepth 20000 in
theorem gX5_count_X3_sum : GoodIn wsX5_count (wsV RX5 195 RX3 yX3_sum wsX3_sum) := goodIn_app (goodIn_of _ (by decide +kernel)) ggX5_count_X3_sum
set_option maxRecDepth 20000 in
theorem ggX5_count_X0_broken : GoodIn wsX5_count wsX0_broken := goodIn_r _ [80, 22, 81, 82, 83, 20, 84, 69, 45, 36, 37, 38, 33, 39, 35, 101, 102, 103, 104, 105, 106, 107, 108, 109, 110, 111, 112, 113, 114, 115, 119] (by decide +kernel) (by decide +kernel)
set_option maxRecDepth 20000 in
theorem gX5_count_X0_broken : GoodIn wsX5_count (wsV RX5 207 RX0 yX0_broken wsX0_broken) := goodIn_app (goodIn_of _ (by decide +kernel)) ggX5_count_X0_broken
set_option maxRecDepth 20000 in
theorem ggX5_count_X0_holds : GoodIn wsX5_count wsX0_holds := goodIn_r _ [88, 23, 45, 36, 37, 38, 33, 39, 35, 107, 108, 109, 110, 111, 112, 113, 114, 115, 101, 102, 103, 104, 105, 106, 119] (by decide +kernel) (by decide +kernel)
set_option maxRecDepth 20000 in
theorem gX5_count_X0_holds : GoodIn wsX5_count (wsV RX5 210 RX0 yX0_holds wsX0_holds) := goodIn_app (goodIn_of _ (by decide +kernel)) ggX5_count_X0_holds
set_option maxRecDepth 20000 in
theorem ggX5_count_X0_lowest : GoodIn wsX5_count wsX0_lowest := goodIn_r _ [92, 22, 28, 36, 37, 38, 33, 39, 35, 101, 102, 103, 104, 105, 106, 107, 108, 109, 110, 111, 112, 113, 114, 115, 119] (by decide +kernel) (by decide +kernel)
set_option maxRecDepth 20000 in
theorem gX5_count_X0_lowest : GoodIn wsX5_count (wsV RX5 214 RX0 yX0_lowest wsX0_lowest) := goodIn_app (goodIn_of _ (by decide +kernel)) ggX5_count_X0_lowest
set_option maxRecDepth 20000 in
theorem ggX5_count_X3_at : GoodIn wsX5_count wsX3_at := goodIn_r _ [39, 35, 119] (by decide +kernel) (by decide +kernel)
set_option maxRecDepth 20000 in
theorem gX5_count_X3_at : GoodIn wsX5_count (wsV RX5 84 RX3 yX3_at wsX3_at) := goodIn_app (goodIn_of _ (by decide +kernel)) ggX5_count_X3_at
theorem dX5_count_0 : decode cX5_count 0 = .ok (.iload_n 1, 1) := by decide +kernel
theorem dX5_count_1 : decode cX5_count 1 = .ok (.bipush 11, 2) := by decide +kernel
theorem dX5_count_3 : decode cX5_count 3 = .ok (.invokestatic 173, 3) := by decide +kernel
theorem dX5_count_6 : decode cX5_count 6 = .ok (.aload_n 0, 1) := by decide +kernel
theorem dX5_count_7 : decode cX5_count 7 = .ok (.getfield 22, 3) := by decide +kernel
theorem dX5_count_10 : decode cX5_count 10 = .ok (.aload_n 0, 1) := by decide +kernel
theorem dX5_count_11 : decode cX5_count 11 = .ok (.getfield 10, 3) := by decide +kernel
theorem dX5_count_14 : decode cX5_count 14 = .ok (.invokevirtual 95, 3) := by decide +kernel
theorem dX5_count_17 : decode cX5_count 17 = .ok (.pop, 1) := by decide +kernel
theorem dX5_count_18 : decode cX5_count 18 = .ok (.iload_n 1, 1) := by decide +kernel
theorem dX5_count_19 : decode cX5_count 19 = .ok (.tableswitch 190 0 9 #[53, 61, 81, 97, 105, 113, 121, 133, 153, 165], 53) := by decide +kernel
theorem dX5_count_72 : decode cX5_count 72 = .ok (.aload_n 0, 1) := by decide +kernel
theorem dX5_count_73 : decode cX5_count 73 = .ok (.getfield 10, 3) := by decide +kernel
theorem dX5_count_76 : decode cX5_count 76 = .ok (.getfield 56, 3) := by decide +kernel
theorem dX5_count_79 : decode cX5_count 79 = .ok (.ireturn, 1) := by decide +kernel
theorem dX5_count_80 : decode cX5_count 80 = .ok (.aload_n 0, 1) := by decide +kernel
theorem dX5_count_81 : decode cX5_count 81 = .ok (.getfield 10, 3) := by decide +kernel
theorem dX5_count_84 : decode cX5_count 84 = .ok (.getfield 108, 3) := by decide +kernel
theorem dX5_count_87 : decode cX5_count 87 = .ok (.aload_n 0, 1) := by decide +kernel
theorem dX5_count_88 : decode cX5_count 88 = .ok (.getfield 10, 3) := by decide +kernel
theorem dX5_count_91 : decode cX5_count 91 = .ok (.getfield 56, 3) := by decide +kernel
theorem dX5_count_94 : decode cX5_count 94 = .ok (.iconst 1, 1) := by decide +kernel
theorem dX5_count_95 : decode cX5_count 95 = .ok (.iadd, 1) := by decide +kernel
theorem dX5_count_96 : decode cX5_count 96 = .ok (.invokevirtual 195, 3) := by decide +kernel
theorem dX5_count_99 : decode cX5_count 99 = .ok (.ireturn, 1) := by decide +kernel
theorem dX5_count_100 : decode cX5_count 100 = .ok (.aload_n 0, 1) := by decide +kernel
theorem dX5_count_101 : decode cX5_count 101 = .ok (.getfield 22, 3) := by decide +kernel
theorem dX5_count_104 : decode cX5_count 104 = .ok (.getfield 198, 3) := by decide +kernel
theorem dX5_count_107 : decode cX5_count 107 = .ok (.aload_n 0, 1) := by decide +kernel
theorem dX5_count_108 : decode cX5_count 108 = .ok (.getfield 22, 3) := by decide +kernel
theorem dX5_count_111 : decode cX5_count 111 = .ok (.getfield 201, 3) := by decide +kernel
theorem dX5_count_114 : decode cX5_count 114 = .ok (.iadd, 1) := by decide +kernel
theorem dX5_count_115 : decode cX5_count 115 = .ok (.ireturn, 1) := by decide +kernel
theorem dX5_count_116 : decode cX5_count 116 = .ok (.aload_n 0, 1) := by decide +kernel
theorem dX5_count_117 : decode cX5_count 117 = .ok (.getfield 22, 3) := by decide +kernel
theorem dX5_count_120 : decode cX5_count 120 = .ok (.getfield 198, 3) := by decide +kernel
theorem dX5_count_123 : decode cX5_count 123 = .ok (.ireturn, 1) := by decide +kernel
theorem dX5_count_124 : decode cX5_count 124 = .ok (.aload_n 0, 1) := by decide +kernel
theorem dX5_count_125 : decode cX5_count 125 = .ok (.getfield 22, 3) := by decide +kernel
theorem dX5_count_128 : decode cX5_count 128 = .ok (.getfield 201, 3) := by decide +kernel
theorem dX5_count_131 : decode cX5_count 131 = .ok (.ireturn, 1) := by decide +kernel
theorem dX5_count_132 : decode cX5_count 132 = .ok (.aload_n 0, 1) := by decide +kernel
theorem dX5_count_133 : decode cX5_count 133 = .ok (.getfield 22, 3) := by decide +kernel
theorem dX5_count_136 : decode cX5_count 136 = .ok (.getfield 204, 3) := by decide +kernel
theorem dX5_count_139 : decode cX5_count 139 = .ok (.ireturn, 1) := by decide +kernel
theorem dX5_count_140 : decode cX5_count 140 = .ok (.aload_n 0, 1) := by decide +kernel
theorem dX5_count_141 : decode cX5_count 141 = .ok (.getfield 22, 3) := by decide +kernel
theorem dX5_count_144 : decode cX5_count 144 = .ok (.aload_n 0, 1) := by decide +kernel
theorem dX5_count_145 : decode cX5_count 145 = .ok (.getfield 10, 3) := by decide +kernel
theorem dX5_count_148 : decode cX5_count 148 = .ok (.invokevirtual 207, 3) := by decide +kernel
theorem dX5_count_151 : decode cX5_count 151 = .ok (.ireturn, 1) := by decide +kernel
theorem dX5_count_152 : decode cX5_count 152 = .ok (.aload_n 0, 1) := by decide +kernel
theorem dX5_count_153 : decode cX5_count 153 = .ok (.getfield 22, 3) := by decide +kernel
theorem dX5_count_156 : decode cX5_count 156 = .ok (.aload_n 0, 1) := by decide +kernel
theorem dX5_count_157 : decode cX5_count 157 = .ok (.getfield 10, 3) := by decide +kernel
theorem dX5_count_160 : decode cX5_count 160 = .ok (.invokevirtual 210, 3) := by decide +kernel
theorem dX5_count_163 : decode cX5_count 163 = .ok (.ifCond .eq 7, 3) := by decide +kernel
theorem dX5_count_166 : decode cX5_count 166 = .ok (.iconst 1, 1) := by decide +kernel
theorem dX5_count_167 : decode cX5_count 167 = .ok (.goto 4, 3) := by decide +kernel
theorem dX5_count_170 : decode cX5_count 170 = .ok (.iconst 0, 1) := by decide +kernel
theorem dX5_count_171 : decode cX5_count 171 = .ok (.ireturn, 1) := by decide +kernel
theorem dX5_count_172 : decode cX5_count 172 = .ok (.aload_n 0, 1) := by decide +kernel
theorem dX5_count_173 : decode cX5_count 173 = .ok (.getfield 22, 3) := by decide +kernel
theorem dX5_count_176 : decode cX5_count 176 = .ok (.aload_n 0, 1) := by decide +kernel
theorem dX5_count_177 : decode cX5_count 177 = .ok (.getfield 10, 3) := by decide +kernel
theorem dX5_count_180 : decode cX5_count 180 = .ok (.invokevirtual 214, 3) := by decide +kernel
theorem dX5_count_183 : decode cX5_count 183 = .ok (.ireturn, 1) := by decide +kernel
theorem dX5_count_184 : decode cX5_count 184 = .ok (.aload_n 0, 1) := by decide +kernel
theorem dX5_count_185 : decode cX5_count 185 = .ok (.getfield 22, 3) := by decide +kernel
theorem dX5_count_188 : decode cX5_count 188 = .ok (.getfield 99, 3) := by decide +kernel
theorem dX5_count_191 : decode cX5_count 191 = .ok (.aload_n 0, 1) := by decide +kernel
theorem dX5_count_192 : decode cX5_count 192 = .ok (.getfield 22, 3) := by decide +kernel
theorem dX5_count_195 : decode cX5_count 195 = .ok (.aload_n 0, 1) := by decide +kernel
theorem dX5_count_196 : decode cX5_count 196 = .ok (.getfield 10, 3) := by decide +kernel
theorem dX5_count_199 : decode cX5_count 199 = .ok (.invokevirtual 214, 3) := by decide +kernel
theorem dX5_count_202 : decode cX5_count 202 = .ok (.invokevirtual 84, 3) := by decide +kernel
theorem dX5_count_205 : decode cX5_count 205 = .ok (.bipush 100, 2) := by decide +kernel
theorem dX5_count_207 : decode cX5_count 207 = .ok (.iadd, 1) := by decide +kernel
theorem dX5_count_208 : decode cX5_count 208 = .ok (.ireturn, 1) := by decide +kernel
theorem dX5_count_209 : decode cX5_count 209 = .ok (.aload_n 0, 1) := by decide +kernel
theorem dX5_count_210 : decode cX5_count 210 = .ok (.getfield 29, 3) := by decide +kernel
theorem dX5_count_213 : decode cX5_count 213 = .ok (.getfield 165, 3) := by decide +kernel
theorem dX5_count_216 : decode cX5_count 216 = .ok (.ireturn, 1) := by decide +kernel
set_option maxRecDepth 20000 in
theorem ggX5_setting_X5_requireSetting : GoodIn wsX5_setting wsX5_requireSetting := goodIn_ca (goodIn_r _ [6, 7, 8] (by decide +kernel) (by decide +kernel)) (goodIn_sub (fun _ h => List.mem_cons_of_mem _ (List.mem_append_right _ h)) (by decide +kernel))
set_option maxRecDepth 20000 in
theorem gX5_setting_X5_requireSetting : GoodIn wsX5_setting (va_wsS RX5 130 yX5_requireSetting wsX5_requireSetting) := goodIn_app (goodIn_of _ (by decide +kernel)) ggX5_setting_X5_requireSetting
set_option maxRecDepth 20000 in
theorem ggX5_setting_X3_at : GoodIn wsX5_setting wsX3_at := goodIn_r _ [13, 14, 28] (by decide +kernel) (by decide +kernel)
set_option maxRecDepth 20000 in
theorem gX5_setting_X3_at : GoodIn wsX5_setting (wsV RX5 84 RX3 yX3_at wsX3_at) := goodIn_app (goodIn_of _ (by decide +kernel)) ggX5_setting_X3_at
theorem dX5_setting_0 : decode cX5_setting 0 = .ok (.iload_n 1, 1) := by decide +kernel
theorem dX5_setting_1 : decode cX5_setting 1 = .ok (.invokestatic 130, 3) := by decide +kernel
theorem dX5_setting_4 : decode cX5_setting 4 = .ok (.aload_n 0, 1) := by decide +kernel
theorem dX5_setting_5 : decode cX5_setting 5 = .ok (.getfield 10, 3) := by decide +kernel
theorem dX5_setting_8 : decode cX5_setting 8 = .ok (.getfield 141, 3) := by decide +kernel
theorem dX5_setting_11 : decode cX5_setting 11 = .ok (.iload_n 1, 1) := by decide +kernel
theorem dX5_setting_12 : decode cX5_setting 12 = .ok (.invokevirtual 84, 3) := by decide +kernel
theorem dX5_setting_15 : decode cX5_setting 15 = .ok (.bipush 100, 2) := by decide +kernel
theorem dX5_setting_17 : decode cX5_setting 17 = .ok (.iadd, 1) := by decide +kernel
theorem dX5_setting_18 : decode cX5_setting 18 = .ok (.ireturn, 1) := by decide +kernel
set_option maxRecDepth 20000 in
theorem ggX5_ifWeight_X5_requireJoint : GoodIn wsX5_ifWeight wsX5_requireJoint := goodIn_ca (goodIn_r _ [9, 10, 11, 2, 12, 91, 92, 93, 94, 95, 96, 97, 98, 99, 100, 101, 102, 103] (by decide +kernel) (by decide +kernel)) (goodIn_sub (fun _ h => List.mem_cons_of_mem _ (List.mem_append_left _ (List.mem_append_right _ h))) (by decide +kernel))
set_option maxRecDepth 20000 in
theorem gX5_ifWeight_X5_requireJoint : GoodIn wsX5_ifWeight (wsV RX5 102 RX5 yX5_requireJoint wsX5_requireJoint) := goodIn_app (goodIn_of _ (by decide +kernel)) ggX5_ifWeight_X5_requireJoint
set_option maxRecDepth 20000 in
theorem ggX5_ifWeight_X5_requireAmount : GoodIn wsX5_ifWeight wsX5_requireAmount := goodIn_ca (goodIn_r _ [15, 16, 17] (by decide +kernel) (by decide +kernel)) (goodIn_sub (fun _ h => List.mem_cons_of_mem _ (List.mem_append_right _ h)) (by decide +kernel))
set_option maxRecDepth 20000 in
theorem gX5_ifWeight_X5_requireAmount : GoodIn wsX5_ifWeight (va_wsS RX5 105 yX5_requireAmount wsX5_requireAmount) := goodIn_app (goodIn_of _ (by decide +kernel)) ggX5_ifWeight_X5_requireAmount
set_option maxRecDepth 20000 in
theorem ggX5_ifWeight_X1_copyFrom : GoodIn wsX5_ifWeight wsX1_copyFrom := goodIn_r _ [22, 23, 24, 25, 26, 27, 28, 29, 30, 31, 32, 33, 34, 35, 36, 37, 38, 98, 99, 100, 101, 102, 103, 104] (by decide +kernel) (by decide +kernel)
set_option maxRecDepth 20000 in
theorem gX5_ifWeight_X1_copyFrom : GoodIn wsX5_ifWeight (wsV RX5 217 RX1 yX1_copyFrom wsX1_copyFrom) := goodIn_app (goodIn_of _ (by decide +kernel)) ggX5_ifWeight_X1_copyFrom
set_option maxRecDepth 20000 in
theorem ggX5_ifWeight_X3_put : GoodIn wsX5_ifWeight wsX3_put := goodIn_r _ [42, 34, 104] (by decide +kernel) (by decide +kernel)
set_option maxRecDepth 20000 in
theorem gX5_ifWeight_X3_put : GoodIn wsX5_ifWeight (wsV RX5 88 RX3 yX3_put wsX3_put) := goodIn_app (goodIn_of _ (by decide +kernel)) ggX5_ifWeight_X3_put
set_option maxRecDepth 20000 in
theorem ggX5_ifWeight_X0_weigh : GoodIn wsX5_ifWeight wsX0_weigh := goodIn_r _ [47, 48, 49, 50, 51, 52, 46, 53, 54, 55, 56, 40, 41, 32, 42, 34, 57, 36, 37, 38, 58, 59, 60, 61, 62, 63, 64, 65, 66, 67, 68, 69, 70, 71, 72, 73, 74, 75, 76, 77, 78, 79, 80, 81, 82, 83, 84, 85, 86, 87, 88, 89, 90, 98, 99, 100, 101, 102, 103, 105, 106, 107, 108, 109, 110, 111, 112, 113, 104] (by decide +kernel) (by decide +kernel)
set_option maxRecDepth 20000 in
theorem gX5_ifWeight_X0_weigh : GoodIn wsX5_ifWeight (wsV RX5 95 RX0 yX0_weigh wsX0_weigh) := goodIn_app (goodIn_of _ (by decide +kernel)) ggX5_ifWeight_X0_weigh
theorem dX5_ifWeight_0 : decode cX5_ifWeight 0 = .ok (.aload_n 0, 1) := by decide +kernel
theorem dX5_ifWeight_1 : decode cX5_ifWeight 1 = .ok (.iload_n 1, 1) := by decide +kernel
theorem dX5_ifWeight_2 : decode cX5_ifWeight 2 = .ok (.invokevirtual 102, 3) := by decide +kernel
theorem dX5_ifWeight_5 : decode cX5_ifWeight 5 = .ok (.iload_n 2, 1) := by decide +kernel
theorem dX5_ifWeight_6 : decode cX5_ifWeight 6 = .ok (.invokestatic 105, 3) := by decide +kernel
theorem dX5_ifWeight_9 : decode cX5_ifWeight 9 = .ok (.aload_n 0, 1) := by decide +kernel
theorem dX5_ifWeight_10 : decode cX5_ifWeight 10 = .ok (.getfield 16, 3) := by decide +kernel
theorem dX5_ifWeight_13 : decode cX5_ifWeight 13 = .ok (.aload_n 0, 1) := by decide +kernel
theorem dX5_ifWeight_14 : decode cX5_ifWeight 14 = .ok (.getfield 10, 3) := by decide +kernel
theorem dX5_ifWeight_17 : decode cX5_ifWeight 17 = .ok (.invokevirtual 217, 3) := by decide +kernel
theorem dX5_ifWeight_20 : decode cX5_ifWeight 20 = .ok (.aload_n 0, 1) := by decide +kernel
theorem dX5_ifWeight_21 : decode cX5_ifWeight 21 = .ok (.getfield 16, 3) := by decide +kernel
theorem dX5_ifWeight_24 : decode cX5_ifWeight 24 = .ok (.getfield 108, 3) := by decide +kernel
theorem dX5_ifWeight_27 : decode cX5_ifWeight 27 = .ok (.iload_n 1, 1) := by decide +kernel
theorem dX5_ifWeight_28 : decode cX5_ifWeight 28 = .ok (.iload_n 2, 1) := by decide +kernel
theorem dX5_ifWeight_29 : decode cX5_ifWeight 29 = .ok (.invokevirtual 88, 3) := by decide +kernel
theorem dX5_ifWeight_32 : decode cX5_ifWeight 32 = .ok (.aload_n 0, 1) := by decide +kernel
theorem dX5_ifWeight_33 : decode cX5_ifWeight 33 = .ok (.getfield 22, 3) := by decide +kernel
theorem dX5_ifWeight_36 : decode cX5_ifWeight 36 = .ok (.aload_n 0, 1) := by decide +kernel
theorem dX5_ifWeight_37 : decode cX5_ifWeight 37 = .ok (.getfield 16, 3) := by decide +kernel
theorem dX5_ifWeight_40 : decode cX5_ifWeight 40 = .ok (.invokevirtual 95, 3) := by decide +kernel
theorem dX5_ifWeight_43 : decode cX5_ifWeight 43 = .ok (.ireturn, 1) := by decide +kernel
set_option maxRecDepth 20000 in
theorem ggX5_mostWeight_X5_requireJoint : GoodIn wsX5_mostWeight wsX5_requireJoint := goodIn_ca (goodIn_r _ [9, 10, 11, 2, 12, 90, 91, 92, 93, 94, 95, 96, 97, 98, 99, 100, 101, 102] (by decide +kernel) (by decide +kernel)) (goodIn_sub (fun _ h => List.mem_cons_of_mem _ (List.mem_append_right _ h)) (by decide +kernel))
set_option maxRecDepth 20000 in
theorem gX5_mostWeight_X5_requireJoint : GoodIn wsX5_mostWeight (wsV RX5 102 RX5 yX5_requireJoint wsX5_requireJoint) := goodIn_app (goodIn_of _ (by decide +kernel)) ggX5_mostWeight_X5_requireJoint
set_option maxRecDepth 20000 in
theorem ggX5_mostWeight_X1_copyFrom : GoodIn wsX5_mostWeight wsX1_copyFrom := goodIn_r _ [17, 18, 19, 20, 21, 22, 23, 24, 25, 26, 27, 28, 29, 30, 31, 32, 33, 97, 98, 99, 100, 101, 102, 103] (by decide +kernel) (by decide +kernel)
set_option maxRecDepth 20000 in
theorem gX5_mostWeight_X1_copyFrom : GoodIn wsX5_mostWeight (wsV RX5 217 RX1 yX1_copyFrom wsX1_copyFrom) := goodIn_app (goodIn_of _ (by decide +kernel)) ggX5_mostWeight_X1_copyFrom
set_option maxRecDepth 20000 in
theorem ggX5_mostWeight_X3_put : GoodIn wsX5_mostWeight wsX3_put := goodIn_r _ [37, 29, 103] (by decide +kernel) (by decide +kernel)
set_option maxRecDepth 20000 in
theorem gX5_mostWeight_X3_put : GoodIn wsX5_mostWeight (wsV RX5 88 RX3 yX3_put wsX3_put) := goodIn_app (goodIn_of _ (by decide +kernel)) ggX5_mostWeight_X3_put
set_option maxRecDepth 20000 in
theorem ggX5_mostWeight_X0_weigh : GoodIn wsX5_mostWeight wsX0_weigh := goodIn_r _ [42, 43, 44, 45, 46, 47, 41, 48, 49, 50, 51, 35, 36, 27, 37, 29, 52, 31, 32, 33, 53, 54, 55, 56, 57, 58, 59, 60, 61, 62, 63, 64, 65, 66, 67, 68, 69, 70, 71, 72, 73, 74, 75, 76, 77, 78, 79, 80, 81, 82, 83, 84, 85, 97, 98, 99, 100, 101, 102, 104, 105, 106, 107, 108, 109, 110, 111, 112, 103] (by decide +kernel) (by decide +kernel)
set_option maxRecDepth 20000 in
theorem gX5_mostWeight_X0_weigh : GoodIn wsX5_mostWeight (wsV RX5 95 RX0 yX0_weigh wsX0_weigh) := goodIn_app (goodIn_of _ (by decide +kernel)) ggX5_mostWeight_X0_weigh
set_option maxRecDepth 20000 in
theorem ggX5_mostWeight_X0_holds : GoodIn wsX5_mostWeight wsX0_holds := goodIn_r _ [89, 44, 58, 52, 31, 32, 27, 33, 29, 104, 105, 106, 107, 108, 109, 110, 111, 112, 97, 98, 99, 100, 101, 102, 103] (by decide +kernel) (by decide +kernel)
set_option maxRecDepth 20000 in
theorem gX5_mostWeight_X0_holds : GoodIn wsX5_mostWeight (wsV RX5 210 RX0 yX0_holds wsX0_holds) := goodIn_app (goodIn_of _ (by decide +kernel)) ggX5_mostWeight_X0_holds
theorem dX5_mostWeight_0 : decode cX5_mostWeight 0 = .ok (.aload_n 0, 1) := by decide +kernel
theorem dX5_mostWeight_1 : decode cX5_mostWeight 1 = .ok (.iload_n 1, 1) := by decide +kernel
theorem dX5_mostWeight_2 : decode cX5_mostWeight 2 = .ok (.invokevirtual 102, 3) := by decide +kernel
theorem dX5_mostWeight_5 : decode cX5_mostWeight 5 = .ok (.aload_n 0, 1) := by decide +kernel
theorem dX5_mostWeight_6 : decode cX5_mostWeight 6 = .ok (.getfield 16, 3) := by decide +kernel
theorem dX5_mostWeight_9 : decode cX5_mostWeight 9 = .ok (.aload_n 0, 1) := by decide +kernel
theorem dX5_mostWeight_10 : decode cX5_mostWeight 10 = .ok (.getfield 10, 3) := by decide +kernel
theorem dX5_mostWeight_13 : decode cX5_mostWeight 13 = .ok (.invokevirtual 217, 3) := by decide +kernel
theorem dX5_mostWeight_16 : decode cX5_mostWeight 16 = .ok (.bipush 99, 2) := by decide +kernel
theorem dX5_mostWeight_18 : decode cX5_mostWeight 18 = .ok (.istore_n 2, 1) := by decide +kernel
theorem dX5_mostWeight_19 : decode cX5_mostWeight 19 = .ok (.iload_n 2, 1) := by decide +kernel
theorem dX5_mostWeight_20 : decode cX5_mostWeight 20 = .ok (.ifCond .lt 49, 3) := by decide +kernel
theorem dX5_mostWeight_23 : decode cX5_mostWeight 23 = .ok (.aload_n 0, 1) := by decide +kernel
theorem dX5_mostWeight_24 : decode cX5_mostWeight 24 = .ok (.getfield 16, 3) := by decide +kernel
theorem dX5_mostWeight_27 : decode cX5_mostWeight 27 = .ok (.getfield 108, 3) := by decide +kernel
theorem dX5_mostWeight_30 : decode cX5_mostWeight 30 = .ok (.iload_n 1, 1) := by decide +kernel
theorem dX5_mostWeight_31 : decode cX5_mostWeight 31 = .ok (.iload_n 2, 1) := by decide +kernel
theorem dX5_mostWeight_32 : decode cX5_mostWeight 32 = .ok (.invokevirtual 88, 3) := by decide +kernel
theorem dX5_mostWeight_35 : decode cX5_mostWeight 35 = .ok (.aload_n 0, 1) := by decide +kernel
theorem dX5_mostWeight_36 : decode cX5_mostWeight 36 = .ok (.getfield 22, 3) := by decide +kernel
theorem dX5_mostWeight_39 : decode cX5_mostWeight 39 = .ok (.aload_n 0, 1) := by decide +kernel
theorem dX5_mostWeight_40 : decode cX5_mostWeight 40 = .ok (.getfield 16, 3) := by decide +kernel
theorem dX5_mostWeight_43 : decode cX5_mostWeight 43 = .ok (.invokevirtual 95, 3) := by decide +kernel
theorem dX5_mostWeight_46 : decode cX5_mostWeight 46 = .ok (.pop, 1) := by decide +kernel
theorem dX5_mostWeight_47 : decode cX5_mostWeight 47 = .ok (.aload_n 0, 1) := by decide +kernel
theorem dX5_mostWeight_48 : decode cX5_mostWeight 48 = .ok (.getfield 22, 3) := by decide +kernel
theorem dX5_mostWeight_51 : decode cX5_mostWeight 51 = .ok (.aload_n 0, 1) := by decide +kernel
theorem dX5_mostWeight_52 : decode cX5_mostWeight 52 = .ok (.getfield 16, 3) := by decide +kernel
theorem dX5_mostWeight_55 : decode cX5_mostWeight 55 = .ok (.invokevirtual 210, 3) := by decide +kernel
theorem dX5_mostWeight_58 : decode cX5_mostWeight 58 = .ok (.ifCond .eq 5, 3) := by decide +kernel
theorem dX5_mostWeight_61 : decode cX5_mostWeight 61 = .ok (.iload_n 2, 1) := by decide +kernel
theorem dX5_mostWeight_62 : decode cX5_mostWeight 62 = .ok (.ireturn, 1) := by decide +kernel
theorem dX5_mostWeight_63 : decode cX5_mostWeight 63 = .ok (.iinc 2 (-1), 3) := by decide +kernel
theorem dX5_mostWeight_66 : decode cX5_mostWeight 66 = .ok (.goto (-47), 3) := by decide +kernel
theorem dX5_mostWeight_69 : decode cX5_mostWeight 69 = .ok (.iconst (-1), 1) := by decide +kernel
theorem dX5_mostWeight_70 : decode cX5_mostWeight 70 = .ok (.ireturn, 1) := by decide +kernel
set_option maxRecDepth 20000 in
theorem ggX5_bestMove_X5_requireJoint : GoodIn wsX5_bestMove wsX5_requireJoint := goodIn_ca (goodIn_r _ [10, 11, 12, 1, 3, 93, 94, 95, 96, 97, 98, 99, 100, 101, 102, 103, 104, 105] (by decide +kernel) (by decide +kernel)) (goodIn_sub (fun _ h => List.mem_cons_of_mem _ (List.mem_append_right _ h)) (by decide +kernel))
set_option maxRecDepth 20000 in
theorem gX5_bestMove_X5_requireJoint : GoodIn wsX5_bestMove (wsV RX5 102 RX5 yX5_requireJoint wsX5_requireJoint) := goodIn_app (goodIn_of _ (by decide +kernel)) ggX5_bestMove_X5_requireJoint
set_option maxRecDepth 20000 in
theorem ggX5_bestMove_X3_at : GoodIn wsX5_bestMove wsX3_at := goodIn_r _ [17, 18, 106] (by decide +kernel) (by decide +kernel)
set_option maxRecDepth 20000 in
theorem gX5_bestMove_X3_at : GoodIn wsX5_bestMove (wsV RX5 84 RX3 yX3_at wsX3_at) := goodIn_app (goodIn_of _ (by decide +kernel)) ggX5_bestMove_X3_at
set_option maxRecDepth 20000 in
theorem ggX5_bestMove_X1_copyFrom : GoodIn wsX5_bestMove wsX1_copyFrom := goodIn_r _ [23, 24, 25, 26, 27, 28, 29, 30, 31, 32, 16, 33, 18, 34, 14, 15, 17, 100, 101, 102, 103, 104, 105, 106] (by decide +kernel) (by decide +kernel)
set_option maxRecDepth 20000 in
theorem gX5_bestMove_X1_copyFrom : GoodIn wsX5_bestMove (wsV RX5 217 RX1 yX1_copyFrom wsX1_copyFrom) := goodIn_app (goodIn_of _ (by decide +kernel)) ggX5_bestMove_X1_copyFrom
set_option maxRecDepth 20000 in
theorem ggX5_bestMove_X1_moveWeight : GoodIn wsX5_bestMove wsX1_moveWeight := goodIn_r _ [38, 26, 39, 40, 41, 42, 43, 14, 15, 16, 17, 18, 44, 45, 46, 47, 100, 101, 102, 103, 104, 105, 106] (by decide +kernel) (by decide +kernel)
set_option maxRecDepth 20000 in
theorem gX5_bestMove_X1_moveWeight : GoodIn wsX5_bestMove (wsV RX5 126 RX1 yX1_moveWeight wsX1_moveWeight) := goodIn_app (goodIn_of _ (by decide +kernel)) ggX5_bestMove_X1_moveWeight
set_option maxRecDepth 20000 in
theorem ggX5_bestMove_X0_weigh : GoodIn wsX5_bestMove wsX0_weigh := goodIn_r _ [52, 53, 54, 55, 56, 57, 51, 58, 59, 60, 61, 45, 46, 16, 47, 18, 62, 14, 15, 17, 63, 64, 65, 66, 67, 68, 69, 70, 40, 41, 42, 71, 72, 73, 74, 75, 76, 77, 78, 79, 80, 81, 82, 83, 84, 85, 86, 87, 88, 89, 90, 91, 92, 100, 101, 102, 103, 104, 105, 107, 108, 109, 110, 111, 112, 113, 114, 115, 106] (by decide +kernel) (by decide +kernel)
set_option maxRecDepth 20000 in
theorem gX5_bestMove_X0_weigh : GoodIn wsX5_bestMove (wsV RX5 95 RX0 yX0_weigh wsX0_weigh) := goodIn_app (goodIn_of _ (by decide +kernel)) ggX5_bestMove_X0_weigh
theorem dX5_bestMove_0 : decode cX5_bestMove 0 = .ok (.aload_n 0, 1) := by decide +kernel
theorem dX5_bestMove_1 : decode cX5_bestMove 1 = .ok (.iload_n 1, 1) := by decide +kernel
theorem dX5_bestMove_2 : decode cX5_bestMove 2 = .ok (.invokevirtual 102, 3) := by decide +kernel
theorem dX5_bestMove_5 : decode cX5_bestMove 5 = .ok (.aload_n 0, 1) := by decide +kernel
theorem dX5_bestMove_6 : decode cX5_bestMove 6 = .ok (.getfield 10, 3) := by decide +kernel
theorem dX5_bestMove_9 : decode cX5_bestMove 9 = .ok (.getfield 108, 3) := by decide +kernel
theorem dX5_bestMove_12 : decode cX5_bestMove 12 = .ok (.iload_n 1, 1) := by decide +kernel
theorem dX5_bestMove_13 : decode cX5_bestMove 13 = .ok (.invokevirtual 84, 3) := by decide +kernel
theorem dX5_bestMove_16 : decode cX5_bestMove 16 = .ok (.ifCond .ne 5, 3) := by decide +kernel
theorem dX5_bestMove_19 : decode cX5_bestMove 19 = .ok (.iconst (-1), 1) := by decide +kernel
theorem dX5_bestMove_20 : decode cX5_bestMove 20 = .ok (.ireturn, 1) := by decide +kernel
theorem dX5_bestMove_21 : decode cX5_bestMove 21 = .ok (.iconst (-1), 1) := by decide +kernel
theorem dX5_bestMove_22 : decode cX5_bestMove 22 = .ok (.istore_n 2, 1) := by decide +kernel
theorem dX5_bestMove_23 : decode cX5_bestMove 23 = .ok (.iconst 0, 1) := by decide +kernel
theorem dX5_bestMove_24 : decode cX5_bestMove 24 = .ok (.istore_n 3, 1) := by decide +kernel
theorem dX5_bestMove_25 : decode cX5_bestMove 25 = .ok (.iconst 0, 1) := by decide +kernel
theorem dX5_bestMove_26 : decode cX5_bestMove 26 = .ok (.istore 4, 2) := by decide +kernel
theorem dX5_bestMove_28 : decode cX5_bestMove 28 = .ok (.iload 4, 2) := by decide +kernel
theorem dX5_bestMove_30 : decode cX5_bestMove 30 = .ok (.aload_n 0, 1) := by decide +kernel
theorem dX5_bestMove_31 : decode cX5_bestMove 31 = .ok (.getfield 10, 3) := by decide +kernel
theorem dX5_bestMove_34 : decode cX5_bestMove 34 = .ok (.getfield 56, 3) := by decide +kernel
theorem dX5_bestMove_37 : decode cX5_bestMove 37 = .ok (.if_icmp .gt 67, 3) := by decide +kernel
theorem dX5_bestMove_40 : decode cX5_bestMove 40 = .ok (.iload 4, 2) := by decide +kernel
theorem dX5_bestMove_42 : decode cX5_bestMove 42 = .ok (.iload_n 1, 1) := by decide +kernel
theorem dX5_bestMove_43 : decode cX5_bestMove 43 = .ok (.if_icmp .eq 55, 3) := by decide +kernel
theorem dX5_bestMove_46 : decode cX5_bestMove 46 = .ok (.aload_n 0, 1) := by decide +kernel
theorem dX5_bestMove_47 : decode cX5_bestMove 47 = .ok (.getfield 16, 3) := by decide +kernel
theorem dX5_bestMove_50 : decode cX5_bestMove 50 = .ok (.aload_n 0, 1) := by decide +kernel
theorem dX5_bestMove_51 : decode cX5_bestMove 51 = .ok (.getfield 10, 3) := by decide +kernel
theorem dX5_bestMove_54 : decode cX5_bestMove 54 = .ok (.invokevirtual 217, 3) := by decide +kernel
theorem dX5_bestMove_57 : decode cX5_bestMove 57 = .ok (.aload_n 0, 1) := by decide +kernel
theorem dX5_bestMove_58 : decode cX5_bestMove 58 = .ok (.getfield 16, 3) := by decide +kernel
theorem dX5_bestMove_61 : decode cX5_bestMove 61 = .ok (.iload_n 1, 1) := by decide +kernel
theorem dX5_bestMove_62 : decode cX5_bestMove 62 = .ok (.iload 4, 2) := by decide +kernel
theorem dX5_bestMove_64 : decode cX5_bestMove 64 = .ok (.invokevirtual 126, 3) := by decide +kernel
theorem dX5_bestMove_67 : decode cX5_bestMove 67 = .ok (.pop, 1) := by decide +kernel
theorem dX5_bestMove_68 : decode cX5_bestMove 68 = .ok (.aload_n 0, 1) := by decide +kernel
theorem dX5_bestMove_69 : decode cX5_bestMove 69 = .ok (.getfield 22, 3) := by decide +kernel
theorem dX5_bestMove_72 : decode cX5_bestMove 72 = .ok (.aload_n 0, 1) := by decide +kernel
theorem dX5_bestMove_73 : decode cX5_bestMove 73 = .ok (.getfield 16, 3) := by decide +kernel
theorem dX5_bestMove_76 : decode cX5_bestMove 76 = .ok (.invokevirtual 95, 3) := by decide +kernel
theorem dX5_bestMove_79 : decode cX5_bestMove 79 = .ok (.istore 5, 2) := by decide +kernel
theorem dX5_bestMove_81 : decode cX5_bestMove 81 = .ok (.iload_n 2, 1) := by decide +kernel
theorem dX5_bestMove_82 : decode cX5_bestMove 82 = .ok (.iconst (-1), 1) := by decide +kernel
theorem dX5_bestMove_83 : decode cX5_bestMove 83 = .ok (.if_icmp .eq 9, 3) := by decide +kernel
theorem dX5_bestMove_86 : decode cX5_bestMove 86 = .ok (.iload 5, 2) := by decide +kernel
theorem dX5_bestMove_88 : decode cX5_bestMove 88 = .ok (.iload_n 3, 1) := by decide +kernel
theorem dX5_bestMove_89 : decode cX5_bestMove 89 = .ok (.if_icmp .ge 9, 3) := by decide +kernel
theorem dX5_bestMove_92 : decode cX5_bestMove 92 = .ok (.iload 4, 2) := by decide +kernel
theorem dX5_bestMove_94 : decode cX5_bestMove 94 = .ok (.istore_n 2, 1) := by decide +kernel
theorem dX5_bestMove_95 : decode cX5_bestMove 95 = .ok (.iload 5, 2) := by decide +kernel
theorem dX5_bestMove_97 : decode cX5_bestMove 97 = .ok (.istore_n 3, 1) := by decide +kernel
theorem dX5_bestMove_98 : decode cX5_bestMove 98 = .ok (.iinc 4 1, 3) := by decide +kernel
theorem dX5_bestMove_101 : decode cX5_bestMove 101 = .ok (.goto (-73), 3) := by decide +kernel
theorem dX5_bestMove_104 : decode cX5_bestMove 104 = .ok (.iload_n 2, 1) := by decide +kernel
theorem dX5_bestMove_105 : decode cX5_bestMove 105 = .ok (.ireturn, 1) := by decide +kernel
set_option maxRecDepth 20000 in
theorem ggX5_bestHanger_X5_requireAmount : GoodIn wsX5_bestHanger wsX5_requireAmount := goodIn_ca (goodIn_r _ [13, 14, 15] (by decide +kernel) (by decide +kernel)) (goodIn_sub (fun _ h => List.mem_cons_of_mem _ (List.mem_append_right _ h)) (by decide +kernel))
set_option maxRecDepth 20000 in
theorem gX5_bestHanger_X5_requireAmount : GoodIn wsX5_bestHanger (va_wsS RX5 105 yX5_requireAmount wsX5_requireAmount) := goodIn_app (goodIn_of _ (by decide +kernel)) ggX5_bestHanger_X5_requireAmount
set_option maxRecDepth 20000 in
theorem ggX5_bestHanger_X1_copyFrom : GoodIn wsX5_bestHanger wsX1_copyFrom := goodIn_r _ [20, 21, 22, 23, 24, 25, 26, 27, 28, 29, 30, 31, 32, 33, 34, 35, 36, 94, 95, 96, 97, 98, 99, 100] (by decide +kernel) (by decide +kernel)
set_option maxRecDepth 20000 in
theorem gX5_bestHanger_X1_copyFrom : GoodIn wsX5_bestHanger (wsV RX5 217 RX1 yX1_copyFrom wsX1_copyFrom) := goodIn_app (goodIn_of _ (by decide +kernel)) ggX5_bestHanger_X1_copyFrom
set_option maxRecDepth 20000 in
theorem ggX5_bestHanger_X3_at : GoodIn wsX5_bestHanger wsX3_at := goodIn_r _ [36, 32, 100] (by decide +kernel) (by decide +kernel)
set_option maxRecDepth 20000 in
theorem gX5_bestHanger_X3_at : GoodIn wsX5_bestHanger (wsV RX5 84 RX3 yX3_at wsX3_at) := goodIn_app (goodIn_of _ (by decide +kernel)) ggX5_bestHanger_X3_at
set_option maxRecDepth 20000 in
theorem ggX5_bestHanger_X3_put : GoodIn wsX5_bestHanger wsX3_put := goodIn_r _ [41, 32, 100] (by decide +kernel) (by decide +kernel)
set_option maxRecDepth 20000 in
theorem gX5_bestHanger_X3_put : GoodIn wsX5_bestHanger (wsV RX5 88 RX3 yX3_put wsX3_put) := goodIn_app (goodIn_of _ (by decide +kernel)) ggX5_bestHanger_X3_put
set_option maxRecDepth 20000 in
theorem ggX5_bestHanger_X0_weigh : GoodIn wsX5_bestHanger wsX0_weigh := goodIn_r _ [46, 47, 48, 49, 50, 51, 45, 52, 53, 54, 55, 39, 40, 30, 41, 32, 56, 34, 35, 36, 57, 58, 59, 60, 61, 62, 63, 64, 6, 7, 8, 65, 66, 67, 68, 69, 70, 71, 72, 73, 74, 75, 76, 77, 78, 79, 80, 81, 82, 83, 84, 85, 86, 94, 95, 96, 97, 98, 99, 101, 102, 103, 104, 105, 106, 107, 108, 109, 100] (by decide +kernel) (by decide +kernel)
set_option maxRecDepth 20000 in
theorem gX5_bestHanger_X0_weigh : GoodIn wsX5_bestHanger (wsV RX5 95 RX0 yX0_weigh wsX0_weigh) := goodIn_app (goodIn_of _ (by decide +kernel)) ggX5_bestHanger_X0_weigh
theorem dX5_bestHanger_0 : decode cX5_bestHanger 0 = .ok (.iload_n 1, 1) := by decide +kernel
theorem dX5_bestHanger_1 : decode cX5_bestHanger 1 = .ok (.invokestatic 105, 3) := by decide +kernel
theorem dX5_bestHanger_4 : decode cX5_bestHanger 4 = .ok (.iconst (-1), 1) := by decide +kernel
theorem dX5_bestHanger_5 : decode cX5_bestHanger 5 = .ok (.istore_n 2, 1) := by decide +kernel
theorem dX5_bestHanger_6 : decode cX5_bestHanger 6 = .ok (.iconst 0, 1) := by decide +kernel
theorem dX5_bestHanger_7 : decode cX5_bestHanger 7 = .ok (.istore_n 3, 1) := by decide +kernel
theorem dX5_bestHanger_8 : decode cX5_bestHanger 8 = .ok (.iconst 1, 1) := by decide +kernel
theorem dX5_bestHanger_9 : decode cX5_bestHanger 9 = .ok (.istore 4, 2) := by decide +kernel
theorem dX5_bestHanger_11 : decode cX5_bestHanger 11 = .ok (.iload 4, 2) := by decide +kernel
theorem dX5_bestHanger_13 : decode cX5_bestHanger 13 = .ok (.aload_n 0, 1) := by decide +kernel
theorem dX5_bestHanger_14 : decode cX5_bestHanger 14 = .ok (.getfield 10, 3) := by decide +kernel
theorem dX5_bestHanger_17 : decode cX5_bestHanger 17 = .ok (.getfield 56, 3) := by decide +kernel
theorem dX5_bestHanger_20 : decode cX5_bestHanger 20 = .ok (.if_icmp .ge 81, 3) := by decide +kernel
theorem dX5_bestHanger_23 : decode cX5_bestHanger 23 = .ok (.aload_n 0, 1) := by decide +kernel
theorem dX5_bestHanger_24 : decode cX5_bestHanger 24 = .ok (.getfield 16, 3) := by decide +kernel
theorem dX5_bestHanger_27 : decode cX5_bestHanger 27 = .ok (.aload_n 0, 1) := by decide +kernel
theorem dX5_bestHanger_28 : decode cX5_bestHanger 28 = .ok (.getfield 10, 3) := by decide +kernel
theorem dX5_bestHanger_31 : decode cX5_bestHanger 31 = .ok (.invokevirtual 217, 3) := by decide +kernel
theorem dX5_bestHanger_34 : decode cX5_bestHanger 34 = .ok (.aload_n 0, 1) := by decide +kernel
theorem dX5_bestHanger_35 : decode cX5_bestHanger 35 = .ok (.getfield 16, 3) := by decide +kernel
theorem dX5_bestHanger_38 : decode cX5_bestHanger 38 = .ok (.getfield 115, 3) := by decide +kernel
theorem dX5_bestHanger_41 : decode cX5_bestHanger 41 = .ok (.iload 4, 2) := by decide +kernel
theorem dX5_bestHanger_43 : decode cX5_bestHanger 43 = .ok (.bipush 99, 2) := by decide +kernel
theorem dX5_bestHanger_45 : decode cX5_bestHanger 45 = .ok (.aload_n 0, 1) := by decide +kernel
theorem dX5_bestHanger_46 : decode cX5_bestHanger 46 = .ok (.getfield 10, 3) := by decide +kernel
theorem dX5_bestHanger_49 : decode cX5_bestHanger 49 = .ok (.getfield 115, 3) := by decide +kernel
theorem dX5_bestHanger_52 : decode cX5_bestHanger 52 = .ok (.iload 4, 2) := by decide +kernel
theorem dX5_bestHanger_54 : decode cX5_bestHanger 54 = .ok (.invokevirtual 84, 3) := by decide +kernel
theorem dX5_bestHanger_57 : decode cX5_bestHanger 57 = .ok (.iload_n 1, 1) := by decide +kernel
theorem dX5_bestHanger_58 : decode cX5_bestHanger 58 = .ok (.iadd, 1) := by decide +kernel
theorem dX5_bestHanger_59 : decode cX5_bestHanger 59 = .ok (.invokestatic 220, 3) := by decide +kernel
theorem dX5_bestHanger_62 : decode cX5_bestHanger 62 = .ok (.invokevirtual 88, 3) := by decide +kernel
theorem dX5_bestHanger_65 : decode cX5_bestHanger 65 = .ok (.aload_n 0, 1) := by decide +kernel
theorem dX5_bestHanger_66 : decode cX5_bestHanger 66 = .ok (.getfield 22, 3) := by decide +kernel
theorem dX5_bestHanger_69 : decode cX5_bestHanger 69 = .ok (.aload_n 0, 1) := by decide +kernel
theorem dX5_bestHanger_70 : decode cX5_bestHanger 70 = .ok (.getfield 16, 3) := by decide +kernel
theorem dX5_bestHanger_73 : decode cX5_bestHanger 73 = .ok (.invokevirtual 95, 3) := by decide +kernel
theorem dX5_bestHanger_76 : decode cX5_bestHanger 76 = .ok (.istore 5, 2) := by decide +kernel
theorem dX5_bestHanger_78 : decode cX5_bestHanger 78 = .ok (.iload_n 2, 1) := by decide +kernel
theorem dX5_bestHanger_79 : decode cX5_bestHanger 79 = .ok (.iconst (-1), 1) := by decide +kernel
theorem dX5_bestHanger_80 : decode cX5_bestHanger 80 = .ok (.if_icmp .eq 9, 3) := by decide +kernel
theorem dX5_bestHanger_83 : decode cX5_bestHanger 83 = .ok (.iload 5, 2) := by decide +kernel
theorem dX5_bestHanger_85 : decode cX5_bestHanger 85 = .ok (.iload_n 3, 1) := by decide +kernel
theorem dX5_bestHanger_86 : decode cX5_bestHanger 86 = .ok (.if_icmp .ge 9, 3) := by decide +kernel
theorem dX5_bestHanger_89 : decode cX5_bestHanger 89 = .ok (.iload 4, 2) := by decide +kernel
theorem dX5_bestHanger_91 : decode cX5_bestHanger 91 = .ok (.istore_n 2, 1) := by decide +kernel
theorem dX5_bestHanger_92 : decode cX5_bestHanger 92 = .ok (.iload 5, 2) := by decide +kernel
theorem dX5_bestHanger_94 : decode cX5_bestHanger 94 = .ok (.istore_n 3, 1) := by decide +kernel
theorem dX5_bestHanger_95 : decode cX5_bestHanger 95 = .ok (.iinc 4 1, 3) := by decide +kernel
theorem dX5_bestHanger_98 : decode cX5_bestHanger 98 = .ok (.goto (-87), 3) := by decide +kernel
theorem dX5_bestHanger_101 : decode cX5_bestHanger 101 = .ok (.iload_n 2, 1) := by decide +kernel
theorem dX5_bestHanger_102 : decode cX5_bestHanger 102 = .ok (.ireturn, 1) := by decide +kernel
set_option maxRecDepth 20000 in
theorem ggX5_bestStep_X5_requireLink : GoodIn wsX5_bestStep wsX5_requireLink := goodIn_ca (goodIn_r _ [9, 10, 11, 2, 12, 86, 87, 88, 89, 90, 91, 92, 93, 94, 95, 96, 97, 98] (by decide +kernel) (by decide +kernel)) (goodIn_sub (fun _ h => List.mem_cons_of_mem _ (List.mem_append_right _ h)) (by decide +kernel))
set_option maxRecDepth 20000 in
theorem gX5_bestStep_X5_requireLink : GoodIn wsX5_bestStep (wsV RX5 73 RX5 yX5_requireLink wsX5_requireLink) := goodIn_app (goodIn_of _ (by decide +kernel)) ggX5_bestStep_X5_requireLink
set_option maxRecDepth 20000 in
theorem ggX5_bestStep_X1_copyFrom : GoodIn wsX5_bestStep wsX1_copyFrom := goodIn_r _ [17, 18, 19, 20, 21, 22, 23, 24, 25, 26, 27, 28, 29, 30, 31, 32, 33, 93, 94, 95, 96, 97, 98, 99] (by decide +kernel) (by decide +kernel)
set_option maxRecDepth 20000 in
theorem gX5_bestStep_X1_copyFrom : GoodIn wsX5_bestStep (wsV RX5 217 RX1 yX1_copyFrom wsX1_copyFrom) := goodIn_app (goodIn_of _ (by decide +kernel)) ggX5_bestStep_X1_copyFrom
set_option maxRecDepth 20000 in
theorem ggX5_bestStep_X3_put : GoodIn wsX5_bestStep wsX3_put := goodIn_r _ [37, 29, 99] (by decide +kernel) (by decide +kernel)
set_option maxRecDepth 20000 in
theorem gX5_bestStep_X3_put : GoodIn wsX5_bestStep (wsV RX5 88 RX3 yX3_put wsX3_put) := goodIn_app (goodIn_of _ (by decide +kernel)) ggX5_bestStep_X3_put
set_option maxRecDepth 20000 in
theorem ggX5_bestStep_X0_weigh : GoodIn wsX5_bestStep wsX0_weigh := goodIn_r _ [42, 43, 44, 45, 46, 47, 41, 48, 49, 50, 51, 35, 36, 27, 37, 29, 52, 31, 32, 33, 53, 54, 55, 56, 57, 58, 59, 60, 61, 62, 63, 64, 65, 66, 67, 68, 69, 70, 71, 72, 73, 74, 75, 76, 77, 78, 79, 80, 81, 82, 83, 84, 85, 93, 94, 95, 96, 97, 98, 100, 101, 102, 103, 104, 105, 106, 107, 108, 99] (by decide +kernel) (by decide +kernel)
set_option maxRecDepth 20000 in
theorem gX5_bestStep_X0_weigh : GoodIn wsX5_bestStep (wsV RX5 95 RX0 yX0_weigh wsX0_weigh) := goodIn_app (goodIn_of _ (by decide +kernel)) ggX5_bestStep_X0_weigh
theorem dX5_bestStep_0 : decode cX5_bestStep 0 = .ok (.aload_n 0, 1) := by decide +kernel
theorem dX5_bestStep_1 : decode cX5_bestStep 1 = .ok (.iload_n 1, 1) := by decide +kernel
theorem dX5_bestStep_2 : decode cX5_bestStep 2 = .ok (.invokevirtual 73, 3) := by decide +kernel
theorem dX5_bestStep_5 : decode cX5_bestStep 5 = .ok (.aload_n 0, 1) := by decide +kernel
theorem dX5_bestStep_6 : decode cX5_bestStep 6 = .ok (.getfield 16, 3) := by decide +kernel
theorem dX5_bestStep_9 : decode cX5_bestStep 9 = .ok (.aload_n 0, 1) := by decide +kernel
theorem dX5_bestStep_10 : decode cX5_bestStep 10 = .ok (.getfield 10, 3) := by decide +kernel
theorem dX5_bestStep_13 : decode cX5_bestStep 13 = .ok (.invokevirtual 217, 3) := by decide +kernel
theorem dX5_bestStep_16 : decode cX5_bestStep 16 = .ok (.bipush (-2), 2) := by decide +kernel
theorem dX5_bestStep_18 : decode cX5_bestStep 18 = .ok (.istore_n 2, 1) := by decide +kernel
theorem dX5_bestStep_19 : decode cX5_bestStep 19 = .ok (.iconst 0, 1) := by decide +kernel
theorem dX5_bestStep_20 : decode cX5_bestStep 20 = .ok (.istore_n 3, 1) := by decide +kernel
theorem dX5_bestStep_21 : decode cX5_bestStep 21 = .ok (.bipush (-2), 2) := by decide +kernel
theorem dX5_bestStep_23 : decode cX5_bestStep 23 = .ok (.istore 4, 2) := by decide +kernel
theorem dX5_bestStep_25 : decode cX5_bestStep 25 = .ok (.iload 4, 2) := by decide +kernel
theorem dX5_bestStep_27 : decode cX5_bestStep 27 = .ok (.iconst 2, 1) := by decide +kernel
theorem dX5_bestStep_28 : decode cX5_bestStep 28 = .ok (.if_icmp .gt 54, 3) := by decide +kernel
theorem dX5_bestStep_31 : decode cX5_bestStep 31 = .ok (.aload_n 0, 1) := by decide +kernel
theorem dX5_bestStep_32 : decode cX5_bestStep 32 = .ok (.getfield 16, 3) := by decide +kernel
theorem dX5_bestStep_35 : decode cX5_bestStep 35 = .ok (.getfield 81, 3) := by decide +kernel
theorem dX5_bestStep_38 : decode cX5_bestStep 38 = .ok (.iload_n 1, 1) := by decide +kernel
theorem dX5_bestStep_39 : decode cX5_bestStep 39 = .ok (.iload 4, 2) := by decide +kernel
theorem dX5_bestStep_41 : decode cX5_bestStep 41 = .ok (.invokevirtual 88, 3) := by decide +kernel
theorem dX5_bestStep_44 : decode cX5_bestStep 44 = .ok (.aload_n 0, 1) := by decide +kernel
theorem dX5_bestStep_45 : decode cX5_bestStep 45 = .ok (.getfield 22, 3) := by decide +kernel
theorem dX5_bestStep_48 : decode cX5_bestStep 48 = .ok (.aload_n 0, 1) := by decide +kernel
theorem dX5_bestStep_49 : decode cX5_bestStep 49 = .ok (.getfield 16, 3) := by decide +kernel
theorem dX5_bestStep_52 : decode cX5_bestStep 52 = .ok (.invokevirtual 95, 3) := by decide +kernel
theorem dX5_bestStep_55 : decode cX5_bestStep 55 = .ok (.istore 5, 2) := by decide +kernel
theorem dX5_bestStep_57 : decode cX5_bestStep 57 = .ok (.iload 4, 2) := by decide +kernel
theorem dX5_bestStep_59 : decode cX5_bestStep 59 = .ok (.bipush (-2), 2) := by decide +kernel
theorem dX5_bestStep_61 : decode cX5_bestStep 61 = .ok (.if_icmp .eq 9, 3) := by decide +kernel
theorem dX5_bestStep_64 : decode cX5_bestStep 64 = .ok (.iload 5, 2) := by decide +kernel
theorem dX5_bestStep_66 : decode cX5_bestStep 66 = .ok (.iload_n 3, 1) := by decide +kernel
theorem dX5_bestStep_67 : decode cX5_bestStep 67 = .ok (.if_icmp .ge 9, 3) := by decide +kernel
theorem dX5_bestStep_70 : decode cX5_bestStep 70 = .ok (.iload 4, 2) := by decide +kernel
theorem dX5_bestStep_72 : decode cX5_bestStep 72 = .ok (.istore_n 2, 1) := by decide +kernel
theorem dX5_bestStep_73 : decode cX5_bestStep 73 = .ok (.iload 5, 2) := by decide +kernel
theorem dX5_bestStep_75 : decode cX5_bestStep 75 = .ok (.istore_n 3, 1) := by decide +kernel
theorem dX5_bestStep_76 : decode cX5_bestStep 76 = .ok (.iinc 4 1, 3) := by decide +kernel
theorem dX5_bestStep_79 : decode cX5_bestStep 79 = .ok (.goto (-54), 3) := by decide +kernel
theorem dX5_bestStep_82 : decode cX5_bestStep 82 = .ok (.iload_n 2, 1) := by decide +kernel
theorem dX5_bestStep_83 : decode cX5_bestStep 83 = .ok (.iconst 2, 1) := by decide +kernel
theorem dX5_bestStep_84 : decode cX5_bestStep 84 = .ok (.iadd, 1) := by decide +kernel
theorem dX5_bestStep_85 : decode cX5_bestStep 85 = .ok (.ireturn, 1) := by decide +kernel
set_option maxRecDepth 20000 in
theorem ggX5_evenness_X0_weigh : GoodIn wsX5_evenness wsX0_weigh := goodIn_r _ [16, 17, 18, 19, 20, 21, 15, 22, 23, 24, 25, 26, 27, 28, 29, 30, 31, 32, 33, 34, 35, 36, 37, 38, 39, 40, 41, 42, 6, 7, 8, 43, 44, 45, 46, 47, 48, 49, 50, 51, 52, 53, 54, 55, 56, 57, 58, 59, 60, 61, 62, 10, 11, 79, 80, 81, 82, 83, 84, 70, 71, 72, 73, 74, 75, 76, 77, 78, 85] (by decide +kernel) (by decide +kernel)
set_option maxRecDepth 20000 in
theorem gX5_evenness_X0_weigh : GoodIn wsX5_evenness (wsV RX5 95 RX0 yX0_weigh wsX0_weigh) := goodIn_app (goodIn_of _ (by decide +kernel)) ggX5_evenness_X0_weigh
theorem dX5_evenness_0 : decode cX5_evenness 0 = .ok (.aload_n 0, 1) := by decide +kernel
theorem dX5_evenness_1 : decode cX5_evenness 1 = .ok (.getfield 22, 3) := by decide +kernel
theorem dX5_evenness_4 : decode cX5_evenness 4 = .ok (.aload_n 0, 1) := by decide +kernel
theorem dX5_evenness_5 : decode cX5_evenness 5 = .ok (.getfield 10, 3) := by decide +kernel
theorem dX5_evenness_8 : decode cX5_evenness 8 = .ok (.invokevirtual 95, 3) := by decide +kernel
theorem dX5_evenness_11 : decode cX5_evenness 11 = .ok (.pop, 1) := by decide +kernel
theorem dX5_evenness_12 : decode cX5_evenness 12 = .ok (.aload_n 0, 1) := by decide +kernel
theorem dX5_evenness_13 : decode cX5_evenness 13 = .ok (.getfield 22, 3) := by decide +kernel
theorem dX5_evenness_16 : decode cX5_evenness 16 = .ok (.getfield 198, 3) := by decide +kernel
theorem dX5_evenness_19 : decode cX5_evenness 19 = .ok (.aload_n 0, 1) := by decide +kernel
theorem dX5_evenness_20 : decode cX5_evenness 20 = .ok (.getfield 22, 3) := by decide +kernel
theorem dX5_evenness_23 : decode cX5_evenness 23 = .ok (.getfield 201, 3) := by decide +kernel
theorem dX5_evenness_26 : decode cX5_evenness 26 = .ok (.invokestatic 220, 3) := by decide +kernel
theorem dX5_evenness_29 : decode cX5_evenness 29 = .ok (.istore_n 1, 1) := by decide +kernel
theorem dX5_evenness_30 : decode cX5_evenness 30 = .ok (.aload_n 0, 1) := by decide +kernel
theorem dX5_evenness_31 : decode cX5_evenness 31 = .ok (.getfield 22, 3) := by decide +kernel
theorem dX5_evenness_34 : decode cX5_evenness 34 = .ok (.getfield 198, 3) := by decide +kernel
theorem dX5_evenness_37 : decode cX5_evenness 37 = .ok (.aload_n 0, 1) := by decide +kernel
theorem dX5_evenness_38 : decode cX5_evenness 38 = .ok (.getfield 22, 3) := by decide +kernel
theorem dX5_evenness_41 : decode cX5_evenness 41 = .ok (.getfield 201, 3) := by decide +kernel
theorem dX5_evenness_44 : decode cX5_evenness 44 = .ok (.invokestatic 225, 3) := by decide +kernel
theorem dX5_evenness_47 : decode cX5_evenness 47 = .ok (.istore_n 2, 1) := by decide +kernel
theorem dX5_evenness_48 : decode cX5_evenness 48 = .ok (.iload_n 2, 1) := by decide +kernel
theorem dX5_evenness_49 : decode cX5_evenness 49 = .ok (.ifCond .ne 5, 3) := by decide +kernel
theorem dX5_evenness_52 : decode cX5_evenness 52 = .ok (.dconst 1, 1) := by decide +kernel
theorem dX5_evenness_53 : decode cX5_evenness 53 = .ok (.dreturn, 1) := by decide +kernel
theorem dX5_evenness_54 : decode cX5_evenness 54 = .ok (.iload_n 1, 1) := by decide +kernel
theorem dX5_evenness_55 : decode cX5_evenness 55 = .ok (.i2d, 1) := by decide +kernel
theorem dX5_evenness_56 : decode cX5_evenness 56 = .ok (.iload_n 2, 1) := by decide +kernel
theorem dX5_evenness_57 : decode cX5_evenness 57 = .ok (.i2d, 1) := by decide +kernel
theorem dX5_evenness_58 : decode cX5_evenness 58 = .ok (.ddiv, 1) := by decide +kernel
theorem dX5_evenness_59 : decode cX5_evenness 59 = .ok (.dreturn, 1) := by decide +kernel
set_option maxRecDepth 20000 in
theorem ggX5_replace_X2_save : GoodIn wsX5_replace wsX2_save := goodIn_r _ [7, 8, 9, 10, 11, 12, 6, 13, 14, 15, 16, 17, 18, 19, 20, 21, 22, 23, 24, 25, 26, 27, 28, 29, 30, 31, 32, 33, 34, 35, 48, 49, 50, 51, 52, 53, 54, 55, 56, 57] (by decide +kernel) (by decide +kernel)
set_option maxRecDepth 20000 in
theorem gX5_replace_X2_save : GoodIn wsX5_replace (wsV RX5 66 RX2 yX2_save wsX2_save) := goodIn_app (goodIn_of _ (by decide +kernel)) ggX5_replace_X2_save
set_option maxRecDepth 20000 in
theorem ggX5_replace_X3_at : GoodIn wsX5_replace wsX3_at := goodIn_r _ [35, 31, 57] (by decide +kernel) (by decide +kernel)
set_option maxRecDepth 20000 in
theorem gX5_replace_X3_at : GoodIn wsX5_replace (wsV RX5 84 RX3 yX3_at wsX3_at) := goodIn_app (goodIn_of _ (by decide +kernel)) ggX5_replace_X3_at
set_option maxRecDepth 20000 in
theorem ggX5_replace_X3_put : GoodIn wsX5_replace wsX3_put := goodIn_r _ [40, 31, 57] (by decide +kernel) (by decide +kernel)
set_option maxRecDepth 20000 in
theorem gX5_replace_X3_put : GoodIn wsX5_replace (wsV RX5 88 RX3 yX3_put wsX3_put) := goodIn_app (goodIn_of _ (by decide +kernel)) ggX5_replace_X3_put
theorem dX5_replace_0 : decode cX5_replace 0 = .ok (.aload_n 0, 1) := by decide +kernel
theorem dX5_replace_1 : decode cX5_replace 1 = .ok (.getfield 29, 3) := by decide +kernel
theorem dX5_replace_4 : decode cX5_replace 4 = .ok (.aload_n 0, 1) := by decide +kernel
theorem dX5_replace_5 : decode cX5_replace 5 = .ok (.getfield 10, 3) := by decide +kernel
theorem dX5_replace_8 : decode cX5_replace 8 = .ok (.invokevirtual 66, 3) := by decide +kernel
theorem dX5_replace_11 : decode cX5_replace 11 = .ok (.aload_n 1, 1) := by decide +kernel
theorem dX5_replace_12 : decode cX5_replace 12 = .ok (.iload_n 2, 1) := by decide +kernel
theorem dX5_replace_13 : decode cX5_replace 13 = .ok (.invokevirtual 84, 3) := by decide +kernel
theorem dX5_replace_16 : decode cX5_replace 16 = .ok (.istore 4, 2) := by decide +kernel
theorem dX5_replace_18 : decode cX5_replace 18 = .ok (.aload_n 1, 1) := by decide +kernel
theorem dX5_replace_19 : decode cX5_replace 19 = .ok (.iload_n 2, 1) := by decide +kernel
theorem dX5_replace_20 : decode cX5_replace 20 = .ok (.iload_n 3, 1) := by decide +kernel
theorem dX5_replace_21 : decode cX5_replace 21 = .ok (.invokevirtual 88, 3) := by decide +kernel
theorem dX5_replace_24 : decode cX5_replace 24 = .ok (.iload 4, 2) := by decide +kernel
theorem dX5_replace_26 : decode cX5_replace 26 = .ok (.ireturn, 1) := by decide +kernel
theorem dX5_requireLink_0 : decode cX5_requireLink 0 = .ok (.iload_n 1, 1) := by decide +kernel
theorem dX5_requireLink_1 : decode cX5_requireLink 1 = .ok (.ifCond .lt 14, 3) := by decide +kernel
theorem dX5_requireLink_4 : decode cX5_requireLink 4 = .ok (.iload_n 1, 1) := by decide +kernel
theorem dX5_requireLink_5 : decode cX5_requireLink 5 = .ok (.aload_n 0, 1) := by decide +kernel
theorem dX5_requireLink_6 : decode cX5_requireLink 6 = .ok (.getfield 10, 3) := by decide +kernel
theorem dX5_requireLink_9 : decode cX5_requireLink 9 = .ok (.getfield 56, 3) := by decide +kernel
theorem dX5_requireLink_12 : decode cX5_requireLink 12 = .ok (.if_icmp .lt 14, 3) := by decide +kernel
theorem dX5_requireLink_15 : decode cX5_requireLink 15 = .ok (.new 284, 3) := by decide +kernel
theorem dX5_requireLink_18 : decode cX5_requireLink 18 = .ok (.dup, 1) := by decide +kernel
theorem dX5_requireLink_19 : decode cX5_requireLink 19 = .ok (.ldc_w 286, 3) := by decide +kernel
theorem dX5_requireLink_22 : decode cX5_requireLink 22 = .ok (.invokespecial 288, 3) := by decide +kernel
theorem dX5_requireLink_25 : decode cX5_requireLink 25 = .ok (.athrow, 1) := by decide +kernel
theorem dX5_requireLink_26 : decode cX5_requireLink 26 = .ok (.return_, 1) := by decide +kernel
theorem dX5_requireJoint_0 : decode cX5_requireJoint 0 = .ok (.iload_n 1, 1) := by decide +kernel
theorem dX5_requireJoint_1 : decode cX5_requireJoint 1 = .ok (.ifCond .lt 14, 3) := by decide +kernel
theorem dX5_requireJoint_4 : decode cX5_requireJoint 4 = .ok (.iload_n 1, 1) := by decide +kernel
theorem dX5_requireJoint_5 : decode cX5_requireJoint 5 = .ok (.aload_n 0, 1) := by decide +kernel
theorem dX5_requireJoint_6 : decode cX5_requireJoint 6 = .ok (.getfield 10, 3) := by decide +kernel
theorem dX5_requireJoint_9 : decode cX5_requireJoint 9 = .ok (.getfield 56, 3) := by decide +kernel
theorem dX5_requireJoint_12 : decode cX5_requireJoint 12 = .ok (.if_icmp .le 14, 3) := by decide +kernel
theorem dX5_requireJoint_15 : decode cX5_requireJoint 15 = .ok (.new 284, 3) := by decide +kernel
theorem dX5_requireJoint_18 : decode cX5_requireJoint 18 = .ok (.dup, 1) := by decide +kernel
theorem dX5_requireJoint_19 : decode cX5_requireJoint 19 = .ok (.ldc_w 289, 3) := by decide +kernel
theorem dX5_requireJoint_22 : decode cX5_requireJoint 22 = .ok (.invokespecial 288, 3) := by decide +kernel
theorem dX5_requireJoint_25 : decode cX5_requireJoint 25 = .ok (.athrow, 1) := by decide +kernel
theorem dX5_requireJoint_26 : decode cX5_requireJoint 26 = .ok (.return_, 1) := by decide +kernel
theorem dX5_requireSetting_0 : decode cX5_requireSetting 0 = .ok (.iload_n 0, 1) := by decide +kernel
theorem dX5_requireSetting_1 : decode cX5_requireSetting 1 = .ok (.ifCond .lt 8, 3) := by decide +kernel
theorem dX5_requireSetting_4 : decode cX5_requireSetting 4 = .ok (.iload_n 0, 1) := by decide +kernel
theorem dX5_requireSetting_5 : decode cX5_requireSetting 5 = .ok (.iconst 4, 1) := by decide +kernel
theorem dX5_requireSetting_6 : decode cX5_requireSetting 6 = .ok (.if_icmp .lt 14, 3) := by decide +kernel
theorem dX5_requireSetting_9 : decode cX5_requireSetting 9 = .ok (.new 284, 3) := by decide +kernel
theorem dX5_requireSetting_12 : decode cX5_requireSetting 12 = .ok (.dup, 1) := by decide +kernel
theorem dX5_requireSetting_13 : decode cX5_requireSetting 13 = .ok (.ldc_w 291, 3) := by decide +kernel
theorem dX5_requireSetting_16 : decode cX5_requireSetting 16 = .ok (.invokespecial 288, 3) := by decide +kernel
theorem dX5_requireSetting_19 : decode cX5_requireSetting 19 = .ok (.athrow, 1) := by decide +kernel
theorem dX5_requireSetting_20 : decode cX5_requireSetting 20 = .ok (.return_, 1) := by decide +kernel
theorem dX5_requireStep_0 : decode cX5_requireStep 0 = .ok (.iload_n 0, 1) := by decide +kernel
theorem dX5_requireStep_1 : decode cX5_requireStep 1 = .ok (.bipush (-2), 2) := by decide +kernel
theorem dX5_requireStep_3 : decode cX5_requireStep 3 = .ok (.if_icmp .lt 8, 3) := by decide +kernel
theorem dX5_requireStep_6 : decode cX5_requireStep 6 = .ok (.iload_n 0, 1) := by decide +kernel
theorem dX5_requireStep_7 : decode cX5_requireStep 7 = .ok (.iconst 2, 1) := by decide +kernel
theorem dX5_requireStep_8 : decode cX5_requireStep 8 = .ok (.if_icmp .le 14, 3) := by decide +kernel
theorem dX5_requireStep_11 : decode cX5_requireStep 11 = .ok (.new 121, 3) := by decide +kernel
theorem dX5_requireStep_14 : decode cX5_requireStep 14 = .ok (.dup, 1) := by decide +kernel
theorem dX5_requireStep_15 : decode cX5_requireStep 15 = .ok (.ldc_w 293, 3) := by decide +kernel
theorem dX5_requireStep_18 : decode cX5_requireStep 18 = .ok (.invokespecial 125, 3) := by decide +kernel
theorem dX5_requireStep_21 : decode cX5_requireStep 21 = .ok (.athrow, 1) := by decide +kernel
theorem dX5_requireStep_22 : decode cX5_requireStep 22 = .ok (.return_, 1) := by decide +kernel
theorem dX5_requireAmount_0 : decode cX5_requireAmount 0 = .ok (.iload_n 0, 1) := by decide +kernel
theorem dX5_requireAmount_1 : decode cX5_requireAmount 1 = .ok (.ifCond .lt 9, 3) := by decide +kernel
theorem dX5_requireAmount_4 : decode cX5_requireAmount 4 = .ok (.iload_n 0, 1) := by decide +kernel
theorem dX5_requireAmount_5 : decode cX5_requireAmount 5 = .ok (.bipush 99, 2) := by decide +kernel
theorem dX5_requireAmount_7 : decode cX5_requireAmount 7 = .ok (.if_icmp .le 14, 3) := by decide +kernel
theorem dX5_requireAmount_10 : decode cX5_requireAmount 10 = .ok (.new 121, 3) := by decide +kernel
theorem dX5_requireAmount_13 : decode cX5_requireAmount 13 = .ok (.dup, 1) := by decide +kernel
theorem dX5_requireAmount_14 : decode cX5_requireAmount 14 = .ok (.ldc_w 295, 3) := by decide +kernel
theorem dX5_requireAmount_17 : decode cX5_requireAmount 17 = .ok (.invokespecial 125, 3) := by decide +kernel
theorem dX5_requireAmount_20 : decode cX5_requireAmount 20 = .ok (.athrow, 1) := by decide +kernel
theorem dX5_requireAmount_21 : decode cX5_requireAmount 21 = .ok (.return_, 1) := by decide +kernel
theorem dX5_requireWhat_0 : decode cX5_requireWhat 0 = .ok (.iload_n 0, 1) := by decide +kernel
theorem dX5_requireWhat_1 : decode cX5_requireWhat 1 = .ok (.ifCond .lt 8, 3) := by decide +kernel
theorem dX5_requireWhat_4 : decode cX5_requireWhat 4 = .ok (.iload_n 0, 1) := by decide +kernel
theorem dX5_requireWhat_5 : decode cX5_requireWhat 5 = .ok (.iload_n 1, 1) := by decide +kernel
theorem dX5_requireWhat_6 : decode cX5_requireWhat 6 = .ok (.if_icmp .lt 14, 3) := by decide +kernel
theorem dX5_requireWhat_9 : decode cX5_requireWhat 9 = .ok (.new 121, 3) := by decide +kernel
theorem dX5_requireWhat_12 : decode cX5_requireWhat 12 = .ok (.dup, 1) := by decide +kernel
theorem dX5_requireWhat_13 : decode cX5_requireWhat 13 = .ok (.ldc_w 297, 3) := by decide +kernel
theorem dX5_requireWhat_16 : decode cX5_requireWhat 16 = .ok (.invokespecial 125, 3) := by decide +kernel
theorem dX5_requireWhat_19 : decode cX5_requireWhat 19 = .ok (.athrow, 1) := by decide +kernel
theorem dX5_requireWhat_20 : decode cX5_requireWhat 20 = .ok (.return_, 1) := by decide +kernel
theorem dX5_leastOf_0 : decode cX5_leastOf 0 = .ok (.iload_n 0, 1) := by decide +kernel
theorem dX5_leastOf_1 : decode cX5_leastOf 1 = .ok (.lookupswitch 32 #[(1, 27), (3, 30)], 27) := by decide +kernel
theorem dX5_leastOf_28 : decode cX5_leastOf 28 = .ok (.bipush (-40), 2) := by decide +kernel
theorem dX5_leastOf_30 : decode cX5_leastOf 30 = .ok (.ireturn, 1) := by decide +kernel
theorem dX5_leastOf_31 : decode cX5_leastOf 31 = .ok (.iconst 1, 1) := by decide +kernel
theorem dX5_leastOf_32 : decode cX5_leastOf 32 = .ok (.ireturn, 1) := by decide +kernel
theorem dX5_leastOf_33 : decode cX5_leastOf 33 = .ok (.iconst 0, 1) := by decide +kernel
theorem dX5_leastOf_34 : decode cX5_leastOf 34 = .ok (.ireturn, 1) := by decide +kernel
theorem dX5_mostOf_0 : decode cX5_mostOf 0 = .ok (.iload_n 0, 1) := by decide +kernel
theorem dX5_mostOf_1 : decode cX5_mostOf 1 = .ok (.lookupswitch 34 #[(1, 27), (3, 30)], 27) := by decide +kernel
theorem dX5_mostOf_28 : decode cX5_mostOf 28 = .ok (.bipush 40, 2) := by decide +kernel
theorem dX5_mostOf_30 : decode cX5_mostOf 30 = .ok (.ireturn, 1) := by decide +kernel
theorem dX5_mostOf_31 : decode cX5_mostOf 31 = .ok (.sipush 999, 3) := by decide +kernel
theorem dX5_mostOf_34 : decode cX5_mostOf 34 = .ok (.ireturn, 1) := by decide +kernel
theorem dX5_mostOf_35 : decode cX5_mostOf 35 = .ok (.bipush 20, 2) := by decide +kernel
theorem dX5_mostOf_37 : decode cX5_mostOf 37 = .ok (.ireturn, 1) := by decide +kernel
