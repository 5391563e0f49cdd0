def RL : String := "HangingChainLaw"
abbrev cL_cell : ByteArray := method_2_code
def yL_cell : MethodName := ⟨RL, "cell", "([II)I"⟩
abbrev cL_low : ByteArray := method_3_code
def yL_low : MethodName := ⟨RL, "low", "(II)I"⟩
abbrev cL_does : ByteArray := method_4_code
def yL_does : MethodName := ⟨RL, "does", "(LHangingChain;I)I"⟩
abbrev cL_areJointsSo : ByteArray := method_5_code
def yL_areJointsSo : MethodName := ⟨RL, "areJointsSo", "(LHangingChain;)Z"⟩
abbrev cL_areLinksSo : ByteArray := method_6_code
def yL_areLinksSo : MethodName := ⟨RL, "areLinksSo", "(LHangingChain;)Z"⟩
abbrev cL_areIfsSo : ByteArray := method_7_code
def yL_areIfsSo : MethodName := ⟨RL, "areIfsSo", "(LHangingChain;III)Z"⟩
abbrev cL_isBestSo : ByteArray := method_8_code
def yL_isBestSo : MethodName := ⟨RL, "isBestSo", "(LHangingChain;III)Z"⟩
abbrev cL_law : ByteArray := code
def yL_law : MethodName := ⟨RL, "law", "([I)Z"⟩
def wsL_cell : List Cond := .code yL_cell cL_cell 2 (some .int) :: ([])
def wsL_low : List Cond := .code yL_low cL_low 2 (some .int) :: ([.constant RL 7 (2147483647)])
def wsL_does_r1 : List Cond := [Cond.methodLink RL 8 yX5_count, Cond.instanceMethod yX5_count, Cond.selects RX5 yX5_count yX5_count, Cond.initialized RX5, Cond.code yX5_count cX5_count 2 (some .int), Cond.fieldLink RX5 22 "HangingChain" "balance" "LHangingChain$Balance;", Cond.fieldLink RX5 10 "HangingChain" "chain" "LHangingChain$Chain;", Cond.fieldLink RX5 56 "HangingChain$Chain" "links" "I", Cond.fieldLink RX5 108 "HangingChain$Chain" "weights" "LHangingChain$Row;", Cond.fieldLink RX5 198 "HangingChain$Balance" "ahead" "I", Cond.fieldLink RX5 201 "HangingChain$Balance" "behind" "I", Cond.fieldLink RX5 204 "HangingChain$Balance" "greatest" "I", Cond.fieldLink RX5 99 "HangingChain$Balance" "heights" "LHangingChain$Row;", Cond.fieldLink RX5 29 "HangingChain" "past" "LHangingChain$Past;", Cond.fieldLink RX5 165 "HangingChain$Past" "kept" "I", Cond.methodLink RX5 173 yX5_requireWhat, Cond.static yX5_requireWhat, Cond.code yX5_requireWhat cX5_requireWhat 2 none, Cond.classLink RX5 121 "java/lang/IllegalArgumentException", Cond.initialized "java/lang/IllegalArgumentException", Cond.methodLink RX5 95 yX0_weigh, Cond.instanceMethod yX0_weigh, Cond.selects RX0 yX0_weigh yX0_weigh, Cond.initialized RX0]
def wsL_does_r2 : List Cond := [Cond.code yX0_weigh cX0_weigh 3 (some .int), Cond.fieldLink RX0 49 "HangingChain$Chain" "links" "I", Cond.fieldLink RX0 42 "HangingChain$Balance" "greatest" "I", Cond.methodLink RX0 45 yX0_placeJoints, Cond.instanceMethod yX0_placeJoints, Cond.selects RX0 yX0_placeJoints yX0_placeJoints, Cond.code yX0_placeJoints cX0_placeJoints 4 none, Cond.fieldLink RX0 14 "HangingChain$Balance" "heights" "LHangingChain$Row;", Cond.fieldLink RX0 68 "HangingChain$Chain" "steps" "LHangingChain$Row;", Cond.methodLink RX0 64 yX3_put, Cond.instanceMethod yX3_put, Cond.selects RX3 yX3_put yX3_put, Cond.initialized RX3, Cond.code yX3_put cX3_put 3 none, Cond.fieldLink RX3 7 "HangingChain$Row" "cells" "[I", Cond.methodLink RX0 71 yX3_at, Cond.instanceMethod yX3_at, Cond.selects RX3 yX3_at yX3_at, Cond.code yX3_at cX3_at 2 (some .int), Cond.methodLink RX0 54 yX0_hold, Cond.instanceMethod yX0_hold, Cond.selects RX0 yX0_hold yX0_hold, Cond.code yX0_hold cX0_hold 9 none, Cond.fieldLink RX0 75 "HangingChain$Chain" "weights" "LHangingChain$Row;"]
def wsL_does_r3 : List Cond := [Cond.fieldLink RX0 78 "HangingChain$Chain" "settings" "LHangingChain$Row;", Cond.fieldLink RX0 81 "HangingChain$Chain" "hangers" "LHangingChain$Row;", Cond.methodLink RX0 84 Lib.Math.min.name, Cond.static Lib.Math.min.name, Cond.initialized "java/lang/Math", Cond.code Lib.Math.min.name Lib.Math.min.code 2 (some .int), Cond.fieldLink RX0 90 "HangingChain$Chain" "props" "LHangingChain$Row;", Cond.fieldLink RX0 20 "HangingChain$Balance" "burdens" "LHangingChain$Row;", Cond.fieldLink RX0 23 "HangingChain$Balance" "byHangers" "LHangingChain$Row;", Cond.fieldLink RX0 26 "HangingChain$Balance" "byProps" "LHangingChain$Row;", Cond.fieldLink RX0 29 "HangingChain$Balance" "loads" "LHangingChain$Row;", Cond.methodLink RX0 58 yX0_loadWalls, Cond.instanceMethod yX0_loadWalls, Cond.selects RX0 yX0_loadWalls yX0_loadWalls, Cond.code yX0_loadWalls cX0_loadWalls 6 none, Cond.fieldLink RX0 35 "HangingChain$Balance" "ahead" "I", Cond.fieldLink RX0 39 "HangingChain$Balance" "behind" "I", Cond.methodLink RX0 61 yX0_pullLinks, Cond.instanceMethod yX0_pullLinks, Cond.selects RX0 yX0_pullLinks yX0_pullLinks, Cond.code yX0_pullLinks cX0_pullLinks 6 none, Cond.methodLink RX0 93 Lib.Math.abs.name, Cond.static Lib.Math.abs.name, Cond.code Lib.Math.abs.name Lib.Math.abs.code 1 (some .int)]
def wsL_does_r4 : List Cond := [Cond.fieldLink RX0 32 "HangingChain$Balance" "forces" "LHangingChain$Row;", Cond.methodLink RX0 96 Lib.Math.max.name, Cond.static Lib.Math.max.name, Cond.code Lib.Math.max.name Lib.Math.max.code 2 (some .int), Cond.methodLink RX5 195 yX3_sum, Cond.instanceMethod yX3_sum, Cond.selects RX3 yX3_sum yX3_sum, Cond.code yX3_sum cX3_sum 4 (some .int), Cond.methodLink RX5 207 yX0_broken, Cond.instanceMethod yX0_broken, Cond.selects RX0 yX0_broken yX0_broken, Cond.code yX0_broken cX0_broken 4 (some .int), Cond.methodLink RX0 99 yX0_breaks, Cond.instanceMethod yX0_breaks, Cond.selects RX0 yX0_breaks yX0_breaks, Cond.code yX0_breaks cX0_breaks 3 (some .boolean), Cond.methodLink RX5 210 yX0_holds, Cond.instanceMethod yX0_holds, Cond.selects RX0 yX0_holds yX0_holds, Cond.code yX0_holds cX0_holds 2 (some .boolean), Cond.methodLink RX5 214 yX0_lowest, Cond.instanceMethod yX0_lowest, Cond.selects RX0 yX0_lowest yX0_lowest, Cond.code yX0_lowest cX0_lowest 4 (some .int)]
def wsL_does_r5 : List Cond := [Cond.methodLink RX5 84 yX3_at, Cond.methodLink RL 14 yL_low, Cond.static yL_low, Cond.initialized RL, Cond.code yL_low cL_low 2 (some .int), Cond.constant RL 7 (2147483647), Cond.methodLink RL 20 yX5_link, Cond.instanceMethod yX5_link, Cond.selects RX5 yX5_link yX5_link, Cond.code yX5_link cX5_link 2 (some .int), Cond.classLink RX5 59 "java/lang/IllegalStateException", Cond.initialized "java/lang/IllegalStateException", Cond.methodLink RX5 53 yX5_requireStep, Cond.static yX5_requireStep, Cond.code yX5_requireStep cX5_requireStep 1 none, Cond.methodLink RX5 66 yX2_save, Cond.instanceMethod yX2_save, Cond.selects RX2 yX2_save yX2_save, Cond.initialized RX2, Cond.code yX2_save cX2_save 3 none, Cond.fieldLink RX2 21 "HangingChain$Past" "kept" "I", Cond.fieldLink RX2 17 "HangingChain$Past" "oldest" "I", Cond.methodLink RX2 25 yX2_latest, Cond.instanceMethod yX2_latest]
def wsL_does_r6 : List Cond := [Cond.selects RX2 yX2_latest yX2_latest, Cond.code yX2_latest cX2_latest 2 (some (.object "HangingChain$Chain")), Cond.fieldLink RX2 11 "HangingChain$Past" "slots" "[LHangingChain$Chain;", Cond.methodLink RX2 29 yX1_copyFrom, Cond.instanceMethod yX1_copyFrom, Cond.selects RX1 yX1_copyFrom yX1_copyFrom, Cond.initialized RX1, Cond.code yX1_copyFrom cX1_copyFrom 2 none, Cond.fieldLink RX1 32 "HangingChain$Chain" "links" "I", Cond.fieldLink RX1 14 "HangingChain$Chain" "steps" "LHangingChain$Row;", Cond.fieldLink RX1 20 "HangingChain$Chain" "weights" "LHangingChain$Row;", Cond.fieldLink RX1 23 "HangingChain$Chain" "hangers" "LHangingChain$Row;", Cond.fieldLink RX1 26 "HangingChain$Chain" "props" "LHangingChain$Row;", Cond.fieldLink RX1 29 "HangingChain$Chain" "settings" "LHangingChain$Row;", Cond.methodLink RX1 40 yX3_copyFrom, Cond.instanceMethod yX3_copyFrom, Cond.selects RX3 yX3_copyFrom yX3_copyFrom, Cond.code yX3_copyFrom cX3_copyFrom 3 none, Cond.methodLink RX3 13 yX3_at, Cond.methodLink RX5 70 yX1_addLink, Cond.instanceMethod yX1_addLink, Cond.selects RX1 yX1_addLink yX1_addLink, Cond.code yX1_addLink cX1_addLink 2 none, Cond.methodLink RX1 36 yX3_put]
def wsL_does_r7 : List Cond := [Cond.methodLink RL 23 yX5_cut, Cond.instanceMethod yX5_cut, Cond.selects RX5 yX5_cut yX5_cut, Cond.code yX5_cut cX5_cut 2 (some .int), Cond.methodLink RX5 73 yX5_requireLink, Cond.instanceMethod yX5_requireLink, Cond.selects RX5 yX5_requireLink yX5_requireLink, Cond.code yX5_requireLink cX5_requireLink 2 none, Cond.classLink RX5 284 "java/lang/IndexOutOfBoundsException", Cond.initialized "java/lang/IndexOutOfBoundsException", Cond.methodLink RX5 78 yX1_takeLink, Cond.instanceMethod yX1_takeLink, Cond.selects RX1 yX1_takeLink yX1_takeLink, Cond.code yX1_takeLink cX1_takeLink 2 none, Cond.methodLink RX1 44 yX3_takeOut, Cond.instanceMethod yX3_takeOut, Cond.selects RX3 yX3_takeOut yX3_takeOut, Cond.code yX3_takeOut cX3_takeOut 3 none, Cond.methodLink RX3 17 yX3_put, Cond.methodLink RL 26 yX5_bend, Cond.instanceMethod yX5_bend, Cond.selects RX5 yX5_bend yX5_bend, Cond.code yX5_bend cX5_bend 4 (some .int), Cond.fieldLink RX5 81 "HangingChain$Chain" "steps" "LHangingChain$Row;"]
def wsL_does_r8 : List Cond := [Cond.methodLink RX5 88 yX3_put, Cond.methodLink RL 29 yX5_turn, Cond.instanceMethod yX5_turn, Cond.selects RX5 yX5_turn yX5_turn, Cond.code yX5_turn cX5_turn 1 (some .int), Cond.methodLink RX5 92 yX1_turnRound, Cond.instanceMethod yX1_turnRound, Cond.selects RX1 yX1_turnRound yX1_turnRound, Cond.code yX1_turnRound cX1_turnRound 2 none, Cond.methodLink RX1 47 yX3_turnRound, Cond.instanceMethod yX3_turnRound, Cond.selects RX3 yX3_turnRound yX3_turnRound, Cond.code yX3_turnRound cX3_turnRound 5 none, Cond.methodLink RX1 50 yX3_at, Cond.methodLink RL 33 yX5_weight, Cond.instanceMethod yX5_weight, Cond.selects RX5 yX5_weight yX5_weight, Cond.code yX5_weight cX5_weight 3 (some .int), Cond.methodLink RX5 102 yX5_requireJoint, Cond.instanceMethod yX5_requireJoint, Cond.selects RX5 yX5_requireJoint yX5_requireJoint, Cond.code yX5_requireJoint cX5_requireJoint 2 none, Cond.methodLink RX5 105 yX5_requireAmount, Cond.static yX5_requireAmount]
def wsL_does_r9 : List Cond := [Cond.code yX5_requireAmount cX5_requireAmount 1 none, Cond.methodLink RX5 111 yX5_replace, Cond.instanceMethod yX5_replace, Cond.selects RX5 yX5_replace yX5_replace, Cond.code yX5_replace cX5_replace 5 (some .int), Cond.methodLink RL 36 yX5_hanger, Cond.instanceMethod yX5_hanger, Cond.selects RX5 yX5_hanger yX5_hanger, Cond.code yX5_hanger cX5_hanger 3 (some .int), Cond.fieldLink RX5 115 "HangingChain$Chain" "hangers" "LHangingChain$Row;", Cond.methodLink RL 39 yX5_prop, Cond.instanceMethod yX5_prop, Cond.selects RX5 yX5_prop yX5_prop, Cond.code yX5_prop cX5_prop 3 (some .int), Cond.fieldLink RX5 118 "HangingChain$Chain" "props" "LHangingChain$Row;", Cond.methodLink RL 42 yX5_move, Cond.instanceMethod yX5_move, Cond.selects RX5 yX5_move yX5_move, Cond.code yX5_move cX5_move 3 (some .int), Cond.methodLink RX5 126 yX1_moveWeight, Cond.instanceMethod yX1_moveWeight, Cond.selects RX1 yX1_moveWeight yX1_moveWeight, Cond.code yX1_moveWeight cX1_moveWeight 4 (some .int), Cond.methodLink RX1 54 Lib.Math.min.name]
def wsL_does_r10 : List Cond := [Cond.methodLink RL 45 yX5_set, Cond.instanceMethod yX5_set, Cond.selects RX5 yX5_set yX5_set, Cond.code yX5_set cX5_set 3 (some .int), Cond.fieldLink RX5 141 "HangingChain$Chain" "settings" "LHangingChain$Row;", Cond.methodLink RX5 130 yX5_requireSetting, Cond.static yX5_requireSetting, Cond.code yX5_requireSetting cX5_requireSetting 1 none, Cond.methodLink RX5 133 yX5_leastOf, Cond.static yX5_leastOf, Cond.code yX5_leastOf cX5_leastOf 1 (some .int), Cond.methodLink RX5 136 yX5_mostOf, Cond.static yX5_mostOf, Cond.code yX5_mostOf cX5_mostOf 1 (some .int)]
def wsL_does : List Cond := .code yL_does cL_does 7 (some .int) :: ((wsL_does_r1 ++ (wsL_does_r2 ++ (wsL_does_r3 ++ (wsL_does_r4 ++ (wsL_does_r5 ++ (wsL_does_r6 ++ (wsL_does_r7 ++ (wsL_does_r8 ++ (wsL_does_r9 ++ wsL_does_r10))))))))) ++ wsX50 ++ wsX10 ++ wsX00 ++ wsX20 ++ wsX30 ++ (vx_atS RX5 125 "java/lang/IllegalArgumentException" ["java/lang/RuntimeException", "java/lang/Exception"]).filter goodWord ++ (vx_atS RX5 63 "java/lang/IllegalStateException" ["java/lang/RuntimeException", "java/lang/Exception"]).filter goodWord ++ (vx_atS RX5 288 "java/lang/IndexOutOfBoundsException" ["java/lang/RuntimeException", "java/lang/Exception"]).filter goodWord)
def wsL_areJointsSo_r1 : List Cond := [Cond.methodLink RL 8 yX5_count, Cond.instanceMethod yX5_count, Cond.selects RX5 yX5_count yX5_count, Cond.initialized RX5, Cond.code yX5_count cX5_count 2 (some .int), Cond.fieldLink RX5 22 "HangingChain" "balance" "LHangingChain$Balance;", Cond.fieldLink RX5 10 "HangingChain" "chain" "LHangingChain$Chain;", Cond.fieldLink RX5 56 "HangingChain$Chain" "links" "I", Cond.fieldLink RX5 108 "HangingChain$Chain" "weights" "LHangingChain$Row;", Cond.fieldLink RX5 198 "HangingChain$Balance" "ahead" "I", Cond.fieldLink RX5 201 "HangingChain$Balance" "behind" "I", Cond.fieldLink RX5 204 "HangingChain$Balance" "greatest" "I", Cond.fieldLink RX5 99 "HangingChain$Balance" "heights" "LHangingChain$Row;", Cond.fieldLink RX5 29 "HangingChain" "past" "LHangingChain$Past;", Cond.fieldLink RX5 165 "HangingChain$Past" "kept" "I", Cond.methodLink RX5 173 yX5_requireWhat, Cond.static yX5_requireWhat, Cond.code yX5_requireWhat cX5_requireWhat 2 none, Cond.classLink RX5 121 "java/lang/IllegalArgumentException", Cond.initialized "java/lang/IllegalArgumentException", Cond.methodLink RX5 95 yX0_weigh, Cond.instanceMethod yX0_weigh, Cond.selects RX0 yX0_weigh yX0_weigh, Cond.initialized RX0]
def wsL_areJointsSo_r2 : List Cond := [Cond.code yX0_weigh cX0_weigh 3 (some .int), Cond.fieldLink RX0 49 "HangingChain$Chain" "links" "I", Cond.fieldLink RX0 42 "HangingChain$Balance" "greatest" "I", Cond.methodLink RX0 45 yX0_placeJoints, Cond.instanceMethod yX0_placeJoints, Cond.selects RX0 yX0_placeJoints yX0_placeJoints, Cond.code yX0_placeJoints cX0_placeJoints 4 none, Cond.fieldLink RX0 14 "HangingChain$Balance" "heights" "LHangingChain$Row;", Cond.fieldLink RX0 68 "HangingChain$Chain" "steps" "LHangingChain$Row;", Cond.methodLink RX0 64 yX3_put, Cond.instanceMethod yX3_put, Cond.selects RX3 yX3_put yX3_put, Cond.initialized RX3, Cond.code yX3_put cX3_put 3 none, Cond.fieldLink RX3 7 "HangingChain$Row" "cells" "[I", Cond.methodLink RX0 71 yX3_at, Cond.instanceMethod yX3_at, Cond.selects RX3 yX3_at yX3_at, Cond.code yX3_at cX3_at 2 (some .int), Cond.methodLink RX0 54 yX0_hold, Cond.instanceMethod yX0_hold, Cond.selects RX0 yX0_hold yX0_hold, Cond.code yX0_hold cX0_hold 9 none, Cond.fieldLink RX0 75 "HangingChain$Chain" "weights" "LHangingChain$Row;"]
def wsL_areJointsSo_r3 : List Cond := [Cond.fieldLink RX0 78 "HangingChain$Chain" "settings" "LHangingChain$Row;", Cond.fieldLink RX0 81 "HangingChain$Chain" "hangers" "LHangingChain$Row;", Cond.methodLink RX0 84 Lib.Math.min.name, Cond.static Lib.Math.min.name, Cond.initialized "java/lang/Math", Cond.code Lib.Math.min.name Lib.Math.min.code 2 (some .int), Cond.fieldLink RX0 90 "HangingChain$Chain" "props" "LHangingChain$Row;", Cond.fieldLink RX0 20 "HangingChain$Balance" "burdens" "LHangingChain$Row;", Cond.fieldLink RX0 23 "HangingChain$Balance" "byHangers" "LHangingChain$Row;", Cond.fieldLink RX0 26 "HangingChain$Balance" "byProps" "LHangingChain$Row;", Cond.fieldLink RX0 29 "HangingChain$Balance" "loads" "LHangingChain$Row;", Cond.methodLink RX0 58 yX0_loadWalls, Cond.instanceMethod yX0_loadWalls, Cond.selects RX0 yX0_loadWalls yX0_loadWalls, Cond.code yX0_loadWalls cX0_loadWalls 6 none, Cond.fieldLink RX0 35 "HangingChain$Balance" "ahead" "I", Cond.fieldLink RX0 39 "HangingChain$Balance" "behind" "I", Cond.methodLink RX0 61 yX0_pullLinks, Cond.instanceMethod yX0_pullLinks, Cond.selects RX0 yX0_pullLinks yX0_pullLinks, Cond.code yX0_pullLinks cX0_pullLinks 6 none, Cond.methodLink RX0 93 Lib.Math.abs.name, Cond.static Lib.Math.abs.name, Cond.code Lib.Math.abs.name Lib.Math.abs.code 1 (some .int)]
def wsL_areJointsSo_r4 : List Cond := [Cond.fieldLink RX0 32 "HangingChain$Balance" "forces" "LHangingChain$Row;", Cond.methodLink RX0 96 Lib.Math.max.name, Cond.static Lib.Math.max.name, Cond.code Lib.Math.max.name Lib.Math.max.code 2 (some .int), Cond.methodLink RX5 195 yX3_sum, Cond.instanceMethod yX3_sum, Cond.selects RX3 yX3_sum yX3_sum, Cond.code yX3_sum cX3_sum 4 (some .int), Cond.methodLink RX5 207 yX0_broken, Cond.instanceMethod yX0_broken, Cond.selects RX0 yX0_broken yX0_broken, Cond.code yX0_broken cX0_broken 4 (some .int), Cond.methodLink RX0 99 yX0_breaks, Cond.instanceMethod yX0_breaks, Cond.selects RX0 yX0_breaks yX0_breaks, Cond.code yX0_breaks cX0_breaks 3 (some .boolean), Cond.methodLink RX5 210 yX0_holds, Cond.instanceMethod yX0_holds, Cond.selects RX0 yX0_holds yX0_holds, Cond.code yX0_holds cX0_holds 2 (some .boolean), Cond.methodLink RX5 214 yX0_lowest, Cond.instanceMethod yX0_lowest, Cond.selects RX0 yX0_lowest yX0_lowest, Cond.code yX0_lowest cX0_lowest 4 (some .int)]
def wsL_areJointsSo_r5 : List Cond := [Cond.methodLink RX5 84 yX3_at, Cond.methodLink RL 48 yX5_joint, Cond.instanceMethod yX5_joint, Cond.selects RX5 yX5_joint yX5_joint, Cond.code yX5_joint cX5_joint 3 (some .int), Cond.fieldLink RX5 115 "HangingChain$Chain" "hangers" "LHangingChain$Row;", Cond.fieldLink RX5 118 "HangingChain$Chain" "props" "LHangingChain$Row;", Cond.fieldLink RX5 183 "HangingChain$Balance" "burdens" "LHangingChain$Row;", Cond.fieldLink RX5 186 "HangingChain$Balance" "byHangers" "LHangingChain$Row;", Cond.fieldLink RX5 189 "HangingChain$Balance" "byProps" "LHangingChain$Row;", Cond.fieldLink RX5 192 "HangingChain$Balance" "loads" "LHangingChain$Row;", Cond.methodLink RX5 102 yX5_requireJoint, Cond.instanceMethod yX5_requireJoint, Cond.selects RX5 yX5_requireJoint yX5_requireJoint, Cond.code yX5_requireJoint cX5_requireJoint 2 none, Cond.classLink RX5 284 "java/lang/IndexOutOfBoundsException", Cond.initialized "java/lang/IndexOutOfBoundsException", Cond.methodLink RL 51 yX5_setting, Cond.instanceMethod yX5_setting, Cond.selects RX5 yX5_setting yX5_setting, Cond.code yX5_setting cX5_setting 2 (some .int), Cond.fieldLink RX5 141 "HangingChain$Chain" "settings" "LHangingChain$Row;", Cond.methodLink RX5 130 yX5_requireSetting, Cond.static yX5_requireSetting]
def wsL_areJointsSo_r6 : List Cond := [Cond.code yX5_requireSetting cX5_requireSetting 1 none, Cond.methodLink RL 54 yX5_linkOf, Cond.instanceMethod yX5_linkOf, Cond.selects RX5 yX5_linkOf yX5_linkOf, Cond.code yX5_linkOf cX5_linkOf 3 (some .int), Cond.fieldLink RX5 81 "HangingChain$Chain" "steps" "LHangingChain$Row;", Cond.fieldLink RX5 176 "HangingChain$Balance" "forces" "LHangingChain$Row;", Cond.methodLink RX5 73 yX5_requireLink, Cond.instanceMethod yX5_requireLink, Cond.selects RX5 yX5_requireLink yX5_requireLink, Cond.code yX5_requireLink cX5_requireLink 2 none, Cond.methodLink RX5 179 yX0_breaks]
def wsL_areJointsSo : List Cond := .code yL_areJointsSo cL_areJointsSo 10 (some .boolean) :: ((wsL_areJointsSo_r1 ++ (wsL_areJointsSo_r2 ++ (wsL_areJointsSo_r3 ++ (wsL_areJointsSo_r4 ++ (wsL_areJointsSo_r5 ++ wsL_areJointsSo_r6))))) ++ wsX50 ++ wsX10 ++ wsX00 ++ wsX20 ++ wsX30 ++ (vx_atS RX5 125 "java/lang/IllegalArgumentException" ["java/lang/RuntimeException", "java/lang/Exception"]).filter goodWord ++ (vx_atS RX5 288 "java/lang/IndexOutOfBoundsException" ["java/lang/RuntimeException", "java/lang/Exception"]).filter goodWord)
def wsL_areLinksSo_r1 : List Cond := [Cond.methodLink RL 8 yX5_count, Cond.instanceMethod yX5_count, Cond.selects RX5 yX5_count yX5_count, Cond.initialized RX5, Cond.code yX5_count cX5_count 2 (some .int), Cond.fieldLink RX5 22 "HangingChain" "balance" "LHangingChain$Balance;", Cond.fieldLink RX5 10 "HangingChain" "chain" "LHangingChain$Chain;", Cond.fieldLink RX5 56 "HangingChain$Chain" "links" "I", Cond.fieldLink RX5 108 "HangingChain$Chain" "weights" "LHangingChain$Row;", Cond.fieldLink RX5 198 "HangingChain$Balance" "ahead" "I", Cond.fieldLink RX5 201 "HangingChain$Balance" "behind" "I", Cond.fieldLink RX5 204 "HangingChain$Balance" "greatest" "I", Cond.fieldLink RX5 99 "HangingChain$Balance" "heights" "LHangingChain$Row;", Cond.fieldLink RX5 29 "HangingChain" "past" "LHangingChain$Past;", Cond.fieldLink RX5 165 "HangingChain$Past" "kept" "I", Cond.methodLink RX5 173 yX5_requireWhat, Cond.static yX5_requireWhat, Cond.code yX5_requireWhat cX5_requireWhat 2 none, Cond.classLink RX5 121 "java/lang/IllegalArgumentException", Cond.initialized "java/lang/IllegalArgumentException", Cond.methodLink RX5 95 yX0_weigh, Cond.instanceMethod yX0_weigh, Cond.selects RX0 yX0_weigh yX0_weigh, Cond.initialized RX0]
def wsL_areLinksSo_r2 : List Cond := [Cond.code yX0_weigh cX0_weigh 3 (some .int), Cond.fieldLink RX0 49 "HangingChain$Chain" "links" "I", Cond.fieldLink RX0 42 "HangingChain$Balance" "greatest" "I", Cond.methodLink RX0 45 yX0_placeJoints, Cond.instanceMethod yX0_placeJoints, Cond.selects RX0 yX0_placeJoints yX0_placeJoints, Cond.code yX0_placeJoints cX0_placeJoints 4 none, Cond.fieldLink RX0 14 "HangingChain$Balance" "heights" "LHangingChain$Row;", Cond.fieldLink RX0 68 "HangingChain$Chain" "steps" "LHangingChain$Row;", Cond.methodLink RX0 64 yX3_put, Cond.instanceMethod yX3_put, Cond.selects RX3 yX3_put yX3_put, Cond.initialized RX3, Cond.code yX3_put cX3_put 3 none, Cond.fieldLink RX3 7 "HangingChain$Row" "cells" "[I", Cond.methodLink RX0 71 yX3_at, Cond.instanceMethod yX3_at, Cond.selects RX3 yX3_at yX3_at, Cond.code yX3_at cX3_at 2 (some .int), Cond.methodLink RX0 54 yX0_hold, Cond.instanceMethod yX0_hold, Cond.selects RX0 yX0_hold yX0_hold, Cond.code yX0_hold cX0_hold 9 none, Cond.fieldLink RX0 75 "HangingChain$Chain" "weights" "LHangingChain$Row;"]
def wsL_areLinksSo_r3 : List Cond := [Cond.fieldLink RX0 78 "HangingChain$Chain" "settings" "LHangingChain$Row;", Cond.fieldLink RX0 81 "HangingChain$Chain" "hangers" "LHangingChain$Row;", Cond.methodLink RX0 84 Lib.Math.min.name, Cond.static Lib.Math.min.name, Cond.initialized "java/lang/Math", Cond.code Lib.Math.min.name Lib.Math.min.code 2 (some .int), Cond.fieldLink RX0 90 "HangingChain$Chain" "props" "LHangingChain$Row;", Cond.fieldLink RX0 20 "HangingChain$Balance" "burdens" "LHangingChain$Row;", Cond.fieldLink RX0 23 "HangingChain$Balance" "byHangers" "LHangingChain$Row;", Cond.fieldLink RX0 26 "HangingChain$Balance" "byProps" "LHangingChain$Row;", Cond.fieldLink RX0 29 "HangingChain$Balance" "loads" "LHangingChain$Row;", Cond.methodLink RX0 58 yX0_loadWalls, Cond.instanceMethod yX0_loadWalls, Cond.selects RX0 yX0_loadWalls yX0_loadWalls, Cond.code yX0_loadWalls cX0_loadWalls 6 none, Cond.fieldLink RX0 35 "HangingChain$Balance" "ahead" "I", Cond.fieldLink RX0 39 "HangingChain$Balance" "behind" "I", Cond.methodLink RX0 61 yX0_pullLinks, Cond.instanceMethod yX0_pullLinks, Cond.selects RX0 yX0_pullLinks yX0_pullLinks, Cond.code yX0_pullLinks cX0_pullLinks 6 none, Cond.methodLink RX0 93 Lib.Math.abs.name, Cond.static Lib.Math.abs.name, Cond.code Lib.Math.abs.name Lib.Math.abs.code 1 (some .int)]
def wsL_areLinksSo_r4 : List Cond := [Cond.fieldLink RX0 32 "HangingChain$Balance" "forces" "LHangingChain$Row;", Cond.methodLink RX0 96 Lib.Math.max.name, Cond.static Lib.Math.max.name, Cond.code Lib.Math.max.name Lib.Math.max.code 2 (some .int), Cond.methodLink RX5 195 yX3_sum, Cond.instanceMethod yX3_sum, Cond.selects RX3 yX3_sum yX3_sum, Cond.code yX3_sum cX3_sum 4 (some .int), Cond.methodLink RX5 207 yX0_broken, Cond.instanceMethod yX0_broken, Cond.selects RX0 yX0_broken yX0_broken, Cond.code yX0_broken cX0_broken 4 (some .int), Cond.methodLink RX0 99 yX0_breaks, Cond.instanceMethod yX0_breaks, Cond.selects RX0 yX0_breaks yX0_breaks, Cond.code yX0_breaks cX0_breaks 3 (some .boolean), Cond.methodLink RX5 210 yX0_holds, Cond.instanceMethod yX0_holds, Cond.selects RX0 yX0_holds yX0_holds, Cond.code yX0_holds cX0_holds 2 (some .boolean), Cond.methodLink RX5 214 yX0_lowest, Cond.instanceMethod yX0_lowest, Cond.selects RX0 yX0_lowest yX0_lowest, Cond.code yX0_lowest cX0_lowest 4 (some .int)]
def wsL_areLinksSo_r5 : List Cond := [Cond.methodLink RX5 84 yX3_at, Cond.methodLink RL 54 yX5_linkOf, Cond.instanceMethod yX5_linkOf, Cond.selects RX5 yX5_linkOf yX5_linkOf, Cond.code yX5_linkOf cX5_linkOf 3 (some .int), Cond.fieldLink RX5 81 "HangingChain$Chain" "steps" "LHangingChain$Row;", Cond.fieldLink RX5 176 "HangingChain$Balance" "forces" "LHangingChain$Row;", Cond.methodLink RX5 73 yX5_requireLink, Cond.instanceMethod yX5_requireLink, Cond.selects RX5 yX5_requireLink yX5_requireLink, Cond.code yX5_requireLink cX5_requireLink 2 none, Cond.classLink RX5 284 "java/lang/IndexOutOfBoundsException", Cond.initialized "java/lang/IndexOutOfBoundsException", Cond.methodLink RX5 179 yX0_breaks, Cond.methodLink RL 48 yX5_joint, Cond.instanceMethod yX5_joint, Cond.selects RX5 yX5_joint yX5_joint, Cond.code yX5_joint cX5_joint 3 (some .int), Cond.fieldLink RX5 115 "HangingChain$Chain" "hangers" "LHangingChain$Row;", Cond.fieldLink RX5 118 "HangingChain$Chain" "props" "LHangingChain$Row;", Cond.fieldLink RX5 183 "HangingChain$Balance" "burdens" "LHangingChain$Row;", Cond.fieldLink RX5 186 "HangingChain$Balance" "byHangers" "LHangingChain$Row;", Cond.fieldLink RX5 189 "HangingChain$Balance" "byProps" "LHangingChain$Row;", Cond.fieldLink RX5 192 "HangingChain$Balance" "loads" "LHangingChain$Row;"]
def wsL_areLinksSo_r6 : List Cond := [Cond.methodLink RX5 102 yX5_requireJoint, Cond.instanceMethod yX5_requireJoint, Cond.selects RX5 yX5_requireJoint yX5_requireJoint, Cond.code yX5_requireJoint cX5_requireJoint 2 none, Cond.methodLink RL 51 yX5_setting, Cond.instanceMethod yX5_setting, Cond.selects RX5 yX5_setting yX5_setting, Cond.code yX5_setting cX5_setting 2 (some .int), Cond.fieldLink RX5 141 "HangingChain$Chain" "settings" "LHangingChain$Row;", Cond.methodLink RX5 130 yX5_requireSetting, Cond.static yX5_requireSetting, Cond.code yX5_requireSetting cX5_requireSetting 1 none, Cond.methodLink RL 57 yX5_evenness, Cond.instanceMethod yX5_evenness, Cond.selects RX5 yX5_evenness yX5_evenness, Cond.code yX5_evenness cX5_evenness 3 (some .double), Cond.methodLink RX5 220 Lib.Math.min.name, Cond.methodLink RX5 225 Lib.Math.max.name]
def wsL_areLinksSo : List Cond := .code yL_areLinksSo cL_areLinksSo 9 (some .boolean) :: ((wsL_areLinksSo_r1 ++ (wsL_areLinksSo_r2 ++ (wsL_areLinksSo_r3 ++ (wsL_areLinksSo_r4 ++ (wsL_areLinksSo_r5 ++ wsL_areLinksSo_r6))))) ++ wsX50 ++ wsX10 ++ wsX00 ++ wsX20 ++ wsX30 ++ (vx_atS RX5 125 "java/lang/IllegalArgumentException" ["java/lang/RuntimeException", "java/lang/Exception"]).filter goodWord ++ (vx_atS RX5 288 "java/lang/IndexOutOfBoundsException" ["java/lang/RuntimeException", "java/lang/Exception"]).filter goodWord)
def wsL_areIfsSo_r1 : List Cond := [Cond.methodLink RL 61 yX5_mostWeight, Cond.instanceMethod yX5_mostWeight, Cond.selects RX5 yX5_mostWeight yX5_mostWeight, Cond.initialized RX5, Cond.code yX5_mostWeight cX5_mostWeight 3 (some .int), Cond.fieldLink RX5 16 "HangingChain" "trial" "LHangingChain$Chain;", Cond.fieldLink RX5 10 "HangingChain" "chain" "LHangingChain$Chain;", Cond.fieldLink RX5 108 "HangingChain$Chain" "weights" "LHangingChain$Row;", Cond.fieldLink RX5 22 "HangingChain" "balance" "LHangingChain$Balance;", Cond.methodLink RX5 102 yX5_requireJoint, Cond.instanceMethod yX5_requireJoint, Cond.selects RX5 yX5_requireJoint yX5_requireJoint, Cond.code yX5_requireJoint cX5_requireJoint 2 none, Cond.classLink RX5 284 "java/lang/IndexOutOfBoundsException", Cond.initialized "java/lang/IndexOutOfBoundsException", Cond.fieldLink RX5 56 "HangingChain$Chain" "links" "I", Cond.methodLink RX5 217 yX1_copyFrom, Cond.instanceMethod yX1_copyFrom, Cond.selects RX1 yX1_copyFrom yX1_copyFrom, Cond.initialized RX1, Cond.code yX1_copyFrom cX1_copyFrom 2 none, Cond.fieldLink RX1 32 "HangingChain$Chain" "links" "I", Cond.fieldLink RX1 14 "HangingChain$Chain" "steps" "LHangingChain$Row;", Cond.fieldLink RX1 20 "HangingChain$Chain" "weights" "LHangingChain$Row;"]
def wsL_areIfsSo_r2 : List Cond := [Cond.fieldLink RX1 23 "HangingChain$Chain" "hangers" "LHangingChain$Row;", Cond.fieldLink RX1 26 "HangingChain$Chain" "props" "LHangingChain$Row;", Cond.fieldLink RX1 29 "HangingChain$Chain" "settings" "LHangingChain$Row;", Cond.methodLink RX1 40 yX3_copyFrom, Cond.instanceMethod yX3_copyFrom, Cond.selects RX3 yX3_copyFrom yX3_copyFrom, Cond.initialized RX3, Cond.code yX3_copyFrom cX3_copyFrom 3 none, Cond.fieldLink RX3 7 "HangingChain$Row" "cells" "[I", Cond.methodLink RX3 13 yX3_at, Cond.instanceMethod yX3_at, Cond.selects RX3 yX3_at yX3_at, Cond.code yX3_at cX3_at 2 (some .int), Cond.methodLink RX5 88 yX3_put, Cond.instanceMethod yX3_put, Cond.selects RX3 yX3_put yX3_put, Cond.code yX3_put cX3_put 3 none, Cond.methodLink RX5 95 yX0_weigh, Cond.instanceMethod yX0_weigh, Cond.selects RX0 yX0_weigh yX0_weigh, Cond.initialized RX0, Cond.code yX0_weigh cX0_weigh 3 (some .int), Cond.fieldLink RX0 49 "HangingChain$Chain" "links" "I", Cond.fieldLink RX0 42 "HangingChain$Balance" "greatest" "I"]
def wsL_areIfsSo_r3 : List Cond := [Cond.methodLink RX0 45 yX0_placeJoints, Cond.instanceMethod yX0_placeJoints, Cond.selects RX0 yX0_placeJoints yX0_placeJoints, Cond.code yX0_placeJoints cX0_placeJoints 4 none, Cond.fieldLink RX0 14 "HangingChain$Balance" "heights" "LHangingChain$Row;", Cond.fieldLink RX0 68 "HangingChain$Chain" "steps" "LHangingChain$Row;", Cond.methodLink RX0 64 yX3_put, Cond.methodLink RX0 71 yX3_at, Cond.methodLink RX0 54 yX0_hold, Cond.instanceMethod yX0_hold, Cond.selects RX0 yX0_hold yX0_hold, Cond.code yX0_hold cX0_hold 9 none, Cond.fieldLink RX0 75 "HangingChain$Chain" "weights" "LHangingChain$Row;", Cond.fieldLink RX0 78 "HangingChain$Chain" "settings" "LHangingChain$Row;", Cond.fieldLink RX0 81 "HangingChain$Chain" "hangers" "LHangingChain$Row;", Cond.methodLink RX0 84 Lib.Math.min.name, Cond.static Lib.Math.min.name, Cond.initialized "java/lang/Math", Cond.code Lib.Math.min.name Lib.Math.min.code 2 (some .int), Cond.fieldLink RX0 90 "HangingChain$Chain" "props" "LHangingChain$Row;", Cond.fieldLink RX0 20 "HangingChain$Balance" "burdens" "LHangingChain$Row;", Cond.fieldLink RX0 23 "HangingChain$Balance" "byHangers" "LHangingChain$Row;", Cond.fieldLink RX0 26 "HangingChain$Balance" "byProps" "LHangingChain$Row;", Cond.fieldLink RX0 29 "HangingChain$Balance" "loads" "LHangingChain$Row;"]
def wsL_areIfsSo_r4 : List Cond := [Cond.methodLink RX0 58 yX0_loadWalls, Cond.instanceMethod yX0_loadWalls, Cond.selects RX0 yX0_loadWalls yX0_loadWalls, Cond.code yX0_loadWalls cX0_loadWalls 6 none, Cond.fieldLink RX0 35 "HangingChain$Balance" "ahead" "I", Cond.fieldLink RX0 39 "HangingChain$Balance" "behind" "I", Cond.methodLink RX0 61 yX0_pullLinks, Cond.instanceMethod yX0_pullLinks, Cond.selects RX0 yX0_pullLinks yX0_pullLinks, Cond.code yX0_pullLinks cX0_pullLinks 6 none, Cond.methodLink RX0 93 Lib.Math.abs.name, Cond.static Lib.Math.abs.name, Cond.code Lib.Math.abs.name Lib.Math.abs.code 1 (some .int), Cond.fieldLink RX0 32 "HangingChain$Balance" "forces" "LHangingChain$Row;", Cond.methodLink RX0 96 Lib.Math.max.name, Cond.static Lib.Math.max.name, Cond.code Lib.Math.max.name Lib.Math.max.code 2 (some .int), Cond.methodLink RX5 210 yX0_holds, Cond.instanceMethod yX0_holds, Cond.selects RX0 yX0_holds yX0_holds, Cond.code yX0_holds cX0_holds 2 (some .boolean), Cond.methodLink RL 64 yX5_ifWeight, Cond.instanceMethod yX5_ifWeight, Cond.selects RX5 yX5_ifWeight yX5_ifWeight]
def wsL_areIfsSo_r5 : List Cond := [Cond.code yX5_ifWeight cX5_ifWeight 3 (some .int), Cond.methodLink RX5 105 yX5_requireAmount, Cond.static yX5_requireAmount, Cond.code yX5_requireAmount cX5_requireAmount 1 none, Cond.classLink RX5 121 "java/lang/IllegalArgumentException", Cond.initialized "java/lang/IllegalArgumentException", Cond.methodLink RL 33 yX5_weight, Cond.instanceMethod yX5_weight, Cond.selects RX5 yX5_weight yX5_weight, Cond.code yX5_weight cX5_weight 3 (some .int), Cond.methodLink RX5 111 yX5_replace, Cond.instanceMethod yX5_replace, Cond.selects RX5 yX5_replace yX5_replace, Cond.code yX5_replace cX5_replace 5 (some .int), Cond.fieldLink RX5 29 "HangingChain" "past" "LHangingChain$Past;", Cond.methodLink RX5 66 yX2_save, Cond.instanceMethod yX2_save, Cond.selects RX2 yX2_save yX2_save, Cond.initialized RX2, Cond.code yX2_save cX2_save 3 none, Cond.fieldLink RX2 21 "HangingChain$Past" "kept" "I", Cond.fieldLink RX2 17 "HangingChain$Past" "oldest" "I", Cond.methodLink RX2 25 yX2_latest, Cond.instanceMethod yX2_latest]
def wsL_areIfsSo_r6 : List Cond := [Cond.selects RX2 yX2_latest yX2_latest, Cond.code yX2_latest cX2_latest 2 (some (.object "HangingChain$Chain")), Cond.fieldLink RX2 11 "HangingChain$Past" "slots" "[LHangingChain$Chain;", Cond.methodLink RX2 29 yX1_copyFrom, Cond.methodLink RX5 84 yX3_at, Cond.methodLink RL 8 yX5_count, Cond.instanceMethod yX5_count, Cond.selects RX5 yX5_count yX5_count, Cond.code yX5_count cX5_count 2 (some .int), Cond.fieldLink RX5 198 "HangingChain$Balance" "ahead" "I", Cond.fieldLink RX5 201 "HangingChain$Balance" "behind" "I", Cond.fieldLink RX5 204 "HangingChain$Balance" "greatest" "I", Cond.fieldLink RX5 99 "HangingChain$Balance" "heights" "LHangingChain$Row;", Cond.fieldLink RX5 165 "HangingChain$Past" "kept" "I", Cond.methodLink RX5 173 yX5_requireWhat, Cond.static yX5_requireWhat, Cond.code yX5_requireWhat cX5_requireWhat 2 none, Cond.methodLink RX5 195 yX3_sum, Cond.instanceMethod yX3_sum, Cond.selects RX3 yX3_sum yX3_sum, Cond.code yX3_sum cX3_sum 4 (some .int), Cond.methodLink RX5 207 yX0_broken, Cond.instanceMethod yX0_broken, Cond.selects RX0 yX0_broken yX0_broken]
def wsL_areIfsSo_r7 : List Cond := [Cond.code yX0_broken cX0_broken 4 (some .int), Cond.methodLink RX0 99 yX0_breaks, Cond.instanceMethod yX0_breaks, Cond.selects RX0 yX0_breaks yX0_breaks, Cond.code yX0_breaks cX0_breaks 3 (some .boolean), Cond.methodLink RX5 214 yX0_lowest, Cond.instanceMethod yX0_lowest, Cond.selects RX0 yX0_lowest yX0_lowest, Cond.code yX0_lowest cX0_lowest 4 (some .int), Cond.methodLink RL 67 yX5_undo, Cond.instanceMethod yX5_undo, Cond.selects RX5 yX5_undo yX5_undo, Cond.code yX5_undo cX5_undo 1 (some .int), Cond.classLink RX5 59 "java/lang/IllegalStateException", Cond.initialized "java/lang/IllegalStateException", Cond.methodLink RX5 170 yX2_restore, Cond.instanceMethod yX2_restore, Cond.selects RX2 yX2_restore yX2_restore, Cond.code yX2_restore cX2_restore 3 none, Cond.methodLink RL 70 yX5_bestMove, Cond.instanceMethod yX5_bestMove, Cond.selects RX5 yX5_bestMove yX5_bestMove, Cond.code yX5_bestMove cX5_bestMove 6 (some .int), Cond.methodLink RX5 126 yX1_moveWeight]
def wsL_areIfsSo_r8 : List Cond := [Cond.instanceMethod yX1_moveWeight, Cond.selects RX1 yX1_moveWeight yX1_moveWeight, Cond.code yX1_moveWeight cX1_moveWeight 4 (some .int), Cond.methodLink RX1 54 Lib.Math.min.name, Cond.methodLink RX1 50 yX3_at, Cond.methodLink RX1 36 yX3_put, Cond.methodLink RL 48 yX5_joint, Cond.instanceMethod yX5_joint, Cond.selects RX5 yX5_joint yX5_joint, Cond.code yX5_joint cX5_joint 3 (some .int), Cond.fieldLink RX5 115 "HangingChain$Chain" "hangers" "LHangingChain$Row;", Cond.fieldLink RX5 118 "HangingChain$Chain" "props" "LHangingChain$Row;", Cond.fieldLink RX5 183 "HangingChain$Balance" "burdens" "LHangingChain$Row;", Cond.fieldLink RX5 186 "HangingChain$Balance" "byHangers" "LHangingChain$Row;", Cond.fieldLink RX5 189 "HangingChain$Balance" "byProps" "LHangingChain$Row;", Cond.fieldLink RX5 192 "HangingChain$Balance" "loads" "LHangingChain$Row;", Cond.methodLink RL 42 yX5_move, Cond.instanceMethod yX5_move, Cond.selects RX5 yX5_move yX5_move, Cond.code yX5_move cX5_move 3 (some .int)]
def wsL_areIfsSo : List Cond := .code yL_areIfsSo cL_areIfsSo 13 (some .boolean) :: ((wsL_areIfsSo_r1 ++ (wsL_areIfsSo_r2 ++ (wsL_areIfsSo_r3 ++ (wsL_areIfsSo_r4 ++ (wsL_areIfsSo_r5 ++ (wsL_areIfsSo_r6 ++ (wsL_areIfsSo_r7 ++ wsL_areIfsSo_r8))))))) ++ wsX50 ++ wsX10 ++ wsX30 ++ wsX00 ++ wsX20 ++ (vx_atS RX5 288 "java/lang/IndexOutOfBoundsException" ["java/lang/RuntimeException", "java/lang/Exception"]).filter goodWord ++ (vx_atS RX5 125 "java/lang/IllegalArgumentException" ["java/lang/RuntimeException", "java/lang/Exception"]).filter goodWord ++ (vx_atS RX5 63 "java/lang/IllegalStateException" ["java/lang/RuntimeException", "java/lang/Exception"]).filter goodWord)
def wsL_isBestSo_r1 : List Cond := [Cond.methodLink RL 8 yX5_count, Cond.instanceMethod yX5_count, Cond.selects RX5 yX5_count yX5_count, Cond.initialized RX5, Cond.code yX5_count cX5_count 2 (some .int), Cond.fieldLink RX5 22 "HangingChain" "balance" "LHangingChain$Balance;", Cond.fieldLink RX5 10 "HangingChain" "chain" "LHangingChain$Chain;", Cond.fieldLink RX5 56 "HangingChain$Chain" "links" "I", Cond.fieldLink RX5 108 "HangingChain$Chain" "weights" "LHangingChain$Row;", Cond.fieldLink RX5 198 "HangingChain$Balance" "ahead" "I", Cond.fieldLink RX5 201 "HangingChain$Balance" "behind" "I", Cond.fieldLink RX5 204 "HangingChain$Balance" "greatest" "I", Cond.fieldLink RX5 99 "HangingChain$Balance" "heights" "LHangingChain$Row;", Cond.fieldLink RX5 29 "HangingChain" "past" "LHangingChain$Past;", Cond.fieldLink RX5 165 "HangingChain$Past" "kept" "I", Cond.methodLink RX5 173 yX5_requireWhat, Cond.static yX5_requireWhat, Cond.code yX5_requireWhat cX5_requireWhat 2 none, Cond.classLink RX5 121 "java/lang/IllegalArgumentException", Cond.initialized "java/lang/IllegalArgumentException", Cond.methodLink RX5 95 yX0_weigh, Cond.instanceMethod yX0_weigh, Cond.selects RX0 yX0_weigh yX0_weigh, Cond.initialized RX0]
def wsL_isBestSo_r2 : List Cond := [Cond.code yX0_weigh cX0_weigh 3 (some .int), Cond.fieldLink RX0 49 "HangingChain$Chain" "links" "I", Cond.fieldLink RX0 42 "HangingChain$Balance" "greatest" "I", Cond.methodLink RX0 45 yX0_placeJoints, Cond.instanceMethod yX0_placeJoints, Cond.selects RX0 yX0_placeJoints yX0_placeJoints, Cond.code yX0_placeJoints cX0_placeJoints 4 none, Cond.fieldLink RX0 14 "HangingChain$Balance" "heights" "LHangingChain$Row;", Cond.fieldLink RX0 68 "HangingChain$Chain" "steps" "LHangingChain$Row;", Cond.methodLink RX0 64 yX3_put, Cond.instanceMethod yX3_put, Cond.selects RX3 yX3_put yX3_put, Cond.initialized RX3, Cond.code yX3_put cX3_put 3 none, Cond.fieldLink RX3 7 "HangingChain$Row" "cells" "[I", Cond.methodLink RX0 71 yX3_at, Cond.instanceMethod yX3_at, Cond.selects RX3 yX3_at yX3_at, Cond.code yX3_at cX3_at 2 (some .int), Cond.methodLink RX0 54 yX0_hold, Cond.instanceMethod yX0_hold, Cond.selects RX0 yX0_hold yX0_hold, Cond.code yX0_hold cX0_hold 9 none, Cond.fieldLink RX0 75 "HangingChain$Chain" "weights" "LHangingChain$Row;"]
def wsL_isBestSo_r3 : List Cond := [Cond.fieldLink RX0 78 "HangingChain$Chain" "settings" "LHangingChain$Row;", Cond.fieldLink RX0 81 "HangingChain$Chain" "hangers" "LHangingChain$Row;", Cond.methodLink RX0 84 Lib.Math.min.name, Cond.static Lib.Math.min.name, Cond.initialized "java/lang/Math", Cond.code Lib.Math.min.name Lib.Math.min.code 2 (some .int), Cond.fieldLink RX0 90 "HangingChain$Chain" "props" "LHangingChain$Row;", Cond.fieldLink RX0 20 "HangingChain$Balance" "burdens" "LHangingChain$Row;", Cond.fieldLink RX0 23 "HangingChain$Balance" "byHangers" "LHangingChain$Row;", Cond.fieldLink RX0 26 "HangingChain$Balance" "byProps" "LHangingChain$Row;", Cond.fieldLink RX0 29 "HangingChain$Balance" "loads" "LHangingChain$Row;", Cond.methodLink RX0 58 yX0_loadWalls, Cond.instanceMethod yX0_loadWalls, Cond.selects RX0 yX0_loadWalls yX0_loadWalls, Cond.code yX0_loadWalls cX0_loadWalls 6 none, Cond.fieldLink RX0 35 "HangingChain$Balance" "ahead" "I", Cond.fieldLink RX0 39 "HangingChain$Balance" "behind" "I", Cond.methodLink RX0 61 yX0_pullLinks, Cond.instanceMethod yX0_pullLinks, Cond.selects RX0 yX0_pullLinks yX0_pullLinks, Cond.code yX0_pullLinks cX0_pullLinks 6 none, Cond.methodLink RX0 93 Lib.Math.abs.name, Cond.static Lib.Math.abs.name, Cond.code Lib.Math.abs.name Lib.Math.abs.code 1 (some .int)]
def wsL_isBestSo_r4 : List Cond := [Cond.fieldLink RX0 32 "HangingChain$Balance" "forces" "LHangingChain$Row;", Cond.methodLink RX0 96 Lib.Math.max.name, Cond.static Lib.Math.max.name, Cond.code Lib.Math.max.name Lib.Math.max.code 2 (some .int), Cond.methodLink RX5 195 yX3_sum, Cond.instanceMethod yX3_sum, Cond.selects RX3 yX3_sum yX3_sum, Cond.code yX3_sum cX3_sum 4 (some .int), Cond.methodLink RX5 207 yX0_broken, Cond.instanceMethod yX0_broken, Cond.selects RX0 yX0_broken yX0_broken, Cond.code yX0_broken cX0_broken 4 (some .int), Cond.methodLink RX0 99 yX0_breaks, Cond.instanceMethod yX0_breaks, Cond.selects RX0 yX0_breaks yX0_breaks, Cond.code yX0_breaks cX0_breaks 3 (some .boolean), Cond.methodLink RX5 210 yX0_holds, Cond.instanceMethod yX0_holds, Cond.selects RX0 yX0_holds yX0_holds, Cond.code yX0_holds cX0_holds 2 (some .boolean), Cond.methodLink RX5 214 yX0_lowest, Cond.instanceMethod yX0_lowest, Cond.selects RX0 yX0_lowest yX0_lowest, Cond.code yX0_lowest cX0_lowest 4 (some .int)]
def wsL_isBestSo_r5 : List Cond := [Cond.methodLink RX5 84 yX3_at, Cond.methodLink RL 73 yX5_bestStep, Cond.instanceMethod yX5_bestStep, Cond.selects RX5 yX5_bestStep yX5_bestStep, Cond.code yX5_bestStep cX5_bestStep 6 (some .int), Cond.fieldLink RX5 16 "HangingChain" "trial" "LHangingChain$Chain;", Cond.fieldLink RX5 81 "HangingChain$Chain" "steps" "LHangingChain$Row;", Cond.methodLink RX5 73 yX5_requireLink, Cond.instanceMethod yX5_requireLink, Cond.selects RX5 yX5_requireLink yX5_requireLink, Cond.code yX5_requireLink cX5_requireLink 2 none, Cond.classLink RX5 284 "java/lang/IndexOutOfBoundsException", Cond.initialized "java/lang/IndexOutOfBoundsException", Cond.methodLink RX5 217 yX1_copyFrom, Cond.instanceMethod yX1_copyFrom, Cond.selects RX1 yX1_copyFrom yX1_copyFrom, Cond.initialized RX1, Cond.code yX1_copyFrom cX1_copyFrom 2 none, Cond.fieldLink RX1 32 "HangingChain$Chain" "links" "I", Cond.fieldLink RX1 14 "HangingChain$Chain" "steps" "LHangingChain$Row;", Cond.fieldLink RX1 20 "HangingChain$Chain" "weights" "LHangingChain$Row;", Cond.fieldLink RX1 23 "HangingChain$Chain" "hangers" "LHangingChain$Row;", Cond.fieldLink RX1 26 "HangingChain$Chain" "props" "LHangingChain$Row;", Cond.fieldLink RX1 29 "HangingChain$Chain" "settings" "LHangingChain$Row;"]
def wsL_isBestSo_r6 : List Cond := [Cond.methodLink RX1 40 yX3_copyFrom, Cond.instanceMethod yX3_copyFrom, Cond.selects RX3 yX3_copyFrom yX3_copyFrom, Cond.code yX3_copyFrom cX3_copyFrom 3 none, Cond.methodLink RX3 13 yX3_at, Cond.methodLink RX5 88 yX3_put, Cond.methodLink RL 26 yX5_bend, Cond.instanceMethod yX5_bend, Cond.selects RX5 yX5_bend yX5_bend, Cond.code yX5_bend cX5_bend 4 (some .int), Cond.methodLink RX5 53 yX5_requireStep, Cond.static yX5_requireStep, Cond.code yX5_requireStep cX5_requireStep 1 none, Cond.methodLink RX5 66 yX2_save, Cond.instanceMethod yX2_save, Cond.selects RX2 yX2_save yX2_save, Cond.initialized RX2, Cond.code yX2_save cX2_save 3 none, Cond.fieldLink RX2 21 "HangingChain$Past" "kept" "I", Cond.fieldLink RX2 17 "HangingChain$Past" "oldest" "I", Cond.methodLink RX2 25 yX2_latest, Cond.instanceMethod yX2_latest, Cond.selects RX2 yX2_latest yX2_latest, Cond.code yX2_latest cX2_latest 2 (some (.object "HangingChain$Chain"))]
def wsL_isBestSo_r7 : List Cond := [Cond.fieldLink RX2 11 "HangingChain$Past" "slots" "[LHangingChain$Chain;", Cond.methodLink RX2 29 yX1_copyFrom, Cond.methodLink RL 67 yX5_undo, Cond.instanceMethod yX5_undo, Cond.selects RX5 yX5_undo yX5_undo, Cond.code yX5_undo cX5_undo 1 (some .int), Cond.classLink RX5 59 "java/lang/IllegalStateException", Cond.initialized "java/lang/IllegalStateException", Cond.methodLink RX5 170 yX2_restore, Cond.instanceMethod yX2_restore, Cond.selects RX2 yX2_restore yX2_restore, Cond.code yX2_restore cX2_restore 3 none, Cond.methodLink RL 54 yX5_linkOf, Cond.instanceMethod yX5_linkOf, Cond.selects RX5 yX5_linkOf yX5_linkOf, Cond.code yX5_linkOf cX5_linkOf 3 (some .int), Cond.fieldLink RX5 176 "HangingChain$Balance" "forces" "LHangingChain$Row;", Cond.methodLink RX5 179 yX0_breaks, Cond.methodLink RL 76 yX5_bestHanger, Cond.instanceMethod yX5_bestHanger, Cond.selects RX5 yX5_bestHanger yX5_bestHanger, Cond.code yX5_bestHanger cX5_bestHanger 6 (some .int), Cond.fieldLink RX5 115 "HangingChain$Chain" "hangers" "LHangingChain$Row;", Cond.methodLink RX5 220 Lib.Math.min.name]
def wsL_isBestSo_r8 : List Cond := [Cond.methodLink RX5 105 yX5_requireAmount, Cond.static yX5_requireAmount, Cond.code yX5_requireAmount cX5_requireAmount 1 none, Cond.methodLink RL 48 yX5_joint, Cond.instanceMethod yX5_joint, Cond.selects RX5 yX5_joint yX5_joint, Cond.code yX5_joint cX5_joint 3 (some .int), Cond.fieldLink RX5 118 "HangingChain$Chain" "props" "LHangingChain$Row;", Cond.fieldLink RX5 183 "HangingChain$Balance" "burdens" "LHangingChain$Row;", Cond.fieldLink RX5 186 "HangingChain$Balance" "byHangers" "LHangingChain$Row;", Cond.fieldLink RX5 189 "HangingChain$Balance" "byProps" "LHangingChain$Row;", Cond.fieldLink RX5 192 "HangingChain$Balance" "loads" "LHangingChain$Row;", Cond.methodLink RX5 102 yX5_requireJoint, Cond.instanceMethod yX5_requireJoint, Cond.selects RX5 yX5_requireJoint yX5_requireJoint, Cond.code yX5_requireJoint cX5_requireJoint 2 none, Cond.methodLink RL 36 yX5_hanger, Cond.instanceMethod yX5_hanger, Cond.selects RX5 yX5_hanger yX5_hanger, Cond.code yX5_hanger cX5_hanger 3 (some .int), Cond.methodLink RX5 111 yX5_replace, Cond.instanceMethod yX5_replace, Cond.selects RX5 yX5_replace yX5_replace, Cond.code yX5_replace cX5_replace 5 (some .int)]
def wsL_isBestSo : List Cond := .code yL_isBestSo cL_isBestSo 13 (some .boolean) :: ((wsL_isBestSo_r1 ++ (wsL_isBestSo_r2 ++ (wsL_isBestSo_r3 ++ (wsL_isBestSo_r4 ++ (wsL_isBestSo_r5 ++ (wsL_isBestSo_r6 ++ (wsL_isBestSo_r7 ++ wsL_isBestSo_r8))))))) ++ wsX50 ++ wsX10 ++ wsX00 ++ wsX20 ++ wsX30 ++ (vx_atS RX5 125 "java/lang/IllegalArgumentException" ["java/lang/RuntimeException", "java/lang/Exception"]).filter goodWord ++ (vx_atS RX5 288 "java/lang/IndexOutOfBoundsException" ["java/lang/RuntimeException", "java/lang/Exception"]).filter goodWord ++ (vx_atS RX5 63 "java/lang/IllegalStateException" ["java/lang/RuntimeException", "java/lang/Exception"]).filter goodWord)
theorem dL_cell_0 : decode cL_cell 0 = .ok (.iload_n 1, 1) := by decide +kernel
theorem dL_cell_1 : decode cL_cell 1 = .ok (.aload_n 0, 1) := by decide +kernel
theorem dL_cell_2 : decode cL_cell 2 = .ok (.arraylength, 1) := by decide +kernel
theorem dL_cell_3 : decode cL_cell 3 = .ok (.if_icmp .ge 9, 3) := by decide +kernel
theorem dL_cell_6 : decode cL_cell 6 = .ok (.aload_n 0, 1) := by decide +kernel
theorem dL_cell_7 : decode cL_cell 7 = .ok (.iload_n 1, 1) := by decide +kernel
theorem dL_cell_8 : decode cL_cell 8 = .ok (.iaload, 1) := by decide +kernel
theorem dL_cell_9 : decode cL_cell 9 = .ok (.goto 15, 3) := by decide +kernel
theorem dL_cell_12 : decode cL_cell 12 = .ok (.sipush 7919, 3) := by decide +kernel
theorem dL_cell_15 : decode cL_cell 15 = .ok (.iload_n 1, 1) := by decide +kernel
theorem dL_cell_16 : decode cL_cell 16 = .ok (.iconst 3, 1) := by decide +kernel
theorem dL_cell_17 : decode cL_cell 17 = .ok (.iadd, 1) := by decide +kernel
theorem dL_cell_18 : decode cL_cell 18 = .ok (.imul, 1) := by decide +kernel
theorem dL_cell_19 : decode cL_cell 19 = .ok (.iload_n 1, 1) := by decide +kernel
theorem dL_cell_20 : decode cL_cell 20 = .ok (.bipush 11, 2) := by decide +kernel
theorem dL_cell_22 : decode cL_cell 22 = .ok (.iadd, 1) := by decide +kernel
theorem dL_cell_23 : decode cL_cell 23 = .ok (.imul, 1) := by decide +kernel
theorem dL_cell_24 : decode cL_cell 24 = .ok (.ireturn, 1) := by decide +kernel
theorem dL_low_0 : decode cL_low 0 = .ok (.iload_n 0, 1) := by decide +kernel
theorem dL_low_1 : decode cL_low 1 = .ok (.ldc 7, 2) := by decide +kernel
theorem dL_low_3 : decode cL_low 3 = .ok (.iand, 1) := by decide +kernel
theorem dL_low_4 : decode cL_low 4 = .ok (.iload_n 1, 1) := by decide +kernel
theorem dL_low_5 : decode cL_low 5 = .ok (.irem, 1) := by decide +kernel
theorem dL_low_6 : decode cL_low 6 = .ok (.ireturn, 1) := by decide +kernel
set_option maxRecDepth 20000 in
theorem ggL_does_X5_count : GoodIn wsL_does wsX5_count := goodIn_ca (goodIn_r _ [5, 6, 7, 8, 9, 10, 11, 12, 13, 14, 15, 16, 17, 4, 18, 19, 20, 21, 22, 23, 24, 25, 26, 27, 28, 29, 30, 31, 32, 33, 34, 35, 36, 37, 38, 39, 40, 41, 42, 43, 44, 45, 46, 47, 48, 49, 50, 51, 52, 53, 54, 55, 56, 57, 58, 59, 60, 61, 62, 63, 64, 65, 66, 67, 68, 69, 70, 71, 72, 73, 74, 75, 76, 77, 78, 79, 80, 81, 82, 83, 84, 85, 86, 87, 88, 89, 90, 91, 92, 93, 94, 95, 96, 97, 231, 232, 233, 234, 235, 236, 237, 238, 239, 240, 241, 242, 243, 244, 245, 246, 247, 248, 249, 250, 251, 252, 253, 254, 255, 256] (by decide +kernel) (by decide +kernel)) (goodIn_sub (fun _ h => List.mem_cons_of_mem _ (List.mem_append_left _ (List.mem_append_left _ (List.mem_append_right _ h)))) (by decide +kernel))
set_option maxRecDepth 20000 in
theorem gL_does_X5_count : GoodIn wsL_does (wsV RL 8 RX5 yX5_count wsX5_count) := goodIn_app (goodIn_of _ (by decide +kernel)) ggL_does_X5_count
set_option maxRecDepth 20000 in
theorem ggL_does_L_low : GoodIn wsL_does wsL_low := goodIn_r _ [101, 102] (by decide +kernel) (by decide +kernel)
set_option maxRecDepth 20000 in
theorem gL_does_L_low : GoodIn wsL_does (va_wsS RL 14 yL_low wsL_low) := goodIn_app (goodIn_of _ (by decide +kernel)) ggL_does_L_low
set_option maxRecDepth 20000 in
theorem ggL_does_X5_link : GoodIn wsL_does wsX5_link := goodIn_ca (goodIn_ca (goodIn_r _ [106, 107, 108, 7, 8, 14, 109, 110, 4, 111, 19, 20, 112, 113, 114, 115, 116, 117, 118, 119, 120, 121, 122, 123, 124, 125, 126, 127, 128, 129, 130, 131, 132, 133, 134, 135, 136, 137, 37, 138, 39, 139, 41, 42, 43, 140, 141, 142, 143, 144, 35, 36, 38, 231, 232, 233, 234, 235, 236, 237, 238, 239, 240, 241, 242, 243, 253, 254, 255, 256] (by decide +kernel) (by decide +kernel)) (goodIn_sub (fun _ h => List.mem_cons_of_mem _ (List.mem_append_left _ (List.mem_append_right _ h))) (by decide +kernel))) (goodIn_sub (fun _ h => List.mem_cons_of_mem _ (List.mem_append_left _ (List.mem_append_left _ (List.mem_append_right _ h)))) (by decide +kernel))
set_option maxRecDepth 20000 in
theorem gL_does_X5_link : GoodIn wsL_does (wsV RL 20 RX5 yX5_link wsX5_link) := goodIn_app (goodIn_of _ (by decide +kernel)) ggL_does_X5_link
set_option maxRecDepth 20000 in
theorem ggL_does_X5_cut : GoodIn wsL_does wsX5_cut := goodIn_ca (goodIn_ca (goodIn_r _ [148, 107, 108, 7, 8, 14, 149, 150, 151, 4, 152, 153, 154, 112, 113, 114, 115, 116, 117, 118, 119, 120, 121, 122, 123, 124, 125, 126, 127, 128, 129, 130, 131, 132, 133, 134, 135, 136, 137, 37, 138, 39, 139, 41, 42, 43, 155, 156, 157, 158, 159, 160, 161, 162, 163, 35, 36, 38, 231, 232, 233, 234, 235, 236, 237, 238, 239, 240, 241, 242, 243, 253, 254, 255, 256] (by decide +kernel) (by decide +kernel)) (goodIn_sub (fun _ h => List.mem_cons_of_mem _ (List.mem_append_left _ (List.mem_append_right _ h))) (by decide +kernel))) (goodIn_sub (fun _ h => List.mem_cons_of_mem _ (List.mem_append_right _ h)) (by decide +kernel))
set_option maxRecDepth 20000 in
theorem gL_does_X5_cut : GoodIn wsL_does (wsV RL 23 RX5 yX5_cut wsX5_cut) := goodIn_app (goodIn_of _ (by decide +kernel)) ggL_does_X5_cut
set_option maxRecDepth 20000 in
theorem ggL_does_X5_bend : GoodIn wsL_does wsX5_bend := goodIn_ca (goodIn_ca (goodIn_r _ [167, 14, 7, 168, 149, 150, 151, 4, 152, 153, 154, 8, 109, 110, 111, 19, 20, 112, 113, 114, 115, 116, 117, 118, 119, 120, 121, 122, 123, 124, 125, 126, 127, 128, 129, 130, 131, 132, 133, 134, 135, 136, 137, 37, 138, 39, 139, 41, 42, 43, 97, 169, 35, 36, 38, 231, 232, 233, 234, 235, 236, 237, 238, 239, 240, 241, 242, 243, 253, 254, 255, 256] (by decide +kernel) (by decide +kernel)) (goodIn_sub (fun _ h => List.mem_cons_of_mem _ (List.mem_append_right _ h)) (by decide +kernel))) (goodIn_sub (fun _ h => List.mem_cons_of_mem _ (List.mem_append_left _ (List.mem_append_left _ (List.mem_append_right _ h)))) (by decide +kernel))
set_option maxRecDepth 20000 in
theorem gL_does_X5_bend : GoodIn wsL_does (wsV RL 26 RX5 yX5_bend wsX5_bend) := goodIn_app (goodIn_of _ (by decide +kernel)) ggL_does_X5_bend
set_option maxRecDepth 20000 in
theorem ggL_does_X5_turn : GoodIn wsL_does wsX5_turn := goodIn_r _ [173, 14, 7, 6, 13, 8, 112, 113, 114, 115, 116, 117, 118, 119, 120, 121, 122, 123, 124, 125, 126, 127, 128, 129, 130, 131, 132, 133, 134, 135, 136, 137, 37, 138, 39, 139, 41, 42, 43, 174, 175, 176, 177, 178, 179, 180, 181, 163, 35, 36, 38, 182, 144, 21, 22, 23, 24, 25, 26, 27, 28, 29, 30, 31, 32, 33, 34, 40, 44, 45, 46, 47, 48, 49, 50, 51, 52, 53, 54, 55, 56, 57, 58, 59, 60, 61, 62, 63, 64, 65, 66, 67, 68, 69, 70, 71, 72, 73, 74, 75, 76, 97, 231, 232, 233, 234, 235, 236, 237, 244, 245, 246, 247, 248, 249, 250, 251, 252, 238, 239, 240, 241, 242, 243, 253, 254, 255, 256] (by decide +kernel) (by decide +kernel)
set_option maxRecDepth 20000 in
theorem gL_does_X5_turn : GoodIn wsL_does (wsV RL 29 RX5 yX5_turn wsX5_turn) := goodIn_app (goodIn_of _ (by decide +kernel)) ggL_does_X5_turn
set_option maxRecDepth 20000 in
theorem ggL_does_X5_weight : GoodIn wsL_does wsX5_weight := goodIn_ca (goodIn_ca (goodIn_r _ [186, 7, 9, 187, 188, 189, 4, 190, 153, 154, 8, 191, 192, 193, 19, 20, 194, 195, 196, 197, 14, 112, 113, 114, 115, 116, 117, 118, 119, 120, 121, 122, 123, 124, 125, 126, 127, 128, 129, 130, 131, 132, 133, 134, 135, 136, 137, 37, 138, 39, 139, 41, 42, 43, 97, 169, 35, 36, 38, 231, 232, 233, 234, 235, 236, 237, 238, 239, 240, 241, 242, 243, 253, 254, 255, 256] (by decide +kernel) (by decide +kernel)) (goodIn_sub (fun _ h => List.mem_cons_of_mem _ (List.mem_append_right _ h)) (by decide +kernel))) (goodIn_sub (fun _ h => List.mem_cons_of_mem _ (List.mem_append_left _ (List.mem_append_left _ (List.mem_append_right _ h)))) (by decide +kernel))
set_option maxRecDepth 20000 in
theorem gL_does_X5_weight : GoodIn wsL_does (wsV RL 33 RX5 yX5_weight wsX5_weight) := goodIn_app (goodIn_of _ (by decide +kernel)) ggL_does_X5_weight
set_option maxRecDepth 20000 in
theorem ggL_does_X5_hanger : GoodIn wsL_does wsX5_hanger := goodIn_ca (goodIn_ca (goodIn_r _ [201, 7, 202, 187, 188, 189, 4, 190, 153, 154, 8, 191, 192, 193, 19, 20, 194, 195, 196, 197, 14, 112, 113, 114, 115, 116, 117, 118, 119, 120, 121, 122, 123, 124, 125, 126, 127, 128, 129, 130, 131, 132, 133, 134, 135, 136, 137, 37, 138, 39, 139, 41, 42, 43, 97, 169, 35, 36, 38, 231, 232, 233, 234, 235, 236, 237, 238, 239, 240, 241, 242, 243, 253, 254, 255, 256] (by decide +kernel) (by decide +kernel)) (goodIn_sub (fun _ h => List.mem_cons_of_mem _ (List.mem_append_right _ h)) (by decide +kernel))) (goodIn_sub (fun _ h => List.mem_cons_of_mem _ (List.mem_append_left _ (List.mem_append_left _ (List.mem_append_right _ h)))) (by decide +kernel))
set_option maxRecDepth 20000 in
theorem gL_does_X5_hanger : GoodIn wsL_does (wsV RL 36 RX5 yX5_hanger wsX5_hanger) := goodIn_app (goodIn_of _ (by decide +kernel)) ggL_does_X5_hanger
set_option maxRecDepth 20000 in
theorem ggL_does_X5_prop : GoodIn wsL_does wsX5_prop := goodIn_ca (goodIn_ca (goodIn_r _ [206, 7, 207, 187, 188, 189, 4, 190, 153, 154, 8, 191, 192, 193, 19, 20, 194, 195, 196, 197, 14, 112, 113, 114, 115, 116, 117, 118, 119, 120, 121, 122, 123, 124, 125, 126, 127, 128, 129, 130, 131, 132, 133, 134, 135, 136, 137, 37, 138, 39, 139, 41, 42, 43, 97, 169, 35, 36, 38, 231, 232, 233, 234, 235, 236, 237, 238, 239, 240, 241, 242, 243, 253, 254, 255, 256] (by decide +kernel) (by decide +kernel)) (goodIn_sub (fun _ h => List.mem_cons_of_mem _ (List.mem_append_right _ h)) (by decide +kernel))) (goodIn_sub (fun _ h => List.mem_cons_of_mem _ (List.mem_append_left _ (List.mem_append_left _ (List.mem_append_right _ h)))) (by decide +kernel))
set_option maxRecDepth 20000 in
theorem gL_does_X5_prop : GoodIn wsL_does (wsV RL 39 RX5 yX5_prop wsX5_prop) := goodIn_app (goodIn_of _ (by decide +kernel)) ggL_does_X5_prop
set_option maxRecDepth 20000 in
theorem ggL_does_X5_move : GoodIn wsL_does wsX5_move := goodIn_ca (goodIn_ca (goodIn_r _ [211, 19, 20, 14, 7, 187, 188, 189, 4, 190, 153, 154, 8, 112, 113, 114, 115, 116, 117, 118, 119, 120, 121, 122, 123, 124, 125, 126, 127, 128, 129, 130, 131, 132, 133, 134, 135, 136, 137, 37, 138, 39, 139, 41, 42, 43, 212, 213, 214, 215, 216, 52, 53, 54, 182, 144, 35, 36, 38, 231, 232, 233, 234, 235, 236, 237, 238, 239, 240, 241, 242, 243, 253, 254, 255, 256] (by decide +kernel) (by decide +kernel)) (goodIn_sub (fun _ h => List.mem_cons_of_mem _ (List.mem_append_left _ (List.mem_append_left _ (List.mem_append_right _ h)))) (by decide +kernel))) (goodIn_sub (fun _ h => List.mem_cons_of_mem _ (List.mem_append_right _ h)) (by decide +kernel))
set_option maxRecDepth 20000 in
theorem gL_does_X5_move : GoodIn wsL_does (wsV RL 42 RX5 yX5_move wsX5_move) := goodIn_app (goodIn_of _ (by decide +kernel)) ggL_does_X5_move
set_option maxRecDepth 20000 in
theorem ggL_does_X5_set : GoodIn wsL_does wsX5_set := goodIn_ca (goodIn_ca (goodIn_r _ [220, 19, 20, 7, 221, 222, 223, 4, 224, 153, 154, 225, 226, 227, 228, 229, 230, 194, 195, 196, 197, 14, 112, 113, 114, 115, 116, 117, 118, 119, 120, 121, 122, 123, 124, 125, 126, 127, 128, 129, 130, 131, 132, 133, 134, 135, 136, 137, 37, 138, 39, 139, 41, 42, 43, 97, 169, 35, 36, 38, 231, 232, 233, 234, 235, 236, 237, 238, 239, 240, 241, 242, 243, 253, 254, 255, 256] (by decide +kernel) (by decide +kernel)) (goodIn_sub (fun _ h => List.mem_cons_of_mem _ (List.mem_append_left _ (List.mem_append_left _ (List.mem_append_right _ h)))) (by decide +kernel))) (goodIn_sub (fun _ h => List.mem_cons_of_mem _ (List.mem_append_right _ h)) (by decide +kernel))
set_option maxRecDepth 20000 in
theorem gL_does_X5_set : GoodIn wsL_does (wsV RL 45 RX5 yX5_set wsX5_set) := goodIn_app (goodIn_of _ (by decide +kernel)) ggL_does_X5_set
theorem dL_does_0 : decode cL_does 0 = .ok (.aload_n 0, 1) := by decide +kernel
theorem dL_does_1 : decode cL_does 1 = .ok (.iconst 0, 1) := by decide +kernel
theorem dL_does_2 : decode cL_does 2 = .ok (.invokevirtual 8, 3) := by decide +kernel
theorem dL_does_5 : decode cL_does 5 = .ok (.istore_n 2, 1) := by decide +kernel
theorem dL_does_6 : decode cL_does 6 = .ok (.iload_n 1, 1) := by decide +kernel
theorem dL_does_7 : decode cL_does 7 = .ok (.iconst 4, 1) := by decide +kernel
theorem dL_does_8 : decode cL_does 8 = .ok (.ishr, 1) := by decide +kernel
theorem dL_does_9 : decode cL_does 9 = .ok (.iload_n 2, 1) := by decide +kernel
theorem dL_does_10 : decode cL_does 10 = .ok (.iconst 1, 1) := by decide +kernel
theorem dL_does_11 : decode cL_does 11 = .ok (.iadd, 1) := by decide +kernel
theorem dL_does_12 : decode cL_does 12 = .ok (.invokestatic 14, 3) := by decide +kernel
theorem dL_does_15 : decode cL_does 15 = .ok (.istore_n 3, 1) := by decide +kernel
theorem dL_does_16 : decode cL_does 16 = .ok (.iload_n 1, 1) := by decide +kernel
theorem dL_does_17 : decode cL_does 17 = .ok (.bipush 9, 2) := by decide +kernel
theorem dL_does_19 : decode cL_does 19 = .ok (.ishr, 1) := by decide +kernel
theorem dL_does_20 : decode cL_does 20 = .ok (.iload_n 2, 1) := by decide +kernel
theorem dL_does_21 : decode cL_does 21 = .ok (.iconst 1, 1) := by decide +kernel
theorem dL_does_22 : decode cL_does 22 = .ok (.iadd, 1) := by decide +kernel
theorem dL_does_23 : decode cL_does 23 = .ok (.invokestatic 14, 3) := by decide +kernel
theorem dL_does_26 : decode cL_does 26 = .ok (.istore 4, 2) := by decide +kernel
theorem dL_does_28 : decode cL_does 28 = .ok (.iload_n 1, 1) := by decide +kernel
theorem dL_does_29 : decode cL_does 29 = .ok (.iconst 4, 1) := by decide +kernel
theorem dL_does_30 : decode cL_does 30 = .ok (.ishr, 1) := by decide +kernel
theorem dL_does_31 : decode cL_does 31 = .ok (.iload_n 2, 1) := by decide +kernel
theorem dL_does_32 : decode cL_does 32 = .ok (.invokestatic 14, 3) := by decide +kernel
theorem dL_does_35 : decode cL_does 35 = .ok (.istore 5, 2) := by decide +kernel
theorem dL_does_37 : decode cL_does 37 = .ok (.iload_n 1, 1) := by decide +kernel
theorem dL_does_38 : decode cL_does 38 = .ok (.bipush 15, 2) := by decide +kernel
theorem dL_does_40 : decode cL_does 40 = .ok (.iand, 1) := by decide +kernel
theorem dL_does_41 : decode cL_does 41 = .ok (.tableswitch 193 0 11 #[63, 63, 63, 92, 108, 125, 130, 130, 130, 145, 160, 175], 63) := by decide +kernel
theorem dL_does_104 : decode cL_does 104 = .ok (.iload_n 2, 1) := by decide +kernel
theorem dL_does_105 : decode cL_does 105 = .ok (.bipush 20, 2) := by decide +kernel
theorem dL_does_107 : decode cL_does 107 = .ok (.if_icmp .ge 19, 3) := by decide +kernel
theorem dL_does_110 : decode cL_does 110 = .ok (.aload_n 0, 1) := by decide +kernel
theorem dL_does_111 : decode cL_does 111 = .ok (.iload_n 1, 1) := by decide +kernel
theorem dL_does_112 : decode cL_does 112 = .ok (.iconst 4, 1) := by decide +kernel
theorem dL_does_113 : decode cL_does 113 = .ok (.ishr, 1) := by decide +kernel
theorem dL_does_114 : decode cL_does 114 = .ok (.iconst 5, 1) := by decide +kernel
theorem dL_does_115 : decode cL_does 115 = .ok (.invokestatic 14, 3) := by decide +kernel
theorem dL_does_118 : decode cL_does 118 = .ok (.iconst 2, 1) := by decide +kernel
theorem dL_does_119 : decode cL_does 119 = .ok (.isub, 1) := by decide +kernel
theorem dL_does_120 : decode cL_does 120 = .ok (.invokevirtual 20, 3) := by decide +kernel
theorem dL_does_123 : decode cL_does 123 = .ok (.goto 9, 3) := by decide +kernel
theorem dL_does_126 : decode cL_does 126 = .ok (.aload_n 0, 1) := by decide +kernel
theorem dL_does_127 : decode cL_does 127 = .ok (.iload 5, 2) := by decide +kernel
theorem dL_does_129 : decode cL_does 129 = .ok (.invokevirtual 23, 3) := by decide +kernel
theorem dL_does_132 : decode cL_does 132 = .ok (.ireturn, 1) := by decide +kernel
theorem dL_does_133 : decode cL_does 133 = .ok (.iload_n 2, 1) := by decide +kernel
theorem dL_does_134 : decode cL_does 134 = .ok (.iconst 1, 1) := by decide +kernel
theorem dL_does_135 : decode cL_does 135 = .ok (.if_icmp .le 12, 3) := by decide +kernel
theorem dL_does_138 : decode cL_does 138 = .ok (.aload_n 0, 1) := by decide +kernel
theorem dL_does_139 : decode cL_does 139 = .ok (.iload 5, 2) := by decide +kernel
theorem dL_does_141 : decode cL_does 141 = .ok (.invokevirtual 23, 3) := by decide +kernel
theorem dL_does_144 : decode cL_does 144 = .ok (.goto 4, 3) := by decide +kernel
theorem dL_does_147 : decode cL_does 147 = .ok (.iconst 0, 1) := by decide +kernel
theorem dL_does_148 : decode cL_does 148 = .ok (.ireturn, 1) := by decide +kernel
theorem dL_does_149 : decode cL_does 149 = .ok (.aload_n 0, 1) := by decide +kernel
theorem dL_does_150 : decode cL_does 150 = .ok (.iload 5, 2) := by decide +kernel
theorem dL_does_152 : decode cL_does 152 = .ok (.iload_n 1, 1) := by decide +kernel
theorem dL_does_153 : decode cL_does 153 = .ok (.bipush 9, 2) := by decide +kernel
theorem dL_does_155 : decode cL_does 155 = .ok (.ishr, 1) := by decide +kernel
theorem dL_does_156 : decode cL_does 156 = .ok (.iconst 5, 1) := by decide +kernel
theorem dL_does_157 : decode cL_does 157 = .ok (.invokestatic 14, 3) := by decide +kernel
theorem dL_does_160 : decode cL_does 160 = .ok (.iconst 2, 1) := by decide +kernel
theorem dL_does_161 : decode cL_does 161 = .ok (.isub, 1) := by decide +kernel
theorem dL_does_162 : decode cL_does 162 = .ok (.invokevirtual 26, 3) := by decide +kernel
theorem dL_does_165 : decode cL_does 165 = .ok (.ireturn, 1) := by decide +kernel
theorem dL_does_166 : decode cL_does 166 = .ok (.aload_n 0, 1) := by decide +kernel
theorem dL_does_167 : decode cL_does 167 = .ok (.invokevirtual 29, 3) := by decide +kernel
theorem dL_does_170 : decode cL_does 170 = .ok (.ireturn, 1) := by decide +kernel
theorem dL_does_171 : decode cL_does 171 = .ok (.aload_n 0, 1) := by decide +kernel
theorem dL_does_172 : decode cL_does 172 = .ok (.iload_n 3, 1) := by decide +kernel
theorem dL_does_173 : decode cL_does 173 = .ok (.iload_n 1, 1) := by decide +kernel
theorem dL_does_174 : decode cL_does 174 = .ok (.bipush 9, 2) := by decide +kernel
theorem dL_does_176 : decode cL_does 176 = .ok (.ishr, 1) := by decide +kernel
theorem dL_does_177 : decode cL_does 177 = .ok (.bipush 100, 2) := by decide +kernel
theorem dL_does_179 : decode cL_does 179 = .ok (.invokestatic 14, 3) := by decide +kernel
theorem dL_does_182 : decode cL_does 182 = .ok (.invokevirtual 33, 3) := by decide +kernel
theorem dL_does_185 : decode cL_does 185 = .ok (.ireturn, 1) := by decide +kernel
theorem dL_does_186 : decode cL_does 186 = .ok (.aload_n 0, 1) := by decide +kernel
theorem dL_does_187 : decode cL_does 187 = .ok (.iload_n 3, 1) := by decide +kernel
theorem dL_does_188 : decode cL_does 188 = .ok (.iload_n 1, 1) := by decide +kernel
theorem dL_does_189 : decode cL_does 189 = .ok (.bipush 9, 2) := by decide +kernel
theorem dL_does_191 : decode cL_does 191 = .ok (.ishr, 1) := by decide +kernel
theorem dL_does_192 : decode cL_does 192 = .ok (.bipush 60, 2) := by decide +kernel
theorem dL_does_194 : decode cL_does 194 = .ok (.invokestatic 14, 3) := by decide +kernel
theorem dL_does_197 : decode cL_does 197 = .ok (.invokevirtual 36, 3) := by decide +kernel
theorem dL_does_200 : decode cL_does 200 = .ok (.ireturn, 1) := by decide +kernel
theorem dL_does_201 : decode cL_does 201 = .ok (.aload_n 0, 1) := by decide +kernel
theorem dL_does_202 : decode cL_does 202 = .ok (.iload_n 3, 1) := by decide +kernel
theorem dL_does_203 : decode cL_does 203 = .ok (.iload_n 1, 1) := by decide +kernel
theorem dL_does_204 : decode cL_does 204 = .ok (.bipush 9, 2) := by decide +kernel
theorem dL_does_206 : decode cL_does 206 = .ok (.ishr, 1) := by decide +kernel
theorem dL_does_207 : decode cL_does 207 = .ok (.bipush 60, 2) := by decide +kernel
theorem dL_does_209 : decode cL_does 209 = .ok (.invokestatic 14, 3) := by decide +kernel
theorem dL_does_212 : decode cL_does 212 = .ok (.invokevirtual 39, 3) := by decide +kernel
theorem dL_does_215 : decode cL_does 215 = .ok (.ireturn, 1) := by decide +kernel
theorem dL_does_216 : decode cL_does 216 = .ok (.iload_n 3, 1) := by decide +kernel
theorem dL_does_217 : decode cL_does 217 = .ok (.iload 4, 2) := by decide +kernel
theorem dL_does_219 : decode cL_does 219 = .ok (.if_icmp .ne 7, 3) := by decide +kernel
theorem dL_does_222 : decode cL_does 222 = .ok (.iconst 0, 1) := by decide +kernel
theorem dL_does_223 : decode cL_does 223 = .ok (.goto 10, 3) := by decide +kernel
theorem dL_does_226 : decode cL_does 226 = .ok (.aload_n 0, 1) := by decide +kernel
theorem dL_does_227 : decode cL_does 227 = .ok (.iload_n 3, 1) := by decide +kernel
theorem dL_does_228 : decode cL_does 228 = .ok (.iload 4, 2) := by decide +kernel
theorem dL_does_230 : decode cL_does 230 = .ok (.invokevirtual 42, 3) := by decide +kernel
theorem dL_does_233 : decode cL_does 233 = .ok (.ireturn, 1) := by decide +kernel
theorem dL_does_234 : decode cL_does 234 = .ok (.iload_n 1, 1) := by decide +kernel
theorem dL_does_235 : decode cL_does 235 = .ok (.iconst 4, 1) := by decide +kernel
theorem dL_does_236 : decode cL_does 236 = .ok (.ishr, 1) := by decide +kernel
theorem dL_does_237 : decode cL_does 237 = .ok (.iconst 4, 1) := by decide +kernel
theorem dL_does_238 : decode cL_does 238 = .ok (.invokestatic 14, 3) := by decide +kernel
theorem dL_does_241 : decode cL_does 241 = .ok (.istore 6, 2) := by decide +kernel
theorem dL_does_243 : decode cL_does 243 = .ok (.aload_n 0, 1) := by decide +kernel
theorem dL_does_244 : decode cL_does 244 = .ok (.iload 6, 2) := by decide +kernel
theorem dL_does_246 : decode cL_does 246 = .ok (.iload 6, 2) := by decide +kernel
theorem dL_does_248 : decode cL_does 248 = .ok (.iconst 1, 1) := by decide +kernel
theorem dL_does_249 : decode cL_does 249 = .ok (.if_icmp .ne 18, 3) := by decide +kernel
theorem dL_does_252 : decode cL_does 252 = .ok (.iload_n 1, 1) := by decide +kernel
theorem dL_does_253 : decode cL_does 253 = .ok (.bipush 6, 2) := by decide +kernel
theorem dL_does_255 : decode cL_does 255 = .ok (.ishr, 1) := by decide +kernel
theorem dL_does_256 : decode cL_does 256 = .ok (.bipush 13, 2) := by decide +kernel
theorem dL_does_258 : decode cL_does 258 = .ok (.invokestatic 14, 3) := by decide +kernel
theorem dL_does_261 : decode cL_does 261 = .ok (.bipush 6, 2) := by decide +kernel
theorem dL_does_263 : decode cL_does 263 = .ok (.isub, 1) := by decide +kernel
theorem dL_does_264 : decode cL_does 264 = .ok (.goto 33, 3) := by decide +kernel
theorem dL_does_267 : decode cL_does 267 = .ok (.iload 6, 2) := by decide +kernel
theorem dL_does_269 : decode cL_does 269 = .ok (.iconst 3, 1) := by decide +kernel
theorem dL_does_270 : decode cL_does 270 = .ok (.if_icmp .ne 18, 3) := by decide +kernel
theorem dL_does_273 : decode cL_does 273 = .ok (.iconst 1, 1) := by decide +kernel
theorem dL_does_274 : decode cL_does 274 = .ok (.iload_n 1, 1) := by decide +kernel
theorem dL_does_275 : decode cL_does 275 = .ok (.bipush 6, 2) := by decide +kernel
theorem dL_does_277 : decode cL_does 277 = .ok (.ishr, 1) := by decide +kernel
theorem dL_does_278 : decode cL_does 278 = .ok (.sipush 300, 3) := by decide +kernel
theorem dL_does_281 : decode cL_does 281 = .ok (.invokestatic 14, 3) := by decide +kernel
theorem dL_does_284 : decode cL_does 284 = .ok (.iadd, 1) := by decide +kernel
theorem dL_does_285 : decode cL_does 285 = .ok (.goto 12, 3) := by decide +kernel
theorem dL_does_288 : decode cL_does 288 = .ok (.iload_n 1, 1) := by decide +kernel
theorem dL_does_289 : decode cL_does 289 = .ok (.bipush 6, 2) := by decide +kernel
theorem dL_does_291 : decode cL_does 291 = .ok (.ishr, 1) := by decide +kernel
theorem dL_does_292 : decode cL_does 292 = .ok (.bipush 21, 2) := by decide +kernel
theorem dL_does_294 : decode cL_does 294 = .ok (.invokestatic 14, 3) := by decide +kernel
theorem dL_does_297 : decode cL_does 297 = .ok (.invokevirtual 45, 3) := by decide +kernel
theorem dL_does_300 : decode cL_does 300 = .ok (.ireturn, 1) := by decide +kernel
set_option maxRecDepth 20000 in
theorem ggL_areJointsSo_X5_count : GoodIn wsL_areJointsSo wsX5_count := goodIn_ca (goodIn_r _ [5, 6, 7, 8, 9, 10, 11, 12, 13, 14, 15, 16, 17, 4, 18, 19, 20, 21, 22, 23, 24, 25, 26, 27, 28, 29, 30, 31, 32, 33, 34, 35, 36, 37, 38, 39, 40, 41, 42, 43, 44, 45, 46, 47, 48, 49, 50, 51, 52, 53, 54, 55, 56, 57, 58, 59, 60, 61, 62, 63, 64, 65, 66, 67, 68, 69, 70, 71, 72, 73, 74, 75, 76, 77, 78, 79, 80, 81, 82, 83, 84, 85, 86, 87, 88, 89, 90, 91, 92, 93, 94, 95, 96, 97, 133, 134, 135, 136, 137, 138, 139, 140, 141, 142, 143, 144, 145, 146, 147, 148, 149, 150, 151, 152, 153, 154, 155, 156, 157, 158] (by decide +kernel) (by decide +kernel)) (goodIn_sub (fun _ h => List.mem_cons_of_mem _ (List.mem_append_left _ (List.mem_append_right _ h))) (by decide +kernel))
set_option maxRecDepth 20000 in
theorem gL_areJointsSo_X5_count : GoodIn wsL_areJointsSo (wsV RL 8 RX5 yX5_count wsX5_count) := goodIn_app (goodIn_of _ (by decide +kernel)) ggL_areJointsSo_X5_count
set_option maxRecDepth 20000 in
theorem ggL_areJointsSo_X5_joint : GoodIn wsL_areJointsSo wsX5_joint := goodIn_ca (goodIn_ca (goodIn_r _ [101, 6, 7, 13, 9, 102, 103, 104, 105, 106, 107, 108, 109, 110, 4, 111, 112, 113, 8, 16, 17, 18, 19, 20, 21, 22, 23, 24, 25, 26, 27, 28, 29, 30, 31, 32, 33, 34, 35, 36, 37, 38, 39, 40, 41, 42, 43, 44, 45, 46, 47, 48, 49, 50, 51, 52, 53, 54, 55, 56, 57, 58, 59, 60, 61, 62, 63, 64, 65, 66, 67, 68, 69, 70, 71, 72, 73, 74, 75, 76, 97, 133, 134, 135, 136, 137, 138, 139, 146, 147, 148, 149, 150, 151, 152, 153, 154, 140, 141, 142, 143, 144, 145, 158] (by decide +kernel) (by decide +kernel)) (goodIn_sub (fun _ h => List.mem_cons_of_mem _ (List.mem_append_right _ h)) (by decide +kernel))) (goodIn_sub (fun _ h => List.mem_cons_of_mem _ (List.mem_append_left _ (List.mem_append_right _ h))) (by decide +kernel))
set_option maxRecDepth 20000 in
theorem gL_areJointsSo_X5_joint : GoodIn wsL_areJointsSo (wsV RL 48 RX5 yX5_joint wsX5_joint) := goodIn_app (goodIn_of _ (by decide +kernel)) ggL_areJointsSo_X5_joint
set_option maxRecDepth 20000 in
theorem ggL_areJointsSo_X5_setting : GoodIn wsL_areJointsSo wsX5_setting := goodIn_ca (goodIn_r _ [117, 7, 118, 119, 120, 4, 121, 112, 113, 97, 41, 42, 37, 43, 39, 133, 134, 135, 136, 137, 138, 139, 140, 141, 142, 143, 144, 145, 158] (by decide +kernel) (by decide +kernel)) (goodIn_sub (fun _ h => List.mem_cons_of_mem _ (List.mem_append_right _ h)) (by decide +kernel))
set_option maxRecDepth 20000 in
theorem gL_areJointsSo_X5_setting : GoodIn wsL_areJointsSo (wsV RL 51 RX5 yX5_setting wsX5_setting) := goodIn_app (goodIn_of _ (by decide +kernel)) ggL_areJointsSo_X5_setting
set_option maxRecDepth 20000 in
theorem ggL_areJointsSo_X5_linkOf : GoodIn wsL_areJointsSo wsX5_linkOf := goodIn_ca (goodIn_ca (goodIn_r _ [125, 6, 7, 126, 127, 128, 129, 130, 4, 131, 112, 113, 8, 16, 17, 18, 19, 20, 21, 22, 23, 24, 25, 26, 27, 28, 29, 30, 31, 32, 33, 34, 35, 36, 37, 38, 39, 40, 41, 42, 43, 44, 45, 46, 47, 48, 49, 50, 51, 52, 53, 54, 55, 56, 57, 58, 59, 60, 61, 62, 63, 64, 65, 66, 67, 68, 69, 70, 71, 72, 73, 74, 75, 76, 97, 132, 86, 87, 88, 133, 134, 135, 136, 137, 138, 139, 140, 141, 142, 143, 144, 145, 146, 147, 148, 149, 150, 151, 152, 153, 154, 158] (by decide +kernel) (by decide +kernel)) (goodIn_sub (fun _ h => List.mem_cons_of_mem _ (List.mem_append_right _ h)) (by decide +kernel))) (goodIn_sub (fun _ h => List.mem_cons_of_mem _ (List.mem_append_left _ (List.mem_append_right _ h))) (by decide +kernel))
set_option maxRecDepth 20000 in
theorem gL_areJointsSo_X5_linkOf : GoodIn wsL_areJointsSo (wsV RL 54 RX5 yX5_linkOf wsX5_linkOf) := goodIn_app (goodIn_of _ (by decide +kernel)) ggL_areJointsSo_X5_linkOf
theorem dL_areJointsSo_0 : decode cL_areJointsSo 0 = .ok (.aload_n 0, 1) := by decide +kernel
theorem dL_areJointsSo_1 : decode cL_areJointsSo 1 = .ok (.iconst 0, 1) := by decide +kernel
theorem dL_areJointsSo_2 : decode cL_areJointsSo 2 = .ok (.invokevirtual 8, 3) := by decide +kernel
theorem dL_areJointsSo_5 : decode cL_areJointsSo 5 = .ok (.istore_n 1, 1) := by decide +kernel
theorem dL_areJointsSo_6 : decode cL_areJointsSo 6 = .ok (.iconst 0, 1) := by decide +kernel
theorem dL_areJointsSo_7 : decode cL_areJointsSo 7 = .ok (.istore_n 2, 1) := by decide +kernel
theorem dL_areJointsSo_8 : decode cL_areJointsSo 8 = .ok (.iconst 0, 1) := by decide +kernel
theorem dL_areJointsSo_9 : decode cL_areJointsSo 9 = .ok (.istore_n 3, 1) := by decide +kernel
theorem dL_areJointsSo_10 : decode cL_areJointsSo 10 = .ok (.iconst 0, 1) := by decide +kernel
theorem dL_areJointsSo_11 : decode cL_areJointsSo 11 = .ok (.istore 4, 2) := by decide +kernel
theorem dL_areJointsSo_13 : decode cL_areJointsSo 13 = .ok (.iconst 0, 1) := by decide +kernel
theorem dL_areJointsSo_14 : decode cL_areJointsSo 14 = .ok (.istore 5, 2) := by decide +kernel
theorem dL_areJointsSo_16 : decode cL_areJointsSo 16 = .ok (.aload_n 0, 1) := by decide +kernel
theorem dL_areJointsSo_17 : decode cL_areJointsSo 17 = .ok (.iconst 0, 1) := by decide +kernel
theorem dL_areJointsSo_18 : decode cL_areJointsSo 18 = .ok (.iconst 0, 1) := by decide +kernel
theorem dL_areJointsSo_19 : decode cL_areJointsSo 19 = .ok (.invokevirtual 48, 3) := by decide +kernel
theorem dL_areJointsSo_22 : decode cL_areJointsSo 22 = .ok (.bipush 100, 2) := by decide +kernel
theorem dL_areJointsSo_24 : decode cL_areJointsSo 24 = .ok (.if_icmp .ne 7, 3) := by decide +kernel
theorem dL_areJointsSo_27 : decode cL_areJointsSo 27 = .ok (.iconst 1, 1) := by decide +kernel
theorem dL_areJointsSo_28 : decode cL_areJointsSo 28 = .ok (.goto 4, 3) := by decide +kernel
theorem dL_areJointsSo_31 : decode cL_areJointsSo 31 = .ok (.iconst 0, 1) := by decide +kernel
theorem dL_areJointsSo_32 : decode cL_areJointsSo 32 = .ok (.istore 6, 2) := by decide +kernel
theorem dL_areJointsSo_34 : decode cL_areJointsSo 34 = .ok (.iconst 0, 1) := by decide +kernel
theorem dL_areJointsSo_35 : decode cL_areJointsSo 35 = .ok (.istore 7, 2) := by decide +kernel
theorem dL_areJointsSo_37 : decode cL_areJointsSo 37 = .ok (.iload 7, 2) := by decide +kernel
theorem dL_areJointsSo_39 : decode cL_areJointsSo 39 = .ok (.iload_n 1, 1) := by decide +kernel
theorem dL_areJointsSo_40 : decode cL_areJointsSo 40 = .ok (.if_icmp .gt 343, 3) := by decide +kernel
theorem dL_areJointsSo_43 : decode cL_areJointsSo 43 = .ok (.aload_n 0, 1) := by decide +kernel
theorem dL_areJointsSo_44 : decode cL_areJointsSo 44 = .ok (.iload 7, 2) := by decide +kernel
theorem dL_areJointsSo_46 : decode cL_areJointsSo 46 = .ok (.iconst 4, 1) := by decide +kernel
theorem dL_areJointsSo_47 : decode cL_areJointsSo 47 = .ok (.invokevirtual 48, 3) := by decide +kernel
theorem dL_areJointsSo_50 : decode cL_areJointsSo 50 = .ok (.istore 8, 2) := by decide +kernel
theorem dL_areJointsSo_52 : decode cL_areJointsSo 52 = .ok (.iload 7, 2) := by decide +kernel
theorem dL_areJointsSo_54 : decode cL_areJointsSo 54 = .ok (.ifCond .le 13, 3) := by decide +kernel
theorem dL_areJointsSo_57 : decode cL_areJointsSo 57 = .ok (.iload 7, 2) := by decide +kernel
theorem dL_areJointsSo_59 : decode cL_areJointsSo 59 = .ok (.iload_n 1, 1) := by decide +kernel
theorem dL_areJointsSo_60 : decode cL_areJointsSo 60 = .ok (.if_icmp .ge 7, 3) := by decide +kernel
theorem dL_areJointsSo_63 : decode cL_areJointsSo 63 = .ok (.iconst 1, 1) := by decide +kernel
theorem dL_areJointsSo_64 : decode cL_areJointsSo 64 = .ok (.goto 4, 3) := by decide +kernel
theorem dL_areJointsSo_67 : decode cL_areJointsSo 67 = .ok (.iconst 0, 1) := by decide +kernel
theorem dL_areJointsSo_68 : decode cL_areJointsSo 68 = .ok (.istore 9, 2) := by decide +kernel
theorem dL_areJointsSo_70 : decode cL_areJointsSo 70 = .ok (.iload_n 2, 1) := by decide +kernel
theorem dL_areJointsSo_71 : decode cL_areJointsSo 71 = .ok (.aload_n 0, 1) := by decide +kernel
theorem dL_areJointsSo_72 : decode cL_areJointsSo 72 = .ok (.iload 7, 2) := by decide +kernel
theorem dL_areJointsSo_74 : decode cL_areJointsSo 74 = .ok (.iconst 1, 1) := by decide +kernel
theorem dL_areJointsSo_75 : decode cL_areJointsSo 75 = .ok (.invokevirtual 48, 3) := by decide +kernel
theorem dL_areJointsSo_78 : decode cL_areJointsSo 78 = .ok (.iadd, 1) := by decide +kernel
theorem dL_areJointsSo_79 : decode cL_areJointsSo 79 = .ok (.istore_n 2, 1) := by decide +kernel
theorem dL_areJointsSo_80 : decode cL_areJointsSo 80 = .ok (.iload_n 3, 1) := by decide +kernel
theorem dL_areJointsSo_81 : decode cL_areJointsSo 81 = .ok (.aload_n 0, 1) := by decide +kernel
theorem dL_areJointsSo_82 : decode cL_areJointsSo 82 = .ok (.iload 7, 2) := by decide +kernel
theorem dL_areJointsSo_84 : decode cL_areJointsSo 84 = .ok (.bipush 7, 2) := by decide +kernel
theorem dL_areJointsSo_86 : decode cL_areJointsSo 86 = .ok (.invokevirtual 48, 3) := by decide +kernel
theorem dL_areJointsSo_89 : decode cL_areJointsSo 89 = .ok (.iadd, 1) := by decide +kernel
theorem dL_areJointsSo_90 : decode cL_areJointsSo 90 = .ok (.istore_n 3, 1) := by decide +kernel
theorem dL_areJointsSo_91 : decode cL_areJointsSo 91 = .ok (.iload 4, 2) := by decide +kernel
theorem dL_areJointsSo_93 : decode cL_areJointsSo 93 = .ok (.aload_n 0, 1) := by decide +kernel
theorem dL_areJointsSo_94 : decode cL_areJointsSo 94 = .ok (.iload 7, 2) := by decide +kernel
theorem dL_areJointsSo_96 : decode cL_areJointsSo 96 = .ok (.bipush 7, 2) := by decide +kernel
theorem dL_areJointsSo_98 : decode cL_areJointsSo 98 = .ok (.invokevirtual 48, 3) := by decide +kernel
theorem dL_areJointsSo_101 : decode cL_areJointsSo 101 = .ok (.iload 7, 2) := by decide +kernel
theorem dL_areJointsSo_103 : decode cL_areJointsSo 103 = .ok (.imul, 1) := by decide +kernel
theorem dL_areJointsSo_104 : decode cL_areJointsSo 104 = .ok (.iload_n 1, 1) := by decide +kernel
theorem dL_areJointsSo_105 : decode cL_areJointsSo 105 = .ok (.idiv, 1) := by decide +kernel
theorem dL_areJointsSo_106 : decode cL_areJointsSo 106 = .ok (.iadd, 1) := by decide +kernel
theorem dL_areJointsSo_107 : decode cL_areJointsSo 107 = .ok (.istore 4, 2) := by decide +kernel
theorem dL_areJointsSo_109 : decode cL_areJointsSo 109 = .ok (.aload_n 0, 1) := by decide +kernel
theorem dL_areJointsSo_110 : decode cL_areJointsSo 110 = .ok (.iload 7, 2) := by decide +kernel
theorem dL_areJointsSo_112 : decode cL_areJointsSo 112 = .ok (.iconst 0, 1) := by decide +kernel
theorem dL_areJointsSo_113 : decode cL_areJointsSo 113 = .ok (.invokevirtual 48, 3) := by decide +kernel
theorem dL_areJointsSo_116 : decode cL_areJointsSo 116 = .ok (.aload_n 0, 1) := by decide +kernel
theorem dL_areJointsSo_117 : decode cL_areJointsSo 117 = .ok (.iload 5, 2) := by decide +kernel
theorem dL_areJointsSo_119 : decode cL_areJointsSo 119 = .ok (.iconst 0, 1) := by decide +kernel
theorem dL_areJointsSo_120 : decode cL_areJointsSo 120 = .ok (.invokevirtual 48, 3) := by decide +kernel
theorem dL_areJointsSo_123 : decode cL_areJointsSo 123 = .ok (.if_icmp .ge 8, 3) := by decide +kernel
theorem dL_areJointsSo_126 : decode cL_areJointsSo 126 = .ok (.iload 7, 2) := by decide +kernel
theorem dL_areJointsSo_128 : decode cL_areJointsSo 128 = .ok (.goto 5, 3) := by decide +kernel
theorem dL_areJointsSo_131 : decode cL_areJointsSo 131 = .ok (.iload 5, 2) := by decide +kernel
theorem dL_areJointsSo_133 : decode cL_areJointsSo 133 = .ok (.istore 5, 2) := by decide +kernel
theorem dL_areJointsSo_135 : decode cL_areJointsSo 135 = .ok (.iload 6, 2) := by decide +kernel
theorem dL_areJointsSo_137 : decode cL_areJointsSo 137 = .ok (.ifCond .eq 237, 3) := by decide +kernel
theorem dL_areJointsSo_140 : decode cL_areJointsSo 140 = .ok (.iload 8, 2) := by decide +kernel
theorem dL_areJointsSo_142 : decode cL_areJointsSo 142 = .ok (.iload 9, 2) := by decide +kernel
theorem dL_areJointsSo_144 : decode cL_areJointsSo 144 = .ok (.ifCond .eq 24, 3) := by decide +kernel
theorem dL_areJointsSo_147 : decode cL_areJointsSo 147 = .ok (.aload_n 0, 1) := by decide +kernel
theorem dL_areJointsSo_148 : decode cL_areJointsSo 148 = .ok (.iload 7, 2) := by decide +kernel
theorem dL_areJointsSo_150 : decode cL_areJointsSo 150 = .ok (.iconst 1, 1) := by decide +kernel
theorem dL_areJointsSo_151 : decode cL_areJointsSo 151 = .ok (.invokevirtual 48, 3) := by decide +kernel
theorem dL_areJointsSo_154 : decode cL_areJointsSo 154 = .ok (.iconst 2, 1) := by decide +kernel
theorem dL_areJointsSo_155 : decode cL_areJointsSo 155 = .ok (.aload_n 0, 1) := by decide +kernel
theorem dL_areJointsSo_156 : decode cL_areJointsSo 156 = .ok (.iconst 0, 1) := by decide +kernel
theorem dL_areJointsSo_157 : decode cL_areJointsSo 157 = .ok (.invokevirtual 51, 3) := by decide +kernel
theorem dL_areJointsSo_160 : decode cL_areJointsSo 160 = .ok (.bipush 100, 2) := by decide +kernel
theorem dL_areJointsSo_162 : decode cL_areJointsSo 162 = .ok (.isub, 1) := by decide +kernel
theorem dL_areJointsSo_163 : decode cL_areJointsSo 163 = .ok (.imul, 1) := by decide +kernel
theorem dL_areJointsSo_164 : decode cL_areJointsSo 164 = .ok (.iadd, 1) := by decide +kernel
theorem dL_areJointsSo_165 : decode cL_areJointsSo 165 = .ok (.goto 4, 3) := by decide +kernel
theorem dL_areJointsSo_168 : decode cL_areJointsSo 168 = .ok (.iconst 0, 1) := by decide +kernel
theorem dL_areJointsSo_169 : decode cL_areJointsSo 169 = .ok (.if_icmp .ne 205, 3) := by decide +kernel
theorem dL_areJointsSo_172 : decode cL_areJointsSo 172 = .ok (.iload 8, 2) := by decide +kernel
theorem dL_areJointsSo_174 : decode cL_areJointsSo 174 = .ok (.aload_n 0, 1) := by decide +kernel
theorem dL_areJointsSo_175 : decode cL_areJointsSo 175 = .ok (.iload 7, 2) := by decide +kernel
theorem dL_areJointsSo_177 : decode cL_areJointsSo 177 = .ok (.iconst 5, 1) := by decide +kernel
theorem dL_areJointsSo_178 : decode cL_areJointsSo 178 = .ok (.invokevirtual 48, 3) := by decide +kernel
theorem dL_areJointsSo_181 : decode cL_areJointsSo 181 = .ok (.aload_n 0, 1) := by decide +kernel
theorem dL_areJointsSo_182 : decode cL_areJointsSo 182 = .ok (.iload 7, 2) := by decide +kernel
theorem dL_areJointsSo_184 : decode cL_areJointsSo 184 = .ok (.bipush 6, 2) := by decide +kernel
theorem dL_areJointsSo_186 : decode cL_areJointsSo 186 = .ok (.invokevirtual 48, 3) := by decide +kernel
theorem dL_areJointsSo_189 : decode cL_areJointsSo 189 = .ok (.iadd, 1) := by decide +kernel
theorem dL_areJointsSo_190 : decode cL_areJointsSo 190 = .ok (.aload_n 0, 1) := by decide +kernel
theorem dL_areJointsSo_191 : decode cL_areJointsSo 191 = .ok (.iload 7, 2) := by decide +kernel
theorem dL_areJointsSo_193 : decode cL_areJointsSo 193 = .ok (.bipush 7, 2) := by decide +kernel
theorem dL_areJointsSo_195 : decode cL_areJointsSo 195 = .ok (.invokevirtual 48, 3) := by decide +kernel
theorem dL_areJointsSo_198 : decode cL_areJointsSo 198 = .ok (.iadd, 1) := by decide +kernel
theorem dL_areJointsSo_199 : decode cL_areJointsSo 199 = .ok (.if_icmp .ne 175, 3) := by decide +kernel
theorem dL_areJointsSo_202 : decode cL_areJointsSo 202 = .ok (.aload_n 0, 1) := by decide +kernel
theorem dL_areJointsSo_203 : decode cL_areJointsSo 203 = .ok (.iload 7, 2) := by decide +kernel
theorem dL_areJointsSo_205 : decode cL_areJointsSo 205 = .ok (.iconst 5, 1) := by decide +kernel
theorem dL_areJointsSo_206 : decode cL_areJointsSo 206 = .ok (.invokevirtual 48, 3) := by decide +kernel
theorem dL_areJointsSo_209 : decode cL_areJointsSo 209 = .ok (.aload_n 0, 1) := by decide +kernel
theorem dL_areJointsSo_210 : decode cL_areJointsSo 210 = .ok (.iload 7, 2) := by decide +kernel
theorem dL_areJointsSo_212 : decode cL_areJointsSo 212 = .ok (.iconst 2, 1) := by decide +kernel
theorem dL_areJointsSo_213 : decode cL_areJointsSo 213 = .ok (.invokevirtual 48, 3) := by decide +kernel
theorem dL_areJointsSo_216 : decode cL_areJointsSo 216 = .ok (.if_icmp .gt 158, 3) := by decide +kernel
theorem dL_areJointsSo_219 : decode cL_areJointsSo 219 = .ok (.aload_n 0, 1) := by decide +kernel
theorem dL_areJointsSo_220 : decode cL_areJointsSo 220 = .ok (.iload 7, 2) := by decide +kernel
theorem dL_areJointsSo_222 : decode cL_areJointsSo 222 = .ok (.bipush 6, 2) := by decide +kernel
theorem dL_areJointsSo_224 : decode cL_areJointsSo 224 = .ok (.invokevirtual 48, 3) := by decide +kernel
theorem dL_areJointsSo_227 : decode cL_areJointsSo 227 = .ok (.aload_n 0, 1) := by decide +kernel
theorem dL_areJointsSo_228 : decode cL_areJointsSo 228 = .ok (.iload 7, 2) := by decide +kernel
theorem dL_areJointsSo_230 : decode cL_areJointsSo 230 = .ok (.iconst 3, 1) := by decide +kernel
theorem dL_areJointsSo_231 : decode cL_areJointsSo 231 = .ok (.invokevirtual 48, 3) := by decide +kernel
theorem dL_areJointsSo_234 : decode cL_areJointsSo 234 = .ok (.if_icmp .gt 140, 3) := by decide +kernel
theorem dL_areJointsSo_237 : decode cL_areJointsSo 237 = .ok (.aload_n 0, 1) := by decide +kernel
theorem dL_areJointsSo_238 : decode cL_areJointsSo 238 = .ok (.iload 7, 2) := by decide +kernel
theorem dL_areJointsSo_240 : decode cL_areJointsSo 240 = .ok (.iconst 0, 1) := by decide +kernel
theorem dL_areJointsSo_241 : decode cL_areJointsSo 241 = .ok (.invokevirtual 48, 3) := by decide +kernel
theorem dL_areJointsSo_244 : decode cL_areJointsSo 244 = .ok (.aload_n 0, 1) := by decide +kernel
theorem dL_areJointsSo_245 : decode cL_areJointsSo 245 = .ok (.iconst 1, 1) := by decide +kernel
theorem dL_areJointsSo_246 : decode cL_areJointsSo 246 = .ok (.invokevirtual 51, 3) := by decide +kernel
theorem dL_areJointsSo_249 : decode cL_areJointsSo 249 = .ok (.if_icmp .le 14, 3) := by decide +kernel
theorem dL_areJointsSo_252 : decode cL_areJointsSo 252 = .ok (.aload_n 0, 1) := by decide +kernel
theorem dL_areJointsSo_253 : decode cL_areJointsSo 253 = .ok (.iload 7, 2) := by decide +kernel
theorem dL_areJointsSo_255 : decode cL_areJointsSo 255 = .ok (.bipush 6, 2) := by decide +kernel
theorem dL_areJointsSo_257 : decode cL_areJointsSo 257 = .ok (.invokevirtual 48, 3) := by decide +kernel
theorem dL_areJointsSo_260 : decode cL_areJointsSo 260 = .ok (.ifCond .ne 114, 3) := by decide +kernel
theorem dL_areJointsSo_263 : decode cL_areJointsSo 263 = .ok (.aload_n 0, 1) := by decide +kernel
theorem dL_areJointsSo_264 : decode cL_areJointsSo 264 = .ok (.iload 7, 2) := by decide +kernel
theorem dL_areJointsSo_266 : decode cL_areJointsSo 266 = .ok (.bipush 7, 2) := by decide +kernel
theorem dL_areJointsSo_268 : decode cL_areJointsSo 268 = .ok (.invokevirtual 48, 3) := by decide +kernel
theorem dL_areJointsSo_271 : decode cL_areJointsSo 271 = .ok (.ifCond .eq 20, 3) := by decide +kernel
theorem dL_areJointsSo_274 : decode cL_areJointsSo 274 = .ok (.aload_n 0, 1) := by decide +kernel
theorem dL_areJointsSo_275 : decode cL_areJointsSo 275 = .ok (.iload 7, 2) := by decide +kernel
theorem dL_areJointsSo_277 : decode cL_areJointsSo 277 = .ok (.iconst 5, 1) := by decide +kernel
theorem dL_areJointsSo_278 : decode cL_areJointsSo 278 = .ok (.invokevirtual 48, 3) := by decide +kernel
theorem dL_areJointsSo_281 : decode cL_areJointsSo 281 = .ok (.aload_n 0, 1) := by decide +kernel
theorem dL_areJointsSo_282 : decode cL_areJointsSo 282 = .ok (.iload 7, 2) := by decide +kernel
theorem dL_areJointsSo_284 : decode cL_areJointsSo 284 = .ok (.iconst 2, 1) := by decide +kernel
theorem dL_areJointsSo_285 : decode cL_areJointsSo 285 = .ok (.invokevirtual 48, 3) := by decide +kernel
theorem dL_areJointsSo_288 : decode cL_areJointsSo 288 = .ok (.if_icmp .ne 86, 3) := by decide +kernel
theorem dL_areJointsSo_291 : decode cL_areJointsSo 291 = .ok (.aload_n 0, 1) := by decide +kernel
theorem dL_areJointsSo_292 : decode cL_areJointsSo 292 = .ok (.iload 7, 2) := by decide +kernel
theorem dL_areJointsSo_294 : decode cL_areJointsSo 294 = .ok (.bipush 7, 2) := by decide +kernel
theorem dL_areJointsSo_296 : decode cL_areJointsSo 296 = .ok (.invokevirtual 48, 3) := by decide +kernel
theorem dL_areJointsSo_299 : decode cL_areJointsSo 299 = .ok (.ifCond .eq 36, 3) := by decide +kernel
theorem dL_areJointsSo_302 : decode cL_areJointsSo 302 = .ok (.aload_n 0, 1) := by decide +kernel
theorem dL_areJointsSo_303 : decode cL_areJointsSo 303 = .ok (.iload 7, 2) := by decide +kernel
theorem dL_areJointsSo_305 : decode cL_areJointsSo 305 = .ok (.iconst 0, 1) := by decide +kernel
theorem dL_areJointsSo_306 : decode cL_areJointsSo 306 = .ok (.invokevirtual 48, 3) := by decide +kernel
theorem dL_areJointsSo_309 : decode cL_areJointsSo 309 = .ok (.aload_n 0, 1) := by decide +kernel
theorem dL_areJointsSo_310 : decode cL_areJointsSo 310 = .ok (.iconst 1, 1) := by decide +kernel
theorem dL_areJointsSo_311 : decode cL_areJointsSo 311 = .ok (.invokevirtual 51, 3) := by decide +kernel
theorem dL_areJointsSo_314 : decode cL_areJointsSo 314 = .ok (.if_icmp .gt 21, 3) := by decide +kernel
theorem dL_areJointsSo_317 : decode cL_areJointsSo 317 = .ok (.aload_n 0, 1) := by decide +kernel
theorem dL_areJointsSo_318 : decode cL_areJointsSo 318 = .ok (.iload 7, 2) := by decide +kernel
theorem dL_areJointsSo_320 : decode cL_areJointsSo 320 = .ok (.bipush 6, 2) := by decide +kernel
theorem dL_areJointsSo_322 : decode cL_areJointsSo 322 = .ok (.invokevirtual 48, 3) := by decide +kernel
theorem dL_areJointsSo_325 : decode cL_areJointsSo 325 = .ok (.aload_n 0, 1) := by decide +kernel
theorem dL_areJointsSo_326 : decode cL_areJointsSo 326 = .ok (.iload 7, 2) := by decide +kernel
theorem dL_areJointsSo_328 : decode cL_areJointsSo 328 = .ok (.iconst 3, 1) := by decide +kernel
theorem dL_areJointsSo_329 : decode cL_areJointsSo 329 = .ok (.invokevirtual 48, 3) := by decide +kernel
theorem dL_areJointsSo_332 : decode cL_areJointsSo 332 = .ok (.if_icmp .ne 42, 3) := by decide +kernel
theorem dL_areJointsSo_335 : decode cL_areJointsSo 335 = .ok (.iload 7, 2) := by decide +kernel
theorem dL_areJointsSo_337 : decode cL_areJointsSo 337 = .ok (.iload_n 1, 1) := by decide +kernel
theorem dL_areJointsSo_338 : decode cL_areJointsSo 338 = .ok (.if_icmp .eq 32, 3) := by decide +kernel
theorem dL_areJointsSo_341 : decode cL_areJointsSo 341 = .ok (.aload_n 0, 1) := by decide +kernel
theorem dL_areJointsSo_342 : decode cL_areJointsSo 342 = .ok (.iload 7, 2) := by decide +kernel
theorem dL_areJointsSo_344 : decode cL_areJointsSo 344 = .ok (.iconst 1, 1) := by decide +kernel
theorem dL_areJointsSo_345 : decode cL_areJointsSo 345 = .ok (.iadd, 1) := by decide +kernel
theorem dL_areJointsSo_346 : decode cL_areJointsSo 346 = .ok (.iconst 0, 1) := by decide +kernel
theorem dL_areJointsSo_347 : decode cL_areJointsSo 347 = .ok (.invokevirtual 48, 3) := by decide +kernel
theorem dL_areJointsSo_350 : decode cL_areJointsSo 350 = .ok (.aload_n 0, 1) := by decide +kernel
theorem dL_areJointsSo_351 : decode cL_areJointsSo 351 = .ok (.iload 7, 2) := by decide +kernel
theorem dL_areJointsSo_353 : decode cL_areJointsSo 353 = .ok (.iconst 0, 1) := by decide +kernel
theorem dL_areJointsSo_354 : decode cL_areJointsSo 354 = .ok (.invokevirtual 48, 3) := by decide +kernel
theorem dL_areJointsSo_357 : decode cL_areJointsSo 357 = .ok (.aload_n 0, 1) := by decide +kernel
theorem dL_areJointsSo_358 : decode cL_areJointsSo 358 = .ok (.iload 7, 2) := by decide +kernel
theorem dL_areJointsSo_360 : decode cL_areJointsSo 360 = .ok (.iconst 0, 1) := by decide +kernel
theorem dL_areJointsSo_361 : decode cL_areJointsSo 361 = .ok (.invokevirtual 54, 3) := by decide +kernel
theorem dL_areJointsSo_364 : decode cL_areJointsSo 364 = .ok (.iadd, 1) := by decide +kernel
theorem dL_areJointsSo_365 : decode cL_areJointsSo 365 = .ok (.iconst 2, 1) := by decide +kernel
theorem dL_areJointsSo_366 : decode cL_areJointsSo 366 = .ok (.isub, 1) := by decide +kernel
theorem dL_areJointsSo_367 : decode cL_areJointsSo 367 = .ok (.if_icmp .ne 7, 3) := by decide +kernel
theorem dL_areJointsSo_370 : decode cL_areJointsSo 370 = .ok (.iconst 1, 1) := by decide +kernel
theorem dL_areJointsSo_371 : decode cL_areJointsSo 371 = .ok (.goto 4, 3) := by decide +kernel
theorem dL_areJointsSo_374 : decode cL_areJointsSo 374 = .ok (.iconst 0, 1) := by decide +kernel
theorem dL_areJointsSo_375 : decode cL_areJointsSo 375 = .ok (.istore 6, 2) := by decide +kernel
theorem dL_areJointsSo_377 : decode cL_areJointsSo 377 = .ok (.iinc 7 1, 3) := by decide +kernel
theorem dL_areJointsSo_380 : decode cL_areJointsSo 380 = .ok (.goto (-343), 3) := by decide +kernel
theorem dL_areJointsSo_383 : decode cL_areJointsSo 383 = .ok (.iload 6, 2) := by decide +kernel
theorem dL_areJointsSo_385 : decode cL_areJointsSo 385 = .ok (.ifCond .eq 74, 3) := by decide +kernel
theorem dL_areJointsSo_388 : decode cL_areJointsSo 388 = .ok (.iload_n 2, 1) := by decide +kernel
theorem dL_areJointsSo_389 : decode cL_areJointsSo 389 = .ok (.aload_n 0, 1) := by decide +kernel
theorem dL_areJointsSo_390 : decode cL_areJointsSo 390 = .ok (.iconst 1, 1) := by decide +kernel
theorem dL_areJointsSo_391 : decode cL_areJointsSo 391 = .ok (.invokevirtual 8, 3) := by decide +kernel
theorem dL_areJointsSo_394 : decode cL_areJointsSo 394 = .ok (.if_icmp .ne 65, 3) := by decide +kernel
theorem dL_areJointsSo_397 : decode cL_areJointsSo 397 = .ok (.iload_n 3, 1) := by decide +kernel
theorem dL_areJointsSo_398 : decode cL_areJointsSo 398 = .ok (.aload_n 0, 1) := by decide +kernel
theorem dL_areJointsSo_399 : decode cL_areJointsSo 399 = .ok (.iconst 2, 1) := by decide +kernel
theorem dL_areJointsSo_400 : decode cL_areJointsSo 400 = .ok (.invokevirtual 8, 3) := by decide +kernel
theorem dL_areJointsSo_403 : decode cL_areJointsSo 403 = .ok (.if_icmp .ne 56, 3) := by decide +kernel
theorem dL_areJointsSo_406 : decode cL_areJointsSo 406 = .ok (.iload 4, 2) := by decide +kernel
theorem dL_areJointsSo_408 : decode cL_areJointsSo 408 = .ok (.aload_n 0, 1) := by decide +kernel
theorem dL_areJointsSo_409 : decode cL_areJointsSo 409 = .ok (.iconst 4, 1) := by decide +kernel
theorem dL_areJointsSo_410 : decode cL_areJointsSo 410 = .ok (.invokevirtual 8, 3) := by decide +kernel
theorem dL_areJointsSo_413 : decode cL_areJointsSo 413 = .ok (.if_icmp .ne 46, 3) := by decide +kernel
theorem dL_areJointsSo_416 : decode cL_areJointsSo 416 = .ok (.iload_n 3, 1) := by decide +kernel
theorem dL_areJointsSo_417 : decode cL_areJointsSo 417 = .ok (.iload 4, 2) := by decide +kernel
theorem dL_areJointsSo_419 : decode cL_areJointsSo 419 = .ok (.isub, 1) := by decide +kernel
theorem dL_areJointsSo_420 : decode cL_areJointsSo 420 = .ok (.aload_n 0, 1) := by decide +kernel
theorem dL_areJointsSo_421 : decode cL_areJointsSo 421 = .ok (.iconst 3, 1) := by decide +kernel
theorem dL_areJointsSo_422 : decode cL_areJointsSo 422 = .ok (.invokevirtual 8, 3) := by decide +kernel
theorem dL_areJointsSo_425 : decode cL_areJointsSo 425 = .ok (.if_icmp .ne 34, 3) := by decide +kernel
theorem dL_areJointsSo_428 : decode cL_areJointsSo 428 = .ok (.iload 5, 2) := by decide +kernel
theorem dL_areJointsSo_430 : decode cL_areJointsSo 430 = .ok (.aload_n 0, 1) := by decide +kernel
theorem dL_areJointsSo_431 : decode cL_areJointsSo 431 = .ok (.bipush 8, 2) := by decide +kernel
theorem dL_areJointsSo_433 : decode cL_areJointsSo 433 = .ok (.invokevirtual 8, 3) := by decide +kernel
theorem dL_areJointsSo_436 : decode cL_areJointsSo 436 = .ok (.if_icmp .ne 23, 3) := by decide +kernel
theorem dL_areJointsSo_439 : decode cL_areJointsSo 439 = .ok (.aload_n 0, 1) := by decide +kernel
theorem dL_areJointsSo_440 : decode cL_areJointsSo 440 = .ok (.iload 5, 2) := by decide +kernel
theorem dL_areJointsSo_442 : decode cL_areJointsSo 442 = .ok (.iconst 0, 1) := by decide +kernel
theorem dL_areJointsSo_443 : decode cL_areJointsSo 443 = .ok (.invokevirtual 48, 3) := by decide +kernel
theorem dL_areJointsSo_446 : decode cL_areJointsSo 446 = .ok (.aload_n 0, 1) := by decide +kernel
theorem dL_areJointsSo_447 : decode cL_areJointsSo 447 = .ok (.bipush 9, 2) := by decide +kernel
theorem dL_areJointsSo_449 : decode cL_areJointsSo 449 = .ok (.invokevirtual 8, 3) := by decide +kernel
theorem dL_areJointsSo_452 : decode cL_areJointsSo 452 = .ok (.if_icmp .ne 7, 3) := by decide +kernel
theorem dL_areJointsSo_455 : decode cL_areJointsSo 455 = .ok (.iconst 1, 1) := by decide +kernel
theorem dL_areJointsSo_456 : decode cL_areJointsSo 456 = .ok (.goto 4, 3) := by decide +kernel
theorem dL_areJointsSo_459 : decode cL_areJointsSo 459 = .ok (.iconst 0, 1) := by decide +kernel
theorem dL_areJointsSo_460 : decode cL_areJointsSo 460 = .ok (.ireturn, 1) := by decide +kernel
set_option maxRecDepth 20000 in
theorem ggL_areLinksSo_X5_count : GoodIn wsL_areLinksSo wsX5_count := goodIn_ca (goodIn_r _ [5, 6, 7, 8, 9, 10, 11, 12, 13, 14, 15, 16, 17, 4, 18, 19, 20, 21, 22, 23, 24, 25, 26, 27, 28, 29, 30, 31, 32, 33, 34, 35, 36, 37, 38, 39, 40, 41, 42, 43, 44, 45, 46, 47, 48, 49, 50, 51, 52, 53, 54, 55, 56, 57, 58, 59, 60, 61, 62, 63, 64, 65, 66, 67, 68, 69, 70, 71, 72, 73, 74, 75, 76, 77, 78, 79, 80, 81, 82, 83, 84, 85, 86, 87, 88, 89, 90, 91, 92, 93, 94, 95, 96, 97, 139, 140, 141, 142, 143, 144, 145, 146, 147, 148, 149, 150, 151, 152, 153, 154, 155, 156, 157, 158, 159, 160, 161, 162, 163, 164] (by decide +kernel) (by decide +kernel)) (goodIn_sub (fun _ h => List.mem_cons_of_mem _ (List.mem_append_left _ (List.mem_append_right _ h))) (by decide +kernel))
set_option maxRecDepth 20000 in
theorem gL_areLinksSo_X5_count : GoodIn wsL_areLinksSo (wsV RL 8 RX5 yX5_count wsX5_count) := goodIn_app (goodIn_of _ (by decide +kernel)) ggL_areLinksSo_X5_count
set_option maxRecDepth 20000 in
theorem ggL_areLinksSo_X5_linkOf : GoodIn wsL_areLinksSo wsX5_linkOf := goodIn_ca (goodIn_ca (goodIn_r _ [101, 6, 7, 102, 103, 104, 105, 106, 4, 107, 108, 109, 8, 16, 17, 18, 19, 20, 21, 22, 23, 24, 25, 26, 27, 28, 29, 30, 31, 32, 33, 34, 35, 36, 37, 38, 39, 40, 41, 42, 43, 44, 45, 46, 47, 48, 49, 50, 51, 52, 53, 54, 55, 56, 57, 58, 59, 60, 61, 62, 63, 64, 65, 66, 67, 68, 69, 70, 71, 72, 73, 74, 75, 76, 97, 110, 86, 87, 88, 139, 140, 141, 142, 143, 144, 145, 146, 147, 148, 149, 150, 151, 152, 153, 154, 155, 156, 157, 158, 159, 160, 164] (by decide +kernel) (by decide +kernel)) (goodIn_sub (fun _ h => List.mem_cons_of_mem _ (List.mem_append_right _ h)) (by decide +kernel))) (goodIn_sub (fun _ h => List.mem_cons_of_mem _ (List.mem_append_left _ (List.mem_append_right _ h))) (by decide +kernel))
set_option maxRecDepth 20000 in
theorem gL_areLinksSo_X5_linkOf : GoodIn wsL_areLinksSo (wsV RL 54 RX5 yX5_linkOf wsX5_linkOf) := goodIn_app (goodIn_of _ (by decide +kernel)) ggL_areLinksSo_X5_linkOf
set_option maxRecDepth 20000 in
theorem ggL_areLinksSo_X5_joint : GoodIn wsL_areLinksSo wsX5_joint := goodIn_ca (goodIn_ca (goodIn_r _ [114, 6, 7, 13, 9, 115, 116, 117, 118, 119, 120, 121, 122, 123, 4, 124, 108, 109, 8, 16, 17, 18, 19, 20, 21, 22, 23, 24, 25, 26, 27, 28, 29, 30, 31, 32, 33, 34, 35, 36, 37, 38, 39, 40, 41, 42, 43, 44, 45, 46, 47, 48, 49, 50, 51, 52, 53, 54, 55, 56, 57, 58, 59, 60, 61, 62, 63, 64, 65, 66, 67, 68, 69, 70, 71, 72, 73, 74, 75, 76, 97, 139, 140, 141, 142, 143, 144, 145, 152, 153, 154, 155, 156, 157, 158, 159, 160, 146, 147, 148, 149, 150, 151, 164] (by decide +kernel) (by decide +kernel)) (goodIn_sub (fun _ h => List.mem_cons_of_mem _ (List.mem_append_right _ h)) (by decide +kernel))) (goodIn_sub (fun _ h => List.mem_cons_of_mem _ (List.mem_append_left _ (List.mem_append_right _ h))) (by decide +kernel))
set_option maxRecDepth 20000 in
theorem gL_areLinksSo_X5_joint : GoodIn wsL_areLinksSo (wsV RL 48 RX5 yX5_joint wsX5_joint) := goodIn_app (goodIn_of _ (by decide +kernel)) ggL_areLinksSo_X5_joint
set_option maxRecDepth 20000 in
theorem ggL_areLinksSo_X5_setting : GoodIn wsL_areLinksSo wsX5_setting := goodIn_ca (goodIn_r _ [128, 7, 129, 130, 131, 4, 132, 108, 109, 97, 41, 42, 37, 43, 39, 139, 140, 141, 142, 143, 144, 145, 146, 147, 148, 149, 150, 151, 164] (by decide +kernel) (by decide +kernel)) (goodIn_sub (fun _ h => List.mem_cons_of_mem _ (List.mem_append_right _ h)) (by decide +kernel))
set_option maxRecDepth 20000 in
theorem gL_areLinksSo_X5_setting : GoodIn wsL_areLinksSo (wsV RL 51 RX5 yX5_setting wsX5_setting) := goodIn_app (goodIn_of _ (by decide +kernel)) ggL_areLinksSo_X5_setting
set_option maxRecDepth 20000 in
theorem ggL_areLinksSo_X5_evenness : GoodIn wsL_areLinksSo wsX5_evenness := goodIn_r _ [136, 6, 7, 10, 11, 137, 52, 53, 54, 138, 75, 76, 21, 22, 23, 24, 25, 26, 27, 28, 29, 30, 31, 32, 33, 34, 35, 36, 37, 38, 39, 40, 41, 42, 43, 44, 45, 46, 47, 48, 49, 50, 51, 55, 56, 57, 58, 59, 60, 61, 62, 63, 64, 65, 66, 67, 68, 69, 70, 71, 72, 73, 74, 139, 140, 141, 142, 143, 144, 145, 152, 153, 154, 155, 156, 157, 158, 159, 160, 146, 147, 148, 149, 150, 151, 164] (by decide +kernel) (by decide +kernel)
set_option maxRecDepth 20000 in
theorem gL_areLinksSo_X5_evenness : GoodIn wsL_areLinksSo (wsV RL 57 RX5 yX5_evenness wsX5_evenness) := goodIn_app (goodIn_of _ (by decide +kernel)) ggL_areLinksSo_X5_evenness
theorem dL_areLinksSo_0 : decode cL_areLinksSo 0 = .ok (.aload_n 0, 1) := by decide +kernel
theorem dL_areLinksSo_1 : decode cL_areLinksSo 1 = .ok (.iconst 0, 1) := by decide +kernel
theorem dL_areLinksSo_2 : decode cL_areLinksSo 2 = .ok (.invokevirtual 8, 3) := by decide +kernel
theorem dL_areLinksSo_5 : decode cL_areLinksSo 5 = .ok (.istore_n 1, 1) := by decide +kernel
theorem dL_areLinksSo_6 : decode cL_areLinksSo 6 = .ok (.aload_n 0, 1) := by decide +kernel
theorem dL_areLinksSo_7 : decode cL_areLinksSo 7 = .ok (.iconst 3, 1) := by decide +kernel
theorem dL_areLinksSo_8 : decode cL_areLinksSo 8 = .ok (.invokevirtual 8, 3) := by decide +kernel
theorem dL_areLinksSo_11 : decode cL_areLinksSo 11 = .ok (.istore_n 2, 1) := by decide +kernel
theorem dL_areLinksSo_12 : decode cL_areLinksSo 12 = .ok (.iconst 0, 1) := by decide +kernel
theorem dL_areLinksSo_13 : decode cL_areLinksSo 13 = .ok (.istore_n 3, 1) := by decide +kernel
theorem dL_areLinksSo_14 : decode cL_areLinksSo 14 = .ok (.iconst 0, 1) := by decide +kernel
theorem dL_areLinksSo_15 : decode cL_areLinksSo 15 = .ok (.istore 4, 2) := by decide +kernel
theorem dL_areLinksSo_17 : decode cL_areLinksSo 17 = .ok (.iconst 1, 1) := by decide +kernel
theorem dL_areLinksSo_18 : decode cL_areLinksSo 18 = .ok (.istore 5, 2) := by decide +kernel
theorem dL_areLinksSo_20 : decode cL_areLinksSo 20 = .ok (.iconst 0, 1) := by decide +kernel
theorem dL_areLinksSo_21 : decode cL_areLinksSo 21 = .ok (.istore 6, 2) := by decide +kernel
theorem dL_areLinksSo_23 : decode cL_areLinksSo 23 = .ok (.iload 6, 2) := by decide +kernel
theorem dL_areLinksSo_25 : decode cL_areLinksSo 25 = .ok (.iload_n 1, 1) := by decide +kernel
theorem dL_areLinksSo_26 : decode cL_areLinksSo 26 = .ok (.if_icmp .ge 152, 3) := by decide +kernel
theorem dL_areLinksSo_29 : decode cL_areLinksSo 29 = .ok (.aload_n 0, 1) := by decide +kernel
theorem dL_areLinksSo_30 : decode cL_areLinksSo 30 = .ok (.iload 6, 2) := by decide +kernel
theorem dL_areLinksSo_32 : decode cL_areLinksSo 32 = .ok (.iconst 0, 1) := by decide +kernel
theorem dL_areLinksSo_33 : decode cL_areLinksSo 33 = .ok (.invokevirtual 54, 3) := by decide +kernel
theorem dL_areLinksSo_36 : decode cL_areLinksSo 36 = .ok (.iconst 2, 1) := by decide +kernel
theorem dL_areLinksSo_37 : decode cL_areLinksSo 37 = .ok (.isub, 1) := by decide +kernel
theorem dL_areLinksSo_38 : decode cL_areLinksSo 38 = .ok (.istore 7, 2) := by decide +kernel
theorem dL_areLinksSo_40 : decode cL_areLinksSo 40 = .ok (.aload_n 0, 1) := by decide +kernel
theorem dL_areLinksSo_41 : decode cL_areLinksSo 41 = .ok (.iload 6, 2) := by decide +kernel
theorem dL_areLinksSo_43 : decode cL_areLinksSo 43 = .ok (.iconst 1, 1) := by decide +kernel
theorem dL_areLinksSo_44 : decode cL_areLinksSo 44 = .ok (.invokevirtual 54, 3) := by decide +kernel
theorem dL_areLinksSo_47 : decode cL_areLinksSo 47 = .ok (.istore 8, 2) := by decide +kernel
theorem dL_areLinksSo_49 : decode cL_areLinksSo 49 = .ok (.iload_n 2, 1) := by decide +kernel
theorem dL_areLinksSo_50 : decode cL_areLinksSo 50 = .ok (.aload_n 0, 1) := by decide +kernel
theorem dL_areLinksSo_51 : decode cL_areLinksSo 51 = .ok (.iload 6, 2) := by decide +kernel
theorem dL_areLinksSo_53 : decode cL_areLinksSo 53 = .ok (.bipush 7, 2) := by decide +kernel
theorem dL_areLinksSo_55 : decode cL_areLinksSo 55 = .ok (.invokevirtual 48, 3) := by decide +kernel
theorem dL_areLinksSo_58 : decode cL_areLinksSo 58 = .ok (.isub, 1) := by decide +kernel
theorem dL_areLinksSo_59 : decode cL_areLinksSo 59 = .ok (.istore_n 2, 1) := by decide +kernel
theorem dL_areLinksSo_60 : decode cL_areLinksSo 60 = .ok (.iload 8, 2) := by decide +kernel
theorem dL_areLinksSo_62 : decode cL_areLinksSo 62 = .ok (.iload_n 3, 1) := by decide +kernel
theorem dL_areLinksSo_63 : decode cL_areLinksSo 63 = .ok (.if_icmp .le 8, 3) := by decide +kernel
theorem dL_areLinksSo_66 : decode cL_areLinksSo 66 = .ok (.iload 8, 2) := by decide +kernel
theorem dL_areLinksSo_68 : decode cL_areLinksSo 68 = .ok (.goto 4, 3) := by decide +kernel
theorem dL_areLinksSo_71 : decode cL_areLinksSo 71 = .ok (.iload_n 3, 1) := by decide +kernel
theorem dL_areLinksSo_72 : decode cL_areLinksSo 72 = .ok (.istore_n 3, 1) := by decide +kernel
theorem dL_areLinksSo_73 : decode cL_areLinksSo 73 = .ok (.iload 4, 2) := by decide +kernel
theorem dL_areLinksSo_75 : decode cL_areLinksSo 75 = .ok (.aload_n 0, 1) := by decide +kernel
theorem dL_areLinksSo_76 : decode cL_areLinksSo 76 = .ok (.iload 6, 2) := by decide +kernel
theorem dL_areLinksSo_78 : decode cL_areLinksSo 78 = .ok (.iconst 2, 1) := by decide +kernel
theorem dL_areLinksSo_79 : decode cL_areLinksSo 79 = .ok (.invokevirtual 54, 3) := by decide +kernel
theorem dL_areLinksSo_82 : decode cL_areLinksSo 82 = .ok (.iadd, 1) := by decide +kernel
theorem dL_areLinksSo_83 : decode cL_areLinksSo 83 = .ok (.istore 4, 2) := by decide +kernel
theorem dL_areLinksSo_85 : decode cL_areLinksSo 85 = .ok (.iload 5, 2) := by decide +kernel
theorem dL_areLinksSo_87 : decode cL_areLinksSo 87 = .ok (.ifCond .eq 82, 3) := by decide +kernel
theorem dL_areLinksSo_90 : decode cL_areLinksSo 90 = .ok (.iload 8, 2) := by decide +kernel
theorem dL_areLinksSo_92 : decode cL_areLinksSo 92 = .ok (.iload_n 2, 1) := by decide +kernel
theorem dL_areLinksSo_93 : decode cL_areLinksSo 93 = .ok (.ifCond .ge 8, 3) := by decide +kernel
theorem dL_areLinksSo_96 : decode cL_areLinksSo 96 = .ok (.iload_n 2, 1) := by decide +kernel
theorem dL_areLinksSo_97 : decode cL_areLinksSo 97 = .ok (.ineg, 1) := by decide +kernel
theorem dL_areLinksSo_98 : decode cL_areLinksSo 98 = .ok (.goto 4, 3) := by decide +kernel
theorem dL_areLinksSo_101 : decode cL_areLinksSo 101 = .ok (.iload_n 2, 1) := by decide +kernel
theorem dL_areLinksSo_102 : decode cL_areLinksSo 102 = .ok (.iload 7, 2) := by decide +kernel
theorem dL_areLinksSo_104 : decode cL_areLinksSo 104 = .ok (.ifCond .ge 9, 3) := by decide +kernel
theorem dL_areLinksSo_107 : decode cL_areLinksSo 107 = .ok (.iload 7, 2) := by decide +kernel
theorem dL_areLinksSo_109 : decode cL_areLinksSo 109 = .ok (.ineg, 1) := by decide +kernel
theorem dL_areLinksSo_110 : decode cL_areLinksSo 110 = .ok (.goto 5, 3) := by decide +kernel
theorem dL_areLinksSo_113 : decode cL_areLinksSo 113 = .ok (.iload 7, 2) := by decide +kernel
theorem dL_areLinksSo_115 : decode cL_areLinksSo 115 = .ok (.aload_n 0, 1) := by decide +kernel
theorem dL_areLinksSo_116 : decode cL_areLinksSo 116 = .ok (.iconst 2, 1) := by decide +kernel
theorem dL_areLinksSo_117 : decode cL_areLinksSo 117 = .ok (.invokevirtual 51, 3) := by decide +kernel
theorem dL_areLinksSo_120 : decode cL_areLinksSo 120 = .ok (.bipush 100, 2) := by decide +kernel
theorem dL_areLinksSo_122 : decode cL_areLinksSo 122 = .ok (.isub, 1) := by decide +kernel
theorem dL_areLinksSo_123 : decode cL_areLinksSo 123 = .ok (.imul, 1) := by decide +kernel
theorem dL_areLinksSo_124 : decode cL_areLinksSo 124 = .ok (.iadd, 1) := by decide +kernel
theorem dL_areLinksSo_125 : decode cL_areLinksSo 125 = .ok (.if_icmp .ne 44, 3) := by decide +kernel
theorem dL_areLinksSo_128 : decode cL_areLinksSo 128 = .ok (.aload_n 0, 1) := by decide +kernel
theorem dL_areLinksSo_129 : decode cL_areLinksSo 129 = .ok (.iload 6, 2) := by decide +kernel
theorem dL_areLinksSo_131 : decode cL_areLinksSo 131 = .ok (.iconst 2, 1) := by decide +kernel
theorem dL_areLinksSo_132 : decode cL_areLinksSo 132 = .ok (.invokevirtual 54, 3) := by decide +kernel
theorem dL_areLinksSo_135 : decode cL_areLinksSo 135 = .ok (.iconst 1, 1) := by decide +kernel
theorem dL_areLinksSo_136 : decode cL_areLinksSo 136 = .ok (.if_icmp .ne 7, 3) := by decide +kernel
theorem dL_areLinksSo_139 : decode cL_areLinksSo 139 = .ok (.iconst 1, 1) := by decide +kernel
theorem dL_areLinksSo_140 : decode cL_areLinksSo 140 = .ok (.goto 4, 3) := by decide +kernel
theorem dL_areLinksSo_143 : decode cL_areLinksSo 143 = .ok (.iconst 0, 1) := by decide +kernel
theorem dL_areLinksSo_144 : decode cL_areLinksSo 144 = .ok (.iload 8, 2) := by decide +kernel
theorem dL_areLinksSo_146 : decode cL_areLinksSo 146 = .ok (.aload_n 0, 1) := by decide +kernel
theorem dL_areLinksSo_147 : decode cL_areLinksSo 147 = .ok (.iconst 3, 1) := by decide +kernel
theorem dL_areLinksSo_148 : decode cL_areLinksSo 148 = .ok (.invokevirtual 51, 3) := by decide +kernel
theorem dL_areLinksSo_151 : decode cL_areLinksSo 151 = .ok (.bipush 100, 2) := by decide +kernel
theorem dL_areLinksSo_153 : decode cL_areLinksSo 153 = .ok (.isub, 1) := by decide +kernel
theorem dL_areLinksSo_154 : decode cL_areLinksSo 154 = .ok (.if_icmp .le 7, 3) := by decide +kernel
theorem dL_areLinksSo_157 : decode cL_areLinksSo 157 = .ok (.iconst 1, 1) := by decide +kernel
theorem dL_areLinksSo_158 : decode cL_areLinksSo 158 = .ok (.goto 4, 3) := by decide +kernel
theorem dL_areLinksSo_161 : decode cL_areLinksSo 161 = .ok (.iconst 0, 1) := by decide +kernel
theorem dL_areLinksSo_162 : decode cL_areLinksSo 162 = .ok (.if_icmp .ne 7, 3) := by decide +kernel
theorem dL_areLinksSo_165 : decode cL_areLinksSo 165 = .ok (.iconst 1, 1) := by decide +kernel
theorem dL_areLinksSo_166 : decode cL_areLinksSo 166 = .ok (.goto 4, 3) := by decide +kernel
theorem dL_areLinksSo_169 : decode cL_areLinksSo 169 = .ok (.iconst 0, 1) := by decide +kernel
theorem dL_areLinksSo_170 : decode cL_areLinksSo 170 = .ok (.istore 5, 2) := by decide +kernel
theorem dL_areLinksSo_172 : decode cL_areLinksSo 172 = .ok (.iinc 6 1, 3) := by decide +kernel
theorem dL_areLinksSo_175 : decode cL_areLinksSo 175 = .ok (.goto (-152), 3) := by decide +kernel
theorem dL_areLinksSo_178 : decode cL_areLinksSo 178 = .ok (.iload 5, 2) := by decide +kernel
theorem dL_areLinksSo_180 : decode cL_areLinksSo 180 = .ok (.ifCond .eq 83, 3) := by decide +kernel
theorem dL_areLinksSo_183 : decode cL_areLinksSo 183 = .ok (.aload_n 0, 1) := by decide +kernel
theorem dL_areLinksSo_184 : decode cL_areLinksSo 184 = .ok (.invokevirtual 57, 3) := by decide +kernel
theorem dL_areLinksSo_187 : decode cL_areLinksSo 187 = .ok (.dconst 0, 1) := by decide +kernel
theorem dL_areLinksSo_188 : decode cL_areLinksSo 188 = .ok (.dcmp .l, 1) := by decide +kernel
theorem dL_areLinksSo_189 : decode cL_areLinksSo 189 = .ok (.ifCond .lt 74, 3) := by decide +kernel
theorem dL_areLinksSo_192 : decode cL_areLinksSo 192 = .ok (.aload_n 0, 1) := by decide +kernel
theorem dL_areLinksSo_193 : decode cL_areLinksSo 193 = .ok (.invokevirtual 57, 3) := by decide +kernel
theorem dL_areLinksSo_196 : decode cL_areLinksSo 196 = .ok (.dconst 1, 1) := by decide +kernel
theorem dL_areLinksSo_197 : decode cL_areLinksSo 197 = .ok (.dcmp .g, 1) := by decide +kernel
theorem dL_areLinksSo_198 : decode cL_areLinksSo 198 = .ok (.ifCond .gt 65, 3) := by decide +kernel
theorem dL_areLinksSo_201 : decode cL_areLinksSo 201 = .ok (.iload_n 2, 1) := by decide +kernel
theorem dL_areLinksSo_202 : decode cL_areLinksSo 202 = .ok (.ineg, 1) := by decide +kernel
theorem dL_areLinksSo_203 : decode cL_areLinksSo 203 = .ok (.aload_n 0, 1) := by decide +kernel
theorem dL_areLinksSo_204 : decode cL_areLinksSo 204 = .ok (.iconst 4, 1) := by decide +kernel
theorem dL_areLinksSo_205 : decode cL_areLinksSo 205 = .ok (.invokevirtual 8, 3) := by decide +kernel
theorem dL_areLinksSo_208 : decode cL_areLinksSo 208 = .ok (.if_icmp .ne 55, 3) := by decide +kernel
theorem dL_areLinksSo_211 : decode cL_areLinksSo 211 = .ok (.iload_n 3, 1) := by decide +kernel
theorem dL_areLinksSo_212 : decode cL_areLinksSo 212 = .ok (.aload_n 0, 1) := by decide +kernel
theorem dL_areLinksSo_213 : decode cL_areLinksSo 213 = .ok (.iconst 5, 1) := by decide +kernel
theorem dL_areLinksSo_214 : decode cL_areLinksSo 214 = .ok (.invokevirtual 8, 3) := by decide +kernel
theorem dL_areLinksSo_217 : decode cL_areLinksSo 217 = .ok (.if_icmp .ne 46, 3) := by decide +kernel
theorem dL_areLinksSo_220 : decode cL_areLinksSo 220 = .ok (.iload 4, 2) := by decide +kernel
theorem dL_areLinksSo_222 : decode cL_areLinksSo 222 = .ok (.aload_n 0, 1) := by decide +kernel
theorem dL_areLinksSo_223 : decode cL_areLinksSo 223 = .ok (.bipush 6, 2) := by decide +kernel
theorem dL_areLinksSo_225 : decode cL_areLinksSo 225 = .ok (.invokevirtual 8, 3) := by decide +kernel
theorem dL_areLinksSo_228 : decode cL_areLinksSo 228 = .ok (.if_icmp .ne 35, 3) := by decide +kernel
theorem dL_areLinksSo_231 : decode cL_areLinksSo 231 = .ok (.aload_n 0, 1) := by decide +kernel
theorem dL_areLinksSo_232 : decode cL_areLinksSo 232 = .ok (.bipush 7, 2) := by decide +kernel
theorem dL_areLinksSo_234 : decode cL_areLinksSo 234 = .ok (.invokevirtual 8, 3) := by decide +kernel
theorem dL_areLinksSo_237 : decode cL_areLinksSo 237 = .ok (.iconst 1, 1) := by decide +kernel
theorem dL_areLinksSo_238 : decode cL_areLinksSo 238 = .ok (.if_icmp .ne 7, 3) := by decide +kernel
theorem dL_areLinksSo_241 : decode cL_areLinksSo 241 = .ok (.iconst 1, 1) := by decide +kernel
theorem dL_areLinksSo_242 : decode cL_areLinksSo 242 = .ok (.goto 4, 3) := by decide +kernel
theorem dL_areLinksSo_245 : decode cL_areLinksSo 245 = .ok (.iconst 0, 1) := by decide +kernel
theorem dL_areLinksSo_246 : decode cL_areLinksSo 246 = .ok (.iload 4, 2) := by decide +kernel
theorem dL_areLinksSo_248 : decode cL_areLinksSo 248 = .ok (.ifCond .ne 7, 3) := by decide +kernel
theorem dL_areLinksSo_251 : decode cL_areLinksSo 251 = .ok (.iconst 1, 1) := by decide +kernel
theorem dL_areLinksSo_252 : decode cL_areLinksSo 252 = .ok (.goto 4, 3) := by decide +kernel
theorem dL_areLinksSo_255 : decode cL_areLinksSo 255 = .ok (.iconst 0, 1) := by decide +kernel
theorem dL_areLinksSo_256 : decode cL_areLinksSo 256 = .ok (.if_icmp .ne 7, 3) := by decide +kernel
theorem dL_areLinksSo_259 : decode cL_areLinksSo 259 = .ok (.iconst 1, 1) := by decide +kernel
theorem dL_areLinksSo_260 : decode cL_areLinksSo 260 = .ok (.goto 4, 3) := by decide +kernel
theorem dL_areLinksSo_263 : decode cL_areLinksSo 263 = .ok (.iconst 0, 1) := by decide +kernel
theorem dL_areLinksSo_264 : decode cL_areLinksSo 264 = .ok (.ireturn, 1) := by decide +kernel
set_option maxRecDepth 20000 in
theorem ggL_areIfsSo_X5_mostWeight : GoodIn wsL_areIfsSo wsX5_mostWeight := goodIn_ca (goodIn_r _ [5, 6, 7, 8, 9, 10, 11, 12, 4, 13, 14, 15, 16, 17, 18, 19, 20, 21, 22, 23, 24, 25, 26, 27, 28, 29, 30, 31, 32, 33, 34, 35, 36, 37, 38, 39, 40, 41, 42, 43, 44, 45, 46, 47, 48, 49, 50, 51, 52, 53, 54, 55, 56, 57, 58, 59, 60, 61, 62, 63, 64, 65, 66, 67, 68, 69, 70, 71, 72, 73, 74, 75, 76, 77, 78, 79, 80, 81, 82, 83, 84, 85, 86, 87, 88, 89, 90, 91, 92, 93, 189, 190, 191, 192, 193, 194, 195, 196, 197, 198, 199, 200, 201, 202, 203, 204, 205, 206, 207, 208, 209, 210, 211] (by decide +kernel) (by decide +kernel)) (goodIn_sub (fun _ h => List.mem_cons_of_mem _ (List.mem_append_left _ (List.mem_append_left _ (List.mem_append_right _ h)))) (by decide +kernel))
set_option maxRecDepth 20000 in
theorem gL_areIfsSo_X5_mostWeight : GoodIn wsL_areIfsSo (wsV RL 61 RX5 yX5_mostWeight wsX5_mostWeight) := goodIn_app (goodIn_of _ (by decide +kernel)) ggL_areIfsSo_X5_mostWeight
set_option maxRecDepth 20000 in
theorem ggL_areIfsSo_X5_ifWeight : GoodIn wsL_areIfsSo wsX5_ifWeight := goodIn_ca (goodIn_ca (goodIn_r _ [97, 6, 7, 8, 9, 10, 11, 12, 4, 13, 14, 15, 16, 98, 99, 100, 101, 102, 17, 18, 19, 20, 21, 22, 23, 24, 25, 26, 27, 28, 29, 30, 31, 32, 33, 34, 35, 36, 37, 38, 39, 40, 41, 42, 43, 44, 45, 46, 47, 48, 49, 50, 51, 52, 53, 54, 55, 56, 57, 58, 59, 60, 61, 62, 63, 64, 65, 66, 67, 68, 69, 70, 71, 72, 73, 74, 75, 76, 77, 78, 79, 80, 81, 82, 83, 84, 85, 86, 87, 88, 89, 189, 190, 191, 192, 193, 194, 195, 196, 197, 198, 199, 200, 201, 202, 203, 204, 205, 206, 207, 208, 209, 210, 211] (by decide +kernel) (by decide +kernel)) (goodIn_sub (fun _ h => List.mem_cons_of_mem _ (List.mem_append_left _ (List.mem_append_left _ (List.mem_append_right _ h)))) (by decide +kernel))) (goodIn_sub (fun _ h => List.mem_cons_of_mem _ (List.mem_append_left _ (List.mem_append_right _ h))) (by decide +kernel))
set_option maxRecDepth 20000 in
theorem gL_areIfsSo_X5_ifWeight : GoodIn wsL_areIfsSo (wsV RL 64 RX5 yX5_ifWeight wsX5_ifWeight) := goodIn_app (goodIn_of _ (by decide +kernel)) ggL_areIfsSo_X5_ifWeight
set_option maxRecDepth 20000 in
theorem ggL_areIfsSo_X5_weight : GoodIn wsL_areIfsSo wsX5_weight := goodIn_ca (goodIn_ca (goodIn_r _ [106, 7, 8, 10, 11, 12, 4, 13, 14, 15, 16, 98, 99, 100, 101, 102, 107, 108, 109, 110, 111, 112, 113, 114, 115, 116, 117, 118, 119, 120, 121, 122, 123, 124, 18, 19, 20, 21, 22, 23, 24, 25, 26, 27, 28, 29, 30, 31, 32, 33, 34, 35, 36, 37, 125, 38, 39, 40, 41, 189, 190, 191, 192, 193, 194, 195, 196, 197, 198, 199, 200, 201, 212, 213, 214, 202] (by decide +kernel) (by decide +kernel)) (goodIn_sub (fun _ h => List.mem_cons_of_mem _ (List.mem_append_left _ (List.mem_append_left _ (List.mem_append_right _ h)))) (by decide +kernel))) (goodIn_sub (fun _ h => List.mem_cons_of_mem _ (List.mem_append_left _ (List.mem_append_right _ h))) (by decide +kernel))
set_option maxRecDepth 20000 in
theorem gL_areIfsSo_X5_weight : GoodIn wsL_areIfsSo (wsV RL 33 RX5 yX5_weight wsX5_weight) := goodIn_app (goodIn_of _ (by decide +kernel)) ggL_areIfsSo_X5_weight
set_option maxRecDepth 20000 in
theorem ggL_areIfsSo_X5_count : GoodIn wsL_areIfsSo wsX5_count := goodIn_ca (goodIn_r _ [129, 9, 7, 16, 8, 130, 131, 132, 133, 111, 134, 135, 136, 4, 137, 101, 102, 42, 43, 44, 45, 46, 47, 48, 49, 50, 51, 52, 53, 54, 55, 39, 40, 31, 41, 33, 56, 35, 36, 37, 57, 58, 59, 60, 61, 62, 63, 64, 65, 66, 67, 68, 69, 70, 71, 72, 73, 74, 75, 76, 77, 78, 79, 80, 81, 82, 83, 84, 85, 86, 87, 88, 89, 138, 139, 140, 141, 142, 143, 144, 145, 146, 147, 148, 149, 90, 91, 92, 93, 150, 151, 152, 153, 125, 189, 190, 191, 192, 193, 194, 195, 196, 197, 198, 199, 200, 201, 203, 204, 205, 206, 207, 208, 209, 210, 211, 212, 213, 214, 202] (by decide +kernel) (by decide +kernel)) (goodIn_sub (fun _ h => List.mem_cons_of_mem _ (List.mem_append_left _ (List.mem_append_right _ h))) (by decide +kernel))
set_option maxRecDepth 20000 in
theorem gL_areIfsSo_X5_count : GoodIn wsL_areIfsSo (wsV RL 8 RX5 yX5_count wsX5_count) := goodIn_app (goodIn_of _ (by decide +kernel)) ggL_areIfsSo_X5_count
set_option maxRecDepth 20000 in
theorem ggL_areIfsSo_X5_undo : GoodIn wsL_areIfsSo wsX5_undo := goodIn_ca (goodIn_r _ [157, 158, 159, 111, 134, 7, 160, 161, 162, 115, 163, 117, 119, 120, 121, 122, 118, 123, 124, 18, 19, 20, 21, 22, 23, 24, 25, 26, 27, 28, 29, 30, 31, 32, 33, 34, 35, 36, 37, 189, 190, 191, 192, 193, 194, 195, 212, 213, 214, 196, 197, 198, 199, 200, 201, 202] (by decide +kernel) (by decide +kernel)) (goodIn_sub (fun _ h => List.mem_cons_of_mem _ (List.mem_append_right _ h)) (by decide +kernel))
set_option maxRecDepth 20000 in
theorem gL_areIfsSo_X5_undo : GoodIn wsL_areIfsSo (wsV RL 67 RX5 yX5_undo wsX5_undo) := goodIn_app (goodIn_of _ (by decide +kernel)) ggL_areIfsSo_X5_undo
set_option maxRecDepth 20000 in
theorem ggL_areIfsSo_X5_bestMove : GoodIn wsL_areIfsSo wsX5_bestMove := goodIn_ca (goodIn_r _ [167, 7, 8, 16, 6, 9, 10, 11, 12, 4, 13, 14, 15, 125, 35, 36, 31, 37, 33, 17, 18, 19, 20, 21, 22, 23, 24, 25, 26, 27, 28, 29, 30, 32, 34, 168, 169, 170, 171, 172, 65, 66, 67, 173, 174, 39, 40, 41, 42, 43, 44, 45, 46, 47, 48, 49, 50, 51, 52, 53, 54, 55, 56, 57, 58, 59, 60, 61, 62, 63, 64, 68, 69, 70, 71, 72, 73, 74, 75, 76, 77, 78, 79, 80, 81, 82, 83, 84, 85, 86, 87, 88, 89, 189, 190, 191, 192, 193, 194, 195, 196, 197, 198, 199, 200, 201, 202, 203, 204, 205, 206, 207, 208, 209, 210, 211] (by decide +kernel) (by decide +kernel)) (goodIn_sub (fun _ h => List.mem_cons_of_mem _ (List.mem_append_left _ (List.mem_append_left _ (List.mem_append_right _ h)))) (by decide +kernel))
set_option maxRecDepth 20000 in
theorem gL_areIfsSo_X5_bestMove : GoodIn wsL_areIfsSo (wsV RL 70 RX5 yX5_bestMove wsX5_bestMove) := goodIn_app (goodIn_of _ (by decide +kernel)) ggL_areIfsSo_X5_bestMove
set_option maxRecDepth 20000 in
theorem ggL_areIfsSo_X5_joint : GoodIn wsL_areIfsSo wsX5_joint := goodIn_ca (goodIn_ca (goodIn_r _ [178, 9, 7, 133, 8, 179, 180, 181, 182, 183, 184, 10, 11, 12, 4, 13, 14, 15, 16, 135, 136, 137, 101, 102, 42, 43, 44, 45, 46, 47, 48, 49, 50, 51, 52, 53, 54, 55, 39, 40, 31, 41, 33, 56, 35, 36, 37, 57, 58, 59, 60, 61, 62, 63, 64, 65, 66, 67, 68, 69, 70, 71, 72, 73, 74, 75, 76, 77, 78, 79, 80, 81, 82, 83, 84, 85, 86, 87, 88, 89, 125, 189, 190, 191, 192, 193, 194, 195, 203, 204, 205, 206, 207, 208, 209, 210, 211, 196, 197, 198, 199, 200, 201, 202] (by decide +kernel) (by decide +kernel)) (goodIn_sub (fun _ h => List.mem_cons_of_mem _ (List.mem_append_left _ (List.mem_append_left _ (List.mem_append_right _ h)))) (by decide +kernel))) (goodIn_sub (fun _ h => List.mem_cons_of_mem _ (List.mem_append_left _ (List.mem_append_right _ h))) (by decide +kernel))
set_option maxRecDepth 20000 in
theorem gL_areIfsSo_X5_joint : GoodIn wsL_areIfsSo (wsV RL 48 RX5 yX5_joint wsX5_joint) := goodIn_app (goodIn_of _ (by decide +kernel)) ggL_areIfsSo_X5_joint
set_option maxRecDepth 20000 in
theorem ggL_areIfsSo_X5_move : GoodIn wsL_areIfsSo wsX5_move := goodIn_ca (goodIn_ca (goodIn_r _ [188, 101, 102, 111, 7, 10, 11, 12, 4, 13, 14, 15, 16, 112, 113, 114, 115, 116, 117, 118, 119, 120, 121, 122, 123, 124, 18, 19, 20, 21, 22, 23, 24, 25, 26, 27, 28, 29, 30, 31, 32, 33, 34, 35, 36, 37, 168, 169, 170, 171, 172, 65, 66, 67, 173, 174, 39, 40, 41, 189, 190, 191, 192, 193, 194, 195, 196, 197, 198, 199, 200, 201, 212, 213, 214, 202] (by decide +kernel) (by decide +kernel)) (goodIn_sub (fun _ h => List.mem_cons_of_mem _ (List.mem_append_left _ (List.mem_append_right _ h))) (by decide +kernel))) (goodIn_sub (fun _ h => List.mem_cons_of_mem _ (List.mem_append_left _ (List.mem_append_left _ (List.mem_append_right _ h)))) (by decide +kernel))
set_option maxRecDepth 20000 in
theorem gL_areIfsSo_X5_move : GoodIn wsL_areIfsSo (wsV RL 42 RX5 yX5_move wsX5_move) := goodIn_app (goodIn_of _ (by decide +kernel)) ggL_areIfsSo_X5_move
theorem dL_areIfsSo_0 : decode cL_areIfsSo 0 = .ok (.aload_n 0, 1) := by decide +kernel
theorem dL_areIfsSo_1 : decode cL_areIfsSo 1 = .ok (.iload_n 1, 1) := by decide +kernel
theorem dL_areIfsSo_2 : decode cL_areIfsSo 2 = .ok (.invokevirtual 61, 3) := by decide +kernel
theorem dL_areIfsSo_5 : decode cL_areIfsSo 5 = .ok (.istore 4, 2) := by decide +kernel
theorem dL_areIfsSo_7 : decode cL_areIfsSo 7 = .ok (.aload_n 0, 1) := by decide +kernel
theorem dL_areIfsSo_8 : decode cL_areIfsSo 8 = .ok (.iload_n 1, 1) := by decide +kernel
theorem dL_areIfsSo_9 : decode cL_areIfsSo 9 = .ok (.iload_n 2, 1) := by decide +kernel
theorem dL_areIfsSo_10 : decode cL_areIfsSo 10 = .ok (.invokevirtual 64, 3) := by decide +kernel
theorem dL_areIfsSo_13 : decode cL_areIfsSo 13 = .ok (.istore 5, 2) := by decide +kernel
theorem dL_areIfsSo_15 : decode cL_areIfsSo 15 = .ok (.aload_n 0, 1) := by decide +kernel
theorem dL_areIfsSo_16 : decode cL_areIfsSo 16 = .ok (.iload_n 1, 1) := by decide +kernel
theorem dL_areIfsSo_17 : decode cL_areIfsSo 17 = .ok (.iload_n 2, 1) := by decide +kernel
theorem dL_areIfsSo_18 : decode cL_areIfsSo 18 = .ok (.invokevirtual 33, 3) := by decide +kernel
theorem dL_areIfsSo_21 : decode cL_areIfsSo 21 = .ok (.istore 6, 2) := by decide +kernel
theorem dL_areIfsSo_23 : decode cL_areIfsSo 23 = .ok (.aload_n 0, 1) := by decide +kernel
theorem dL_areIfsSo_24 : decode cL_areIfsSo 24 = .ok (.iconst 5, 1) := by decide +kernel
theorem dL_areIfsSo_25 : decode cL_areIfsSo 25 = .ok (.invokevirtual 8, 3) := by decide +kernel
theorem dL_areIfsSo_28 : decode cL_areIfsSo 28 = .ok (.iload 5, 2) := by decide +kernel
theorem dL_areIfsSo_30 : decode cL_areIfsSo 30 = .ok (.if_icmp .ne 33, 3) := by decide +kernel
theorem dL_areIfsSo_33 : decode cL_areIfsSo 33 = .ok (.aload_n 0, 1) := by decide +kernel
theorem dL_areIfsSo_34 : decode cL_areIfsSo 34 = .ok (.bipush 7, 2) := by decide +kernel
theorem dL_areIfsSo_36 : decode cL_areIfsSo 36 = .ok (.invokevirtual 8, 3) := by decide +kernel
theorem dL_areIfsSo_39 : decode cL_areIfsSo 39 = .ok (.ifCond .eq 9, 3) := by decide +kernel
theorem dL_areIfsSo_42 : decode cL_areIfsSo 42 = .ok (.iload 4, 2) := by decide +kernel
theorem dL_areIfsSo_44 : decode cL_areIfsSo 44 = .ok (.iload_n 2, 1) := by decide +kernel
theorem dL_areIfsSo_45 : decode cL_areIfsSo 45 = .ok (.if_icmp .lt 18, 3) := by decide +kernel
theorem dL_areIfsSo_48 : decode cL_areIfsSo 48 = .ok (.aload_n 0, 1) := by decide +kernel
theorem dL_areIfsSo_49 : decode cL_areIfsSo 49 = .ok (.iload_n 1, 1) := by decide +kernel
theorem dL_areIfsSo_50 : decode cL_areIfsSo 50 = .ok (.iload_n 2, 1) := by decide +kernel
theorem dL_areIfsSo_51 : decode cL_areIfsSo 51 = .ok (.invokevirtual 64, 3) := by decide +kernel
theorem dL_areIfsSo_54 : decode cL_areIfsSo 54 = .ok (.iload 5, 2) := by decide +kernel
theorem dL_areIfsSo_56 : decode cL_areIfsSo 56 = .ok (.if_icmp .ne 7, 3) := by decide +kernel
theorem dL_areIfsSo_59 : decode cL_areIfsSo 59 = .ok (.iconst 1, 1) := by decide +kernel
theorem dL_areIfsSo_60 : decode cL_areIfsSo 60 = .ok (.goto 4, 3) := by decide +kernel
theorem dL_areIfsSo_63 : decode cL_areIfsSo 63 = .ok (.iconst 0, 1) := by decide +kernel
theorem dL_areIfsSo_64 : decode cL_areIfsSo 64 = .ok (.istore 7, 2) := by decide +kernel
theorem dL_areIfsSo_66 : decode cL_areIfsSo 66 = .ok (.aload_n 0, 1) := by decide +kernel
theorem dL_areIfsSo_67 : decode cL_areIfsSo 67 = .ok (.invokevirtual 67, 3) := by decide +kernel
theorem dL_areIfsSo_70 : decode cL_areIfsSo 70 = .ok (.istore 8, 2) := by decide +kernel
theorem dL_areIfsSo_72 : decode cL_areIfsSo 72 = .ok (.iload 7, 2) := by decide +kernel
theorem dL_areIfsSo_74 : decode cL_areIfsSo 74 = .ok (.ifCond .eq 22, 3) := by decide +kernel
theorem dL_areIfsSo_77 : decode cL_areIfsSo 77 = .ok (.aload_n 0, 1) := by decide +kernel
theorem dL_areIfsSo_78 : decode cL_areIfsSo 78 = .ok (.iload_n 1, 1) := by decide +kernel
theorem dL_areIfsSo_79 : decode cL_areIfsSo 79 = .ok (.iload 6, 2) := by decide +kernel
theorem dL_areIfsSo_81 : decode cL_areIfsSo 81 = .ok (.invokevirtual 64, 3) := by decide +kernel
theorem dL_areIfsSo_84 : decode cL_areIfsSo 84 = .ok (.aload_n 0, 1) := by decide +kernel
theorem dL_areIfsSo_85 : decode cL_areIfsSo 85 = .ok (.iconst 5, 1) := by decide +kernel
theorem dL_areIfsSo_86 : decode cL_areIfsSo 86 = .ok (.invokevirtual 8, 3) := by decide +kernel
theorem dL_areIfsSo_89 : decode cL_areIfsSo 89 = .ok (.if_icmp .ne 7, 3) := by decide +kernel
theorem dL_areIfsSo_92 : decode cL_areIfsSo 92 = .ok (.iconst 1, 1) := by decide +kernel
theorem dL_areIfsSo_93 : decode cL_areIfsSo 93 = .ok (.goto 4, 3) := by decide +kernel
theorem dL_areIfsSo_96 : decode cL_areIfsSo 96 = .ok (.iconst 0, 1) := by decide +kernel
theorem dL_areIfsSo_97 : decode cL_areIfsSo 97 = .ok (.istore 7, 2) := by decide +kernel
theorem dL_areIfsSo_99 : decode cL_areIfsSo 99 = .ok (.iload 4, 2) := by decide +kernel
theorem dL_areIfsSo_101 : decode cL_areIfsSo 101 = .ok (.iconst (-1), 1) := by decide +kernel
theorem dL_areIfsSo_102 : decode cL_areIfsSo 102 = .ok (.if_icmp .eq 40, 3) := by decide +kernel
theorem dL_areIfsSo_105 : decode cL_areIfsSo 105 = .ok (.aload_n 0, 1) := by decide +kernel
theorem dL_areIfsSo_106 : decode cL_areIfsSo 106 = .ok (.iload_n 1, 1) := by decide +kernel
theorem dL_areIfsSo_107 : decode cL_areIfsSo 107 = .ok (.iload 4, 2) := by decide +kernel
theorem dL_areIfsSo_109 : decode cL_areIfsSo 109 = .ok (.invokevirtual 33, 3) := by decide +kernel
theorem dL_areIfsSo_112 : decode cL_areIfsSo 112 = .ok (.istore 6, 2) := by decide +kernel
theorem dL_areIfsSo_114 : decode cL_areIfsSo 114 = .ok (.iload 7, 2) := by decide +kernel
theorem dL_areIfsSo_116 : decode cL_areIfsSo 116 = .ok (.ifCond .eq 17, 3) := by decide +kernel
theorem dL_areIfsSo_119 : decode cL_areIfsSo 119 = .ok (.aload_n 0, 1) := by decide +kernel
theorem dL_areIfsSo_120 : decode cL_areIfsSo 120 = .ok (.bipush 7, 2) := by decide +kernel
theorem dL_areIfsSo_122 : decode cL_areIfsSo 122 = .ok (.invokevirtual 8, 3) := by decide +kernel
theorem dL_areIfsSo_125 : decode cL_areIfsSo 125 = .ok (.iconst 1, 1) := by decide +kernel
theorem dL_areIfsSo_126 : decode cL_areIfsSo 126 = .ok (.if_icmp .ne 7, 3) := by decide +kernel
theorem dL_areIfsSo_129 : decode cL_areIfsSo 129 = .ok (.iconst 1, 1) := by decide +kernel
theorem dL_areIfsSo_130 : decode cL_areIfsSo 130 = .ok (.goto 4, 3) := by decide +kernel
theorem dL_areIfsSo_133 : decode cL_areIfsSo 133 = .ok (.iconst 0, 1) := by decide +kernel
theorem dL_areIfsSo_134 : decode cL_areIfsSo 134 = .ok (.istore 7, 2) := by decide +kernel
theorem dL_areIfsSo_136 : decode cL_areIfsSo 136 = .ok (.aload_n 0, 1) := by decide +kernel
theorem dL_areIfsSo_137 : decode cL_areIfsSo 137 = .ok (.invokevirtual 67, 3) := by decide +kernel
theorem dL_areIfsSo_140 : decode cL_areIfsSo 140 = .ok (.istore 8, 2) := by decide +kernel
theorem dL_areIfsSo_142 : decode cL_areIfsSo 142 = .ok (.aload_n 0, 1) := by decide +kernel
theorem dL_areIfsSo_143 : decode cL_areIfsSo 143 = .ok (.iload_n 1, 1) := by decide +kernel
theorem dL_areIfsSo_144 : decode cL_areIfsSo 144 = .ok (.invokevirtual 70, 3) := by decide +kernel
theorem dL_areIfsSo_147 : decode cL_areIfsSo 147 = .ok (.istore 9, 2) := by decide +kernel
theorem dL_areIfsSo_149 : decode cL_areIfsSo 149 = .ok (.iload 7, 2) := by decide +kernel
theorem dL_areIfsSo_151 : decode cL_areIfsSo 151 = .ok (.ifCond .eq 35, 3) := by decide +kernel
theorem dL_areIfsSo_154 : decode cL_areIfsSo 154 = .ok (.iload 9, 2) := by decide +kernel
theorem dL_areIfsSo_156 : decode cL_areIfsSo 156 = .ok (.iconst (-1), 1) := by decide +kernel
theorem dL_areIfsSo_157 : decode cL_areIfsSo 157 = .ok (.if_icmp .ne 7, 3) := by decide +kernel
theorem dL_areIfsSo_160 : decode cL_areIfsSo 160 = .ok (.iconst 1, 1) := by decide +kernel
theorem dL_areIfsSo_161 : decode cL_areIfsSo 161 = .ok (.goto 4, 3) := by decide +kernel
theorem dL_areIfsSo_164 : decode cL_areIfsSo 164 = .ok (.iconst 0, 1) := by decide +kernel
theorem dL_areIfsSo_165 : decode cL_areIfsSo 165 = .ok (.aload_n 0, 1) := by decide +kernel
theorem dL_areIfsSo_166 : decode cL_areIfsSo 166 = .ok (.iload_n 1, 1) := by decide +kernel
theorem dL_areIfsSo_167 : decode cL_areIfsSo 167 = .ok (.iconst 1, 1) := by decide +kernel
theorem dL_areIfsSo_168 : decode cL_areIfsSo 168 = .ok (.invokevirtual 48, 3) := by decide +kernel
theorem dL_areIfsSo_171 : decode cL_areIfsSo 171 = .ok (.ifCond .ne 7, 3) := by decide +kernel
theorem dL_areIfsSo_174 : decode cL_areIfsSo 174 = .ok (.iconst 1, 1) := by decide +kernel
theorem dL_areIfsSo_175 : decode cL_areIfsSo 175 = .ok (.goto 4, 3) := by decide +kernel
theorem dL_areIfsSo_178 : decode cL_areIfsSo 178 = .ok (.iconst 0, 1) := by decide +kernel
theorem dL_areIfsSo_179 : decode cL_areIfsSo 179 = .ok (.if_icmp .ne 7, 3) := by decide +kernel
theorem dL_areIfsSo_182 : decode cL_areIfsSo 182 = .ok (.iconst 1, 1) := by decide +kernel
theorem dL_areIfsSo_183 : decode cL_areIfsSo 183 = .ok (.goto 4, 3) := by decide +kernel
theorem dL_areIfsSo_186 : decode cL_areIfsSo 186 = .ok (.iconst 0, 1) := by decide +kernel
theorem dL_areIfsSo_187 : decode cL_areIfsSo 187 = .ok (.istore 7, 2) := by decide +kernel
theorem dL_areIfsSo_189 : decode cL_areIfsSo 189 = .ok (.iload 9, 2) := by decide +kernel
theorem dL_areIfsSo_191 : decode cL_areIfsSo 191 = .ok (.ifCond .lt 94, 3) := by decide +kernel
theorem dL_areIfsSo_194 : decode cL_areIfsSo 194 = .ok (.iload_n 3, 1) := by decide +kernel
theorem dL_areIfsSo_195 : decode cL_areIfsSo 195 = .ok (.iload_n 1, 1) := by decide +kernel
theorem dL_areIfsSo_196 : decode cL_areIfsSo 196 = .ok (.if_icmp .eq 89, 3) := by decide +kernel
theorem dL_areIfsSo_199 : decode cL_areIfsSo 199 = .ok (.aload_n 0, 1) := by decide +kernel
theorem dL_areIfsSo_200 : decode cL_areIfsSo 200 = .ok (.iload_n 1, 1) := by decide +kernel
theorem dL_areIfsSo_201 : decode cL_areIfsSo 201 = .ok (.iload 9, 2) := by decide +kernel
theorem dL_areIfsSo_203 : decode cL_areIfsSo 203 = .ok (.invokevirtual 42, 3) := by decide +kernel
theorem dL_areIfsSo_206 : decode cL_areIfsSo 206 = .ok (.istore 10, 2) := by decide +kernel
theorem dL_areIfsSo_208 : decode cL_areIfsSo 208 = .ok (.aload_n 0, 1) := by decide +kernel
theorem dL_areIfsSo_209 : decode cL_areIfsSo 209 = .ok (.iconst 5, 1) := by decide +kernel
theorem dL_areIfsSo_210 : decode cL_areIfsSo 210 = .ok (.invokevirtual 8, 3) := by decide +kernel
theorem dL_areIfsSo_213 : decode cL_areIfsSo 213 = .ok (.istore 11, 2) := by decide +kernel
theorem dL_areIfsSo_215 : decode cL_areIfsSo 215 = .ok (.aload_n 0, 1) := by decide +kernel
theorem dL_areIfsSo_216 : decode cL_areIfsSo 216 = .ok (.invokevirtual 67, 3) := by decide +kernel
theorem dL_areIfsSo_219 : decode cL_areIfsSo 219 = .ok (.istore 8, 2) := by decide +kernel
theorem dL_areIfsSo_221 : decode cL_areIfsSo 221 = .ok (.aload_n 0, 1) := by decide +kernel
theorem dL_areIfsSo_222 : decode cL_areIfsSo 222 = .ok (.iload_n 1, 1) := by decide +kernel
theorem dL_areIfsSo_223 : decode cL_areIfsSo 223 = .ok (.iload_n 3, 1) := by decide +kernel
theorem dL_areIfsSo_224 : decode cL_areIfsSo 224 = .ok (.invokevirtual 42, 3) := by decide +kernel
theorem dL_areIfsSo_227 : decode cL_areIfsSo 227 = .ok (.istore 10, 2) := by decide +kernel
theorem dL_areIfsSo_229 : decode cL_areIfsSo 229 = .ok (.aload_n 0, 1) := by decide +kernel
theorem dL_areIfsSo_230 : decode cL_areIfsSo 230 = .ok (.iconst 5, 1) := by decide +kernel
theorem dL_areIfsSo_231 : decode cL_areIfsSo 231 = .ok (.invokevirtual 8, 3) := by decide +kernel
theorem dL_areIfsSo_234 : decode cL_areIfsSo 234 = .ok (.istore 12, 2) := by decide +kernel
theorem dL_areIfsSo_236 : decode cL_areIfsSo 236 = .ok (.aload_n 0, 1) := by decide +kernel
theorem dL_areIfsSo_237 : decode cL_areIfsSo 237 = .ok (.invokevirtual 67, 3) := by decide +kernel
theorem dL_areIfsSo_240 : decode cL_areIfsSo 240 = .ok (.istore 8, 2) := by decide +kernel
theorem dL_areIfsSo_242 : decode cL_areIfsSo 242 = .ok (.iload 7, 2) := by decide +kernel
theorem dL_areIfsSo_244 : decode cL_areIfsSo 244 = .ok (.ifCond .eq 38, 3) := by decide +kernel
theorem dL_areIfsSo_247 : decode cL_areIfsSo 247 = .ok (.iload 9, 2) := by decide +kernel
theorem dL_areIfsSo_249 : decode cL_areIfsSo 249 = .ok (.iload_n 1, 1) := by decide +kernel
theorem dL_areIfsSo_250 : decode cL_areIfsSo 250 = .ok (.if_icmp .eq 32, 3) := by decide +kernel
theorem dL_areIfsSo_253 : decode cL_areIfsSo 253 = .ok (.iload 11, 2) := by decide +kernel
theorem dL_areIfsSo_255 : decode cL_areIfsSo 255 = .ok (.iload 12, 2) := by decide +kernel
theorem dL_areIfsSo_257 : decode cL_areIfsSo 257 = .ok (.if_icmp .lt 16, 3) := by decide +kernel
theorem dL_areIfsSo_260 : decode cL_areIfsSo 260 = .ok (.iload 11, 2) := by decide +kernel
theorem dL_areIfsSo_262 : decode cL_areIfsSo 262 = .ok (.iload 12, 2) := by decide +kernel
theorem dL_areIfsSo_264 : decode cL_areIfsSo 264 = .ok (.if_icmp .ne 18, 3) := by decide +kernel
theorem dL_areIfsSo_267 : decode cL_areIfsSo 267 = .ok (.iload 9, 2) := by decide +kernel
theorem dL_areIfsSo_269 : decode cL_areIfsSo 269 = .ok (.iload_n 3, 1) := by decide +kernel
theorem dL_areIfsSo_270 : decode cL_areIfsSo 270 = .ok (.if_icmp .gt 12, 3) := by decide +kernel
theorem dL_areIfsSo_273 : decode cL_areIfsSo 273 = .ok (.iload 10, 2) := by decide +kernel
theorem dL_areIfsSo_275 : decode cL_areIfsSo 275 = .ok (.ifCond .lt 7, 3) := by decide +kernel
theorem dL_areIfsSo_278 : decode cL_areIfsSo 278 = .ok (.iconst 1, 1) := by decide +kernel
theorem dL_areIfsSo_279 : decode cL_areIfsSo 279 = .ok (.goto 4, 3) := by decide +kernel
theorem dL_areIfsSo_282 : decode cL_areIfsSo 282 = .ok (.iconst 0, 1) := by decide +kernel
theorem dL_areIfsSo_283 : decode cL_areIfsSo 283 = .ok (.istore 7, 2) := by decide +kernel
theorem dL_areIfsSo_285 : decode cL_areIfsSo 285 = .ok (.iload 7, 2) := by decide +kernel
theorem dL_areIfsSo_287 : decode cL_areIfsSo 287 = .ok (.ifCond .eq 12, 3) := by decide +kernel
theorem dL_areIfsSo_290 : decode cL_areIfsSo 290 = .ok (.iload 8, 2) := by decide +kernel
theorem dL_areIfsSo_292 : decode cL_areIfsSo 292 = .ok (.ifCond .lt 7, 3) := by decide +kernel
theorem dL_areIfsSo_295 : decode cL_areIfsSo 295 = .ok (.iconst 1, 1) := by decide +kernel
theorem dL_areIfsSo_296 : decode cL_areIfsSo 296 = .ok (.goto 4, 3) := by decide +kernel
theorem dL_areIfsSo_299 : decode cL_areIfsSo 299 = .ok (.iconst 0, 1) := by decide +kernel
theorem dL_areIfsSo_300 : decode cL_areIfsSo 300 = .ok (.ireturn, 1) := by decide +kernel
set_option maxRecDepth 20000 in
theorem ggL_isBestSo_X5_count : GoodIn wsL_isBestSo wsX5_count := goodIn_ca (goodIn_r _ [5, 6, 7, 8, 9, 10, 11, 12, 13, 14, 15, 16, 17, 4, 18, 19, 20, 21, 22, 23, 24, 25, 26, 27, 28, 29, 30, 31, 32, 33, 34, 35, 36, 37, 38, 39, 40, 41, 42, 43, 44, 45, 46, 47, 48, 49, 50, 51, 52, 53, 54, 55, 56, 57, 58, 59, 60, 61, 62, 63, 64, 65, 66, 67, 68, 69, 70, 71, 72, 73, 74, 75, 76, 77, 78, 79, 80, 81, 82, 83, 84, 85, 86, 87, 88, 89, 90, 91, 92, 93, 94, 95, 96, 97, 193, 194, 195, 196, 197, 198, 199, 200, 201, 202, 203, 204, 205, 206, 207, 208, 209, 210, 211, 212, 213, 214, 215, 216, 217, 218] (by decide +kernel) (by decide +kernel)) (goodIn_sub (fun _ h => List.mem_cons_of_mem _ (List.mem_append_left _ (List.mem_append_left _ (List.mem_append_right _ h)))) (by decide +kernel))
set_option maxRecDepth 20000 in
theorem gL_isBestSo_X5_count : GoodIn wsL_isBestSo (wsV RL 8 RX5 yX5_count wsX5_count) := goodIn_app (goodIn_of _ (by decide +kernel)) ggL_isBestSo_X5_count
set_option maxRecDepth 20000 in
theorem ggL_isBestSo_X5_bestStep : GoodIn wsL_isBestSo wsX5_bestStep := goodIn_ca (goodIn_r _ [101, 102, 7, 103, 6, 104, 105, 106, 4, 107, 108, 109, 8, 110, 111, 112, 113, 114, 115, 116, 117, 118, 119, 120, 121, 122, 123, 37, 124, 39, 125, 41, 42, 43, 126, 35, 36, 38, 21, 22, 23, 24, 25, 26, 27, 28, 29, 30, 31, 32, 33, 34, 40, 44, 45, 46, 47, 48, 49, 50, 51, 52, 53, 54, 55, 56, 57, 58, 59, 60, 61, 62, 63, 64, 65, 66, 67, 68, 69, 70, 71, 72, 73, 74, 75, 76, 193, 194, 195, 196, 197, 198, 199, 200, 201, 202, 203, 204, 205, 218, 206, 207, 208, 209, 210, 211, 212, 213, 214] (by decide +kernel) (by decide +kernel)) (goodIn_sub (fun _ h => List.mem_cons_of_mem _ (List.mem_append_left _ (List.mem_append_right _ h))) (by decide +kernel))
set_option maxRecDepth 20000 in
theorem gL_isBestSo_X5_bestStep : GoodIn wsL_isBestSo (wsV RL 73 RX5 yX5_bestStep wsX5_bestStep) := goodIn_app (goodIn_of _ (by decide +kernel)) ggL_isBestSo_X5_bestStep
set_option maxRecDepth 20000 in
theorem ggL_isBestSo_X5_bend : GoodIn wsL_isBestSo wsX5_bend := goodIn_ca (goodIn_ca (goodIn_r _ [130, 14, 7, 103, 104, 105, 106, 4, 107, 108, 109, 8, 131, 132, 133, 19, 20, 134, 135, 136, 137, 138, 139, 140, 141, 142, 143, 144, 145, 146, 111, 112, 113, 114, 115, 116, 117, 118, 119, 120, 121, 122, 123, 37, 124, 39, 125, 41, 42, 43, 97, 126, 35, 36, 38, 193, 194, 195, 196, 197, 198, 199, 200, 201, 202, 203, 204, 205, 215, 216, 217, 218] (by decide +kernel) (by decide +kernel)) (goodIn_sub (fun _ h => List.mem_cons_of_mem _ (List.mem_append_left _ (List.mem_append_right _ h))) (by decide +kernel))) (goodIn_sub (fun _ h => List.mem_cons_of_mem _ (List.mem_append_left _ (List.mem_append_left _ (List.mem_append_right _ h)))) (by decide +kernel))
set_option maxRecDepth 20000 in
theorem gL_isBestSo_X5_bend : GoodIn wsL_isBestSo (wsV RL 26 RX5 yX5_bend wsX5_bend) := goodIn_app (goodIn_of _ (by decide +kernel)) ggL_isBestSo_X5_bend
set_option maxRecDepth 20000 in
theorem ggL_isBestSo_X5_undo : GoodIn wsL_isBestSo wsX5_undo := goodIn_ca (goodIn_r _ [150, 151, 152, 14, 15, 7, 153, 154, 155, 137, 156, 139, 141, 142, 143, 144, 140, 145, 146, 111, 112, 113, 114, 115, 116, 117, 118, 119, 120, 121, 122, 123, 37, 124, 39, 125, 41, 42, 43, 193, 194, 195, 196, 197, 198, 199, 215, 216, 217, 200, 201, 202, 203, 204, 205, 218] (by decide +kernel) (by decide +kernel)) (goodIn_sub (fun _ h => List.mem_cons_of_mem _ (List.mem_append_right _ h)) (by decide +kernel))
set_option maxRecDepth 20000 in
theorem gL_isBestSo_X5_undo : GoodIn wsL_isBestSo (wsV RL 67 RX5 yX5_undo wsX5_undo) := goodIn_app (goodIn_of _ (by decide +kernel)) ggL_isBestSo_X5_undo
set_option maxRecDepth 20000 in
theorem ggL_isBestSo_X5_linkOf : GoodIn wsL_isBestSo wsX5_linkOf := goodIn_ca (goodIn_ca (goodIn_r _ [160, 6, 7, 103, 161, 104, 105, 106, 4, 107, 108, 109, 8, 16, 17, 18, 19, 20, 21, 22, 23, 24, 25, 26, 27, 28, 29, 30, 31, 32, 33, 34, 35, 36, 37, 38, 39, 40, 41, 42, 43, 44, 45, 46, 47, 48, 49, 50, 51, 52, 53, 54, 55, 56, 57, 58, 59, 60, 61, 62, 63, 64, 65, 66, 67, 68, 69, 70, 71, 72, 73, 74, 75, 76, 97, 162, 86, 87, 88, 193, 194, 195, 196, 197, 198, 199, 200, 201, 202, 203, 204, 205, 206, 207, 208, 209, 210, 211, 212, 213, 214, 218] (by decide +kernel) (by decide +kernel)) (goodIn_sub (fun _ h => List.mem_cons_of_mem _ (List.mem_append_left _ (List.mem_append_right _ h))) (by decide +kernel))) (goodIn_sub (fun _ h => List.mem_cons_of_mem _ (List.mem_append_left _ (List.mem_append_left _ (List.mem_append_right _ h)))) (by decide +kernel))
set_option maxRecDepth 20000 in
theorem gL_isBestSo_X5_linkOf : GoodIn wsL_isBestSo (wsV RL 54 RX5 yX5_linkOf wsX5_linkOf) := goodIn_app (goodIn_of _ (by decide +kernel)) ggL_isBestSo_X5_linkOf
set_option maxRecDepth 20000 in
theorem ggL_isBestSo_X5_bestHanger : GoodIn wsL_isBestSo wsX5_bestHanger := goodIn_ca (goodIn_r _ [166, 7, 8, 102, 167, 168, 52, 53, 54, 6, 169, 170, 4, 171, 19, 20, 110, 111, 112, 113, 114, 115, 116, 117, 118, 119, 120, 121, 122, 123, 37, 124, 39, 125, 41, 42, 43, 97, 126, 35, 36, 38, 21, 22, 23, 24, 25, 26, 27, 28, 29, 30, 31, 32, 33, 34, 40, 44, 45, 46, 47, 48, 49, 50, 51, 55, 56, 57, 58, 59, 60, 61, 62, 63, 64, 65, 66, 67, 68, 69, 70, 71, 72, 73, 74, 75, 76, 193, 194, 195, 196, 197, 198, 199, 200, 201, 202, 203, 204, 205, 218, 206, 207, 208, 209, 210, 211, 212, 213, 214] (by decide +kernel) (by decide +kernel)) (goodIn_sub (fun _ h => List.mem_cons_of_mem _ (List.mem_append_left _ (List.mem_append_left _ (List.mem_append_right _ h)))) (by decide +kernel))
set_option maxRecDepth 20000 in
theorem gL_isBestSo_X5_bestHanger : GoodIn wsL_isBestSo (wsV RL 76 RX5 yX5_bestHanger wsX5_bestHanger) := goodIn_app (goodIn_of _ (by decide +kernel)) ggL_isBestSo_X5_bestHanger
set_option maxRecDepth 20000 in
theorem ggL_isBestSo_X5_joint : GoodIn wsL_isBestSo wsX5_joint := goodIn_ca (goodIn_ca (goodIn_r _ [175, 6, 7, 13, 9, 167, 176, 177, 178, 179, 180, 181, 182, 183, 4, 184, 108, 109, 8, 16, 17, 18, 19, 20, 21, 22, 23, 24, 25, 26, 27, 28, 29, 30, 31, 32, 33, 34, 35, 36, 37, 38, 39, 40, 41, 42, 43, 44, 45, 46, 47, 48, 49, 50, 51, 52, 53, 54, 55, 56, 57, 58, 59, 60, 61, 62, 63, 64, 65, 66, 67, 68, 69, 70, 71, 72, 73, 74, 75, 76, 97, 193, 194, 195, 196, 197, 198, 199, 206, 207, 208, 209, 210, 211, 212, 213, 214, 200, 201, 202, 203, 204, 205, 218] (by decide +kernel) (by decide +kernel)) (goodIn_sub (fun _ h => List.mem_cons_of_mem _ (List.mem_append_left _ (List.mem_append_right _ h))) (by decide +kernel))) (goodIn_sub (fun _ h => List.mem_cons_of_mem _ (List.mem_append_left _ (List.mem_append_left _ (List.mem_append_right _ h)))) (by decide +kernel))
set_option maxRecDepth 20000 in
theorem gL_isBestSo_X5_joint : GoodIn wsL_isBestSo (wsV RL 48 RX5 yX5_joint wsX5_joint) := goodIn_app (goodIn_of _ (by decide +kernel)) ggL_isBestSo_X5_joint
set_option maxRecDepth 20000 in
theorem ggL_isBestSo_X5_hanger : GoodIn wsL_isBestSo wsX5_hanger := goodIn_ca (goodIn_ca (goodIn_r _ [188, 7, 167, 181, 182, 183, 4, 184, 108, 109, 8, 169, 170, 171, 19, 20, 189, 190, 191, 192, 14, 134, 135, 136, 137, 138, 139, 140, 141, 142, 143, 144, 145, 146, 111, 112, 113, 114, 115, 116, 117, 118, 119, 120, 121, 122, 123, 37, 124, 39, 125, 41, 42, 43, 97, 126, 35, 36, 38, 193, 194, 195, 196, 197, 198, 199, 200, 201, 202, 203, 204, 205, 215, 216, 217, 218] (by decide +kernel) (by decide +kernel)) (goodIn_sub (fun _ h => List.mem_cons_of_mem _ (List.mem_append_left _ (List.mem_append_right _ h))) (by decide +kernel))) (goodIn_sub (fun _ h => List.mem_cons_of_mem _ (List.mem_append_left _ (List.mem_append_left _ (List.mem_append_right _ h)))) (by decide +kernel))
set_option maxRecDepth 20000 in
theorem gL_isBestSo_X5_hanger : GoodIn wsL_isBestSo (wsV RL 36 RX5 yX5_hanger wsX5_hanger) := goodIn_app (goodIn_of _ (by decide +kernel)) ggL_isBestSo_X5_hanger
theorem dL_isBestSo_0 : decode cL_isBestSo 0 = .ok (.aload_n 0, 1) := by decide +kernel
theorem dL_isBestSo_1 : decode cL_isBestSo 1 = .ok (.iconst 0, 1) := by decide +kernel
theorem dL_isBestSo_2 : decode cL_isBestSo 2 = .ok (.invokevirtual 8, 3) := by decide +kernel
theorem dL_isBestSo_5 : decode cL_isBestSo 5 = .ok (.istore 4, 2) := by decide +kernel
theorem dL_isBestSo_7 : decode cL_isBestSo 7 = .ok (.aload_n 0, 1) := by decide +kernel
theorem dL_isBestSo_8 : decode cL_isBestSo 8 = .ok (.iload_n 1, 1) := by decide +kernel
theorem dL_isBestSo_9 : decode cL_isBestSo 9 = .ok (.invokevirtual 73, 3) := by decide +kernel
theorem dL_isBestSo_12 : decode cL_isBestSo 12 = .ok (.iconst 2, 1) := by decide +kernel
theorem dL_isBestSo_13 : decode cL_isBestSo 13 = .ok (.isub, 1) := by decide +kernel
theorem dL_isBestSo_14 : decode cL_isBestSo 14 = .ok (.istore 5, 2) := by decide +kernel
theorem dL_isBestSo_16 : decode cL_isBestSo 16 = .ok (.aload_n 0, 1) := by decide +kernel
theorem dL_isBestSo_17 : decode cL_isBestSo 17 = .ok (.iload_n 1, 1) := by decide +kernel
theorem dL_isBestSo_18 : decode cL_isBestSo 18 = .ok (.iload 5, 2) := by decide +kernel
theorem dL_isBestSo_20 : decode cL_isBestSo 20 = .ok (.invokevirtual 26, 3) := by decide +kernel
theorem dL_isBestSo_23 : decode cL_isBestSo 23 = .ok (.istore 6, 2) := by decide +kernel
theorem dL_isBestSo_25 : decode cL_isBestSo 25 = .ok (.aload_n 0, 1) := by decide +kernel
theorem dL_isBestSo_26 : decode cL_isBestSo 26 = .ok (.iconst 5, 1) := by decide +kernel
theorem dL_isBestSo_27 : decode cL_isBestSo 27 = .ok (.invokevirtual 8, 3) := by decide +kernel
theorem dL_isBestSo_30 : decode cL_isBestSo 30 = .ok (.istore 7, 2) := by decide +kernel
theorem dL_isBestSo_32 : decode cL_isBestSo 32 = .ok (.aload_n 0, 1) := by decide +kernel
theorem dL_isBestSo_33 : decode cL_isBestSo 33 = .ok (.invokevirtual 67, 3) := by decide +kernel
theorem dL_isBestSo_36 : decode cL_isBestSo 36 = .ok (.istore 8, 2) := by decide +kernel
theorem dL_isBestSo_38 : decode cL_isBestSo 38 = .ok (.iload 5, 2) := by decide +kernel
theorem dL_isBestSo_40 : decode cL_isBestSo 40 = .ok (.bipush (-2), 2) := by decide +kernel
theorem dL_isBestSo_42 : decode cL_isBestSo 42 = .ok (.if_icmp .lt 24, 3) := by decide +kernel
theorem dL_isBestSo_45 : decode cL_isBestSo 45 = .ok (.iload 5, 2) := by decide +kernel
theorem dL_isBestSo_47 : decode cL_isBestSo 47 = .ok (.iconst 2, 1) := by decide +kernel
theorem dL_isBestSo_48 : decode cL_isBestSo 48 = .ok (.if_icmp .gt 18, 3) := by decide +kernel
theorem dL_isBestSo_51 : decode cL_isBestSo 51 = .ok (.iload 6, 2) := by decide +kernel
theorem dL_isBestSo_53 : decode cL_isBestSo 53 = .ok (.aload_n 0, 1) := by decide +kernel
theorem dL_isBestSo_54 : decode cL_isBestSo 54 = .ok (.iload_n 1, 1) := by decide +kernel
theorem dL_isBestSo_55 : decode cL_isBestSo 55 = .ok (.iconst 0, 1) := by decide +kernel
theorem dL_isBestSo_56 : decode cL_isBestSo 56 = .ok (.invokevirtual 54, 3) := by decide +kernel
theorem dL_isBestSo_59 : decode cL_isBestSo 59 = .ok (.if_icmp .ne 7, 3) := by decide +kernel
theorem dL_isBestSo_62 : decode cL_isBestSo 62 = .ok (.iconst 1, 1) := by decide +kernel
theorem dL_isBestSo_63 : decode cL_isBestSo 63 = .ok (.goto 4, 3) := by decide +kernel
theorem dL_isBestSo_66 : decode cL_isBestSo 66 = .ok (.iconst 0, 1) := by decide +kernel
theorem dL_isBestSo_67 : decode cL_isBestSo 67 = .ok (.istore 9, 2) := by decide +kernel
theorem dL_isBestSo_69 : decode cL_isBestSo 69 = .ok (.bipush (-2), 2) := by decide +kernel
theorem dL_isBestSo_71 : decode cL_isBestSo 71 = .ok (.istore 10, 2) := by decide +kernel
theorem dL_isBestSo_73 : decode cL_isBestSo 73 = .ok (.iload 10, 2) := by decide +kernel
theorem dL_isBestSo_75 : decode cL_isBestSo 75 = .ok (.iconst 3, 1) := by decide +kernel
theorem dL_isBestSo_76 : decode cL_isBestSo 76 = .ok (.if_icmp .ge 63, 3) := by decide +kernel
theorem dL_isBestSo_79 : decode cL_isBestSo 79 = .ok (.aload_n 0, 1) := by decide +kernel
theorem dL_isBestSo_80 : decode cL_isBestSo 80 = .ok (.iload_n 1, 1) := by decide +kernel
theorem dL_isBestSo_81 : decode cL_isBestSo 81 = .ok (.iload 10, 2) := by decide +kernel
theorem dL_isBestSo_83 : decode cL_isBestSo 83 = .ok (.invokevirtual 26, 3) := by decide +kernel
theorem dL_isBestSo_86 : decode cL_isBestSo 86 = .ok (.istore 6, 2) := by decide +kernel
theorem dL_isBestSo_88 : decode cL_isBestSo 88 = .ok (.iload 9, 2) := by decide +kernel
theorem dL_isBestSo_90 : decode cL_isBestSo 90 = .ok (.ifCond .eq 34, 3) := by decide +kernel
theorem dL_isBestSo_93 : decode cL_isBestSo 93 = .ok (.aload_n 0, 1) := by decide +kernel
theorem dL_isBestSo_94 : decode cL_isBestSo 94 = .ok (.iconst 5, 1) := by decide +kernel
theorem dL_isBestSo_95 : decode cL_isBestSo 95 = .ok (.invokevirtual 8, 3) := by decide +kernel
theorem dL_isBestSo_98 : decode cL_isBestSo 98 = .ok (.iload 7, 2) := by decide +kernel
theorem dL_isBestSo_100 : decode cL_isBestSo 100 = .ok (.if_icmp .gt 20, 3) := by decide +kernel
theorem dL_isBestSo_103 : decode cL_isBestSo 103 = .ok (.aload_n 0, 1) := by decide +kernel
theorem dL_isBestSo_104 : decode cL_isBestSo 104 = .ok (.iconst 5, 1) := by decide +kernel
theorem dL_isBestSo_105 : decode cL_isBestSo 105 = .ok (.invokevirtual 8, 3) := by decide +kernel
theorem dL_isBestSo_108 : decode cL_isBestSo 108 = .ok (.iload 7, 2) := by decide +kernel
theorem dL_isBestSo_110 : decode cL_isBestSo 110 = .ok (.if_icmp .ne 14, 3) := by decide +kernel
theorem dL_isBestSo_113 : decode cL_isBestSo 113 = .ok (.iload 10, 2) := by decide +kernel
theorem dL_isBestSo_115 : decode cL_isBestSo 115 = .ok (.iload 5, 2) := by decide +kernel
theorem dL_isBestSo_117 : decode cL_isBestSo 117 = .ok (.if_icmp .lt 7, 3) := by decide +kernel
theorem dL_isBestSo_120 : decode cL_isBestSo 120 = .ok (.iconst 1, 1) := by decide +kernel
theorem dL_isBestSo_121 : decode cL_isBestSo 121 = .ok (.goto 4, 3) := by decide +kernel
theorem dL_isBestSo_124 : decode cL_isBestSo 124 = .ok (.iconst 0, 1) := by decide +kernel
theorem dL_isBestSo_125 : decode cL_isBestSo 125 = .ok (.istore 9, 2) := by decide +kernel
theorem dL_isBestSo_127 : decode cL_isBestSo 127 = .ok (.aload_n 0, 1) := by decide +kernel
theorem dL_isBestSo_128 : decode cL_isBestSo 128 = .ok (.invokevirtual 67, 3) := by decide +kernel
theorem dL_isBestSo_131 : decode cL_isBestSo 131 = .ok (.istore 8, 2) := by decide +kernel
theorem dL_isBestSo_133 : decode cL_isBestSo 133 = .ok (.iinc 10 1, 3) := by decide +kernel
theorem dL_isBestSo_136 : decode cL_isBestSo 136 = .ok (.goto (-63), 3) := by decide +kernel
theorem dL_isBestSo_139 : decode cL_isBestSo 139 = .ok (.aload_n 0, 1) := by decide +kernel
theorem dL_isBestSo_140 : decode cL_isBestSo 140 = .ok (.iload_n 2, 1) := by decide +kernel
theorem dL_isBestSo_141 : decode cL_isBestSo 141 = .ok (.invokevirtual 76, 3) := by decide +kernel
theorem dL_isBestSo_144 : decode cL_isBestSo 144 = .ok (.istore 10, 2) := by decide +kernel
theorem dL_isBestSo_146 : decode cL_isBestSo 146 = .ok (.iload 9, 2) := by decide +kernel
theorem dL_isBestSo_148 : decode cL_isBestSo 148 = .ok (.ifCond .eq 49, 3) := by decide +kernel
theorem dL_isBestSo_151 : decode cL_isBestSo 151 = .ok (.iload 10, 2) := by decide +kernel
theorem dL_isBestSo_153 : decode cL_isBestSo 153 = .ok (.iconst (-1), 1) := by decide +kernel
theorem dL_isBestSo_154 : decode cL_isBestSo 154 = .ok (.if_icmp .ne 7, 3) := by decide +kernel
theorem dL_isBestSo_157 : decode cL_isBestSo 157 = .ok (.iconst 1, 1) := by decide +kernel
theorem dL_isBestSo_158 : decode cL_isBestSo 158 = .ok (.goto 4, 3) := by decide +kernel
theorem dL_isBestSo_161 : decode cL_isBestSo 161 = .ok (.iconst 0, 1) := by decide +kernel
theorem dL_isBestSo_162 : decode cL_isBestSo 162 = .ok (.iload 4, 2) := by decide +kernel
theorem dL_isBestSo_164 : decode cL_isBestSo 164 = .ok (.iconst 1, 1) := by decide +kernel
theorem dL_isBestSo_165 : decode cL_isBestSo 165 = .ok (.if_icmp .ne 7, 3) := by decide +kernel
theorem dL_isBestSo_168 : decode cL_isBestSo 168 = .ok (.iconst 1, 1) := by decide +kernel
theorem dL_isBestSo_169 : decode cL_isBestSo 169 = .ok (.goto 4, 3) := by decide +kernel
theorem dL_isBestSo_172 : decode cL_isBestSo 172 = .ok (.iconst 0, 1) := by decide +kernel
theorem dL_isBestSo_173 : decode cL_isBestSo 173 = .ok (.if_icmp .ne 24, 3) := by decide +kernel
theorem dL_isBestSo_176 : decode cL_isBestSo 176 = .ok (.iload 10, 2) := by decide +kernel
theorem dL_isBestSo_178 : decode cL_isBestSo 178 = .ok (.ifCond .lt 15, 3) := by decide +kernel
theorem dL_isBestSo_181 : decode cL_isBestSo 181 = .ok (.iload 10, 2) := by decide +kernel
theorem dL_isBestSo_183 : decode cL_isBestSo 183 = .ok (.ifCond .le 14, 3) := by decide +kernel
theorem dL_isBestSo_186 : decode cL_isBestSo 186 = .ok (.iload 10, 2) := by decide +kernel
theorem dL_isBestSo_188 : decode cL_isBestSo 188 = .ok (.iload 4, 2) := by decide +kernel
theorem dL_isBestSo_190 : decode cL_isBestSo 190 = .ok (.if_icmp .ge 7, 3) := by decide +kernel
theorem dL_isBestSo_193 : decode cL_isBestSo 193 = .ok (.iconst 1, 1) := by decide +kernel
theorem dL_isBestSo_194 : decode cL_isBestSo 194 = .ok (.goto 4, 3) := by decide +kernel
theorem dL_isBestSo_197 : decode cL_isBestSo 197 = .ok (.iconst 0, 1) := by decide +kernel
theorem dL_isBestSo_198 : decode cL_isBestSo 198 = .ok (.istore 9, 2) := by decide +kernel
theorem dL_isBestSo_200 : decode cL_isBestSo 200 = .ok (.iload 10, 2) := by decide +kernel
theorem dL_isBestSo_202 : decode cL_isBestSo 202 = .ok (.ifCond .le 134, 3) := by decide +kernel
theorem dL_isBestSo_205 : decode cL_isBestSo 205 = .ok (.iload_n 3, 1) := by decide +kernel
theorem dL_isBestSo_206 : decode cL_isBestSo 206 = .ok (.ifCond .le 130, 3) := by decide +kernel
theorem dL_isBestSo_209 : decode cL_isBestSo 209 = .ok (.iload_n 3, 1) := by decide +kernel
theorem dL_isBestSo_210 : decode cL_isBestSo 210 = .ok (.iload 4, 2) := by decide +kernel
theorem dL_isBestSo_212 : decode cL_isBestSo 212 = .ok (.if_icmp .ge 124, 3) := by decide +kernel
theorem dL_isBestSo_215 : decode cL_isBestSo 215 = .ok (.aload_n 0, 1) := by decide +kernel
theorem dL_isBestSo_216 : decode cL_isBestSo 216 = .ok (.iload 10, 2) := by decide +kernel
theorem dL_isBestSo_218 : decode cL_isBestSo 218 = .ok (.iconst 2, 1) := by decide +kernel
theorem dL_isBestSo_219 : decode cL_isBestSo 219 = .ok (.invokevirtual 48, 3) := by decide +kernel
theorem dL_isBestSo_222 : decode cL_isBestSo 222 = .ok (.iload_n 2, 1) := by decide +kernel
theorem dL_isBestSo_223 : decode cL_isBestSo 223 = .ok (.iadd, 1) := by decide +kernel
theorem dL_isBestSo_224 : decode cL_isBestSo 224 = .ok (.istore 11, 2) := by decide +kernel
theorem dL_isBestSo_226 : decode cL_isBestSo 226 = .ok (.aload_n 0, 1) := by decide +kernel
theorem dL_isBestSo_227 : decode cL_isBestSo 227 = .ok (.iload 10, 2) := by decide +kernel
theorem dL_isBestSo_229 : decode cL_isBestSo 229 = .ok (.iload 11, 2) := by decide +kernel
theorem dL_isBestSo_231 : decode cL_isBestSo 231 = .ok (.bipush 99, 2) := by decide +kernel
theorem dL_isBestSo_233 : decode cL_isBestSo 233 = .ok (.if_icmp .le 8, 3) := by decide +kernel
theorem dL_isBestSo_236 : decode cL_isBestSo 236 = .ok (.bipush 99, 2) := by decide +kernel
theorem dL_isBestSo_238 : decode cL_isBestSo 238 = .ok (.goto 5, 3) := by decide +kernel
theorem dL_isBestSo_241 : decode cL_isBestSo 241 = .ok (.iload 11, 2) := by decide +kernel
theorem dL_isBestSo_243 : decode cL_isBestSo 243 = .ok (.invokevirtual 36, 3) := by decide +kernel
theorem dL_isBestSo_246 : decode cL_isBestSo 246 = .ok (.istore 6, 2) := by decide +kernel
theorem dL_isBestSo_248 : decode cL_isBestSo 248 = .ok (.aload_n 0, 1) := by decide +kernel
theorem dL_isBestSo_249 : decode cL_isBestSo 249 = .ok (.iconst 5, 1) := by decide +kernel
theorem dL_isBestSo_250 : decode cL_isBestSo 250 = .ok (.invokevirtual 8, 3) := by decide +kernel
theorem dL_isBestSo_253 : decode cL_isBestSo 253 = .ok (.istore 12, 2) := by decide +kernel
theorem dL_isBestSo_255 : decode cL_isBestSo 255 = .ok (.aload_n 0, 1) := by decide +kernel
theorem dL_isBestSo_256 : decode cL_isBestSo 256 = .ok (.invokevirtual 67, 3) := by decide +kernel
theorem dL_isBestSo_259 : decode cL_isBestSo 259 = .ok (.istore 8, 2) := by decide +kernel
theorem dL_isBestSo_261 : decode cL_isBestSo 261 = .ok (.aload_n 0, 1) := by decide +kernel
theorem dL_isBestSo_262 : decode cL_isBestSo 262 = .ok (.iload_n 3, 1) := by decide +kernel
theorem dL_isBestSo_263 : decode cL_isBestSo 263 = .ok (.iconst 2, 1) := by decide +kernel
theorem dL_isBestSo_264 : decode cL_isBestSo 264 = .ok (.invokevirtual 48, 3) := by decide +kernel
theorem dL_isBestSo_267 : decode cL_isBestSo 267 = .ok (.iload_n 2, 1) := by decide +kernel
theorem dL_isBestSo_268 : decode cL_isBestSo 268 = .ok (.iadd, 1) := by decide +kernel
theorem dL_isBestSo_269 : decode cL_isBestSo 269 = .ok (.istore 11, 2) := by decide +kernel
theorem dL_isBestSo_271 : decode cL_isBestSo 271 = .ok (.aload_n 0, 1) := by decide +kernel
theorem dL_isBestSo_272 : decode cL_isBestSo 272 = .ok (.iload_n 3, 1) := by decide +kernel
theorem dL_isBestSo_273 : decode cL_isBestSo 273 = .ok (.iload 11, 2) := by decide +kernel
theorem dL_isBestSo_275 : decode cL_isBestSo 275 = .ok (.bipush 99, 2) := by decide +kernel
theorem dL_isBestSo_277 : decode cL_isBestSo 277 = .ok (.if_icmp .le 8, 3) := by decide +kernel
theorem dL_isBestSo_280 : decode cL_isBestSo 280 = .ok (.bipush 99, 2) := by decide +kernel
theorem dL_isBestSo_282 : decode cL_isBestSo 282 = .ok (.goto 5, 3) := by decide +kernel
theorem dL_isBestSo_285 : decode cL_isBestSo 285 = .ok (.iload 11, 2) := by decide +kernel
theorem dL_isBestSo_287 : decode cL_isBestSo 287 = .ok (.invokevirtual 36, 3) := by decide +kernel
theorem dL_isBestSo_290 : decode cL_isBestSo 290 = .ok (.istore 6, 2) := by decide +kernel
theorem dL_isBestSo_292 : decode cL_isBestSo 292 = .ok (.iload 9, 2) := by decide +kernel
theorem dL_isBestSo_294 : decode cL_isBestSo 294 = .ok (.ifCond .eq 33, 3) := by decide +kernel
theorem dL_isBestSo_297 : decode cL_isBestSo 297 = .ok (.iload 12, 2) := by decide +kernel
theorem dL_isBestSo_299 : decode cL_isBestSo 299 = .ok (.aload_n 0, 1) := by decide +kernel
theorem dL_isBestSo_300 : decode cL_isBestSo 300 = .ok (.iconst 5, 1) := by decide +kernel
theorem dL_isBestSo_301 : decode cL_isBestSo 301 = .ok (.invokevirtual 8, 3) := by decide +kernel
theorem dL_isBestSo_304 : decode cL_isBestSo 304 = .ok (.if_icmp .lt 19, 3) := by decide +kernel
theorem dL_isBestSo_307 : decode cL_isBestSo 307 = .ok (.iload 12, 2) := by decide +kernel
theorem dL_isBestSo_309 : decode cL_isBestSo 309 = .ok (.aload_n 0, 1) := by decide +kernel
theorem dL_isBestSo_310 : decode cL_isBestSo 310 = .ok (.iconst 5, 1) := by decide +kernel
theorem dL_isBestSo_311 : decode cL_isBestSo 311 = .ok (.invokevirtual 8, 3) := by decide +kernel
theorem dL_isBestSo_314 : decode cL_isBestSo 314 = .ok (.if_icmp .ne 13, 3) := by decide +kernel
theorem dL_isBestSo_317 : decode cL_isBestSo 317 = .ok (.iload 10, 2) := by decide +kernel
theorem dL_isBestSo_319 : decode cL_isBestSo 319 = .ok (.iload_n 3, 1) := by decide +kernel
theorem dL_isBestSo_320 : decode cL_isBestSo 320 = .ok (.if_icmp .gt 7, 3) := by decide +kernel
theorem dL_isBestSo_323 : decode cL_isBestSo 323 = .ok (.iconst 1, 1) := by decide +kernel
theorem dL_isBestSo_324 : decode cL_isBestSo 324 = .ok (.goto 4, 3) := by decide +kernel
theorem dL_isBestSo_327 : decode cL_isBestSo 327 = .ok (.iconst 0, 1) := by decide +kernel
theorem dL_isBestSo_328 : decode cL_isBestSo 328 = .ok (.istore 9, 2) := by decide +kernel
theorem dL_isBestSo_330 : decode cL_isBestSo 330 = .ok (.aload_n 0, 1) := by decide +kernel
theorem dL_isBestSo_331 : decode cL_isBestSo 331 = .ok (.invokevirtual 67, 3) := by decide +kernel
theorem dL_isBestSo_334 : decode cL_isBestSo 334 = .ok (.istore 8, 2) := by decide +kernel
theorem dL_isBestSo_336 : decode cL_isBestSo 336 = .ok (.iload 9, 2) := by decide +kernel
theorem dL_isBestSo_338 : decode cL_isBestSo 338 = .ok (.ifCond .eq 12, 3) := by decide +kernel
theorem dL_isBestSo_341 : decode cL_isBestSo 341 = .ok (.iload 8, 2) := by decide +kernel
theorem dL_isBestSo_343 : decode cL_isBestSo 343 = .ok (.ifCond .lt 7, 3) := by decide +kernel
theorem dL_isBestSo_346 : decode cL_isBestSo 346 = .ok (.iconst 1, 1) := by decide +kernel
theorem dL_isBestSo_347 : decode cL_isBestSo 347 = .ok (.goto 4, 3) := by decide +kernel
theorem dL_isBestSo_350 : decode cL_isBestSo 350 = .ok (.iconst 0, 1) := by decide +kernel
theorem dL_isBestSo_351 : decode cL_isBestSo 351 = .ok (.ireturn, 1) := by decide +kernel
