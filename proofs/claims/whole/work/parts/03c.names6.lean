abbrev wsX60 : List Cond := u_ws RX6 TX6 17
def wsX6_init : List Cond := .code yX6_init cX6_init 1 none :: ([.methodLink RX6 1 objectInit, .instanceMethod objectInit, .code objectInit ⟨#[0xb1]⟩ 1 none, .arrayClass .int, .fieldLink RX6 7 "HangingChainModel" "s" "[I", .fieldLink RX6 13 "HangingChainModel" "saved" "[I", .fieldLink RX6 16 "HangingChainModel" "text" "[I", .fieldLink RX6 19 "HangingChainModel" "height" "[I", .fieldLink RX6 22 "HangingChainModel" "burden" "[I", .fieldLink RX6 25 "HangingChainModel" "hung" "[I", .fieldLink RX6 28 "HangingChainModel" "propped" "[I", .fieldLink RX6 31 "HangingChainModel" "load" "[I", .fieldLink RX6 34 "HangingChainModel" "force" "[I"] ++ wsX60)
def wsX6_thrown : List Cond := .code yX6_thrown cX6_thrown 1 (some .int) :: ([.fieldLink RX6 37 "HangingChainModel" "thrown" "I"] ++ wsX60)
def wsX6_in : List Cond := .code yX6_in cX6_in 3 (some .boolean) :: ([])
def wsX6_holds : List Cond := .code yX6_holds cX6_holds 2 (some .boolean) :: ([.fieldLink RX6 37 "HangingChainModel" "thrown" "I"] ++ wsX60)
def wsX6_size : List Cond := .code yX6_size cX6_size 1 (some .int) :: ([])
def wsX6_isLink : List Cond := .code yX6_isLink cX6_isLink 2 (some .boolean) :: ([.fieldLink RX6 7 "HangingChainModel" "s" "[I", .methodLink RX6 41 yX6_in, .static yX6_in, .initialized RX6, .code yX6_in cX6_in 3 (some .boolean)] ++ wsX60)
def wsX6_isJoint : List Cond := .code yX6_isJoint cX6_isJoint 2 (some .boolean) :: ([.fieldLink RX6 7 "HangingChainModel" "s" "[I", .methodLink RX6 41 yX6_in, .static yX6_in, .initialized RX6, .code yX6_in cX6_in 3 (some .boolean)] ++ wsX60)
def wsX6_save : List Cond := .code yX6_save cX6_save 2 none :: ([.fieldLink RX6 45 "HangingChainModel" "savedMany" "I", .fieldLink RX6 13 "HangingChainModel" "saved" "[I", .fieldLink RX6 7 "HangingChainModel" "s" "[I"] ++ wsX60)
def wsX6_layJoint : List Cond := .code yX6_layJoint cX6_layJoint 4 none :: ([.fieldLink RX6 7 "HangingChainModel" "s" "[I", .fieldLink RX6 22 "HangingChainModel" "burden" "[I", .fieldLink RX6 25 "HangingChainModel" "hung" "[I", .fieldLink RX6 28 "HangingChainModel" "propped" "[I", .fieldLink RX6 19 "HangingChainModel" "height" "[I", .fieldLink RX6 31 "HangingChainModel" "load" "[I"] ++ wsX60)
def wsX6_lay : List Cond := .code yX6_lay cX6_lay 4 none :: ([.fieldLink RX6 7 "HangingChainModel" "s" "[I", .fieldLink RX6 48 "HangingChainModel" "nearWall" "I", .fieldLink RX6 51 "HangingChainModel" "farWall" "I", .fieldLink RX6 19 "HangingChainModel" "height" "[I", .fieldLink RX6 31 "HangingChainModel" "load" "[I", .fieldLink RX6 34 "HangingChainModel" "force" "[I", .methodLink RX6 54 yX6_layJoint, .instanceMethod yX6_layJoint, .selects RX6 yX6_layJoint yX6_layJoint, .initialized RX6, .code yX6_layJoint cX6_layJoint 4 none, .fieldLink RX6 22 "HangingChainModel" "burden" "[I", .fieldLink RX6 25 "HangingChainModel" "hung" "[I", .fieldLink RX6 28 "HangingChainModel" "propped" "[I", .methodLink RX6 58 yX6_size, .static yX6_size, .code yX6_size cX6_size 1 (some .int)] ++ wsX60)
def wsX6_greatest : List Cond := .code yX6_greatest cX6_greatest 3 (some .int) :: ([.fieldLink RX6 7 "HangingChainModel" "s" "[I", .fieldLink RX6 34 "HangingChainModel" "force" "[I", .methodLink RX6 62 yX6_lay, .instanceMethod yX6_lay, .selects RX6 yX6_lay yX6_lay, .initialized RX6, .code yX6_lay cX6_lay 4 none, .fieldLink RX6 48 "HangingChainModel" "nearWall" "I", .fieldLink RX6 51 "HangingChainModel" "farWall" "I", .fieldLink RX6 19 "HangingChainModel" "height" "[I", .fieldLink RX6 31 "HangingChainModel" "load" "[I", .methodLink RX6 54 yX6_layJoint, .instanceMethod yX6_layJoint, .selects RX6 yX6_layJoint yX6_layJoint, .code yX6_layJoint cX6_layJoint 4 none, .fieldLink RX6 22 "HangingChainModel" "burden" "[I", .fieldLink RX6 25 "HangingChainModel" "hung" "[I", .fieldLink RX6 28 "HangingChainModel" "propped" "[I", .methodLink RX6 58 yX6_size, .static yX6_size, .code yX6_size cX6_size 1 (some .int)] ++ wsX60)
def wsX6_noMore : List Cond := .code yX6_noMore cX6_noMore 2 none :: ([.fieldLink RX6 7 "HangingChainModel" "s" "[I"] ++ wsX60)
def wsX6_link : List Cond := .code yX6_link cX6_link 2 (some .int) :: ([.fieldLink RX6 7 "HangingChainModel" "s" "[I", .methodLink RX6 41 yX6_in, .static yX6_in, .initialized RX6, .code yX6_in cX6_in 3 (some .boolean), .methodLink RX6 65 yX6_holds, .instanceMethod yX6_holds, .selects RX6 yX6_holds yX6_holds, .code yX6_holds cX6_holds 2 (some .boolean), .fieldLink RX6 37 "HangingChainModel" "thrown" "I", .methodLink RX6 69 yX6_save, .instanceMethod yX6_save, .selects RX6 yX6_save yX6_save, .code yX6_save cX6_save 2 none, .fieldLink RX6 45 "HangingChainModel" "savedMany" "I", .fieldLink RX6 13 "HangingChainModel" "saved" "[I", .methodLink RX6 72 yX6_noMore, .instanceMethod yX6_noMore, .selects RX6 yX6_noMore yX6_noMore, .code yX6_noMore cX6_noMore 2 none] ++ wsX60)
def wsX6_cut : List Cond := .code yX6_cut cX6_cut 3 (some .int) :: ([.fieldLink RX6 7 "HangingChainModel" "s" "[I", .methodLink RX6 75 yX6_isLink, .instanceMethod yX6_isLink, .selects RX6 yX6_isLink yX6_isLink, .initialized RX6, .code yX6_isLink cX6_isLink 2 (some .boolean), .methodLink RX6 41 yX6_in, .static yX6_in, .code yX6_in cX6_in 3 (some .boolean), .methodLink RX6 65 yX6_holds, .instanceMethod yX6_holds, .selects RX6 yX6_holds yX6_holds, .code yX6_holds cX6_holds 2 (some .boolean), .fieldLink RX6 37 "HangingChainModel" "thrown" "I", .methodLink RX6 69 yX6_save, .instanceMethod yX6_save, .selects RX6 yX6_save yX6_save, .code yX6_save cX6_save 2 none, .fieldLink RX6 45 "HangingChainModel" "savedMany" "I", .fieldLink RX6 13 "HangingChainModel" "saved" "[I"] ++ wsX60)
def wsX6_puts : List Cond := .code yX6_puts cX6_puts 4 (some .int) :: ([.fieldLink RX6 7 "HangingChainModel" "s" "[I", .methodLink RX6 69 yX6_save, .instanceMethod yX6_save, .selects RX6 yX6_save yX6_save, .initialized RX6, .code yX6_save cX6_save 2 none, .fieldLink RX6 45 "HangingChainModel" "savedMany" "I", .fieldLink RX6 13 "HangingChainModel" "saved" "[I"] ++ wsX60)
def wsX6_bend : List Cond := .code yX6_bend cX6_bend 3 (some .int) :: ([.methodLink RX6 75 yX6_isLink, .instanceMethod yX6_isLink, .selects RX6 yX6_isLink yX6_isLink, .initialized RX6, .code yX6_isLink cX6_isLink 2 (some .boolean), .fieldLink RX6 7 "HangingChainModel" "s" "[I", .methodLink RX6 41 yX6_in, .static yX6_in, .code yX6_in cX6_in 3 (some .boolean), .methodLink RX6 65 yX6_holds, .instanceMethod yX6_holds, .selects RX6 yX6_holds yX6_holds, .code yX6_holds cX6_holds 2 (some .boolean), .fieldLink RX6 37 "HangingChainModel" "thrown" "I", .methodLink RX6 78 yX6_puts, .instanceMethod yX6_puts, .selects RX6 yX6_puts yX6_puts, .code yX6_puts cX6_puts 4 (some .int), .methodLink RX6 69 yX6_save, .instanceMethod yX6_save, .selects RX6 yX6_save yX6_save, .code yX6_save cX6_save 2 none, .fieldLink RX6 45 "HangingChainModel" "savedMany" "I", .fieldLink RX6 13 "HangingChainModel" "saved" "[I"] ++ wsX60)
def wsX6_exchange : List Cond := .code yX6_exchange cX6_exchange 4 none :: ([.fieldLink RX6 7 "HangingChainModel" "s" "[I"] ++ wsX60)
def wsX6_turn_r1 : List Cond := [Cond.fieldLink RX6 37 "HangingChainModel" "thrown" "I", Cond.fieldLink RX6 7 "HangingChainModel" "s" "[I", Cond.fieldLink RX6 19 "HangingChainModel" "height" "[I", Cond.methodLink RX6 69 yX6_save, Cond.instanceMethod yX6_save, Cond.selects RX6 yX6_save yX6_save, Cond.initialized RX6, Cond.code yX6_save cX6_save 2 none, Cond.fieldLink RX6 45 "HangingChainModel" "savedMany" "I", Cond.fieldLink RX6 13 "HangingChainModel" "saved" "[I", Cond.methodLink RX6 82 yX6_exchange, Cond.instanceMethod yX6_exchange, Cond.selects RX6 yX6_exchange yX6_exchange, Cond.code yX6_exchange cX6_exchange 4 none, Cond.methodLink RX6 62 yX6_lay, Cond.instanceMethod yX6_lay, Cond.selects RX6 yX6_lay yX6_lay, Cond.code yX6_lay cX6_lay 4 none, Cond.fieldLink RX6 48 "HangingChainModel" "nearWall" "I", Cond.fieldLink RX6 51 "HangingChainModel" "farWall" "I", Cond.fieldLink RX6 31 "HangingChainModel" "load" "[I", Cond.fieldLink RX6 34 "HangingChainModel" "force" "[I", Cond.methodLink RX6 54 yX6_layJoint, Cond.instanceMethod yX6_layJoint]
def wsX6_turn_r2 : List Cond := [Cond.selects RX6 yX6_layJoint yX6_layJoint, Cond.code yX6_layJoint cX6_layJoint 4 none, Cond.fieldLink RX6 22 "HangingChainModel" "burden" "[I", Cond.fieldLink RX6 25 "HangingChainModel" "hung" "[I", Cond.fieldLink RX6 28 "HangingChainModel" "propped" "[I", Cond.methodLink RX6 58 yX6_size, Cond.static yX6_size, Cond.code yX6_size cX6_size 1 (some .int)]
def wsX6_turn : List Cond := .code yX6_turn cX6_turn 3 (some .int) :: ((wsX6_turn_r1 ++ wsX6_turn_r2) ++ wsX60)
def wsX6_putsAt : List Cond := .code yX6_putsAt cX6_putsAt 4 (some .int) :: ([.methodLink RX6 86 yX6_isJoint, .instanceMethod yX6_isJoint, .selects RX6 yX6_isJoint yX6_isJoint, .initialized RX6, .code yX6_isJoint cX6_isJoint 2 (some .boolean), .fieldLink RX6 7 "HangingChainModel" "s" "[I", .methodLink RX6 41 yX6_in, .static yX6_in, .code yX6_in cX6_in 3 (some .boolean), .methodLink RX6 65 yX6_holds, .instanceMethod yX6_holds, .selects RX6 yX6_holds yX6_holds, .code yX6_holds cX6_holds 2 (some .boolean), .fieldLink RX6 37 "HangingChainModel" "thrown" "I", .methodLink RX6 78 yX6_puts, .instanceMethod yX6_puts, .selects RX6 yX6_puts yX6_puts, .code yX6_puts cX6_puts 4 (some .int), .methodLink RX6 69 yX6_save, .instanceMethod yX6_save, .selects RX6 yX6_save yX6_save, .code yX6_save cX6_save 2 none, .fieldLink RX6 45 "HangingChainModel" "savedMany" "I", .fieldLink RX6 13 "HangingChainModel" "saved" "[I"] ++ wsX60)
def wsX6_weight_r1 : List Cond := [Cond.methodLink RX6 89 yX6_putsAt, Cond.instanceMethod yX6_putsAt, Cond.selects RX6 yX6_putsAt yX6_putsAt, Cond.initialized RX6, Cond.code yX6_putsAt cX6_putsAt 4 (some .int), Cond.methodLink RX6 86 yX6_isJoint, Cond.instanceMethod yX6_isJoint, Cond.selects RX6 yX6_isJoint yX6_isJoint, Cond.code yX6_isJoint cX6_isJoint 2 (some .boolean), Cond.fieldLink RX6 7 "HangingChainModel" "s" "[I", Cond.methodLink RX6 41 yX6_in, Cond.static yX6_in, Cond.code yX6_in cX6_in 3 (some .boolean), Cond.methodLink RX6 65 yX6_holds, Cond.instanceMethod yX6_holds, Cond.selects RX6 yX6_holds yX6_holds, Cond.code yX6_holds cX6_holds 2 (some .boolean), Cond.fieldLink RX6 37 "HangingChainModel" "thrown" "I", Cond.methodLink RX6 78 yX6_puts, Cond.instanceMethod yX6_puts, Cond.selects RX6 yX6_puts yX6_puts, Cond.code yX6_puts cX6_puts 4 (some .int), Cond.methodLink RX6 69 yX6_save, Cond.instanceMethod yX6_save]
def wsX6_weight_r2 : List Cond := [Cond.selects RX6 yX6_save yX6_save, Cond.code yX6_save cX6_save 2 none, Cond.fieldLink RX6 45 "HangingChainModel" "savedMany" "I", Cond.fieldLink RX6 13 "HangingChainModel" "saved" "[I"]
def wsX6_weight : List Cond := .code yX6_weight cX6_weight 3 (some .int) :: ((wsX6_weight_r1 ++ wsX6_weight_r2) ++ wsX60)
def wsX6_hanger_r1 : List Cond := [Cond.methodLink RX6 89 yX6_putsAt, Cond.instanceMethod yX6_putsAt, Cond.selects RX6 yX6_putsAt yX6_putsAt, Cond.initialized RX6, Cond.code yX6_putsAt cX6_putsAt 4 (some .int), Cond.methodLink RX6 86 yX6_isJoint, Cond.instanceMethod yX6_isJoint, Cond.selects RX6 yX6_isJoint yX6_isJoint, Cond.code yX6_isJoint cX6_isJoint 2 (some .boolean), Cond.fieldLink RX6 7 "HangingChainModel" "s" "[I", Cond.methodLink RX6 41 yX6_in, Cond.static yX6_in, Cond.code yX6_in cX6_in 3 (some .boolean), Cond.methodLink RX6 65 yX6_holds, Cond.instanceMethod yX6_holds, Cond.selects RX6 yX6_holds yX6_holds, Cond.code yX6_holds cX6_holds 2 (some .boolean), Cond.fieldLink RX6 37 "HangingChainModel" "thrown" "I", Cond.methodLink RX6 78 yX6_puts, Cond.instanceMethod yX6_puts, Cond.selects RX6 yX6_puts yX6_puts, Cond.code yX6_puts cX6_puts 4 (some .int), Cond.methodLink RX6 69 yX6_save, Cond.instanceMethod yX6_save]
def wsX6_hanger_r2 : List Cond := [Cond.selects RX6 yX6_save yX6_save, Cond.code yX6_save cX6_save 2 none, Cond.fieldLink RX6 45 "HangingChainModel" "savedMany" "I", Cond.fieldLink RX6 13 "HangingChainModel" "saved" "[I"]
def wsX6_hanger : List Cond := .code yX6_hanger cX6_hanger 3 (some .int) :: ((wsX6_hanger_r1 ++ wsX6_hanger_r2) ++ wsX60)
def wsX6_prop_r1 : List Cond := [Cond.methodLink RX6 89 yX6_putsAt, Cond.instanceMethod yX6_putsAt, Cond.selects RX6 yX6_putsAt yX6_putsAt, Cond.initialized RX6, Cond.code yX6_putsAt cX6_putsAt 4 (some .int), Cond.methodLink RX6 86 yX6_isJoint, Cond.instanceMethod yX6_isJoint, Cond.selects RX6 yX6_isJoint yX6_isJoint, Cond.code yX6_isJoint cX6_isJoint 2 (some .boolean), Cond.fieldLink RX6 7 "HangingChainModel" "s" "[I", Cond.methodLink RX6 41 yX6_in, Cond.static yX6_in, Cond.code yX6_in cX6_in 3 (some .boolean), Cond.methodLink RX6 65 yX6_holds, Cond.instanceMethod yX6_holds, Cond.selects RX6 yX6_holds yX6_holds, Cond.code yX6_holds cX6_holds 2 (some .boolean), Cond.fieldLink RX6 37 "HangingChainModel" "thrown" "I", Cond.methodLink RX6 78 yX6_puts, Cond.instanceMethod yX6_puts, Cond.selects RX6 yX6_puts yX6_puts, Cond.code yX6_puts cX6_puts 4 (some .int), Cond.methodLink RX6 69 yX6_save, Cond.instanceMethod yX6_save]
def wsX6_prop_r2 : List Cond := [Cond.selects RX6 yX6_save yX6_save, Cond.code yX6_save cX6_save 2 none, Cond.fieldLink RX6 45 "HangingChainModel" "savedMany" "I", Cond.fieldLink RX6 13 "HangingChainModel" "saved" "[I"]
def wsX6_prop : List Cond := .code yX6_prop cX6_prop 3 (some .int) :: ((wsX6_prop_r1 ++ wsX6_prop_r2) ++ wsX60)
def wsX6_moves : List Cond := .code yX6_moves cX6_moves 5 (some .int) :: ([.fieldLink RX6 7 "HangingChainModel" "s" "[I"] ++ wsX60)
def wsX6_move : List Cond := .code yX6_move cX6_move 3 (some .int) :: ([.methodLink RX6 86 yX6_isJoint, .instanceMethod yX6_isJoint, .selects RX6 yX6_isJoint yX6_isJoint, .initialized RX6, .code yX6_isJoint cX6_isJoint 2 (some .boolean), .fieldLink RX6 7 "HangingChainModel" "s" "[I", .methodLink RX6 41 yX6_in, .static yX6_in, .code yX6_in cX6_in 3 (some .boolean), .methodLink RX6 65 yX6_holds, .instanceMethod yX6_holds, .selects RX6 yX6_holds yX6_holds, .code yX6_holds cX6_holds 2 (some .boolean), .fieldLink RX6 37 "HangingChainModel" "thrown" "I", .methodLink RX6 69 yX6_save, .instanceMethod yX6_save, .selects RX6 yX6_save yX6_save, .code yX6_save cX6_save 2 none, .fieldLink RX6 45 "HangingChainModel" "savedMany" "I", .fieldLink RX6 13 "HangingChainModel" "saved" "[I", .methodLink RX6 93 yX6_moves, .instanceMethod yX6_moves, .selects RX6 yX6_moves yX6_moves, .code yX6_moves cX6_moves 5 (some .int)] ++ wsX60)
def wsX6_set : List Cond := .code yX6_set cX6_set 5 (some .int) :: ([.methodLink RX6 41 yX6_in, .static yX6_in, .initialized RX6, .code yX6_in cX6_in 3 (some .boolean), .methodLink RX6 65 yX6_holds, .instanceMethod yX6_holds, .selects RX6 yX6_holds yX6_holds, .code yX6_holds cX6_holds 2 (some .boolean), .fieldLink RX6 37 "HangingChainModel" "thrown" "I", .methodLink RX6 78 yX6_puts, .instanceMethod yX6_puts, .selects RX6 yX6_puts yX6_puts, .code yX6_puts cX6_puts 4 (some .int), .fieldLink RX6 7 "HangingChainModel" "s" "[I", .methodLink RX6 69 yX6_save, .instanceMethod yX6_save, .selects RX6 yX6_save yX6_save, .code yX6_save cX6_save 2 none, .fieldLink RX6 45 "HangingChainModel" "savedMany" "I", .fieldLink RX6 13 "HangingChainModel" "saved" "[I"] ++ wsX60)
def wsX6_append : List Cond := .code yX6_append cX6_append 2 (some .int) :: ([.fieldLink RX6 96 "HangingChainModel" "length" "I", .fieldLink RX6 16 "HangingChainModel" "text" "[I", .methodLink RX6 41 yX6_in, .static yX6_in, .initialized RX6, .code yX6_in cX6_in 3 (some .boolean), .methodLink RX6 65 yX6_holds, .instanceMethod yX6_holds, .selects RX6 yX6_holds yX6_holds, .code yX6_holds cX6_holds 2 (some .boolean), .fieldLink RX6 37 "HangingChainModel" "thrown" "I"] ++ wsX60)
def wsX6_clearBuffer : List Cond := .code yX6_clearBuffer cX6_clearBuffer 2 (some .int) :: ([.fieldLink RX6 37 "HangingChainModel" "thrown" "I", .fieldLink RX6 96 "HangingChainModel" "length" "I"] ++ wsX60)
def wsX6_sign : List Cond := .code yX6_sign cX6_sign 4 (some .int) :: ([.fieldLink RX6 99 "HangingChainModel" "at" "I", .fieldLink RX6 96 "HangingChainModel" "length" "I", .fieldLink RX6 16 "HangingChainModel" "text" "[I", .fieldLink RX6 102 "HangingChainModel" "isWrong" "Z", .methodLink RX6 41 yX6_in, .static yX6_in, .initialized RX6, .code yX6_in cX6_in 3 (some .boolean)] ++ wsX60)
def wsX6_isNext : List Cond := .code yX6_isNext cX6_isNext 3 (some .boolean) :: ([.fieldLink RX6 102 "HangingChainModel" "isWrong" "Z", .fieldLink RX6 99 "HangingChainModel" "at" "I", .fieldLink RX6 96 "HangingChainModel" "length" "I", .fieldLink RX6 16 "HangingChainModel" "text" "[I", .methodLink RX6 41 yX6_in, .static yX6_in, .initialized RX6, .code yX6_in cX6_in 3 (some .boolean)] ++ wsX60)
def wsX6_readLink : List Cond := .code yX6_readLink cX6_readLink 10 none :: ([.fieldLink RX6 99 "HangingChainModel" "at" "I", .fieldLink RX6 96 "HangingChainModel" "length" "I", .fieldLink RX6 16 "HangingChainModel" "text" "[I", .fieldLink RX6 102 "HangingChainModel" "isWrong" "Z", .fieldLink RX6 7 "HangingChainModel" "s" "[I", .methodLink RX6 106 yX6_isNext, .instanceMethod yX6_isNext, .selects RX6 yX6_isNext yX6_isNext, .initialized RX6, .code yX6_isNext cX6_isNext 3 (some .boolean), .methodLink RX6 41 yX6_in, .static yX6_in, .code yX6_in cX6_in 3 (some .boolean), .methodLink RX6 110 yX6_sign, .instanceMethod yX6_sign, .selects RX6 yX6_sign yX6_sign, .code yX6_sign cX6_sign 4 (some .int), .methodLink RX6 72 yX6_noMore, .instanceMethod yX6_noMore, .selects RX6 yX6_noMore yX6_noMore, .code yX6_noMore cX6_noMore 2 none] ++ wsX60)
def wsX6_go_r1 : List Cond := [Cond.fieldLink RX6 99 "HangingChainModel" "at" "I", Cond.fieldLink RX6 102 "HangingChainModel" "isWrong" "Z", Cond.fieldLink RX6 96 "HangingChainModel" "length" "I", Cond.methodLink RX6 113 yX6_readLink, Cond.instanceMethod yX6_readLink, Cond.selects RX6 yX6_readLink yX6_readLink, Cond.initialized RX6, Cond.code yX6_readLink cX6_readLink 10 none, Cond.fieldLink RX6 16 "HangingChainModel" "text" "[I", Cond.fieldLink RX6 7 "HangingChainModel" "s" "[I", Cond.methodLink RX6 106 yX6_isNext, Cond.instanceMethod yX6_isNext, Cond.selects RX6 yX6_isNext yX6_isNext, Cond.code yX6_isNext cX6_isNext 3 (some .boolean), Cond.methodLink RX6 41 yX6_in, Cond.static yX6_in, Cond.code yX6_in cX6_in 3 (some .boolean), Cond.methodLink RX6 110 yX6_sign, Cond.instanceMethod yX6_sign, Cond.selects RX6 yX6_sign yX6_sign, Cond.code yX6_sign cX6_sign 4 (some .int), Cond.methodLink RX6 72 yX6_noMore, Cond.instanceMethod yX6_noMore, Cond.selects RX6 yX6_noMore yX6_noMore]
def wsX6_go_r2 : List Cond := [Cond.code yX6_noMore cX6_noMore 2 none]
def wsX6_go : List Cond := .code yX6_go cX6_go 4 (some .int) :: ((wsX6_go_r1 ++ wsX6_go_r2) ++ wsX60)
def wsX6_firstError_r1 : List Cond := [Cond.fieldLink RX6 37 "HangingChainModel" "thrown" "I", Cond.fieldLink RX6 102 "HangingChainModel" "isWrong" "Z", Cond.fieldLink RX6 99 "HangingChainModel" "at" "I", Cond.fieldLink RX6 96 "HangingChainModel" "length" "I", Cond.methodLink RX6 117 yX6_go, Cond.instanceMethod yX6_go, Cond.selects RX6 yX6_go yX6_go, Cond.initialized RX6, Cond.code yX6_go cX6_go 4 (some .int), Cond.methodLink RX6 113 yX6_readLink, Cond.instanceMethod yX6_readLink, Cond.selects RX6 yX6_readLink yX6_readLink, Cond.code yX6_readLink cX6_readLink 10 none, Cond.fieldLink RX6 16 "HangingChainModel" "text" "[I", Cond.fieldLink RX6 7 "HangingChainModel" "s" "[I", Cond.methodLink RX6 106 yX6_isNext, Cond.instanceMethod yX6_isNext, Cond.selects RX6 yX6_isNext yX6_isNext, Cond.code yX6_isNext cX6_isNext 3 (some .boolean), Cond.methodLink RX6 41 yX6_in, Cond.static yX6_in, Cond.code yX6_in cX6_in 3 (some .boolean), Cond.methodLink RX6 110 yX6_sign, Cond.instanceMethod yX6_sign]
def wsX6_firstError_r2 : List Cond := [Cond.selects RX6 yX6_sign yX6_sign, Cond.code yX6_sign cX6_sign 4 (some .int), Cond.methodLink RX6 72 yX6_noMore, Cond.instanceMethod yX6_noMore, Cond.selects RX6 yX6_noMore yX6_noMore, Cond.code yX6_noMore cX6_noMore 2 none]
def wsX6_firstError : List Cond := .code yX6_firstError cX6_firstError 2 (some .int) :: ((wsX6_firstError_r1 ++ wsX6_firstError_r2) ++ wsX60)
def wsX6_shape_r1 : List Cond := [Cond.fieldLink RX6 102 "HangingChainModel" "isWrong" "Z", Cond.fieldLink RX6 7 "HangingChainModel" "s" "[I", Cond.fieldLink RX6 96 "HangingChainModel" "length" "I", Cond.methodLink RX6 117 yX6_go, Cond.instanceMethod yX6_go, Cond.selects RX6 yX6_go yX6_go, Cond.initialized RX6, Cond.code yX6_go cX6_go 4 (some .int), Cond.fieldLink RX6 99 "HangingChainModel" "at" "I", Cond.methodLink RX6 113 yX6_readLink, Cond.instanceMethod yX6_readLink, Cond.selects RX6 yX6_readLink yX6_readLink, Cond.code yX6_readLink cX6_readLink 10 none, Cond.fieldLink RX6 16 "HangingChainModel" "text" "[I", Cond.methodLink RX6 106 yX6_isNext, Cond.instanceMethod yX6_isNext, Cond.selects RX6 yX6_isNext yX6_isNext, Cond.code yX6_isNext cX6_isNext 3 (some .boolean), Cond.methodLink RX6 41 yX6_in, Cond.static yX6_in, Cond.code yX6_in cX6_in 3 (some .boolean), Cond.methodLink RX6 110 yX6_sign, Cond.instanceMethod yX6_sign, Cond.selects RX6 yX6_sign yX6_sign]
def wsX6_shape_r2 : List Cond := [Cond.code yX6_sign cX6_sign 4 (some .int), Cond.methodLink RX6 72 yX6_noMore, Cond.instanceMethod yX6_noMore, Cond.selects RX6 yX6_noMore yX6_noMore, Cond.code yX6_noMore cX6_noMore 2 none, Cond.methodLink RX6 65 yX6_holds, Cond.instanceMethod yX6_holds, Cond.selects RX6 yX6_holds yX6_holds, Cond.code yX6_holds cX6_holds 2 (some .boolean), Cond.fieldLink RX6 37 "HangingChainModel" "thrown" "I", Cond.methodLink RX6 69 yX6_save, Cond.instanceMethod yX6_save, Cond.selects RX6 yX6_save yX6_save, Cond.code yX6_save cX6_save 2 none, Cond.fieldLink RX6 45 "HangingChainModel" "savedMany" "I", Cond.fieldLink RX6 13 "HangingChainModel" "saved" "[I"]
def wsX6_shape : List Cond := .code yX6_shape cX6_shape 3 (some .int) :: ((wsX6_shape_r1 ++ wsX6_shape_r2) ++ wsX60)
def wsX6_undo : List Cond := .code yX6_undo cX6_undo 2 (some .int) :: ([.fieldLink RX6 45 "HangingChainModel" "savedMany" "I", .fieldLink RX6 7 "HangingChainModel" "s" "[I", .fieldLink RX6 13 "HangingChainModel" "saved" "[I", .methodLink RX6 65 yX6_holds, .instanceMethod yX6_holds, .selects RX6 yX6_holds yX6_holds, .initialized RX6, .code yX6_holds cX6_holds 2 (some .boolean), .fieldLink RX6 37 "HangingChainModel" "thrown" "I"] ++ wsX60)
def wsX6_toldOfLink : List Cond := .code yX6_toldOfLink cX6_toldOfLink 3 (some .int) :: ([.fieldLink RX6 7 "HangingChainModel" "s" "[I", .fieldLink RX6 34 "HangingChainModel" "force" "[I", .methodLink RX6 62 yX6_lay, .instanceMethod yX6_lay, .selects RX6 yX6_lay yX6_lay, .initialized RX6, .code yX6_lay cX6_lay 4 none, .fieldLink RX6 48 "HangingChainModel" "nearWall" "I", .fieldLink RX6 51 "HangingChainModel" "farWall" "I", .fieldLink RX6 19 "HangingChainModel" "height" "[I", .fieldLink RX6 31 "HangingChainModel" "load" "[I", .methodLink RX6 54 yX6_layJoint, .instanceMethod yX6_layJoint, .selects RX6 yX6_layJoint yX6_layJoint, .code yX6_layJoint cX6_layJoint 4 none, .fieldLink RX6 22 "HangingChainModel" "burden" "[I", .fieldLink RX6 25 "HangingChainModel" "hung" "[I", .fieldLink RX6 28 "HangingChainModel" "propped" "[I", .methodLink RX6 58 yX6_size, .static yX6_size, .code yX6_size cX6_size 1 (some .int)] ++ wsX60)
def wsX6_linkOf_r1 : List Cond := [Cond.methodLink RX6 75 yX6_isLink, Cond.instanceMethod yX6_isLink, Cond.selects RX6 yX6_isLink yX6_isLink, Cond.initialized RX6, Cond.code yX6_isLink cX6_isLink 2 (some .boolean), Cond.fieldLink RX6 7 "HangingChainModel" "s" "[I", Cond.methodLink RX6 41 yX6_in, Cond.static yX6_in, Cond.code yX6_in cX6_in 3 (some .boolean), Cond.methodLink RX6 65 yX6_holds, Cond.instanceMethod yX6_holds, Cond.selects RX6 yX6_holds yX6_holds, Cond.code yX6_holds cX6_holds 2 (some .boolean), Cond.fieldLink RX6 37 "HangingChainModel" "thrown" "I", Cond.methodLink RX6 121 yX6_toldOfLink, Cond.instanceMethod yX6_toldOfLink, Cond.selects RX6 yX6_toldOfLink yX6_toldOfLink, Cond.code yX6_toldOfLink cX6_toldOfLink 3 (some .int), Cond.fieldLink RX6 34 "HangingChainModel" "force" "[I", Cond.methodLink RX6 62 yX6_lay, Cond.instanceMethod yX6_lay, Cond.selects RX6 yX6_lay yX6_lay, Cond.code yX6_lay cX6_lay 4 none, Cond.fieldLink RX6 48 "HangingChainModel" "nearWall" "I"]
def wsX6_linkOf_r2 : List Cond := [Cond.fieldLink RX6 51 "HangingChainModel" "farWall" "I", Cond.fieldLink RX6 19 "HangingChainModel" "height" "[I", Cond.fieldLink RX6 31 "HangingChainModel" "load" "[I", Cond.methodLink RX6 54 yX6_layJoint, Cond.instanceMethod yX6_layJoint, Cond.selects RX6 yX6_layJoint yX6_layJoint, Cond.code yX6_layJoint cX6_layJoint 4 none, Cond.fieldLink RX6 22 "HangingChainModel" "burden" "[I", Cond.fieldLink RX6 25 "HangingChainModel" "hung" "[I", Cond.fieldLink RX6 28 "HangingChainModel" "propped" "[I", Cond.methodLink RX6 58 yX6_size, Cond.static yX6_size, Cond.code yX6_size cX6_size 1 (some .int)]
def wsX6_linkOf : List Cond := .code yX6_linkOf cX6_linkOf 3 (some .int) :: ((wsX6_linkOf_r1 ++ wsX6_linkOf_r2) ++ wsX60)
def wsX6_toldOfJoint : List Cond := .code yX6_toldOfJoint cX6_toldOfJoint 3 (some .int) :: ([.fieldLink RX6 19 "HangingChainModel" "height" "[I", .fieldLink RX6 7 "HangingChainModel" "s" "[I", .fieldLink RX6 22 "HangingChainModel" "burden" "[I", .fieldLink RX6 25 "HangingChainModel" "hung" "[I", .fieldLink RX6 28 "HangingChainModel" "propped" "[I", .fieldLink RX6 31 "HangingChainModel" "load" "[I", .methodLink RX6 62 yX6_lay, .instanceMethod yX6_lay, .selects RX6 yX6_lay yX6_lay, .initialized RX6, .code yX6_lay cX6_lay 4 none, .fieldLink RX6 48 "HangingChainModel" "nearWall" "I", .fieldLink RX6 51 "HangingChainModel" "farWall" "I", .fieldLink RX6 34 "HangingChainModel" "force" "[I", .methodLink RX6 54 yX6_layJoint, .instanceMethod yX6_layJoint, .selects RX6 yX6_layJoint yX6_layJoint, .code yX6_layJoint cX6_layJoint 4 none, .methodLink RX6 58 yX6_size, .static yX6_size, .code yX6_size cX6_size 1 (some .int)] ++ wsX60)
def wsX6_joint_r1 : List Cond := [Cond.methodLink RX6 86 yX6_isJoint, Cond.instanceMethod yX6_isJoint, Cond.selects RX6 yX6_isJoint yX6_isJoint, Cond.initialized RX6, Cond.code yX6_isJoint cX6_isJoint 2 (some .boolean), Cond.fieldLink RX6 7 "HangingChainModel" "s" "[I", Cond.methodLink RX6 41 yX6_in, Cond.static yX6_in, Cond.code yX6_in cX6_in 3 (some .boolean), Cond.methodLink RX6 65 yX6_holds, Cond.instanceMethod yX6_holds, Cond.selects RX6 yX6_holds yX6_holds, Cond.code yX6_holds cX6_holds 2 (some .boolean), Cond.fieldLink RX6 37 "HangingChainModel" "thrown" "I", Cond.methodLink RX6 124 yX6_toldOfJoint, Cond.instanceMethod yX6_toldOfJoint, Cond.selects RX6 yX6_toldOfJoint yX6_toldOfJoint, Cond.code yX6_toldOfJoint cX6_toldOfJoint 3 (some .int), Cond.fieldLink RX6 19 "HangingChainModel" "height" "[I", Cond.fieldLink RX6 22 "HangingChainModel" "burden" "[I", Cond.fieldLink RX6 25 "HangingChainModel" "hung" "[I", Cond.fieldLink RX6 28 "HangingChainModel" "propped" "[I", Cond.fieldLink RX6 31 "HangingChainModel" "load" "[I", Cond.methodLink RX6 62 yX6_lay]
def wsX6_joint_r2 : List Cond := [Cond.instanceMethod yX6_lay, Cond.selects RX6 yX6_lay yX6_lay, Cond.code yX6_lay cX6_lay 4 none, Cond.fieldLink RX6 48 "HangingChainModel" "nearWall" "I", Cond.fieldLink RX6 51 "HangingChainModel" "farWall" "I", Cond.fieldLink RX6 34 "HangingChainModel" "force" "[I", Cond.methodLink RX6 54 yX6_layJoint, Cond.instanceMethod yX6_layJoint, Cond.selects RX6 yX6_layJoint yX6_layJoint, Cond.code yX6_layJoint cX6_layJoint 4 none, Cond.methodLink RX6 58 yX6_size, Cond.static yX6_size, Cond.code yX6_size cX6_size 1 (some .int)]
def wsX6_joint : List Cond := .code yX6_joint cX6_joint 3 (some .int) :: ((wsX6_joint_r1 ++ wsX6_joint_r2) ++ wsX60)
def wsX6_lowest : List Cond := .code yX6_lowest cX6_lowest 3 (some .int) :: ([.fieldLink RX6 7 "HangingChainModel" "s" "[I", .fieldLink RX6 19 "HangingChainModel" "height" "[I"] ++ wsX60)
def wsX6_sum : List Cond := .code yX6_sum cX6_sum 4 (some .int) :: ([.fieldLink RX6 7 "HangingChainModel" "s" "[I", .fieldLink RX6 31 "HangingChainModel" "load" "[I"] ++ wsX60)
def wsX6_breaking : List Cond := .code yX6_breaking cX6_breaking 3 (some .int) :: ([.fieldLink RX6 7 "HangingChainModel" "s" "[I", .fieldLink RX6 34 "HangingChainModel" "force" "[I"] ++ wsX60)
def wsX6_counted_r1 : List Cond := [Cond.fieldLink RX6 7 "HangingChainModel" "s" "[I", Cond.fieldLink RX6 48 "HangingChainModel" "nearWall" "I", Cond.fieldLink RX6 51 "HangingChainModel" "farWall" "I", Cond.fieldLink RX6 19 "HangingChainModel" "height" "[I", Cond.fieldLink RX6 45 "HangingChainModel" "savedMany" "I", Cond.methodLink RX6 62 yX6_lay, Cond.instanceMethod yX6_lay, Cond.selects RX6 yX6_lay yX6_lay, Cond.initialized RX6, Cond.code yX6_lay cX6_lay 4 none, Cond.fieldLink RX6 31 "HangingChainModel" "load" "[I", Cond.fieldLink RX6 34 "HangingChainModel" "force" "[I", Cond.methodLink RX6 54 yX6_layJoint, Cond.instanceMethod yX6_layJoint, Cond.selects RX6 yX6_layJoint yX6_layJoint, Cond.code yX6_layJoint cX6_layJoint 4 none, Cond.fieldLink RX6 22 "HangingChainModel" "burden" "[I", Cond.fieldLink RX6 25 "HangingChainModel" "hung" "[I", Cond.fieldLink RX6 28 "HangingChainModel" "propped" "[I", Cond.methodLink RX6 58 yX6_size, Cond.static yX6_size, Cond.code yX6_size cX6_size 1 (some .int), Cond.methodLink RX6 127 yX6_sum, Cond.instanceMethod yX6_sum]
def wsX6_counted_r2 : List Cond := [Cond.selects RX6 yX6_sum yX6_sum, Cond.code yX6_sum cX6_sum 4 (some .int), Cond.methodLink RX6 130 yX6_greatest, Cond.instanceMethod yX6_greatest, Cond.selects RX6 yX6_greatest yX6_greatest, Cond.code yX6_greatest cX6_greatest 3 (some .int), Cond.methodLink RX6 134 yX6_breaking, Cond.instanceMethod yX6_breaking, Cond.selects RX6 yX6_breaking yX6_breaking, Cond.code yX6_breaking cX6_breaking 3 (some .int), Cond.methodLink RX6 137 yX6_lowest, Cond.instanceMethod yX6_lowest, Cond.selects RX6 yX6_lowest yX6_lowest, Cond.code yX6_lowest cX6_lowest 3 (some .int)]
def wsX6_counted : List Cond := .code yX6_counted cX6_counted 2 (some .int) :: ((wsX6_counted_r1 ++ wsX6_counted_r2) ++ wsX60)
def wsX6_count_r1 : List Cond := [Cond.methodLink RX6 41 yX6_in, Cond.static yX6_in, Cond.initialized RX6, Cond.code yX6_in cX6_in 3 (some .boolean), Cond.methodLink RX6 65 yX6_holds, Cond.instanceMethod yX6_holds, Cond.selects RX6 yX6_holds yX6_holds, Cond.code yX6_holds cX6_holds 2 (some .boolean), Cond.fieldLink RX6 37 "HangingChainModel" "thrown" "I", Cond.methodLink RX6 140 yX6_counted, Cond.instanceMethod yX6_counted, Cond.selects RX6 yX6_counted yX6_counted, Cond.code yX6_counted cX6_counted 2 (some .int), Cond.fieldLink RX6 7 "HangingChainModel" "s" "[I", Cond.fieldLink RX6 48 "HangingChainModel" "nearWall" "I", Cond.fieldLink RX6 51 "HangingChainModel" "farWall" "I", Cond.fieldLink RX6 19 "HangingChainModel" "height" "[I", Cond.fieldLink RX6 45 "HangingChainModel" "savedMany" "I", Cond.methodLink RX6 62 yX6_lay, Cond.instanceMethod yX6_lay, Cond.selects RX6 yX6_lay yX6_lay, Cond.code yX6_lay cX6_lay 4 none, Cond.fieldLink RX6 31 "HangingChainModel" "load" "[I", Cond.fieldLink RX6 34 "HangingChainModel" "force" "[I"]
def wsX6_count_r2 : List Cond := [Cond.methodLink RX6 54 yX6_layJoint, Cond.instanceMethod yX6_layJoint, Cond.selects RX6 yX6_layJoint yX6_layJoint, Cond.code yX6_layJoint cX6_layJoint 4 none, Cond.fieldLink RX6 22 "HangingChainModel" "burden" "[I", Cond.fieldLink RX6 25 "HangingChainModel" "hung" "[I", Cond.fieldLink RX6 28 "HangingChainModel" "propped" "[I", Cond.methodLink RX6 58 yX6_size, Cond.static yX6_size, Cond.code yX6_size cX6_size 1 (some .int), Cond.methodLink RX6 127 yX6_sum, Cond.instanceMethod yX6_sum, Cond.selects RX6 yX6_sum yX6_sum, Cond.code yX6_sum cX6_sum 4 (some .int), Cond.methodLink RX6 130 yX6_greatest, Cond.instanceMethod yX6_greatest, Cond.selects RX6 yX6_greatest yX6_greatest, Cond.code yX6_greatest cX6_greatest 3 (some .int), Cond.methodLink RX6 134 yX6_breaking, Cond.instanceMethod yX6_breaking, Cond.selects RX6 yX6_breaking yX6_breaking, Cond.code yX6_breaking cX6_breaking 3 (some .int), Cond.methodLink RX6 137 yX6_lowest, Cond.instanceMethod yX6_lowest]
def wsX6_count_r3 : List Cond := [Cond.selects RX6 yX6_lowest yX6_lowest, Cond.code yX6_lowest cX6_lowest 3 (some .int)]
def wsX6_count : List Cond := .code yX6_count cX6_count 2 (some .int) :: ((wsX6_count_r1 ++ (wsX6_count_r2 ++ wsX6_count_r3)) ++ wsX60)
def wsX6_setting : List Cond := .code yX6_setting cX6_setting 2 (some .int) :: ([.fieldLink RX6 7 "HangingChainModel" "s" "[I", .methodLink RX6 41 yX6_in, .static yX6_in, .initialized RX6, .code yX6_in cX6_in 3 (some .boolean), .methodLink RX6 65 yX6_holds, .instanceMethod yX6_holds, .selects RX6 yX6_holds yX6_holds, .code yX6_holds cX6_holds 2 (some .boolean), .fieldLink RX6 37 "HangingChainModel" "thrown" "I"] ++ wsX60)
def wsX6_greatestWith_r1 : List Cond := [Cond.fieldLink RX6 7 "HangingChainModel" "s" "[I", Cond.methodLink RX6 130 yX6_greatest, Cond.instanceMethod yX6_greatest, Cond.selects RX6 yX6_greatest yX6_greatest, Cond.initialized RX6, Cond.code yX6_greatest cX6_greatest 3 (some .int), Cond.fieldLink RX6 34 "HangingChainModel" "force" "[I", Cond.methodLink RX6 62 yX6_lay, Cond.instanceMethod yX6_lay, Cond.selects RX6 yX6_lay yX6_lay, Cond.code yX6_lay cX6_lay 4 none, Cond.fieldLink RX6 48 "HangingChainModel" "nearWall" "I", Cond.fieldLink RX6 51 "HangingChainModel" "farWall" "I", Cond.fieldLink RX6 19 "HangingChainModel" "height" "[I", Cond.fieldLink RX6 31 "HangingChainModel" "load" "[I", Cond.methodLink RX6 54 yX6_layJoint, Cond.instanceMethod yX6_layJoint, Cond.selects RX6 yX6_layJoint yX6_layJoint, Cond.code yX6_layJoint cX6_layJoint 4 none, Cond.fieldLink RX6 22 "HangingChainModel" "burden" "[I", Cond.fieldLink RX6 25 "HangingChainModel" "hung" "[I", Cond.fieldLink RX6 28 "HangingChainModel" "propped" "[I", Cond.methodLink RX6 58 yX6_size, Cond.static yX6_size]
def wsX6_greatestWith_r2 : List Cond := [Cond.code yX6_size cX6_size 1 (some .int)]
def wsX6_greatestWith : List Cond := .code yX6_greatestWith cX6_greatestWith 5 (some .int) :: ((wsX6_greatestWith_r1 ++ wsX6_greatestWith_r2) ++ wsX60)
def wsX6_ifWeight_r1 : List Cond := [Cond.methodLink RX6 86 yX6_isJoint, Cond.instanceMethod yX6_isJoint, Cond.selects RX6 yX6_isJoint yX6_isJoint, Cond.initialized RX6, Cond.code yX6_isJoint cX6_isJoint 2 (some .boolean), Cond.fieldLink RX6 7 "HangingChainModel" "s" "[I", Cond.methodLink RX6 41 yX6_in, Cond.static yX6_in, Cond.code yX6_in cX6_in 3 (some .boolean), Cond.methodLink RX6 65 yX6_holds, Cond.instanceMethod yX6_holds, Cond.selects RX6 yX6_holds yX6_holds, Cond.code yX6_holds cX6_holds 2 (some .boolean), Cond.fieldLink RX6 37 "HangingChainModel" "thrown" "I", Cond.methodLink RX6 143 yX6_greatestWith, Cond.instanceMethod yX6_greatestWith, Cond.selects RX6 yX6_greatestWith yX6_greatestWith, Cond.code yX6_greatestWith cX6_greatestWith 5 (some .int), Cond.methodLink RX6 130 yX6_greatest, Cond.instanceMethod yX6_greatest, Cond.selects RX6 yX6_greatest yX6_greatest, Cond.code yX6_greatest cX6_greatest 3 (some .int), Cond.fieldLink RX6 34 "HangingChainModel" "force" "[I", Cond.methodLink RX6 62 yX6_lay]
def wsX6_ifWeight_r2 : List Cond := [Cond.instanceMethod yX6_lay, Cond.selects RX6 yX6_lay yX6_lay, Cond.code yX6_lay cX6_lay 4 none, Cond.fieldLink RX6 48 "HangingChainModel" "nearWall" "I", Cond.fieldLink RX6 51 "HangingChainModel" "farWall" "I", Cond.fieldLink RX6 19 "HangingChainModel" "height" "[I", Cond.fieldLink RX6 31 "HangingChainModel" "load" "[I", Cond.methodLink RX6 54 yX6_layJoint, Cond.instanceMethod yX6_layJoint, Cond.selects RX6 yX6_layJoint yX6_layJoint, Cond.code yX6_layJoint cX6_layJoint 4 none, Cond.fieldLink RX6 22 "HangingChainModel" "burden" "[I", Cond.fieldLink RX6 25 "HangingChainModel" "hung" "[I", Cond.fieldLink RX6 28 "HangingChainModel" "propped" "[I", Cond.methodLink RX6 58 yX6_size, Cond.static yX6_size, Cond.code yX6_size cX6_size 1 (some .int)]
def wsX6_ifWeight : List Cond := .code yX6_ifWeight cX6_ifWeight 3 (some .int) :: ((wsX6_ifWeight_r1 ++ wsX6_ifWeight_r2) ++ wsX60)
def wsX6_heaviest_r1 : List Cond := [Cond.fieldLink RX6 7 "HangingChainModel" "s" "[I", Cond.methodLink RX6 143 yX6_greatestWith, Cond.instanceMethod yX6_greatestWith, Cond.selects RX6 yX6_greatestWith yX6_greatestWith, Cond.initialized RX6, Cond.code yX6_greatestWith cX6_greatestWith 5 (some .int), Cond.methodLink RX6 130 yX6_greatest, Cond.instanceMethod yX6_greatest, Cond.selects RX6 yX6_greatest yX6_greatest, Cond.code yX6_greatest cX6_greatest 3 (some .int), Cond.fieldLink RX6 34 "HangingChainModel" "force" "[I", Cond.methodLink RX6 62 yX6_lay, Cond.instanceMethod yX6_lay, Cond.selects RX6 yX6_lay yX6_lay, Cond.code yX6_lay cX6_lay 4 none, Cond.fieldLink RX6 48 "HangingChainModel" "nearWall" "I", Cond.fieldLink RX6 51 "HangingChainModel" "farWall" "I", Cond.fieldLink RX6 19 "HangingChainModel" "height" "[I", Cond.fieldLink RX6 31 "HangingChainModel" "load" "[I", Cond.methodLink RX6 54 yX6_layJoint, Cond.instanceMethod yX6_layJoint, Cond.selects RX6 yX6_layJoint yX6_layJoint, Cond.code yX6_layJoint cX6_layJoint 4 none, Cond.fieldLink RX6 22 "HangingChainModel" "burden" "[I"]
def wsX6_heaviest_r2 : List Cond := [Cond.fieldLink RX6 25 "HangingChainModel" "hung" "[I", Cond.fieldLink RX6 28 "HangingChainModel" "propped" "[I", Cond.methodLink RX6 58 yX6_size, Cond.static yX6_size, Cond.code yX6_size cX6_size 1 (some .int)]
def wsX6_heaviest : List Cond := .code yX6_heaviest cX6_heaviest 3 (some .int) :: ((wsX6_heaviest_r1 ++ wsX6_heaviest_r2) ++ wsX60)
def wsX6_mostWeight_r1 : List Cond := [Cond.methodLink RX6 86 yX6_isJoint, Cond.instanceMethod yX6_isJoint, Cond.selects RX6 yX6_isJoint yX6_isJoint, Cond.initialized RX6, Cond.code yX6_isJoint cX6_isJoint 2 (some .boolean), Cond.fieldLink RX6 7 "HangingChainModel" "s" "[I", Cond.methodLink RX6 41 yX6_in, Cond.static yX6_in, Cond.code yX6_in cX6_in 3 (some .boolean), Cond.methodLink RX6 65 yX6_holds, Cond.instanceMethod yX6_holds, Cond.selects RX6 yX6_holds yX6_holds, Cond.code yX6_holds cX6_holds 2 (some .boolean), Cond.fieldLink RX6 37 "HangingChainModel" "thrown" "I", Cond.methodLink RX6 146 yX6_heaviest, Cond.instanceMethod yX6_heaviest, Cond.selects RX6 yX6_heaviest yX6_heaviest, Cond.code yX6_heaviest cX6_heaviest 3 (some .int), Cond.methodLink RX6 143 yX6_greatestWith, Cond.instanceMethod yX6_greatestWith, Cond.selects RX6 yX6_greatestWith yX6_greatestWith, Cond.code yX6_greatestWith cX6_greatestWith 5 (some .int), Cond.methodLink RX6 130 yX6_greatest, Cond.instanceMethod yX6_greatest]
def wsX6_mostWeight_r2 : List Cond := [Cond.selects RX6 yX6_greatest yX6_greatest, Cond.code yX6_greatest cX6_greatest 3 (some .int), Cond.fieldLink RX6 34 "HangingChainModel" "force" "[I", Cond.methodLink RX6 62 yX6_lay, Cond.instanceMethod yX6_lay, Cond.selects RX6 yX6_lay yX6_lay, Cond.code yX6_lay cX6_lay 4 none, Cond.fieldLink RX6 48 "HangingChainModel" "nearWall" "I", Cond.fieldLink RX6 51 "HangingChainModel" "farWall" "I", Cond.fieldLink RX6 19 "HangingChainModel" "height" "[I", Cond.fieldLink RX6 31 "HangingChainModel" "load" "[I", Cond.methodLink RX6 54 yX6_layJoint, Cond.instanceMethod yX6_layJoint, Cond.selects RX6 yX6_layJoint yX6_layJoint, Cond.code yX6_layJoint cX6_layJoint 4 none, Cond.fieldLink RX6 22 "HangingChainModel" "burden" "[I", Cond.fieldLink RX6 25 "HangingChainModel" "hung" "[I", Cond.fieldLink RX6 28 "HangingChainModel" "propped" "[I", Cond.methodLink RX6 58 yX6_size, Cond.static yX6_size, Cond.code yX6_size cX6_size 1 (some .int)]
def wsX6_mostWeight : List Cond := .code yX6_mostWeight cX6_mostWeight 2 (some .int) :: ((wsX6_mostWeight_r1 ++ wsX6_mostWeight_r2) ++ wsX60)
def wsX6_bestTo_r1 : List Cond := [Cond.fieldLink RX6 7 "HangingChainModel" "s" "[I", Cond.methodLink RX6 93 yX6_moves, Cond.instanceMethod yX6_moves, Cond.selects RX6 yX6_moves yX6_moves, Cond.initialized RX6, Cond.code yX6_moves cX6_moves 5 (some .int), Cond.methodLink RX6 130 yX6_greatest, Cond.instanceMethod yX6_greatest, Cond.selects RX6 yX6_greatest yX6_greatest, Cond.code yX6_greatest cX6_greatest 3 (some .int), Cond.fieldLink RX6 34 "HangingChainModel" "force" "[I", Cond.methodLink RX6 62 yX6_lay, Cond.instanceMethod yX6_lay, Cond.selects RX6 yX6_lay yX6_lay, Cond.code yX6_lay cX6_lay 4 none, Cond.fieldLink RX6 48 "HangingChainModel" "nearWall" "I", Cond.fieldLink RX6 51 "HangingChainModel" "farWall" "I", Cond.fieldLink RX6 19 "HangingChainModel" "height" "[I", Cond.fieldLink RX6 31 "HangingChainModel" "load" "[I", Cond.methodLink RX6 54 yX6_layJoint, Cond.instanceMethod yX6_layJoint, Cond.selects RX6 yX6_layJoint yX6_layJoint, Cond.code yX6_layJoint cX6_layJoint 4 none, Cond.fieldLink RX6 22 "HangingChainModel" "burden" "[I"]
def wsX6_bestTo_r2 : List Cond := [Cond.fieldLink RX6 25 "HangingChainModel" "hung" "[I", Cond.fieldLink RX6 28 "HangingChainModel" "propped" "[I", Cond.methodLink RX6 58 yX6_size, Cond.static yX6_size, Cond.code yX6_size cX6_size 1 (some .int)]
def wsX6_bestTo : List Cond := .code yX6_bestTo cX6_bestTo 8 (some .int) :: ((wsX6_bestTo_r1 ++ wsX6_bestTo_r2) ++ wsX60)
def wsX6_bestMove_r1 : List Cond := [Cond.methodLink RX6 86 yX6_isJoint, Cond.instanceMethod yX6_isJoint, Cond.selects RX6 yX6_isJoint yX6_isJoint, Cond.initialized RX6, Cond.code yX6_isJoint cX6_isJoint 2 (some .boolean), Cond.fieldLink RX6 7 "HangingChainModel" "s" "[I", Cond.methodLink RX6 41 yX6_in, Cond.static yX6_in, Cond.code yX6_in cX6_in 3 (some .boolean), Cond.methodLink RX6 65 yX6_holds, Cond.instanceMethod yX6_holds, Cond.selects RX6 yX6_holds yX6_holds, Cond.code yX6_holds cX6_holds 2 (some .boolean), Cond.fieldLink RX6 37 "HangingChainModel" "thrown" "I", Cond.methodLink RX6 149 yX6_bestTo, Cond.instanceMethod yX6_bestTo, Cond.selects RX6 yX6_bestTo yX6_bestTo, Cond.code yX6_bestTo cX6_bestTo 8 (some .int), Cond.methodLink RX6 93 yX6_moves, Cond.instanceMethod yX6_moves, Cond.selects RX6 yX6_moves yX6_moves, Cond.code yX6_moves cX6_moves 5 (some .int), Cond.methodLink RX6 130 yX6_greatest, Cond.instanceMethod yX6_greatest]
def wsX6_bestMove_r2 : List Cond := [Cond.selects RX6 yX6_greatest yX6_greatest, Cond.code yX6_greatest cX6_greatest 3 (some .int), Cond.fieldLink RX6 34 "HangingChainModel" "force" "[I", Cond.methodLink RX6 62 yX6_lay, Cond.instanceMethod yX6_lay, Cond.selects RX6 yX6_lay yX6_lay, Cond.code yX6_lay cX6_lay 4 none, Cond.fieldLink RX6 48 "HangingChainModel" "nearWall" "I", Cond.fieldLink RX6 51 "HangingChainModel" "farWall" "I", Cond.fieldLink RX6 19 "HangingChainModel" "height" "[I", Cond.fieldLink RX6 31 "HangingChainModel" "load" "[I", Cond.methodLink RX6 54 yX6_layJoint, Cond.instanceMethod yX6_layJoint, Cond.selects RX6 yX6_layJoint yX6_layJoint, Cond.code yX6_layJoint cX6_layJoint 4 none, Cond.fieldLink RX6 22 "HangingChainModel" "burden" "[I", Cond.fieldLink RX6 25 "HangingChainModel" "hung" "[I", Cond.fieldLink RX6 28 "HangingChainModel" "propped" "[I", Cond.methodLink RX6 58 yX6_size, Cond.static yX6_size, Cond.code yX6_size cX6_size 1 (some .int)]
def wsX6_bestMove : List Cond := .code yX6_bestMove cX6_bestMove 2 (some .int) :: ((wsX6_bestMove_r1 ++ wsX6_bestMove_r2) ++ wsX60)
def wsX6_bestHung_r1 : List Cond := [Cond.fieldLink RX6 7 "HangingChainModel" "s" "[I", Cond.methodLink RX6 143 yX6_greatestWith, Cond.instanceMethod yX6_greatestWith, Cond.selects RX6 yX6_greatestWith yX6_greatestWith, Cond.initialized RX6, Cond.code yX6_greatestWith cX6_greatestWith 5 (some .int), Cond.methodLink RX6 130 yX6_greatest, Cond.instanceMethod yX6_greatest, Cond.selects RX6 yX6_greatest yX6_greatest, Cond.code yX6_greatest cX6_greatest 3 (some .int), Cond.fieldLink RX6 34 "HangingChainModel" "force" "[I", Cond.methodLink RX6 62 yX6_lay, Cond.instanceMethod yX6_lay, Cond.selects RX6 yX6_lay yX6_lay, Cond.code yX6_lay cX6_lay 4 none, Cond.fieldLink RX6 48 "HangingChainModel" "nearWall" "I", Cond.fieldLink RX6 51 "HangingChainModel" "farWall" "I", Cond.fieldLink RX6 19 "HangingChainModel" "height" "[I", Cond.fieldLink RX6 31 "HangingChainModel" "load" "[I", Cond.methodLink RX6 54 yX6_layJoint, Cond.instanceMethod yX6_layJoint, Cond.selects RX6 yX6_layJoint yX6_layJoint, Cond.code yX6_layJoint cX6_layJoint 4 none, Cond.fieldLink RX6 22 "HangingChainModel" "burden" "[I"]
def wsX6_bestHung_r2 : List Cond := [Cond.fieldLink RX6 25 "HangingChainModel" "hung" "[I", Cond.fieldLink RX6 28 "HangingChainModel" "propped" "[I", Cond.methodLink RX6 58 yX6_size, Cond.static yX6_size, Cond.code yX6_size cX6_size 1 (some .int)]
def wsX6_bestHung : List Cond := .code yX6_bestHung cX6_bestHung 8 (some .int) :: ((wsX6_bestHung_r1 ++ wsX6_bestHung_r2) ++ wsX60)
def wsX6_bestHanger_r1 : List Cond := [Cond.methodLink RX6 41 yX6_in, Cond.static yX6_in, Cond.initialized RX6, Cond.code yX6_in cX6_in 3 (some .boolean), Cond.methodLink RX6 65 yX6_holds, Cond.instanceMethod yX6_holds, Cond.selects RX6 yX6_holds yX6_holds, Cond.code yX6_holds cX6_holds 2 (some .boolean), Cond.fieldLink RX6 37 "HangingChainModel" "thrown" "I", Cond.methodLink RX6 152 yX6_bestHung, Cond.instanceMethod yX6_bestHung, Cond.selects RX6 yX6_bestHung yX6_bestHung, Cond.code yX6_bestHung cX6_bestHung 8 (some .int), Cond.fieldLink RX6 7 "HangingChainModel" "s" "[I", Cond.methodLink RX6 143 yX6_greatestWith, Cond.instanceMethod yX6_greatestWith, Cond.selects RX6 yX6_greatestWith yX6_greatestWith, Cond.code yX6_greatestWith cX6_greatestWith 5 (some .int), Cond.methodLink RX6 130 yX6_greatest, Cond.instanceMethod yX6_greatest, Cond.selects RX6 yX6_greatest yX6_greatest, Cond.code yX6_greatest cX6_greatest 3 (some .int), Cond.fieldLink RX6 34 "HangingChainModel" "force" "[I", Cond.methodLink RX6 62 yX6_lay]
def wsX6_bestHanger_r2 : List Cond := [Cond.instanceMethod yX6_lay, Cond.selects RX6 yX6_lay yX6_lay, Cond.code yX6_lay cX6_lay 4 none, Cond.fieldLink RX6 48 "HangingChainModel" "nearWall" "I", Cond.fieldLink RX6 51 "HangingChainModel" "farWall" "I", Cond.fieldLink RX6 19 "HangingChainModel" "height" "[I", Cond.fieldLink RX6 31 "HangingChainModel" "load" "[I", Cond.methodLink RX6 54 yX6_layJoint, Cond.instanceMethod yX6_layJoint, Cond.selects RX6 yX6_layJoint yX6_layJoint, Cond.code yX6_layJoint cX6_layJoint 4 none, Cond.fieldLink RX6 22 "HangingChainModel" "burden" "[I", Cond.fieldLink RX6 25 "HangingChainModel" "hung" "[I", Cond.fieldLink RX6 28 "HangingChainModel" "propped" "[I", Cond.methodLink RX6 58 yX6_size, Cond.static yX6_size, Cond.code yX6_size cX6_size 1 (some .int)]
def wsX6_bestHanger : List Cond := .code yX6_bestHanger cX6_bestHanger 2 (some .int) :: ((wsX6_bestHanger_r1 ++ wsX6_bestHanger_r2) ++ wsX60)
def wsX6_calmest_r1 : List Cond := [Cond.methodLink RX6 143 yX6_greatestWith, Cond.instanceMethod yX6_greatestWith, Cond.selects RX6 yX6_greatestWith yX6_greatestWith, Cond.initialized RX6, Cond.code yX6_greatestWith cX6_greatestWith 5 (some .int), Cond.fieldLink RX6 7 "HangingChainModel" "s" "[I", Cond.methodLink RX6 130 yX6_greatest, Cond.instanceMethod yX6_greatest, Cond.selects RX6 yX6_greatest yX6_greatest, Cond.code yX6_greatest cX6_greatest 3 (some .int), Cond.fieldLink RX6 34 "HangingChainModel" "force" "[I", Cond.methodLink RX6 62 yX6_lay, Cond.instanceMethod yX6_lay, Cond.selects RX6 yX6_lay yX6_lay, Cond.code yX6_lay cX6_lay 4 none, Cond.fieldLink RX6 48 "HangingChainModel" "nearWall" "I", Cond.fieldLink RX6 51 "HangingChainModel" "farWall" "I", Cond.fieldLink RX6 19 "HangingChainModel" "height" "[I", Cond.fieldLink RX6 31 "HangingChainModel" "load" "[I", Cond.methodLink RX6 54 yX6_layJoint, Cond.instanceMethod yX6_layJoint, Cond.selects RX6 yX6_layJoint yX6_layJoint, Cond.code yX6_layJoint cX6_layJoint 4 none, Cond.fieldLink RX6 22 "HangingChainModel" "burden" "[I"]
def wsX6_calmest_r2 : List Cond := [Cond.fieldLink RX6 25 "HangingChainModel" "hung" "[I", Cond.fieldLink RX6 28 "HangingChainModel" "propped" "[I", Cond.methodLink RX6 58 yX6_size, Cond.static yX6_size, Cond.code yX6_size cX6_size 1 (some .int)]
def wsX6_calmest : List Cond := .code yX6_calmest cX6_calmest 7 (some .int) :: ((wsX6_calmest_r1 ++ wsX6_calmest_r2) ++ wsX60)
def wsX6_bestStep_r1 : List Cond := [Cond.methodLink RX6 75 yX6_isLink, Cond.instanceMethod yX6_isLink, Cond.selects RX6 yX6_isLink yX6_isLink, Cond.initialized RX6, Cond.code yX6_isLink cX6_isLink 2 (some .boolean), Cond.fieldLink RX6 7 "HangingChainModel" "s" "[I", Cond.methodLink RX6 41 yX6_in, Cond.static yX6_in, Cond.code yX6_in cX6_in 3 (some .boolean), Cond.methodLink RX6 65 yX6_holds, Cond.instanceMethod yX6_holds, Cond.selects RX6 yX6_holds yX6_holds, Cond.code yX6_holds cX6_holds 2 (some .boolean), Cond.fieldLink RX6 37 "HangingChainModel" "thrown" "I", Cond.methodLink RX6 155 yX6_calmest, Cond.instanceMethod yX6_calmest, Cond.selects RX6 yX6_calmest yX6_calmest, Cond.code yX6_calmest cX6_calmest 7 (some .int), Cond.methodLink RX6 143 yX6_greatestWith, Cond.instanceMethod yX6_greatestWith, Cond.selects RX6 yX6_greatestWith yX6_greatestWith, Cond.code yX6_greatestWith cX6_greatestWith 5 (some .int), Cond.methodLink RX6 130 yX6_greatest, Cond.instanceMethod yX6_greatest]
def wsX6_bestStep_r2 : List Cond := [Cond.selects RX6 yX6_greatest yX6_greatest, Cond.code yX6_greatest cX6_greatest 3 (some .int), Cond.fieldLink RX6 34 "HangingChainModel" "force" "[I", Cond.methodLink RX6 62 yX6_lay, Cond.instanceMethod yX6_lay, Cond.selects RX6 yX6_lay yX6_lay, Cond.code yX6_lay cX6_lay 4 none, Cond.fieldLink RX6 48 "HangingChainModel" "nearWall" "I", Cond.fieldLink RX6 51 "HangingChainModel" "farWall" "I", Cond.fieldLink RX6 19 "HangingChainModel" "height" "[I", Cond.fieldLink RX6 31 "HangingChainModel" "load" "[I", Cond.methodLink RX6 54 yX6_layJoint, Cond.instanceMethod yX6_layJoint, Cond.selects RX6 yX6_layJoint yX6_layJoint, Cond.code yX6_layJoint cX6_layJoint 4 none, Cond.fieldLink RX6 22 "HangingChainModel" "burden" "[I", Cond.fieldLink RX6 25 "HangingChainModel" "hung" "[I", Cond.fieldLink RX6 28 "HangingChainModel" "propped" "[I", Cond.methodLink RX6 58 yX6_size, Cond.static yX6_size, Cond.code yX6_size cX6_size 1 (some .int)]
def wsX6_bestStep : List Cond := .code yX6_bestStep cX6_bestStep 2 (some .int) :: ((wsX6_bestStep_r1 ++ wsX6_bestStep_r2) ++ wsX60)
def wsX6_even : List Cond := .code yX6_even cX6_even 3 (some .double) :: ([.fieldLink RX6 48 "HangingChainModel" "nearWall" "I", .fieldLink RX6 51 "HangingChainModel" "farWall" "I", .methodLink RX6 62 yX6_lay, .instanceMethod yX6_lay, .selects RX6 yX6_lay yX6_lay, .initialized RX6, .code yX6_lay cX6_lay 4 none, .fieldLink RX6 7 "HangingChainModel" "s" "[I", .fieldLink RX6 19 "HangingChainModel" "height" "[I", .fieldLink RX6 31 "HangingChainModel" "load" "[I", .fieldLink RX6 34 "HangingChainModel" "force" "[I", .methodLink RX6 54 yX6_layJoint, .instanceMethod yX6_layJoint, .selects RX6 yX6_layJoint yX6_layJoint, .code yX6_layJoint cX6_layJoint 4 none, .fieldLink RX6 22 "HangingChainModel" "burden" "[I", .fieldLink RX6 25 "HangingChainModel" "hung" "[I", .fieldLink RX6 28 "HangingChainModel" "propped" "[I", .methodLink RX6 58 yX6_size, .static yX6_size, .code yX6_size cX6_size 1 (some .int)] ++ wsX60)
def wsX6_evenness_r1 : List Cond := [Cond.fieldLink RX6 37 "HangingChainModel" "thrown" "I", Cond.methodLink RX6 158 yX6_even, Cond.instanceMethod yX6_even, Cond.selects RX6 yX6_even yX6_even, Cond.initialized RX6, Cond.code yX6_even cX6_even 3 (some .double), Cond.fieldLink RX6 48 "HangingChainModel" "nearWall" "I", Cond.fieldLink RX6 51 "HangingChainModel" "farWall" "I", Cond.methodLink RX6 62 yX6_lay, Cond.instanceMethod yX6_lay, Cond.selects RX6 yX6_lay yX6_lay, Cond.code yX6_lay cX6_lay 4 none, Cond.fieldLink RX6 7 "HangingChainModel" "s" "[I", Cond.fieldLink RX6 19 "HangingChainModel" "height" "[I", Cond.fieldLink RX6 31 "HangingChainModel" "load" "[I", Cond.fieldLink RX6 34 "HangingChainModel" "force" "[I", Cond.methodLink RX6 54 yX6_layJoint, Cond.instanceMethod yX6_layJoint, Cond.selects RX6 yX6_layJoint yX6_layJoint, Cond.code yX6_layJoint cX6_layJoint 4 none, Cond.fieldLink RX6 22 "HangingChainModel" "burden" "[I", Cond.fieldLink RX6 25 "HangingChainModel" "hung" "[I", Cond.fieldLink RX6 28 "HangingChainModel" "propped" "[I", Cond.methodLink RX6 58 yX6_size]
def wsX6_evenness_r2 : List Cond := [Cond.static yX6_size, Cond.code yX6_size cX6_size 1 (some .int)]
def wsX6_evenness : List Cond := .code yX6_evenness cX6_evenness 1 (some .double) :: ((wsX6_evenness_r1 ++ wsX6_evenness_r2) ++ wsX60)
def wsX6_bitsOf : List Cond := .code yX6_bitsOf cX6_bitsOf 6 (some .long) :: ([.constantLong RX6 162 (1023), .constantDouble RX6 164 (4611686018427387904), .constantLong RX6 166 (4503599627370496), .constantDouble RX6 168 (4841369599423283200)])
def wsX6_digestOne : List Cond := .code yX6_digestOne cX6_digestOne 3 none :: ([.constantLong RX6 170 (31), .fieldLink RX6 172 "HangingChainModel" "digested" "J"] ++ wsX60)
def wsX6_digest_r1 : List Cond := [Cond.fieldLink RX6 37 "HangingChainModel" "thrown" "I", Cond.constantLong RX6 176 (3119), Cond.fieldLink RX6 172 "HangingChainModel" "digested" "J", Cond.fieldLink RX6 7 "HangingChainModel" "s" "[I", Cond.fieldLink RX6 96 "HangingChainModel" "length" "I", Cond.fieldLink RX6 16 "HangingChainModel" "text" "[I", Cond.methodLink RX6 140 yX6_counted, Cond.instanceMethod yX6_counted, Cond.selects RX6 yX6_counted yX6_counted, Cond.initialized RX6, Cond.code yX6_counted cX6_counted 2 (some .int), Cond.fieldLink RX6 48 "HangingChainModel" "nearWall" "I", Cond.fieldLink RX6 51 "HangingChainModel" "farWall" "I", Cond.fieldLink RX6 19 "HangingChainModel" "height" "[I", Cond.fieldLink RX6 45 "HangingChainModel" "savedMany" "I", Cond.methodLink RX6 62 yX6_lay, Cond.instanceMethod yX6_lay, Cond.selects RX6 yX6_lay yX6_lay, Cond.code yX6_lay cX6_lay 4 none, Cond.fieldLink RX6 31 "HangingChainModel" "load" "[I", Cond.fieldLink RX6 34 "HangingChainModel" "force" "[I", Cond.methodLink RX6 54 yX6_layJoint, Cond.instanceMethod yX6_layJoint, Cond.selects RX6 yX6_layJoint yX6_layJoint]
def wsX6_digest_r2 : List Cond := [Cond.code yX6_layJoint cX6_layJoint 4 none, Cond.fieldLink RX6 22 "HangingChainModel" "burden" "[I", Cond.fieldLink RX6 25 "HangingChainModel" "hung" "[I", Cond.fieldLink RX6 28 "HangingChainModel" "propped" "[I", Cond.methodLink RX6 58 yX6_size, Cond.static yX6_size, Cond.code yX6_size cX6_size 1 (some .int), Cond.methodLink RX6 127 yX6_sum, Cond.instanceMethod yX6_sum, Cond.selects RX6 yX6_sum yX6_sum, Cond.code yX6_sum cX6_sum 4 (some .int), Cond.methodLink RX6 130 yX6_greatest, Cond.instanceMethod yX6_greatest, Cond.selects RX6 yX6_greatest yX6_greatest, Cond.code yX6_greatest cX6_greatest 3 (some .int), Cond.methodLink RX6 134 yX6_breaking, Cond.instanceMethod yX6_breaking, Cond.selects RX6 yX6_breaking yX6_breaking, Cond.code yX6_breaking cX6_breaking 3 (some .int), Cond.methodLink RX6 137 yX6_lowest, Cond.instanceMethod yX6_lowest, Cond.selects RX6 yX6_lowest yX6_lowest, Cond.code yX6_lowest cX6_lowest 3 (some .int), Cond.methodLink RX6 178 yX6_digestOne]
def wsX6_digest_r3 : List Cond := [Cond.instanceMethod yX6_digestOne, Cond.selects RX6 yX6_digestOne yX6_digestOne, Cond.code yX6_digestOne cX6_digestOne 3 none, Cond.constantLong RX6 170 (31), Cond.methodLink RX6 121 yX6_toldOfLink, Cond.instanceMethod yX6_toldOfLink, Cond.selects RX6 yX6_toldOfLink yX6_toldOfLink, Cond.code yX6_toldOfLink cX6_toldOfLink 3 (some .int), Cond.methodLink RX6 155 yX6_calmest, Cond.instanceMethod yX6_calmest, Cond.selects RX6 yX6_calmest yX6_calmest, Cond.code yX6_calmest cX6_calmest 7 (some .int), Cond.methodLink RX6 143 yX6_greatestWith, Cond.instanceMethod yX6_greatestWith, Cond.selects RX6 yX6_greatestWith yX6_greatestWith, Cond.code yX6_greatestWith cX6_greatestWith 5 (some .int), Cond.methodLink RX6 124 yX6_toldOfJoint, Cond.instanceMethod yX6_toldOfJoint, Cond.selects RX6 yX6_toldOfJoint yX6_toldOfJoint, Cond.code yX6_toldOfJoint cX6_toldOfJoint 3 (some .int), Cond.methodLink RX6 146 yX6_heaviest, Cond.instanceMethod yX6_heaviest, Cond.selects RX6 yX6_heaviest yX6_heaviest, Cond.code yX6_heaviest cX6_heaviest 3 (some .int)]
def wsX6_digest_r4 : List Cond := [Cond.methodLink RX6 149 yX6_bestTo, Cond.instanceMethod yX6_bestTo, Cond.selects RX6 yX6_bestTo yX6_bestTo, Cond.code yX6_bestTo cX6_bestTo 8 (some .int), Cond.methodLink RX6 93 yX6_moves, Cond.instanceMethod yX6_moves, Cond.selects RX6 yX6_moves yX6_moves, Cond.code yX6_moves cX6_moves 5 (some .int), Cond.methodLink RX6 152 yX6_bestHung, Cond.instanceMethod yX6_bestHung, Cond.selects RX6 yX6_bestHung yX6_bestHung, Cond.code yX6_bestHung cX6_bestHung 8 (some .int), Cond.methodLink RX6 158 yX6_even, Cond.instanceMethod yX6_even, Cond.selects RX6 yX6_even yX6_even, Cond.code yX6_even cX6_even 3 (some .double), Cond.methodLink RX6 182 yX6_bitsOf, Cond.static yX6_bitsOf, Cond.code yX6_bitsOf cX6_bitsOf 6 (some .long), Cond.constantLong RX6 162 (1023), Cond.constantDouble RX6 164 (4611686018427387904), Cond.constantLong RX6 166 (4503599627370496), Cond.constantDouble RX6 168 (4841369599423283200)]
def wsX6_digest : List Cond := .code yX6_digest cX6_digest 3 (some .long) :: ((wsX6_digest_r1 ++ (wsX6_digest_r2 ++ (wsX6_digest_r3 ++ wsX6_digest_r4))) ++ wsX60)
theorem dX6_init_0 : decode cX6_init 0 = .ok (.aload_n 0, 1) := by decide +kernel
theorem dX6_init_1 : decode cX6_init 1 = .ok (.invokespecial 1, 3) := by decide +kernel
theorem dX6_init_4 : decode cX6_init 4 = .ok (.aload_n 0, 1) := by decide +kernel
theorem dX6_init_5 : decode cX6_init 5 = .ok (.bipush 88, 2) := by decide +kernel
theorem dX6_init_7 : decode cX6_init 7 = .ok (.newarray .int, 2) := by decide +kernel
theorem dX6_init_9 : decode cX6_init 9 = .ok (.putfield 7, 3) := by decide +kernel
theorem dX6_init_12 : decode cX6_init 12 = .ok (.aload_n 0, 1) := by decide +kernel
theorem dX6_init_13 : decode cX6_init 13 = .ok (.sipush 528, 3) := by decide +kernel
theorem dX6_init_16 : decode cX6_init 16 = .ok (.newarray .int, 2) := by decide +kernel
theorem dX6_init_18 : decode cX6_init 18 = .ok (.putfield 13, 3) := by decide +kernel
theorem dX6_init_21 : decode cX6_init 21 = .ok (.aload_n 0, 1) := by decide +kernel
theorem dX6_init_22 : decode cX6_init 22 = .ok (.bipush 60, 2) := by decide +kernel
theorem dX6_init_24 : decode cX6_init 24 = .ok (.newarray .int, 2) := by decide +kernel
theorem dX6_init_26 : decode cX6_init 26 = .ok (.putfield 16, 3) := by decide +kernel
theorem dX6_init_29 : decode cX6_init 29 = .ok (.aload_n 0, 1) := by decide +kernel
theorem dX6_init_30 : decode cX6_init 30 = .ok (.bipush 21, 2) := by decide +kernel
theorem dX6_init_32 : decode cX6_init 32 = .ok (.newarray .int, 2) := by decide +kernel
theorem dX6_init_34 : decode cX6_init 34 = .ok (.putfield 19, 3) := by decide +kernel
theorem dX6_init_37 : decode cX6_init 37 = .ok (.aload_n 0, 1) := by decide +kernel
theorem dX6_init_38 : decode cX6_init 38 = .ok (.bipush 21, 2) := by decide +kernel
theorem dX6_init_40 : decode cX6_init 40 = .ok (.newarray .int, 2) := by decide +kernel
theorem dX6_init_42 : decode cX6_init 42 = .ok (.putfield 22, 3) := by decide +kernel
theorem dX6_init_45 : decode cX6_init 45 = .ok (.aload_n 0, 1) := by decide +kernel
theorem dX6_init_46 : decode cX6_init 46 = .ok (.bipush 21, 2) := by decide +kernel
theorem dX6_init_48 : decode cX6_init 48 = .ok (.newarray .int, 2) := by decide +kernel
theorem dX6_init_50 : decode cX6_init 50 = .ok (.putfield 25, 3) := by decide +kernel
theorem dX6_init_53 : decode cX6_init 53 = .ok (.aload_n 0, 1) := by decide +kernel
theorem dX6_init_54 : decode cX6_init 54 = .ok (.bipush 21, 2) := by decide +kernel
theorem dX6_init_56 : decode cX6_init 56 = .ok (.newarray .int, 2) := by decide +kernel
theorem dX6_init_58 : decode cX6_init 58 = .ok (.putfield 28, 3) := by decide +kernel
theorem dX6_init_61 : decode cX6_init 61 = .ok (.aload_n 0, 1) := by decide +kernel
theorem dX6_init_62 : decode cX6_init 62 = .ok (.bipush 21, 2) := by decide +kernel
theorem dX6_init_64 : decode cX6_init 64 = .ok (.newarray .int, 2) := by decide +kernel
theorem dX6_init_66 : decode cX6_init 66 = .ok (.putfield 31, 3) := by decide +kernel
theorem dX6_init_69 : decode cX6_init 69 = .ok (.aload_n 0, 1) := by decide +kernel
theorem dX6_init_70 : decode cX6_init 70 = .ok (.bipush 20, 2) := by decide +kernel
theorem dX6_init_72 : decode cX6_init 72 = .ok (.newarray .int, 2) := by decide +kernel
theorem dX6_init_74 : decode cX6_init 74 = .ok (.putfield 34, 3) := by decide +kernel
theorem dX6_init_77 : decode cX6_init 77 = .ok (.aload_n 0, 1) := by decide +kernel
theorem dX6_init_78 : decode cX6_init 78 = .ok (.getfield 7, 3) := by decide +kernel
theorem dX6_init_81 : decode cX6_init 81 = .ok (.iconst 0, 1) := by decide +kernel
theorem dX6_init_82 : decode cX6_init 82 = .ok (.iconst 1, 1) := by decide +kernel
theorem dX6_init_83 : decode cX6_init 83 = .ok (.iastore, 1) := by decide +kernel
theorem dX6_init_84 : decode cX6_init 84 = .ok (.aload_n 0, 1) := by decide +kernel
theorem dX6_init_85 : decode cX6_init 85 = .ok (.getfield 7, 3) := by decide +kernel
theorem dX6_init_88 : decode cX6_init 88 = .ok (.iconst 1, 1) := by decide +kernel
theorem dX6_init_89 : decode cX6_init 89 = .ok (.iconst 1, 1) := by decide +kernel
theorem dX6_init_90 : decode cX6_init 90 = .ok (.iastore, 1) := by decide +kernel
theorem dX6_init_91 : decode cX6_init 91 = .ok (.aload_n 0, 1) := by decide +kernel
theorem dX6_init_92 : decode cX6_init 92 = .ok (.getfield 7, 3) := by decide +kernel
theorem dX6_init_95 : decode cX6_init 95 = .ok (.iconst 2, 1) := by decide +kernel
theorem dX6_init_96 : decode cX6_init 96 = .ok (.bipush (-2), 2) := by decide +kernel
theorem dX6_init_98 : decode cX6_init 98 = .ok (.iastore, 1) := by decide +kernel
theorem dX6_init_99 : decode cX6_init 99 = .ok (.aload_n 0, 1) := by decide +kernel
theorem dX6_init_100 : decode cX6_init 100 = .ok (.getfield 7, 3) := by decide +kernel
theorem dX6_init_103 : decode cX6_init 103 = .ok (.iconst 3, 1) := by decide +kernel
theorem dX6_init_104 : decode cX6_init 104 = .ok (.iconst 1, 1) := by decide +kernel
theorem dX6_init_105 : decode cX6_init 105 = .ok (.iastore, 1) := by decide +kernel
theorem dX6_init_106 : decode cX6_init 106 = .ok (.aload_n 0, 1) := by decide +kernel
theorem dX6_init_107 : decode cX6_init 107 = .ok (.getfield 7, 3) := by decide +kernel
theorem dX6_init_110 : decode cX6_init 110 = .ok (.iconst 4, 1) := by decide +kernel
theorem dX6_init_111 : decode cX6_init 111 = .ok (.bipush 60, 2) := by decide +kernel
theorem dX6_init_113 : decode cX6_init 113 = .ok (.iastore, 1) := by decide +kernel
theorem dX6_init_114 : decode cX6_init 114 = .ok (.return_, 1) := by decide +kernel
theorem dX6_thrown_0 : decode cX6_thrown 0 = .ok (.aload_n 0, 1) := by decide +kernel
theorem dX6_thrown_1 : decode cX6_thrown 1 = .ok (.getfield 37, 3) := by decide +kernel
theorem dX6_thrown_4 : decode cX6_thrown 4 = .ok (.ireturn, 1) := by decide +kernel
theorem dX6_in_0 : decode cX6_in 0 = .ok (.iload_n 0, 1) := by decide +kernel
theorem dX6_in_1 : decode cX6_in 1 = .ok (.iload_n 1, 1) := by decide +kernel
theorem dX6_in_2 : decode cX6_in 2 = .ok (.if_icmp .lt 12, 3) := by decide +kernel
theorem dX6_in_5 : decode cX6_in 5 = .ok (.iload_n 0, 1) := by decide +kernel
theorem dX6_in_6 : decode cX6_in 6 = .ok (.iload_n 2, 1) := by decide +kernel
theorem dX6_in_7 : decode cX6_in 7 = .ok (.if_icmp .gt 7, 3) := by decide +kernel
theorem dX6_in_10 : decode cX6_in 10 = .ok (.iconst 1, 1) := by decide +kernel
theorem dX6_in_11 : decode cX6_in 11 = .ok (.goto 4, 3) := by decide +kernel
theorem dX6_in_14 : decode cX6_in 14 = .ok (.iconst 0, 1) := by decide +kernel
theorem dX6_in_15 : decode cX6_in 15 = .ok (.ireturn, 1) := by decide +kernel
theorem dX6_holds_0 : decode cX6_holds 0 = .ok (.aload_n 0, 1) := by decide +kernel
theorem dX6_holds_1 : decode cX6_holds 1 = .ok (.iload_n 1, 1) := by decide +kernel
theorem dX6_holds_2 : decode cX6_holds 2 = .ok (.putfield 37, 3) := by decide +kernel
theorem dX6_holds_5 : decode cX6_holds 5 = .ok (.iload_n 1, 1) := by decide +kernel
theorem dX6_holds_6 : decode cX6_holds 6 = .ok (.ifCond .ne 7, 3) := by decide +kernel
theorem dX6_holds_9 : decode cX6_holds 9 = .ok (.iconst 1, 1) := by decide +kernel
theorem dX6_holds_10 : decode cX6_holds 10 = .ok (.goto 4, 3) := by decide +kernel
theorem dX6_holds_13 : decode cX6_holds 13 = .ok (.iconst 0, 1) := by decide +kernel
theorem dX6_holds_14 : decode cX6_holds 14 = .ok (.ireturn, 1) := by decide +kernel
theorem dX6_size_0 : decode cX6_size 0 = .ok (.iload_n 0, 1) := by decide +kernel
theorem dX6_size_1 : decode cX6_size 1 = .ok (.ifCond .ge 8, 3) := by decide +kernel
theorem dX6_size_4 : decode cX6_size 4 = .ok (.iload_n 0, 1) := by decide +kernel
theorem dX6_size_5 : decode cX6_size 5 = .ok (.ineg, 1) := by decide +kernel
theorem dX6_size_6 : decode cX6_size 6 = .ok (.goto 4, 3) := by decide +kernel
theorem dX6_size_9 : decode cX6_size 9 = .ok (.iload_n 0, 1) := by decide +kernel
theorem dX6_size_10 : decode cX6_size 10 = .ok (.ireturn, 1) := by decide +kernel
set_option maxRecDepth 20000 in
theorem ggX6_isLink_X6_in : GoodIn wsX6_isLink wsX6_in := goodIn_r _ [5] (by decide +kernel) (by decide +kernel)
set_option maxRecDepth 20000 in
theorem gX6_isLink_X6_in : GoodIn wsX6_isLink (va_wsS RX6 41 yX6_in wsX6_in) := goodIn_app (goodIn_of _ (by decide +kernel)) ggX6_isLink_X6_in
theorem dX6_isLink_0 : decode cX6_isLink 0 = .ok (.iload_n 1, 1) := by decide +kernel
theorem dX6_isLink_1 : decode cX6_isLink 1 = .ok (.iconst 0, 1) := by decide +kernel
theorem dX6_isLink_2 : decode cX6_isLink 2 = .ok (.aload_n 0, 1) := by decide +kernel
theorem dX6_isLink_3 : decode cX6_isLink 3 = .ok (.getfield 7, 3) := by decide +kernel
theorem dX6_isLink_6 : decode cX6_isLink 6 = .ok (.iconst 0, 1) := by decide +kernel
theorem dX6_isLink_7 : decode cX6_isLink 7 = .ok (.iaload, 1) := by decide +kernel
theorem dX6_isLink_8 : decode cX6_isLink 8 = .ok (.iconst 1, 1) := by decide +kernel
theorem dX6_isLink_9 : decode cX6_isLink 9 = .ok (.isub, 1) := by decide +kernel
theorem dX6_isLink_10 : decode cX6_isLink 10 = .ok (.invokestatic 41, 3) := by decide +kernel
theorem dX6_isLink_13 : decode cX6_isLink 13 = .ok (.ireturn, 1) := by decide +kernel
set_option maxRecDepth 20000 in
theorem ggX6_isJoint_X6_in : GoodIn wsX6_isJoint wsX6_in := goodIn_r _ [5] (by decide +kernel) (by decide +kernel)
set_option maxRecDepth 20000 in
theorem gX6_isJoint_X6_in : GoodIn wsX6_isJoint (va_wsS RX6 41 yX6_in wsX6_in) := goodIn_app (goodIn_of _ (by decide +kernel)) ggX6_isJoint_X6_in
theorem dX6_isJoint_0 : decode cX6_isJoint 0 = .ok (.iload_n 1, 1) := by decide +kernel
theorem dX6_isJoint_1 : decode cX6_isJoint 1 = .ok (.iconst 0, 1) := by decide +kernel
theorem dX6_isJoint_2 : decode cX6_isJoint 2 = .ok (.aload_n 0, 1) := by decide +kernel
theorem dX6_isJoint_3 : decode cX6_isJoint 3 = .ok (.getfield 7, 3) := by decide +kernel
theorem dX6_isJoint_6 : decode cX6_isJoint 6 = .ok (.iconst 0, 1) := by decide +kernel
theorem dX6_isJoint_7 : decode cX6_isJoint 7 = .ok (.iaload, 1) := by decide +kernel
theorem dX6_isJoint_8 : decode cX6_isJoint 8 = .ok (.invokestatic 41, 3) := by decide +kernel
theorem dX6_isJoint_11 : decode cX6_isJoint 11 = .ok (.ireturn, 1) := by decide +kernel
theorem dX6_save_0 : decode cX6_save 0 = .ok (.aload_n 0, 1) := by decide +kernel
theorem dX6_save_1 : decode cX6_save 1 = .ok (.getfield 45, 3) := by decide +kernel
theorem dX6_save_4 : decode cX6_save 4 = .ok (.bipush 6, 2) := by decide +kernel
theorem dX6_save_6 : decode cX6_save 6 = .ok (.if_icmp .ne 43, 3) := by decide +kernel
theorem dX6_save_9 : decode cX6_save 9 = .ok (.iconst 0, 1) := by decide +kernel
theorem dX6_save_10 : decode cX6_save 10 = .ok (.istore_n 1, 1) := by decide +kernel
theorem dX6_save_11 : decode cX6_save 11 = .ok (.iload_n 1, 1) := by decide +kernel
theorem dX6_save_12 : decode cX6_save 12 = .ok (.sipush 440, 3) := by decide +kernel
theorem dX6_save_15 : decode cX6_save 15 = .ok (.if_icmp .ge 24, 3) := by decide +kernel
theorem dX6_save_18 : decode cX6_save 18 = .ok (.aload_n 0, 1) := by decide +kernel
theorem dX6_save_19 : decode cX6_save 19 = .ok (.getfield 13, 3) := by decide +kernel
theorem dX6_save_22 : decode cX6_save 22 = .ok (.iload_n 1, 1) := by decide +kernel
theorem dX6_save_23 : decode cX6_save 23 = .ok (.aload_n 0, 1) := by decide +kernel
theorem dX6_save_24 : decode cX6_save 24 = .ok (.getfield 13, 3) := by decide +kernel
theorem dX6_save_27 : decode cX6_save 27 = .ok (.bipush 88, 2) := by decide +kernel
theorem dX6_save_29 : decode cX6_save 29 = .ok (.iload_n 1, 1) := by decide +kernel
theorem dX6_save_30 : decode cX6_save 30 = .ok (.iadd, 1) := by decide +kernel
theorem dX6_save_31 : decode cX6_save 31 = .ok (.iaload, 1) := by decide +kernel
theorem dX6_save_32 : decode cX6_save 32 = .ok (.iastore, 1) := by decide +kernel
theorem dX6_save_33 : decode cX6_save 33 = .ok (.iinc 1 1, 3) := by decide +kernel
theorem dX6_save_36 : decode cX6_save 36 = .ok (.goto (-25), 3) := by decide +kernel
theorem dX6_save_39 : decode cX6_save 39 = .ok (.aload_n 0, 1) := by decide +kernel
theorem dX6_save_40 : decode cX6_save 40 = .ok (.dup, 1) := by decide +kernel
theorem dX6_save_41 : decode cX6_save 41 = .ok (.getfield 45, 3) := by decide +kernel
theorem dX6_save_44 : decode cX6_save 44 = .ok (.iconst 1, 1) := by decide +kernel
theorem dX6_save_45 : decode cX6_save 45 = .ok (.isub, 1) := by decide +kernel
theorem dX6_save_46 : decode cX6_save 46 = .ok (.putfield 45, 3) := by decide +kernel
theorem dX6_save_49 : decode cX6_save 49 = .ok (.iconst 0, 1) := by decide +kernel
theorem dX6_save_50 : decode cX6_save 50 = .ok (.istore_n 1, 1) := by decide +kernel
theorem dX6_save_51 : decode cX6_save 51 = .ok (.iload_n 1, 1) := by decide +kernel
theorem dX6_save_52 : decode cX6_save 52 = .ok (.bipush 88, 2) := by decide +kernel
theorem dX6_save_54 : decode cX6_save 54 = .ok (.if_icmp .ge 29, 3) := by decide +kernel
theorem dX6_save_57 : decode cX6_save 57 = .ok (.aload_n 0, 1) := by decide +kernel
theorem dX6_save_58 : decode cX6_save 58 = .ok (.getfield 13, 3) := by decide +kernel
theorem dX6_save_61 : decode cX6_save 61 = .ok (.bipush 88, 2) := by decide +kernel
theorem dX6_save_63 : decode cX6_save 63 = .ok (.aload_n 0, 1) := by decide +kernel
theorem dX6_save_64 : decode cX6_save 64 = .ok (.getfield 45, 3) := by decide +kernel
theorem dX6_save_67 : decode cX6_save 67 = .ok (.imul, 1) := by decide +kernel
theorem dX6_save_68 : decode cX6_save 68 = .ok (.iload_n 1, 1) := by decide +kernel
theorem dX6_save_69 : decode cX6_save 69 = .ok (.iadd, 1) := by decide +kernel
theorem dX6_save_70 : decode cX6_save 70 = .ok (.aload_n 0, 1) := by decide +kernel
theorem dX6_save_71 : decode cX6_save 71 = .ok (.getfield 7, 3) := by decide +kernel
theorem dX6_save_74 : decode cX6_save 74 = .ok (.iload_n 1, 1) := by decide +kernel
theorem dX6_save_75 : decode cX6_save 75 = .ok (.iaload, 1) := by decide +kernel
theorem dX6_save_76 : decode cX6_save 76 = .ok (.iastore, 1) := by decide +kernel
theorem dX6_save_77 : decode cX6_save 77 = .ok (.iinc 1 1, 3) := by decide +kernel
theorem dX6_save_80 : decode cX6_save 80 = .ok (.goto (-29), 3) := by decide +kernel
theorem dX6_save_83 : decode cX6_save 83 = .ok (.aload_n 0, 1) := by decide +kernel
theorem dX6_save_84 : decode cX6_save 84 = .ok (.dup, 1) := by decide +kernel
theorem dX6_save_85 : decode cX6_save 85 = .ok (.getfield 45, 3) := by decide +kernel
theorem dX6_save_88 : decode cX6_save 88 = .ok (.iconst 1, 1) := by decide +kernel
theorem dX6_save_89 : decode cX6_save 89 = .ok (.iadd, 1) := by decide +kernel
theorem dX6_save_90 : decode cX6_save 90 = .ok (.putfield 45, 3) := by decide +kernel
theorem dX6_save_93 : decode cX6_save 93 = .ok (.return_, 1) := by decide +kernel
theorem dX6_layJoint_0 : decode cX6_layJoint 0 = .ok (.iload_n 1, 1) := by decide +kernel
theorem dX6_layJoint_1 : decode cX6_layJoint 1 = .ok (.ifCond .le 17, 3) := by decide +kernel
theorem dX6_layJoint_4 : decode cX6_layJoint 4 = .ok (.iload_n 1, 1) := by decide +kernel
theorem dX6_layJoint_5 : decode cX6_layJoint 5 = .ok (.aload_n 0, 1) := by decide +kernel
theorem dX6_layJoint_6 : decode cX6_layJoint 6 = .ok (.getfield 7, 3) := by decide +kernel
theorem dX6_layJoint_9 : decode cX6_layJoint 9 = .ok (.iconst 0, 1) := by decide +kernel
theorem dX6_layJoint_10 : decode cX6_layJoint 10 = .ok (.iaload, 1) := by decide +kernel
theorem dX6_layJoint_11 : decode cX6_layJoint 11 = .ok (.if_icmp .ge 7, 3) := by decide +kernel
theorem dX6_layJoint_14 : decode cX6_layJoint 14 = .ok (.iconst 1, 1) := by decide +kernel
theorem dX6_layJoint_15 : decode cX6_layJoint 15 = .ok (.goto 4, 3) := by decide +kernel
theorem dX6_layJoint_18 : decode cX6_layJoint 18 = .ok (.iconst 0, 1) := by decide +kernel
theorem dX6_layJoint_19 : decode cX6_layJoint 19 = .ok (.istore_n 2, 1) := by decide +kernel
theorem dX6_layJoint_20 : decode cX6_layJoint 20 = .ok (.iload_n 2, 1) := by decide +kernel
theorem dX6_layJoint_21 : decode cX6_layJoint 21 = .ok (.ifCond .eq 24, 3) := by decide +kernel
theorem dX6_layJoint_24 : decode cX6_layJoint 24 = .ok (.aload_n 0, 1) := by decide +kernel
theorem dX6_layJoint_25 : decode cX6_layJoint 25 = .ok (.getfield 7, 3) := by decide +kernel
theorem dX6_layJoint_28 : decode cX6_layJoint 28 = .ok (.bipush 25, 2) := by decide +kernel
theorem dX6_layJoint_30 : decode cX6_layJoint 30 = .ok (.iload_n 1, 1) := by decide +kernel
theorem dX6_layJoint_31 : decode cX6_layJoint 31 = .ok (.iadd, 1) := by decide +kernel
theorem dX6_layJoint_32 : decode cX6_layJoint 32 = .ok (.iaload, 1) := by decide +kernel
theorem dX6_layJoint_33 : decode cX6_layJoint 33 = .ok (.iconst 2, 1) := by decide +kernel
theorem dX6_layJoint_34 : decode cX6_layJoint 34 = .ok (.aload_n 0, 1) := by decide +kernel
theorem dX6_layJoint_35 : decode cX6_layJoint 35 = .ok (.getfield 7, 3) := by decide +kernel
theorem dX6_layJoint_38 : decode cX6_layJoint 38 = .ok (.iconst 1, 1) := by decide +kernel
theorem dX6_layJoint_39 : decode cX6_layJoint 39 = .ok (.iaload, 1) := by decide +kernel
theorem dX6_layJoint_40 : decode cX6_layJoint 40 = .ok (.imul, 1) := by decide +kernel
theorem dX6_layJoint_41 : decode cX6_layJoint 41 = .ok (.iadd, 1) := by decide +kernel
theorem dX6_layJoint_42 : decode cX6_layJoint 42 = .ok (.goto 4, 3) := by decide +kernel
theorem dX6_layJoint_45 : decode cX6_layJoint 45 = .ok (.iconst 0, 1) := by decide +kernel
theorem dX6_layJoint_46 : decode cX6_layJoint 46 = .ok (.istore_n 3, 1) := by decide +kernel
theorem dX6_layJoint_47 : decode cX6_layJoint 47 = .ok (.aload_n 0, 1) := by decide +kernel
theorem dX6_layJoint_48 : decode cX6_layJoint 48 = .ok (.getfield 22, 3) := by decide +kernel
theorem dX6_layJoint_51 : decode cX6_layJoint 51 = .ok (.iload_n 1, 1) := by decide +kernel
theorem dX6_layJoint_52 : decode cX6_layJoint 52 = .ok (.iload_n 3, 1) := by decide +kernel
theorem dX6_layJoint_53 : decode cX6_layJoint 53 = .ok (.iastore, 1) := by decide +kernel
theorem dX6_layJoint_54 : decode cX6_layJoint 54 = .ok (.aload_n 0, 1) := by decide +kernel
theorem dX6_layJoint_55 : decode cX6_layJoint 55 = .ok (.getfield 25, 3) := by decide +kernel
theorem dX6_layJoint_58 : decode cX6_layJoint 58 = .ok (.iload_n 1, 1) := by decide +kernel
theorem dX6_layJoint_59 : decode cX6_layJoint 59 = .ok (.iload_n 3, 1) := by decide +kernel
theorem dX6_layJoint_60 : decode cX6_layJoint 60 = .ok (.aload_n 0, 1) := by decide +kernel
theorem dX6_layJoint_61 : decode cX6_layJoint 61 = .ok (.getfield 7, 3) := by decide +kernel
theorem dX6_layJoint_64 : decode cX6_layJoint 64 = .ok (.bipush 46, 2) := by decide +kernel
theorem dX6_layJoint_66 : decode cX6_layJoint 66 = .ok (.iload_n 1, 1) := by decide +kernel
theorem dX6_layJoint_67 : decode cX6_layJoint 67 = .ok (.iadd, 1) := by decide +kernel
theorem dX6_layJoint_68 : decode cX6_layJoint 68 = .ok (.iaload, 1) := by decide +kernel
theorem dX6_layJoint_69 : decode cX6_layJoint 69 = .ok (.if_icmp .ge 7, 3) := by decide +kernel
theorem dX6_layJoint_72 : decode cX6_layJoint 72 = .ok (.iload_n 3, 1) := by decide +kernel
theorem dX6_layJoint_73 : decode cX6_layJoint 73 = .ok (.goto 12, 3) := by decide +kernel
theorem dX6_layJoint_76 : decode cX6_layJoint 76 = .ok (.aload_n 0, 1) := by decide +kernel
theorem dX6_layJoint_77 : decode cX6_layJoint 77 = .ok (.getfield 7, 3) := by decide +kernel
theorem dX6_layJoint_80 : decode cX6_layJoint 80 = .ok (.bipush 46, 2) := by decide +kernel
theorem dX6_layJoint_82 : decode cX6_layJoint 82 = .ok (.iload_n 1, 1) := by decide +kernel
theorem dX6_layJoint_83 : decode cX6_layJoint 83 = .ok (.iadd, 1) := by decide +kernel
theorem dX6_layJoint_84 : decode cX6_layJoint 84 = .ok (.iaload, 1) := by decide +kernel
theorem dX6_layJoint_85 : decode cX6_layJoint 85 = .ok (.iastore, 1) := by decide +kernel
theorem dX6_layJoint_86 : decode cX6_layJoint 86 = .ok (.iload_n 3, 1) := by decide +kernel
theorem dX6_layJoint_87 : decode cX6_layJoint 87 = .ok (.aload_n 0, 1) := by decide +kernel
theorem dX6_layJoint_88 : decode cX6_layJoint 88 = .ok (.getfield 25, 3) := by decide +kernel
theorem dX6_layJoint_91 : decode cX6_layJoint 91 = .ok (.iload_n 1, 1) := by decide +kernel
theorem dX6_layJoint_92 : decode cX6_layJoint 92 = .ok (.iaload, 1) := by decide +kernel
theorem dX6_layJoint_93 : decode cX6_layJoint 93 = .ok (.isub, 1) := by decide +kernel
theorem dX6_layJoint_94 : decode cX6_layJoint 94 = .ok (.istore_n 3, 1) := by decide +kernel
theorem dX6_layJoint_95 : decode cX6_layJoint 95 = .ok (.aload_n 0, 1) := by decide +kernel
theorem dX6_layJoint_96 : decode cX6_layJoint 96 = .ok (.getfield 28, 3) := by decide +kernel
theorem dX6_layJoint_99 : decode cX6_layJoint 99 = .ok (.iload_n 1, 1) := by decide +kernel
theorem dX6_layJoint_100 : decode cX6_layJoint 100 = .ok (.aload_n 0, 1) := by decide +kernel
theorem dX6_layJoint_101 : decode cX6_layJoint 101 = .ok (.getfield 19, 3) := by decide +kernel
theorem dX6_layJoint_104 : decode cX6_layJoint 104 = .ok (.iload_n 1, 1) := by decide +kernel
theorem dX6_layJoint_105 : decode cX6_layJoint 105 = .ok (.iaload, 1) := by decide +kernel
theorem dX6_layJoint_106 : decode cX6_layJoint 106 = .ok (.aload_n 0, 1) := by decide +kernel
theorem dX6_layJoint_107 : decode cX6_layJoint 107 = .ok (.getfield 7, 3) := by decide +kernel
theorem dX6_layJoint_110 : decode cX6_layJoint 110 = .ok (.iconst 2, 1) := by decide +kernel
theorem dX6_layJoint_111 : decode cX6_layJoint 111 = .ok (.iaload, 1) := by decide +kernel
theorem dX6_layJoint_112 : decode cX6_layJoint 112 = .ok (.if_icmp .le 7, 3) := by decide +kernel
theorem dX6_layJoint_115 : decode cX6_layJoint 115 = .ok (.iconst 0, 1) := by decide +kernel
theorem dX6_layJoint_116 : decode cX6_layJoint 116 = .ok (.goto 29, 3) := by decide +kernel
theorem dX6_layJoint_119 : decode cX6_layJoint 119 = .ok (.iload_n 3, 1) := by decide +kernel
theorem dX6_layJoint_120 : decode cX6_layJoint 120 = .ok (.aload_n 0, 1) := by decide +kernel
theorem dX6_layJoint_121 : decode cX6_layJoint 121 = .ok (.getfield 7, 3) := by decide +kernel
theorem dX6_layJoint_124 : decode cX6_layJoint 124 = .ok (.bipush 67, 2) := by decide +kernel
theorem dX6_layJoint_126 : decode cX6_layJoint 126 = .ok (.iload_n 1, 1) := by decide +kernel
theorem dX6_layJoint_127 : decode cX6_layJoint 127 = .ok (.iadd, 1) := by decide +kernel
theorem dX6_layJoint_128 : decode cX6_layJoint 128 = .ok (.iaload, 1) := by decide +kernel
theorem dX6_layJoint_129 : decode cX6_layJoint 129 = .ok (.if_icmp .ge 7, 3) := by decide +kernel
theorem dX6_layJoint_132 : decode cX6_layJoint 132 = .ok (.iload_n 3, 1) := by decide +kernel
theorem dX6_layJoint_133 : decode cX6_layJoint 133 = .ok (.goto 12, 3) := by decide +kernel
theorem dX6_layJoint_136 : decode cX6_layJoint 136 = .ok (.aload_n 0, 1) := by decide +kernel
theorem dX6_layJoint_137 : decode cX6_layJoint 137 = .ok (.getfield 7, 3) := by decide +kernel
theorem dX6_layJoint_140 : decode cX6_layJoint 140 = .ok (.bipush 67, 2) := by decide +kernel
theorem dX6_layJoint_142 : decode cX6_layJoint 142 = .ok (.iload_n 1, 1) := by decide +kernel
theorem dX6_layJoint_143 : decode cX6_layJoint 143 = .ok (.iadd, 1) := by decide +kernel
theorem dX6_layJoint_144 : decode cX6_layJoint 144 = .ok (.iaload, 1) := by decide +kernel
theorem dX6_layJoint_145 : decode cX6_layJoint 145 = .ok (.iastore, 1) := by decide +kernel
theorem dX6_layJoint_146 : decode cX6_layJoint 146 = .ok (.aload_n 0, 1) := by decide +kernel
theorem dX6_layJoint_147 : decode cX6_layJoint 147 = .ok (.getfield 31, 3) := by decide +kernel
theorem dX6_layJoint_150 : decode cX6_layJoint 150 = .ok (.iload_n 1, 1) := by decide +kernel
theorem dX6_layJoint_151 : decode cX6_layJoint 151 = .ok (.iload_n 3, 1) := by decide +kernel
theorem dX6_layJoint_152 : decode cX6_layJoint 152 = .ok (.aload_n 0, 1) := by decide +kernel
theorem dX6_layJoint_153 : decode cX6_layJoint 153 = .ok (.getfield 28, 3) := by decide +kernel
theorem dX6_layJoint_156 : decode cX6_layJoint 156 = .ok (.iload_n 1, 1) := by decide +kernel
theorem dX6_layJoint_157 : decode cX6_layJoint 157 = .ok (.iaload, 1) := by decide +kernel
theorem dX6_layJoint_158 : decode cX6_layJoint 158 = .ok (.isub, 1) := by decide +kernel
theorem dX6_layJoint_159 : decode cX6_layJoint 159 = .ok (.iastore, 1) := by decide +kernel
theorem dX6_layJoint_160 : decode cX6_layJoint 160 = .ok (.return_, 1) := by decide +kernel
set_option maxRecDepth 20000 in
theorem ggX6_lay_X6_layJoint : GoodIn wsX6_lay wsX6_layJoint := goodIn_r _ [11, 1, 12, 13, 14, 4, 5, 18, 19, 20, 21, 22, 23, 24, 25, 26, 27, 28, 29, 30, 31, 32, 33, 34] (by decide +kernel) (by decide +kernel)
set_option maxRecDepth 20000 in
theorem gX6_lay_X6_layJoint : GoodIn wsX6_lay (wsV RX6 54 RX6 yX6_layJoint wsX6_layJoint) := goodIn_app (goodIn_of _ (by decide +kernel)) ggX6_lay_X6_layJoint
set_option maxRecDepth 20000 in
theorem ggX6_lay_X6_size : GoodIn wsX6_lay wsX6_size := goodIn_r _ [17] (by decide +kernel) (by decide +kernel)
set_option maxRecDepth 20000 in
theorem gX6_lay_X6_size : GoodIn wsX6_lay (va_wsS RX6 58 yX6_size wsX6_size) := goodIn_app (goodIn_of _ (by decide +kernel)) ggX6_lay_X6_size
theorem dX6_lay_0 : decode cX6_lay 0 = .ok (.aload_n 0, 1) := by decide +kernel
theorem dX6_lay_1 : decode cX6_lay 1 = .ok (.getfield 7, 3) := by decide +kernel
theorem dX6_lay_4 : decode cX6_lay 4 = .ok (.iconst 0, 1) := by decide +kernel
theorem dX6_lay_5 : decode cX6_lay 5 = .ok (.iaload, 1) := by decide +kernel
theorem dX6_lay_6 : decode cX6_lay 6 = .ok (.istore_n 1, 1) := by decide +kernel
theorem dX6_lay_7 : decode cX6_lay 7 = .ok (.aload_n 0, 1) := by decide +kernel
theorem dX6_lay_8 : decode cX6_lay 8 = .ok (.iconst 0, 1) := by decide +kernel
theorem dX6_lay_9 : decode cX6_lay 9 = .ok (.putfield 48, 3) := by decide +kernel
theorem dX6_lay_12 : decode cX6_lay 12 = .ok (.aload_n 0, 1) := by decide +kernel
theorem dX6_lay_13 : decode cX6_lay 13 = .ok (.iconst 0, 1) := by decide +kernel
theorem dX6_lay_14 : decode cX6_lay 14 = .ok (.putfield 51, 3) := by decide +kernel
theorem dX6_lay_17 : decode cX6_lay 17 = .ok (.iconst 0, 1) := by decide +kernel
theorem dX6_lay_18 : decode cX6_lay 18 = .ok (.istore_n 2, 1) := by decide +kernel
theorem dX6_lay_19 : decode cX6_lay 19 = .ok (.iload_n 2, 1) := by decide +kernel
theorem dX6_lay_20 : decode cX6_lay 20 = .ok (.iload_n 1, 1) := by decide +kernel
theorem dX6_lay_21 : decode cX6_lay 21 = .ok (.if_icmp .gt 92, 3) := by decide +kernel
theorem dX6_lay_24 : decode cX6_lay 24 = .ok (.aload_n 0, 1) := by decide +kernel
theorem dX6_lay_25 : decode cX6_lay 25 = .ok (.getfield 19, 3) := by decide +kernel
theorem dX6_lay_28 : decode cX6_lay 28 = .ok (.iload_n 2, 1) := by decide +kernel
theorem dX6_lay_29 : decode cX6_lay 29 = .ok (.iload_n 2, 1) := by decide +kernel
theorem dX6_lay_30 : decode cX6_lay 30 = .ok (.ifCond .ne 7, 3) := by decide +kernel
theorem dX6_lay_33 : decode cX6_lay 33 = .ok (.iconst 0, 1) := by decide +kernel
theorem dX6_lay_34 : decode cX6_lay 34 = .ok (.goto 22, 3) := by decide +kernel
theorem dX6_lay_37 : decode cX6_lay 37 = .ok (.aload_n 0, 1) := by decide +kernel
theorem dX6_lay_38 : decode cX6_lay 38 = .ok (.getfield 19, 3) := by decide +kernel
theorem dX6_lay_41 : decode cX6_lay 41 = .ok (.iload_n 2, 1) := by decide +kernel
theorem dX6_lay_42 : decode cX6_lay 42 = .ok (.iconst 1, 1) := by decide +kernel
theorem dX6_lay_43 : decode cX6_lay 43 = .ok (.isub, 1) := by decide +kernel
theorem dX6_lay_44 : decode cX6_lay 44 = .ok (.iaload, 1) := by decide +kernel
theorem dX6_lay_45 : decode cX6_lay 45 = .ok (.aload_n 0, 1) := by decide +kernel
theorem dX6_lay_46 : decode cX6_lay 46 = .ok (.getfield 7, 3) := by decide +kernel
theorem dX6_lay_49 : decode cX6_lay 49 = .ok (.iconst 5, 1) := by decide +kernel
theorem dX6_lay_50 : decode cX6_lay 50 = .ok (.iload_n 2, 1) := by decide +kernel
theorem dX6_lay_51 : decode cX6_lay 51 = .ok (.iadd, 1) := by decide +kernel
theorem dX6_lay_52 : decode cX6_lay 52 = .ok (.iconst 1, 1) := by decide +kernel
theorem dX6_lay_53 : decode cX6_lay 53 = .ok (.isub, 1) := by decide +kernel
theorem dX6_lay_54 : decode cX6_lay 54 = .ok (.iaload, 1) := by decide +kernel
theorem dX6_lay_55 : decode cX6_lay 55 = .ok (.iadd, 1) := by decide +kernel
theorem dX6_lay_56 : decode cX6_lay 56 = .ok (.iastore, 1) := by decide +kernel
theorem dX6_lay_57 : decode cX6_lay 57 = .ok (.aload_n 0, 1) := by decide +kernel
theorem dX6_lay_58 : decode cX6_lay 58 = .ok (.iload_n 2, 1) := by decide +kernel
theorem dX6_lay_59 : decode cX6_lay 59 = .ok (.invokevirtual 54, 3) := by decide +kernel
theorem dX6_lay_62 : decode cX6_lay 62 = .ok (.aload_n 0, 1) := by decide +kernel
theorem dX6_lay_63 : decode cX6_lay 63 = .ok (.dup, 1) := by decide +kernel
theorem dX6_lay_64 : decode cX6_lay 64 = .ok (.getfield 51, 3) := by decide +kernel
theorem dX6_lay_67 : decode cX6_lay 67 = .ok (.aload_n 0, 1) := by decide +kernel
theorem dX6_lay_68 : decode cX6_lay 68 = .ok (.getfield 31, 3) := by decide +kernel
theorem dX6_lay_71 : decode cX6_lay 71 = .ok (.iload_n 2, 1) := by decide +kernel
theorem dX6_lay_72 : decode cX6_lay 72 = .ok (.iaload, 1) := by decide +kernel
theorem dX6_lay_73 : decode cX6_lay 73 = .ok (.iload_n 2, 1) := by decide +kernel
theorem dX6_lay_74 : decode cX6_lay 74 = .ok (.imul, 1) := by decide +kernel
theorem dX6_lay_75 : decode cX6_lay 75 = .ok (.iload_n 1, 1) := by decide +kernel
theorem dX6_lay_76 : decode cX6_lay 76 = .ok (.idiv, 1) := by decide +kernel
theorem dX6_lay_77 : decode cX6_lay 77 = .ok (.iadd, 1) := by decide +kernel
theorem dX6_lay_78 : decode cX6_lay 78 = .ok (.putfield 51, 3) := by decide +kernel
theorem dX6_lay_81 : decode cX6_lay 81 = .ok (.aload_n 0, 1) := by decide +kernel
theorem dX6_lay_82 : decode cX6_lay 82 = .ok (.dup, 1) := by decide +kernel
theorem dX6_lay_83 : decode cX6_lay 83 = .ok (.getfield 48, 3) := by decide +kernel
theorem dX6_lay_86 : decode cX6_lay 86 = .ok (.aload_n 0, 1) := by decide +kernel
theorem dX6_lay_87 : decode cX6_lay 87 = .ok (.getfield 31, 3) := by decide +kernel
theorem dX6_lay_90 : decode cX6_lay 90 = .ok (.iload_n 2, 1) := by decide +kernel
theorem dX6_lay_91 : decode cX6_lay 91 = .ok (.iaload, 1) := by decide +kernel
theorem dX6_lay_92 : decode cX6_lay 92 = .ok (.aload_n 0, 1) := by decide +kernel
theorem dX6_lay_93 : decode cX6_lay 93 = .ok (.getfield 31, 3) := by decide +kernel
theorem dX6_lay_96 : decode cX6_lay 96 = .ok (.iload_n 2, 1) := by decide +kernel
theorem dX6_lay_97 : decode cX6_lay 97 = .ok (.iaload, 1) := by decide +kernel
theorem dX6_lay_98 : decode cX6_lay 98 = .ok (.iload_n 2, 1) := by decide +kernel
theorem dX6_lay_99 : decode cX6_lay 99 = .ok (.imul, 1) := by decide +kernel
theorem dX6_lay_100 : decode cX6_lay 100 = .ok (.iload_n 1, 1) := by decide +kernel
theorem dX6_lay_101 : decode cX6_lay 101 = .ok (.idiv, 1) := by decide +kernel
theorem dX6_lay_102 : decode cX6_lay 102 = .ok (.isub, 1) := by decide +kernel
theorem dX6_lay_103 : decode cX6_lay 103 = .ok (.iadd, 1) := by decide +kernel
theorem dX6_lay_104 : decode cX6_lay 104 = .ok (.putfield 48, 3) := by decide +kernel
theorem dX6_lay_107 : decode cX6_lay 107 = .ok (.iinc 2 1, 3) := by decide +kernel
theorem dX6_lay_110 : decode cX6_lay 110 = .ok (.goto (-91), 3) := by decide +kernel
theorem dX6_lay_113 : decode cX6_lay 113 = .ok (.aload_n 0, 1) := by decide +kernel
theorem dX6_lay_114 : decode cX6_lay 114 = .ok (.getfield 48, 3) := by decide +kernel
theorem dX6_lay_117 : decode cX6_lay 117 = .ok (.istore_n 2, 1) := by decide +kernel
theorem dX6_lay_118 : decode cX6_lay 118 = .ok (.iconst 0, 1) := by decide +kernel
theorem dX6_lay_119 : decode cX6_lay 119 = .ok (.istore_n 3, 1) := by decide +kernel
theorem dX6_lay_120 : decode cX6_lay 120 = .ok (.iload_n 3, 1) := by decide +kernel
theorem dX6_lay_121 : decode cX6_lay 121 = .ok (.iload_n 1, 1) := by decide +kernel
theorem dX6_lay_122 : decode cX6_lay 122 = .ok (.if_icmp .ge 47, 3) := by decide +kernel
theorem dX6_lay_125 : decode cX6_lay 125 = .ok (.iload_n 2, 1) := by decide +kernel
theorem dX6_lay_126 : decode cX6_lay 126 = .ok (.aload_n 0, 1) := by decide +kernel
theorem dX6_lay_127 : decode cX6_lay 127 = .ok (.getfield 31, 3) := by decide +kernel
theorem dX6_lay_130 : decode cX6_lay 130 = .ok (.iload_n 3, 1) := by decide +kernel
theorem dX6_lay_131 : decode cX6_lay 131 = .ok (.iaload, 1) := by decide +kernel
theorem dX6_lay_132 : decode cX6_lay 132 = .ok (.isub, 1) := by decide +kernel
theorem dX6_lay_133 : decode cX6_lay 133 = .ok (.istore_n 2, 1) := by decide +kernel
theorem dX6_lay_134 : decode cX6_lay 134 = .ok (.aload_n 0, 1) := by decide +kernel
theorem dX6_lay_135 : decode cX6_lay 135 = .ok (.getfield 34, 3) := by decide +kernel
theorem dX6_lay_138 : decode cX6_lay 138 = .ok (.iload_n 3, 1) := by decide +kernel
theorem dX6_lay_139 : decode cX6_lay 139 = .ok (.iload_n 2, 1) := by decide +kernel
theorem dX6_lay_140 : decode cX6_lay 140 = .ok (.invokestatic 58, 3) := by decide +kernel
theorem dX6_lay_143 : decode cX6_lay 143 = .ok (.aload_n 0, 1) := by decide +kernel
theorem dX6_lay_144 : decode cX6_lay 144 = .ok (.getfield 7, 3) := by decide +kernel
theorem dX6_lay_147 : decode cX6_lay 147 = .ok (.iconst 3, 1) := by decide +kernel
theorem dX6_lay_148 : decode cX6_lay 148 = .ok (.iaload, 1) := by decide +kernel
theorem dX6_lay_149 : decode cX6_lay 149 = .ok (.aload_n 0, 1) := by decide +kernel
theorem dX6_lay_150 : decode cX6_lay 150 = .ok (.getfield 7, 3) := by decide +kernel
theorem dX6_lay_153 : decode cX6_lay 153 = .ok (.iconst 5, 1) := by decide +kernel
theorem dX6_lay_154 : decode cX6_lay 154 = .ok (.iload_n 3, 1) := by decide +kernel
theorem dX6_lay_155 : decode cX6_lay 155 = .ok (.iadd, 1) := by decide +kernel
theorem dX6_lay_156 : decode cX6_lay 156 = .ok (.iaload, 1) := by decide +kernel
theorem dX6_lay_157 : decode cX6_lay 157 = .ok (.invokestatic 58, 3) := by decide +kernel
theorem dX6_lay_160 : decode cX6_lay 160 = .ok (.imul, 1) := by decide +kernel
theorem dX6_lay_161 : decode cX6_lay 161 = .ok (.iadd, 1) := by decide +kernel
theorem dX6_lay_162 : decode cX6_lay 162 = .ok (.iastore, 1) := by decide +kernel
theorem dX6_lay_163 : decode cX6_lay 163 = .ok (.iinc 3 1, 3) := by decide +kernel
theorem dX6_lay_166 : decode cX6_lay 166 = .ok (.goto (-46), 3) := by decide +kernel
theorem dX6_lay_169 : decode cX6_lay 169 = .ok (.return_, 1) := by decide +kernel
set_option maxRecDepth 20000 in
theorem ggX6_greatest_X6_lay : GoodIn wsX6_greatest wsX6_lay := goodIn_r _ [7, 1, 8, 9, 10, 11, 2, 12, 13, 14, 6, 15, 16, 17, 18, 19, 20, 21, 22, 23, 24, 25, 26, 27, 28, 29, 30, 31, 32, 33, 34, 35, 36, 37, 38] (by decide +kernel) (by decide +kernel)
set_option maxRecDepth 20000 in
theorem gX6_greatest_X6_lay : GoodIn wsX6_greatest (wsV RX6 62 RX6 yX6_lay wsX6_lay) := goodIn_app (goodIn_of _ (by decide +kernel)) ggX6_greatest_X6_lay
theorem dX6_greatest_0 : decode cX6_greatest 0 = .ok (.aload_n 0, 1) := by decide +kernel
theorem dX6_greatest_1 : decode cX6_greatest 1 = .ok (.invokevirtual 62, 3) := by decide +kernel
theorem dX6_greatest_4 : decode cX6_greatest 4 = .ok (.iconst 0, 1) := by decide +kernel
theorem dX6_greatest_5 : decode cX6_greatest 5 = .ok (.istore_n 1, 1) := by decide +kernel
theorem dX6_greatest_6 : decode cX6_greatest 6 = .ok (.iconst 0, 1) := by decide +kernel
theorem dX6_greatest_7 : decode cX6_greatest 7 = .ok (.istore_n 2, 1) := by decide +kernel
theorem dX6_greatest_8 : decode cX6_greatest 8 = .ok (.iload_n 2, 1) := by decide +kernel
theorem dX6_greatest_9 : decode cX6_greatest 9 = .ok (.aload_n 0, 1) := by decide +kernel
theorem dX6_greatest_10 : decode cX6_greatest 10 = .ok (.getfield 7, 3) := by decide +kernel
theorem dX6_greatest_13 : decode cX6_greatest 13 = .ok (.iconst 0, 1) := by decide +kernel
theorem dX6_greatest_14 : decode cX6_greatest 14 = .ok (.iaload, 1) := by decide +kernel
theorem dX6_greatest_15 : decode cX6_greatest 15 = .ok (.if_icmp .ge 30, 3) := by decide +kernel
theorem dX6_greatest_18 : decode cX6_greatest 18 = .ok (.aload_n 0, 1) := by decide +kernel
theorem dX6_greatest_19 : decode cX6_greatest 19 = .ok (.getfield 34, 3) := by decide +kernel
theorem dX6_greatest_22 : decode cX6_greatest 22 = .ok (.iload_n 2, 1) := by decide +kernel
theorem dX6_greatest_23 : decode cX6_greatest 23 = .ok (.iaload, 1) := by decide +kernel
theorem dX6_greatest_24 : decode cX6_greatest 24 = .ok (.iload_n 1, 1) := by decide +kernel
theorem dX6_greatest_25 : decode cX6_greatest 25 = .ok (.if_icmp .le 12, 3) := by decide +kernel
theorem dX6_greatest_28 : decode cX6_greatest 28 = .ok (.aload_n 0, 1) := by decide +kernel
theorem dX6_greatest_29 : decode cX6_greatest 29 = .ok (.getfield 34, 3) := by decide +kernel
theorem dX6_greatest_32 : decode cX6_greatest 32 = .ok (.iload_n 2, 1) := by decide +kernel
theorem dX6_greatest_33 : decode cX6_greatest 33 = .ok (.iaload, 1) := by decide +kernel
theorem dX6_greatest_34 : decode cX6_greatest 34 = .ok (.goto 4, 3) := by decide +kernel
theorem dX6_greatest_37 : decode cX6_greatest 37 = .ok (.iload_n 1, 1) := by decide +kernel
theorem dX6_greatest_38 : decode cX6_greatest 38 = .ok (.istore_n 1, 1) := by decide +kernel
theorem dX6_greatest_39 : decode cX6_greatest 39 = .ok (.iinc 2 1, 3) := by decide +kernel
theorem dX6_greatest_42 : decode cX6_greatest 42 = .ok (.goto (-34), 3) := by decide +kernel
theorem dX6_greatest_45 : decode cX6_greatest 45 = .ok (.iload_n 1, 1) := by decide +kernel
theorem dX6_greatest_46 : decode cX6_greatest 46 = .ok (.ireturn, 1) := by decide +kernel
set_option maxRecDepth 20000 in
theorem ggX6_link_X6_in : GoodIn wsX6_link wsX6_in := goodIn_r _ [5] (by decide +kernel) (by decide +kernel)
set_option maxRecDepth 20000 in
theorem gX6_link_X6_in : GoodIn wsX6_link (va_wsS RX6 41 yX6_in wsX6_in) := goodIn_app (goodIn_of _ (by decide +kernel)) ggX6_link_X6_in
set_option maxRecDepth 20000 in
theorem ggX6_link_X6_holds : GoodIn wsX6_link wsX6_holds := goodIn_r _ [9, 10, 21, 22, 23, 24, 25, 26, 27, 28, 29, 30, 31, 32, 33, 34, 35, 36, 37] (by decide +kernel) (by decide +kernel)
set_option maxRecDepth 20000 in
theorem gX6_link_X6_holds : GoodIn wsX6_link (wsV RX6 65 RX6 yX6_holds wsX6_holds) := goodIn_app (goodIn_of _ (by decide +kernel)) ggX6_link_X6_holds
set_option maxRecDepth 20000 in
theorem ggX6_link_X6_save : GoodIn wsX6_link wsX6_save := goodIn_r _ [14, 15, 16, 1, 21, 22, 23, 24, 25, 26, 27, 28, 29, 30, 31, 32, 33, 34, 35, 36, 37] (by decide +kernel) (by decide +kernel)
set_option maxRecDepth 20000 in
theorem gX6_link_X6_save : GoodIn wsX6_link (wsV RX6 69 RX6 yX6_save wsX6_save) := goodIn_app (goodIn_of _ (by decide +kernel)) ggX6_link_X6_save
set_option maxRecDepth 20000 in
theorem ggX6_link_X6_noMore : GoodIn wsX6_link wsX6_noMore := goodIn_r _ [20, 1, 21, 22, 23, 24, 25, 26, 27, 28, 29, 30, 31, 32, 33, 34, 35, 36, 37] (by decide +kernel) (by decide +kernel)
set_option maxRecDepth 20000 in
theorem gX6_link_X6_noMore : GoodIn wsX6_link (wsV RX6 72 RX6 yX6_noMore wsX6_noMore) := goodIn_app (goodIn_of _ (by decide +kernel)) ggX6_link_X6_noMore
theorem dX6_link_0 : decode cX6_link 0 = .ok (.aload_n 0, 1) := by decide +kernel
theorem dX6_link_1 : decode cX6_link 1 = .ok (.iload_n 1, 1) := by decide +kernel
theorem dX6_link_2 : decode cX6_link 2 = .ok (.bipush (-2), 2) := by decide +kernel
theorem dX6_link_4 : decode cX6_link 4 = .ok (.iconst 2, 1) := by decide +kernel
theorem dX6_link_5 : decode cX6_link 5 = .ok (.invokestatic 41, 3) := by decide +kernel
theorem dX6_link_8 : decode cX6_link 8 = .ok (.ifCond .ne 7, 3) := by decide +kernel
theorem dX6_link_11 : decode cX6_link 11 = .ok (.iconst 1, 1) := by decide +kernel
theorem dX6_link_12 : decode cX6_link 12 = .ok (.goto 19, 3) := by decide +kernel
theorem dX6_link_15 : decode cX6_link 15 = .ok (.aload_n 0, 1) := by decide +kernel
theorem dX6_link_16 : decode cX6_link 16 = .ok (.getfield 7, 3) := by decide +kernel
theorem dX6_link_19 : decode cX6_link 19 = .ok (.iconst 0, 1) := by decide +kernel
theorem dX6_link_20 : decode cX6_link 20 = .ok (.iaload, 1) := by decide +kernel
theorem dX6_link_21 : decode cX6_link 21 = .ok (.bipush 20, 2) := by decide +kernel
theorem dX6_link_23 : decode cX6_link 23 = .ok (.if_icmp .ne 7, 3) := by decide +kernel
theorem dX6_link_26 : decode cX6_link 26 = .ok (.iconst 2, 1) := by decide +kernel
theorem dX6_link_27 : decode cX6_link 27 = .ok (.goto 4, 3) := by decide +kernel
theorem dX6_link_30 : decode cX6_link 30 = .ok (.iconst 0, 1) := by decide +kernel
theorem dX6_link_31 : decode cX6_link 31 = .ok (.invokevirtual 65, 3) := by decide +kernel
theorem dX6_link_34 : decode cX6_link 34 = .ok (.ifCond .ne 5, 3) := by decide +kernel
theorem dX6_link_37 : decode cX6_link 37 = .ok (.iconst 0, 1) := by decide +kernel
theorem dX6_link_38 : decode cX6_link 38 = .ok (.ireturn, 1) := by decide +kernel
theorem dX6_link_39 : decode cX6_link 39 = .ok (.aload_n 0, 1) := by decide +kernel
theorem dX6_link_40 : decode cX6_link 40 = .ok (.invokevirtual 69, 3) := by decide +kernel
theorem dX6_link_43 : decode cX6_link 43 = .ok (.aload_n 0, 1) := by decide +kernel
theorem dX6_link_44 : decode cX6_link 44 = .ok (.getfield 7, 3) := by decide +kernel
theorem dX6_link_47 : decode cX6_link 47 = .ok (.iconst 5, 1) := by decide +kernel
theorem dX6_link_48 : decode cX6_link 48 = .ok (.aload_n 0, 1) := by decide +kernel
theorem dX6_link_49 : decode cX6_link 49 = .ok (.getfield 7, 3) := by decide +kernel
theorem dX6_link_52 : decode cX6_link 52 = .ok (.iconst 0, 1) := by decide +kernel
theorem dX6_link_53 : decode cX6_link 53 = .ok (.iaload, 1) := by decide +kernel
theorem dX6_link_54 : decode cX6_link 54 = .ok (.iadd, 1) := by decide +kernel
theorem dX6_link_55 : decode cX6_link 55 = .ok (.iload_n 1, 1) := by decide +kernel
theorem dX6_link_56 : decode cX6_link 56 = .ok (.iastore, 1) := by decide +kernel
theorem dX6_link_57 : decode cX6_link 57 = .ok (.aload_n 0, 1) := by decide +kernel
theorem dX6_link_58 : decode cX6_link 58 = .ok (.getfield 7, 3) := by decide +kernel
theorem dX6_link_61 : decode cX6_link 61 = .ok (.iconst 0, 1) := by decide +kernel
theorem dX6_link_62 : decode cX6_link 62 = .ok (.dup2, 1) := by decide +kernel
theorem dX6_link_63 : decode cX6_link 63 = .ok (.iaload, 1) := by decide +kernel
theorem dX6_link_64 : decode cX6_link 64 = .ok (.iconst 1, 1) := by decide +kernel
theorem dX6_link_65 : decode cX6_link 65 = .ok (.iadd, 1) := by decide +kernel
theorem dX6_link_66 : decode cX6_link 66 = .ok (.iastore, 1) := by decide +kernel
theorem dX6_link_67 : decode cX6_link 67 = .ok (.aload_n 0, 1) := by decide +kernel
theorem dX6_link_68 : decode cX6_link 68 = .ok (.aload_n 0, 1) := by decide +kernel
theorem dX6_link_69 : decode cX6_link 69 = .ok (.getfield 7, 3) := by decide +kernel
theorem dX6_link_72 : decode cX6_link 72 = .ok (.iconst 0, 1) := by decide +kernel
theorem dX6_link_73 : decode cX6_link 73 = .ok (.iaload, 1) := by decide +kernel
theorem dX6_link_74 : decode cX6_link 74 = .ok (.invokevirtual 72, 3) := by decide +kernel
theorem dX6_link_77 : decode cX6_link 77 = .ok (.aload_n 0, 1) := by decide +kernel
theorem dX6_link_78 : decode cX6_link 78 = .ok (.getfield 7, 3) := by decide +kernel
theorem dX6_link_81 : decode cX6_link 81 = .ok (.iconst 0, 1) := by decide +kernel
theorem dX6_link_82 : decode cX6_link 82 = .ok (.iaload, 1) := by decide +kernel
theorem dX6_link_83 : decode cX6_link 83 = .ok (.ireturn, 1) := by decide +kernel
theorem dX6_noMore_0 : decode cX6_noMore 0 = .ok (.aload_n 0, 1) := by decide +kernel
theorem dX6_noMore_1 : decode cX6_noMore 1 = .ok (.getfield 7, 3) := by decide +kernel
theorem dX6_noMore_4 : decode cX6_noMore 4 = .ok (.bipush 25, 2) := by decide +kernel
theorem dX6_noMore_6 : decode cX6_noMore 6 = .ok (.iload_n 1, 1) := by decide +kernel
theorem dX6_noMore_7 : decode cX6_noMore 7 = .ok (.iadd, 1) := by decide +kernel
theorem dX6_noMore_8 : decode cX6_noMore 8 = .ok (.iconst 0, 1) := by decide +kernel
theorem dX6_noMore_9 : decode cX6_noMore 9 = .ok (.iastore, 1) := by decide +kernel
theorem dX6_noMore_10 : decode cX6_noMore 10 = .ok (.aload_n 0, 1) := by decide +kernel
theorem dX6_noMore_11 : decode cX6_noMore 11 = .ok (.getfield 7, 3) := by decide +kernel
theorem dX6_noMore_14 : decode cX6_noMore 14 = .ok (.bipush 46, 2) := by decide +kernel
theorem dX6_noMore_16 : decode cX6_noMore 16 = .ok (.iload_n 1, 1) := by decide +kernel
theorem dX6_noMore_17 : decode cX6_noMore 17 = .ok (.iadd, 1) := by decide +kernel
theorem dX6_noMore_18 : decode cX6_noMore 18 = .ok (.iconst 0, 1) := by decide +kernel
theorem dX6_noMore_19 : decode cX6_noMore 19 = .ok (.iastore, 1) := by decide +kernel
theorem dX6_noMore_20 : decode cX6_noMore 20 = .ok (.aload_n 0, 1) := by decide +kernel
theorem dX6_noMore_21 : decode cX6_noMore 21 = .ok (.getfield 7, 3) := by decide +kernel
theorem dX6_noMore_24 : decode cX6_noMore 24 = .ok (.bipush 67, 2) := by decide +kernel
theorem dX6_noMore_26 : decode cX6_noMore 26 = .ok (.iload_n 1, 1) := by decide +kernel
theorem dX6_noMore_27 : decode cX6_noMore 27 = .ok (.iadd, 1) := by decide +kernel
theorem dX6_noMore_28 : decode cX6_noMore 28 = .ok (.iconst 0, 1) := by decide +kernel
theorem dX6_noMore_29 : decode cX6_noMore 29 = .ok (.iastore, 1) := by decide +kernel
theorem dX6_noMore_30 : decode cX6_noMore 30 = .ok (.return_, 1) := by decide +kernel
set_option maxRecDepth 20000 in
theorem ggX6_cut_X6_isLink : GoodIn wsX6_cut wsX6_isLink := goodIn_r _ [6, 1, 7, 8, 5, 9, 21, 22, 23, 24, 25, 26, 27, 28, 29, 30, 31, 32, 33, 34, 35, 36, 37] (by decide +kernel) (by decide +kernel)
set_option maxRecDepth 20000 in
theorem gX6_cut_X6_isLink : GoodIn wsX6_cut (wsV RX6 75 RX6 yX6_isLink wsX6_isLink) := goodIn_app (goodIn_of _ (by decide +kernel)) ggX6_cut_X6_isLink
set_option maxRecDepth 20000 in
theorem ggX6_cut_X6_holds : GoodIn wsX6_cut wsX6_holds := goodIn_r _ [13, 14, 21, 22, 23, 24, 25, 26, 27, 28, 29, 30, 31, 32, 33, 34, 35, 36, 37] (by decide +kernel) (by decide +kernel)
set_option maxRecDepth 20000 in
theorem gX6_cut_X6_holds : GoodIn wsX6_cut (wsV RX6 65 RX6 yX6_holds wsX6_holds) := goodIn_app (goodIn_of _ (by decide +kernel)) ggX6_cut_X6_holds
set_option maxRecDepth 20000 in
theorem ggX6_cut_X6_save : GoodIn wsX6_cut wsX6_save := goodIn_r _ [18, 19, 20, 1, 21, 22, 23, 24, 25, 26, 27, 28, 29, 30, 31, 32, 33, 34, 35, 36, 37] (by decide +kernel) (by decide +kernel)
set_option maxRecDepth 20000 in
theorem gX6_cut_X6_save : GoodIn wsX6_cut (wsV RX6 69 RX6 yX6_save wsX6_save) := goodIn_app (goodIn_of _ (by decide +kernel)) ggX6_cut_X6_save
theorem dX6_cut_0 : decode cX6_cut 0 = .ok (.aload_n 0, 1) := by decide +kernel
theorem dX6_cut_1 : decode cX6_cut 1 = .ok (.aload_n 0, 1) := by decide +kernel
theorem dX6_cut_2 : decode cX6_cut 2 = .ok (.iload_n 1, 1) := by decide +kernel
theorem dX6_cut_3 : decode cX6_cut 3 = .ok (.invokevirtual 75, 3) := by decide +kernel
theorem dX6_cut_6 : decode cX6_cut 6 = .ok (.ifCond .ne 7, 3) := by decide +kernel
theorem dX6_cut_9 : decode cX6_cut 9 = .ok (.iconst 1, 1) := by decide +kernel
theorem dX6_cut_10 : decode cX6_cut 10 = .ok (.goto 18, 3) := by decide +kernel
theorem dX6_cut_13 : decode cX6_cut 13 = .ok (.aload_n 0, 1) := by decide +kernel
theorem dX6_cut_14 : decode cX6_cut 14 = .ok (.getfield 7, 3) := by decide +kernel
theorem dX6_cut_17 : decode cX6_cut 17 = .ok (.iconst 0, 1) := by decide +kernel
theorem dX6_cut_18 : decode cX6_cut 18 = .ok (.iaload, 1) := by decide +kernel
theorem dX6_cut_19 : decode cX6_cut 19 = .ok (.iconst 1, 1) := by decide +kernel
theorem dX6_cut_20 : decode cX6_cut 20 = .ok (.if_icmp .ne 7, 3) := by decide +kernel
theorem dX6_cut_23 : decode cX6_cut 23 = .ok (.iconst 2, 1) := by decide +kernel
theorem dX6_cut_24 : decode cX6_cut 24 = .ok (.goto 4, 3) := by decide +kernel
theorem dX6_cut_27 : decode cX6_cut 27 = .ok (.iconst 0, 1) := by decide +kernel
theorem dX6_cut_28 : decode cX6_cut 28 = .ok (.invokevirtual 65, 3) := by decide +kernel
theorem dX6_cut_31 : decode cX6_cut 31 = .ok (.ifCond .ne 5, 3) := by decide +kernel
theorem dX6_cut_34 : decode cX6_cut 34 = .ok (.iconst 0, 1) := by decide +kernel
theorem dX6_cut_35 : decode cX6_cut 35 = .ok (.ireturn, 1) := by decide +kernel
theorem dX6_cut_36 : decode cX6_cut 36 = .ok (.aload_n 0, 1) := by decide +kernel
theorem dX6_cut_37 : decode cX6_cut 37 = .ok (.invokevirtual 69, 3) := by decide +kernel
theorem dX6_cut_40 : decode cX6_cut 40 = .ok (.iload_n 1, 1) := by decide +kernel
theorem dX6_cut_41 : decode cX6_cut 41 = .ok (.istore_n 2, 1) := by decide +kernel
theorem dX6_cut_42 : decode cX6_cut 42 = .ok (.iload_n 2, 1) := by decide +kernel
theorem dX6_cut_43 : decode cX6_cut 43 = .ok (.aload_n 0, 1) := by decide +kernel
theorem dX6_cut_44 : decode cX6_cut 44 = .ok (.getfield 7, 3) := by decide +kernel
theorem dX6_cut_47 : decode cX6_cut 47 = .ok (.iconst 0, 1) := by decide +kernel
theorem dX6_cut_48 : decode cX6_cut 48 = .ok (.iaload, 1) := by decide +kernel
theorem dX6_cut_49 : decode cX6_cut 49 = .ok (.iconst 1, 1) := by decide +kernel
theorem dX6_cut_50 : decode cX6_cut 50 = .ok (.isub, 1) := by decide +kernel
theorem dX6_cut_51 : decode cX6_cut 51 = .ok (.if_icmp .ge 93, 3) := by decide +kernel
theorem dX6_cut_54 : decode cX6_cut 54 = .ok (.aload_n 0, 1) := by decide +kernel
theorem dX6_cut_55 : decode cX6_cut 55 = .ok (.getfield 7, 3) := by decide +kernel
theorem dX6_cut_58 : decode cX6_cut 58 = .ok (.iconst 5, 1) := by decide +kernel
theorem dX6_cut_59 : decode cX6_cut 59 = .ok (.iload_n 2, 1) := by decide +kernel
theorem dX6_cut_60 : decode cX6_cut 60 = .ok (.iadd, 1) := by decide +kernel
theorem dX6_cut_61 : decode cX6_cut 61 = .ok (.aload_n 0, 1) := by decide +kernel
theorem dX6_cut_62 : decode cX6_cut 62 = .ok (.getfield 7, 3) := by decide +kernel
theorem dX6_cut_65 : decode cX6_cut 65 = .ok (.iconst 5, 1) := by decide +kernel
theorem dX6_cut_66 : decode cX6_cut 66 = .ok (.iload_n 2, 1) := by decide +kernel
theorem dX6_cut_67 : decode cX6_cut 67 = .ok (.iadd, 1) := by decide +kernel
theorem dX6_cut_68 : decode cX6_cut 68 = .ok (.iconst 1, 1) := by decide +kernel
theorem dX6_cut_69 : decode cX6_cut 69 = .ok (.iadd, 1) := by decide +kernel
theorem dX6_cut_70 : decode cX6_cut 70 = .ok (.iaload, 1) := by decide +kernel
theorem dX6_cut_71 : decode cX6_cut 71 = .ok (.iastore, 1) := by decide +kernel
theorem dX6_cut_72 : decode cX6_cut 72 = .ok (.aload_n 0, 1) := by decide +kernel
theorem dX6_cut_73 : decode cX6_cut 73 = .ok (.getfield 7, 3) := by decide +kernel
theorem dX6_cut_76 : decode cX6_cut 76 = .ok (.bipush 25, 2) := by decide +kernel
theorem dX6_cut_78 : decode cX6_cut 78 = .ok (.iload_n 2, 1) := by decide +kernel
theorem dX6_cut_79 : decode cX6_cut 79 = .ok (.iadd, 1) := by decide +kernel
theorem dX6_cut_80 : decode cX6_cut 80 = .ok (.iconst 1, 1) := by decide +kernel
theorem dX6_cut_81 : decode cX6_cut 81 = .ok (.iadd, 1) := by decide +kernel
theorem dX6_cut_82 : decode cX6_cut 82 = .ok (.aload_n 0, 1) := by decide +kernel
theorem dX6_cut_83 : decode cX6_cut 83 = .ok (.getfield 7, 3) := by decide +kernel
theorem dX6_cut_86 : decode cX6_cut 86 = .ok (.bipush 25, 2) := by decide +kernel
theorem dX6_cut_88 : decode cX6_cut 88 = .ok (.iload_n 2, 1) := by decide +kernel
theorem dX6_cut_89 : decode cX6_cut 89 = .ok (.iadd, 1) := by decide +kernel
theorem dX6_cut_90 : decode cX6_cut 90 = .ok (.iconst 2, 1) := by decide +kernel
theorem dX6_cut_91 : decode cX6_cut 91 = .ok (.iadd, 1) := by decide +kernel
theorem dX6_cut_92 : decode cX6_cut 92 = .ok (.iaload, 1) := by decide +kernel
theorem dX6_cut_93 : decode cX6_cut 93 = .ok (.iastore, 1) := by decide +kernel
theorem dX6_cut_94 : decode cX6_cut 94 = .ok (.aload_n 0, 1) := by decide +kernel
theorem dX6_cut_95 : decode cX6_cut 95 = .ok (.getfield 7, 3) := by decide +kernel
theorem dX6_cut_98 : decode cX6_cut 98 = .ok (.bipush 46, 2) := by decide +kernel
theorem dX6_cut_100 : decode cX6_cut 100 = .ok (.iload_n 2, 1) := by decide +kernel
theorem dX6_cut_101 : decode cX6_cut 101 = .ok (.iadd, 1) := by decide +kernel
theorem dX6_cut_102 : decode cX6_cut 102 = .ok (.iconst 1, 1) := by decide +kernel
theorem dX6_cut_103 : decode cX6_cut 103 = .ok (.iadd, 1) := by decide +kernel
theorem dX6_cut_104 : decode cX6_cut 104 = .ok (.aload_n 0, 1) := by decide +kernel
theorem dX6_cut_105 : decode cX6_cut 105 = .ok (.getfield 7, 3) := by decide +kernel
theorem dX6_cut_108 : decode cX6_cut 108 = .ok (.bipush 46, 2) := by decide +kernel
theorem dX6_cut_110 : decode cX6_cut 110 = .ok (.iload_n 2, 1) := by decide +kernel
theorem dX6_cut_111 : decode cX6_cut 111 = .ok (.iadd, 1) := by decide +kernel
theorem dX6_cut_112 : decode cX6_cut 112 = .ok (.iconst 2, 1) := by decide +kernel
theorem dX6_cut_113 : decode cX6_cut 113 = .ok (.iadd, 1) := by decide +kernel
theorem dX6_cut_114 : decode cX6_cut 114 = .ok (.iaload, 1) := by decide +kernel
theorem dX6_cut_115 : decode cX6_cut 115 = .ok (.iastore, 1) := by decide +kernel
theorem dX6_cut_116 : decode cX6_cut 116 = .ok (.aload_n 0, 1) := by decide +kernel
theorem dX6_cut_117 : decode cX6_cut 117 = .ok (.getfield 7, 3) := by decide +kernel
theorem dX6_cut_120 : decode cX6_cut 120 = .ok (.bipush 67, 2) := by decide +kernel
theorem dX6_cut_122 : decode cX6_cut 122 = .ok (.iload_n 2, 1) := by decide +kernel
theorem dX6_cut_123 : decode cX6_cut 123 = .ok (.iadd, 1) := by decide +kernel
theorem dX6_cut_124 : decode cX6_cut 124 = .ok (.iconst 1, 1) := by decide +kernel
theorem dX6_cut_125 : decode cX6_cut 125 = .ok (.iadd, 1) := by decide +kernel
theorem dX6_cut_126 : decode cX6_cut 126 = .ok (.aload_n 0, 1) := by decide +kernel
theorem dX6_cut_127 : decode cX6_cut 127 = .ok (.getfield 7, 3) := by decide +kernel
theorem dX6_cut_130 : decode cX6_cut 130 = .ok (.bipush 67, 2) := by decide +kernel
theorem dX6_cut_132 : decode cX6_cut 132 = .ok (.iload_n 2, 1) := by decide +kernel
theorem dX6_cut_133 : decode cX6_cut 133 = .ok (.iadd, 1) := by decide +kernel
theorem dX6_cut_134 : decode cX6_cut 134 = .ok (.iconst 2, 1) := by decide +kernel
theorem dX6_cut_135 : decode cX6_cut 135 = .ok (.iadd, 1) := by decide +kernel
theorem dX6_cut_136 : decode cX6_cut 136 = .ok (.iaload, 1) := by decide +kernel
theorem dX6_cut_137 : decode cX6_cut 137 = .ok (.iastore, 1) := by decide +kernel
theorem dX6_cut_138 : decode cX6_cut 138 = .ok (.iinc 2 1, 3) := by decide +kernel
theorem dX6_cut_141 : decode cX6_cut 141 = .ok (.goto (-99), 3) := by decide +kernel
theorem dX6_cut_144 : decode cX6_cut 144 = .ok (.aload_n 0, 1) := by decide +kernel
theorem dX6_cut_145 : decode cX6_cut 145 = .ok (.getfield 7, 3) := by decide +kernel
theorem dX6_cut_148 : decode cX6_cut 148 = .ok (.iconst 0, 1) := by decide +kernel
theorem dX6_cut_149 : decode cX6_cut 149 = .ok (.dup2, 1) := by decide +kernel
theorem dX6_cut_150 : decode cX6_cut 150 = .ok (.iaload, 1) := by decide +kernel
theorem dX6_cut_151 : decode cX6_cut 151 = .ok (.iconst 1, 1) := by decide +kernel
theorem dX6_cut_152 : decode cX6_cut 152 = .ok (.isub, 1) := by decide +kernel
theorem dX6_cut_153 : decode cX6_cut 153 = .ok (.iastore, 1) := by decide +kernel
theorem dX6_cut_154 : decode cX6_cut 154 = .ok (.aload_n 0, 1) := by decide +kernel
theorem dX6_cut_155 : decode cX6_cut 155 = .ok (.getfield 7, 3) := by decide +kernel
theorem dX6_cut_158 : decode cX6_cut 158 = .ok (.iconst 0, 1) := by decide +kernel
theorem dX6_cut_159 : decode cX6_cut 159 = .ok (.iaload, 1) := by decide +kernel
theorem dX6_cut_160 : decode cX6_cut 160 = .ok (.ireturn, 1) := by decide +kernel
set_option maxRecDepth 20000 in
theorem ggX6_puts_X6_save : GoodIn wsX6_puts wsX6_save := goodIn_r _ [6, 7, 8, 1, 9, 10, 11, 12, 13, 14, 15, 16, 17, 18, 19, 20, 21, 22, 23, 24, 25] (by decide +kernel) (by decide +kernel)
set_option maxRecDepth 20000 in
theorem gX6_puts_X6_save : GoodIn wsX6_puts (wsV RX6 69 RX6 yX6_save wsX6_save) := goodIn_app (goodIn_of _ (by decide +kernel)) ggX6_puts_X6_save
theorem dX6_puts_0 : decode cX6_puts 0 = .ok (.aload_n 0, 1) := by decide +kernel
theorem dX6_puts_1 : decode cX6_puts 1 = .ok (.invokevirtual 69, 3) := by decide +kernel
theorem dX6_puts_4 : decode cX6_puts 4 = .ok (.aload_n 0, 1) := by decide +kernel
theorem dX6_puts_5 : decode cX6_puts 5 = .ok (.getfield 7, 3) := by decide +kernel
theorem dX6_puts_8 : decode cX6_puts 8 = .ok (.iload_n 1, 1) := by decide +kernel
theorem dX6_puts_9 : decode cX6_puts 9 = .ok (.iaload, 1) := by decide +kernel
theorem dX6_puts_10 : decode cX6_puts 10 = .ok (.istore_n 3, 1) := by decide +kernel
theorem dX6_puts_11 : decode cX6_puts 11 = .ok (.aload_n 0, 1) := by decide +kernel
theorem dX6_puts_12 : decode cX6_puts 12 = .ok (.getfield 7, 3) := by decide +kernel
theorem dX6_puts_15 : decode cX6_puts 15 = .ok (.iload_n 1, 1) := by decide +kernel
theorem dX6_puts_16 : decode cX6_puts 16 = .ok (.iload_n 2, 1) := by decide +kernel
theorem dX6_puts_17 : decode cX6_puts 17 = .ok (.iastore, 1) := by decide +kernel
theorem dX6_puts_18 : decode cX6_puts 18 = .ok (.iload_n 3, 1) := by decide +kernel
theorem dX6_puts_19 : decode cX6_puts 19 = .ok (.ireturn, 1) := by decide +kernel
set_option maxRecDepth 20000 in
theorem ggX6_bend_X6_isLink : GoodIn wsX6_bend wsX6_isLink := goodIn_r _ [5, 6, 7, 8, 4, 9, 25, 26, 27, 28, 29, 30, 31, 32, 33, 34, 35, 36, 37, 38, 39, 40, 41] (by decide +kernel) (by decide +kernel)
set_option maxRecDepth 20000 in
theorem gX6_bend_X6_isLink : GoodIn wsX6_bend (wsV RX6 75 RX6 yX6_isLink wsX6_isLink) := goodIn_app (goodIn_of _ (by decide +kernel)) ggX6_bend_X6_isLink
set_option maxRecDepth 20000 in
theorem ggX6_bend_X6_in : GoodIn wsX6_bend wsX6_in := goodIn_r _ [9] (by decide +kernel) (by decide +kernel)
set_option maxRecDepth 20000 in
theorem gX6_bend_X6_in : GoodIn wsX6_bend (va_wsS RX6 41 yX6_in wsX6_in) := goodIn_app (goodIn_of _ (by decide +kernel)) ggX6_bend_X6_in
set_option maxRecDepth 20000 in
theorem ggX6_bend_X6_holds : GoodIn wsX6_bend wsX6_holds := goodIn_r _ [13, 14, 25, 26, 27, 28, 29, 30, 31, 32, 33, 34, 35, 36, 37, 38, 39, 40, 41] (by decide +kernel) (by decide +kernel)
set_option maxRecDepth 20000 in
theorem gX6_bend_X6_holds : GoodIn wsX6_bend (wsV RX6 65 RX6 yX6_holds wsX6_holds) := goodIn_app (goodIn_of _ (by decide +kernel)) ggX6_bend_X6_holds
set_option maxRecDepth 20000 in
theorem ggX6_bend_X6_puts : GoodIn wsX6_bend wsX6_puts := goodIn_r _ [18, 6, 19, 20, 21, 4, 22, 23, 24, 25, 26, 27, 28, 29, 30, 31, 32, 33, 34, 35, 36, 37, 38, 39, 40, 41] (by decide +kernel) (by decide +kernel)
set_option maxRecDepth 20000 in
theorem gX6_bend_X6_puts : GoodIn wsX6_bend (wsV RX6 78 RX6 yX6_puts wsX6_puts) := goodIn_app (goodIn_of _ (by decide +kernel)) ggX6_bend_X6_puts
theorem dX6_bend_0 : decode cX6_bend 0 = .ok (.aload_n 0, 1) := by decide +kernel
theorem dX6_bend_1 : decode cX6_bend 1 = .ok (.aload_n 0, 1) := by decide +kernel
theorem dX6_bend_2 : decode cX6_bend 2 = .ok (.iload_n 1, 1) := by decide +kernel
theorem dX6_bend_3 : decode cX6_bend 3 = .ok (.invokevirtual 75, 3) := by decide +kernel
theorem dX6_bend_6 : decode cX6_bend 6 = .ok (.ifCond .ne 7, 3) := by decide +kernel
theorem dX6_bend_9 : decode cX6_bend 9 = .ok (.iconst 1, 1) := by decide +kernel
theorem dX6_bend_10 : decode cX6_bend 10 = .ok (.goto 18, 3) := by decide +kernel
theorem dX6_bend_13 : decode cX6_bend 13 = .ok (.iload_n 2, 1) := by decide +kernel
theorem dX6_bend_14 : decode cX6_bend 14 = .ok (.bipush (-2), 2) := by decide +kernel
theorem dX6_bend_16 : decode cX6_bend 16 = .ok (.iconst 2, 1) := by decide +kernel
theorem dX6_bend_17 : decode cX6_bend 17 = .ok (.invokestatic 41, 3) := by decide +kernel
theorem dX6_bend_20 : decode cX6_bend 20 = .ok (.ifCond .ne 7, 3) := by decide +kernel
theorem dX6_bend_23 : decode cX6_bend 23 = .ok (.iconst 2, 1) := by decide +kernel
theorem dX6_bend_24 : decode cX6_bend 24 = .ok (.goto 4, 3) := by decide +kernel
theorem dX6_bend_27 : decode cX6_bend 27 = .ok (.iconst 0, 1) := by decide +kernel
theorem dX6_bend_28 : decode cX6_bend 28 = .ok (.invokevirtual 65, 3) := by decide +kernel
theorem dX6_bend_31 : decode cX6_bend 31 = .ok (.ifCond .eq 16, 3) := by decide +kernel
theorem dX6_bend_34 : decode cX6_bend 34 = .ok (.aload_n 0, 1) := by decide +kernel
theorem dX6_bend_35 : decode cX6_bend 35 = .ok (.iconst 5, 1) := by decide +kernel
theorem dX6_bend_36 : decode cX6_bend 36 = .ok (.iload_n 1, 1) := by decide +kernel
theorem dX6_bend_37 : decode cX6_bend 37 = .ok (.iadd, 1) := by decide +kernel
theorem dX6_bend_38 : decode cX6_bend 38 = .ok (.iload_n 2, 1) := by decide +kernel
theorem dX6_bend_39 : decode cX6_bend 39 = .ok (.invokevirtual 78, 3) := by decide +kernel
theorem dX6_bend_42 : decode cX6_bend 42 = .ok (.iconst 2, 1) := by decide +kernel
theorem dX6_bend_43 : decode cX6_bend 43 = .ok (.iadd, 1) := by decide +kernel
theorem dX6_bend_44 : decode cX6_bend 44 = .ok (.goto 4, 3) := by decide +kernel
theorem dX6_bend_47 : decode cX6_bend 47 = .ok (.iconst 0, 1) := by decide +kernel
theorem dX6_bend_48 : decode cX6_bend 48 = .ok (.ireturn, 1) := by decide +kernel
theorem dX6_exchange_0 : decode cX6_exchange 0 = .ok (.aload_n 0, 1) := by decide +kernel
theorem dX6_exchange_1 : decode cX6_exchange 1 = .ok (.getfield 7, 3) := by decide +kernel
theorem dX6_exchange_4 : decode cX6_exchange 4 = .ok (.iload_n 1, 1) := by decide +kernel
theorem dX6_exchange_5 : decode cX6_exchange 5 = .ok (.iaload, 1) := by decide +kernel
theorem dX6_exchange_6 : decode cX6_exchange 6 = .ok (.istore_n 3, 1) := by decide +kernel
theorem dX6_exchange_7 : decode cX6_exchange 7 = .ok (.aload_n 0, 1) := by decide +kernel
theorem dX6_exchange_8 : decode cX6_exchange 8 = .ok (.getfield 7, 3) := by decide +kernel
theorem dX6_exchange_11 : decode cX6_exchange 11 = .ok (.iload_n 1, 1) := by decide +kernel
theorem dX6_exchange_12 : decode cX6_exchange 12 = .ok (.aload_n 0, 1) := by decide +kernel
theorem dX6_exchange_13 : decode cX6_exchange 13 = .ok (.getfield 7, 3) := by decide +kernel
theorem dX6_exchange_16 : decode cX6_exchange 16 = .ok (.iload_n 2, 1) := by decide +kernel
theorem dX6_exchange_17 : decode cX6_exchange 17 = .ok (.iaload, 1) := by decide +kernel
theorem dX6_exchange_18 : decode cX6_exchange 18 = .ok (.iastore, 1) := by decide +kernel
theorem dX6_exchange_19 : decode cX6_exchange 19 = .ok (.aload_n 0, 1) := by decide +kernel
theorem dX6_exchange_20 : decode cX6_exchange 20 = .ok (.getfield 7, 3) := by decide +kernel
theorem dX6_exchange_23 : decode cX6_exchange 23 = .ok (.iload_n 2, 1) := by decide +kernel
theorem dX6_exchange_24 : decode cX6_exchange 24 = .ok (.iload_n 3, 1) := by decide +kernel
theorem dX6_exchange_25 : decode cX6_exchange 25 = .ok (.iastore, 1) := by decide +kernel
theorem dX6_exchange_26 : decode cX6_exchange 26 = .ok (.return_, 1) := by decide +kernel
set_option maxRecDepth 20000 in
theorem ggX6_turn_X6_save : GoodIn wsX6_turn wsX6_save := goodIn_r _ [8, 9, 10, 2, 33, 34, 35, 36, 37, 38, 39, 40, 41, 42, 43, 44, 45, 46, 47, 48, 49] (by decide +kernel) (by decide +kernel)
set_option maxRecDepth 20000 in
theorem gX6_turn_X6_save : GoodIn wsX6_turn (wsV RX6 69 RX6 yX6_save wsX6_save) := goodIn_app (goodIn_of _ (by decide +kernel)) ggX6_turn_X6_save
set_option maxRecDepth 20000 in
theorem ggX6_turn_X6_exchange : GoodIn wsX6_turn wsX6_exchange := goodIn_r _ [14, 2, 33, 34, 35, 36, 37, 38, 39, 40, 41, 42, 43, 44, 45, 46, 47, 48, 49] (by decide +kernel) (by decide +kernel)
set_option maxRecDepth 20000 in
theorem gX6_turn_X6_exchange : GoodIn wsX6_turn (wsV RX6 82 RX6 yX6_exchange wsX6_exchange) := goodIn_app (goodIn_of _ (by decide +kernel)) ggX6_turn_X6_exchange
set_option maxRecDepth 20000 in
theorem ggX6_turn_X6_lay : GoodIn wsX6_turn wsX6_lay := goodIn_r _ [18, 2, 19, 20, 3, 21, 22, 23, 24, 25, 7, 26, 27, 28, 29, 30, 31, 32, 33, 34, 35, 36, 37, 38, 39, 40, 41, 42, 43, 44, 45, 46, 47, 48, 49] (by decide +kernel) (by decide +kernel)
set_option maxRecDepth 20000 in
theorem gX6_turn_X6_lay : GoodIn wsX6_turn (wsV RX6 62 RX6 yX6_lay wsX6_lay) := goodIn_app (goodIn_of _ (by decide +kernel)) ggX6_turn_X6_lay
theorem dX6_turn_0 : decode cX6_turn 0 = .ok (.aload_n 0, 1) := by decide +kernel
theorem dX6_turn_1 : decode cX6_turn 1 = .ok (.iconst 0, 1) := by decide +kernel
theorem dX6_turn_2 : decode cX6_turn 2 = .ok (.putfield 37, 3) := by decide +kernel
theorem dX6_turn_5 : decode cX6_turn 5 = .ok (.aload_n 0, 1) := by decide +kernel
theorem dX6_turn_6 : decode cX6_turn 6 = .ok (.invokevirtual 69, 3) := by decide +kernel
theorem dX6_turn_9 : decode cX6_turn 9 = .ok (.aload_n 0, 1) := by decide +kernel
theorem dX6_turn_10 : decode cX6_turn 10 = .ok (.getfield 7, 3) := by decide +kernel
theorem dX6_turn_13 : decode cX6_turn 13 = .ok (.iconst 0, 1) := by decide +kernel
theorem dX6_turn_14 : decode cX6_turn 14 = .ok (.iaload, 1) := by decide +kernel
theorem dX6_turn_15 : decode cX6_turn 15 = .ok (.istore_n 1, 1) := by decide +kernel
theorem dX6_turn_16 : decode cX6_turn 16 = .ok (.iconst 0, 1) := by decide +kernel
theorem dX6_turn_17 : decode cX6_turn 17 = .ok (.istore_n 2, 1) := by decide +kernel
theorem dX6_turn_18 : decode cX6_turn 18 = .ok (.iload_n 2, 1) := by decide +kernel
theorem dX6_turn_19 : decode cX6_turn 19 = .ok (.iload_n 1, 1) := by decide +kernel
theorem dX6_turn_20 : decode cX6_turn 20 = .ok (.iconst 2, 1) := by decide +kernel
theorem dX6_turn_21 : decode cX6_turn 21 = .ok (.idiv, 1) := by decide +kernel
theorem dX6_turn_22 : decode cX6_turn 22 = .ok (.if_icmp .ge 23, 3) := by decide +kernel
theorem dX6_turn_25 : decode cX6_turn 25 = .ok (.aload_n 0, 1) := by decide +kernel
theorem dX6_turn_26 : decode cX6_turn 26 = .ok (.iconst 5, 1) := by decide +kernel
theorem dX6_turn_27 : decode cX6_turn 27 = .ok (.iload_n 2, 1) := by decide +kernel
theorem dX6_turn_28 : decode cX6_turn 28 = .ok (.iadd, 1) := by decide +kernel
theorem dX6_turn_29 : decode cX6_turn 29 = .ok (.iconst 5, 1) := by decide +kernel
theorem dX6_turn_30 : decode cX6_turn 30 = .ok (.iload_n 1, 1) := by decide +kernel
theorem dX6_turn_31 : decode cX6_turn 31 = .ok (.iadd, 1) := by decide +kernel
theorem dX6_turn_32 : decode cX6_turn 32 = .ok (.iconst 1, 1) := by decide +kernel
theorem dX6_turn_33 : decode cX6_turn 33 = .ok (.isub, 1) := by decide +kernel
theorem dX6_turn_34 : decode cX6_turn 34 = .ok (.iload_n 2, 1) := by decide +kernel
theorem dX6_turn_35 : decode cX6_turn 35 = .ok (.isub, 1) := by decide +kernel
theorem dX6_turn_36 : decode cX6_turn 36 = .ok (.invokevirtual 82, 3) := by decide +kernel
theorem dX6_turn_39 : decode cX6_turn 39 = .ok (.iinc 2 1, 3) := by decide +kernel
theorem dX6_turn_42 : decode cX6_turn 42 = .ok (.goto (-24), 3) := by decide +kernel
theorem dX6_turn_45 : decode cX6_turn 45 = .ok (.iconst 0, 1) := by decide +kernel
theorem dX6_turn_46 : decode cX6_turn 46 = .ok (.istore_n 2, 1) := by decide +kernel
theorem dX6_turn_47 : decode cX6_turn 47 = .ok (.iload_n 2, 1) := by decide +kernel
theorem dX6_turn_48 : decode cX6_turn 48 = .ok (.iload_n 1, 1) := by decide +kernel
theorem dX6_turn_49 : decode cX6_turn 49 = .ok (.if_icmp .ge 26, 3) := by decide +kernel
theorem dX6_turn_52 : decode cX6_turn 52 = .ok (.aload_n 0, 1) := by decide +kernel
theorem dX6_turn_53 : decode cX6_turn 53 = .ok (.getfield 7, 3) := by decide +kernel
theorem dX6_turn_56 : decode cX6_turn 56 = .ok (.iconst 5, 1) := by decide +kernel
theorem dX6_turn_57 : decode cX6_turn 57 = .ok (.iload_n 2, 1) := by decide +kernel
theorem dX6_turn_58 : decode cX6_turn 58 = .ok (.iadd, 1) := by decide +kernel
theorem dX6_turn_59 : decode cX6_turn 59 = .ok (.aload_n 0, 1) := by decide +kernel
theorem dX6_turn_60 : decode cX6_turn 60 = .ok (.getfield 7, 3) := by decide +kernel
theorem dX6_turn_63 : decode cX6_turn 63 = .ok (.iconst 5, 1) := by decide +kernel
theorem dX6_turn_64 : decode cX6_turn 64 = .ok (.iload_n 2, 1) := by decide +kernel
theorem dX6_turn_65 : decode cX6_turn 65 = .ok (.iadd, 1) := by decide +kernel
theorem dX6_turn_66 : decode cX6_turn 66 = .ok (.iaload, 1) := by decide +kernel
theorem dX6_turn_67 : decode cX6_turn 67 = .ok (.ineg, 1) := by decide +kernel
theorem dX6_turn_68 : decode cX6_turn 68 = .ok (.iastore, 1) := by decide +kernel
theorem dX6_turn_69 : decode cX6_turn 69 = .ok (.iinc 2 1, 3) := by decide +kernel
theorem dX6_turn_72 : decode cX6_turn 72 = .ok (.goto (-25), 3) := by decide +kernel
theorem dX6_turn_75 : decode cX6_turn 75 = .ok (.iconst 0, 1) := by decide +kernel
theorem dX6_turn_76 : decode cX6_turn 76 = .ok (.istore_n 2, 1) := by decide +kernel
theorem dX6_turn_77 : decode cX6_turn 77 = .ok (.iload_n 2, 1) := by decide +kernel
theorem dX6_turn_78 : decode cX6_turn 78 = .ok (.iload_n 1, 1) := by decide +kernel
theorem dX6_turn_79 : decode cX6_turn 79 = .ok (.iconst 1, 1) := by decide +kernel
theorem dX6_turn_80 : decode cX6_turn 80 = .ok (.iadd, 1) := by decide +kernel
theorem dX6_turn_81 : decode cX6_turn 81 = .ok (.iconst 2, 1) := by decide +kernel
theorem dX6_turn_82 : decode cX6_turn 82 = .ok (.idiv, 1) := by decide +kernel
theorem dX6_turn_83 : decode cX6_turn 83 = .ok (.if_icmp .ge 51, 3) := by decide +kernel
theorem dX6_turn_86 : decode cX6_turn 86 = .ok (.aload_n 0, 1) := by decide +kernel
theorem dX6_turn_87 : decode cX6_turn 87 = .ok (.bipush 25, 2) := by decide +kernel
theorem dX6_turn_89 : decode cX6_turn 89 = .ok (.iload_n 2, 1) := by decide +kernel
theorem dX6_turn_90 : decode cX6_turn 90 = .ok (.iadd, 1) := by decide +kernel
theorem dX6_turn_91 : decode cX6_turn 91 = .ok (.bipush 25, 2) := by decide +kernel
theorem dX6_turn_93 : decode cX6_turn 93 = .ok (.iload_n 1, 1) := by decide +kernel
theorem dX6_turn_94 : decode cX6_turn 94 = .ok (.iadd, 1) := by decide +kernel
theorem dX6_turn_95 : decode cX6_turn 95 = .ok (.iload_n 2, 1) := by decide +kernel
theorem dX6_turn_96 : decode cX6_turn 96 = .ok (.isub, 1) := by decide +kernel
theorem dX6_turn_97 : decode cX6_turn 97 = .ok (.invokevirtual 82, 3) := by decide +kernel
theorem dX6_turn_100 : decode cX6_turn 100 = .ok (.aload_n 0, 1) := by decide +kernel
theorem dX6_turn_101 : decode cX6_turn 101 = .ok (.bipush 46, 2) := by decide +kernel
theorem dX6_turn_103 : decode cX6_turn 103 = .ok (.iload_n 2, 1) := by decide +kernel
theorem dX6_turn_104 : decode cX6_turn 104 = .ok (.iadd, 1) := by decide +kernel
theorem dX6_turn_105 : decode cX6_turn 105 = .ok (.bipush 46, 2) := by decide +kernel
theorem dX6_turn_107 : decode cX6_turn 107 = .ok (.iload_n 1, 1) := by decide +kernel
theorem dX6_turn_108 : decode cX6_turn 108 = .ok (.iadd, 1) := by decide +kernel
theorem dX6_turn_109 : decode cX6_turn 109 = .ok (.iload_n 2, 1) := by decide +kernel
theorem dX6_turn_110 : decode cX6_turn 110 = .ok (.isub, 1) := by decide +kernel
theorem dX6_turn_111 : decode cX6_turn 111 = .ok (.invokevirtual 82, 3) := by decide +kernel
theorem dX6_turn_114 : decode cX6_turn 114 = .ok (.aload_n 0, 1) := by decide +kernel
theorem dX6_turn_115 : decode cX6_turn 115 = .ok (.bipush 67, 2) := by decide +kernel
theorem dX6_turn_117 : decode cX6_turn 117 = .ok (.iload_n 2, 1) := by decide +kernel
theorem dX6_turn_118 : decode cX6_turn 118 = .ok (.iadd, 1) := by decide +kernel
theorem dX6_turn_119 : decode cX6_turn 119 = .ok (.bipush 67, 2) := by decide +kernel
theorem dX6_turn_121 : decode cX6_turn 121 = .ok (.iload_n 1, 1) := by decide +kernel
theorem dX6_turn_122 : decode cX6_turn 122 = .ok (.iadd, 1) := by decide +kernel
theorem dX6_turn_123 : decode cX6_turn 123 = .ok (.iload_n 2, 1) := by decide +kernel
theorem dX6_turn_124 : decode cX6_turn 124 = .ok (.isub, 1) := by decide +kernel
theorem dX6_turn_125 : decode cX6_turn 125 = .ok (.invokevirtual 82, 3) := by decide +kernel
theorem dX6_turn_128 : decode cX6_turn 128 = .ok (.iinc 2 1, 3) := by decide +kernel
theorem dX6_turn_131 : decode cX6_turn 131 = .ok (.goto (-54), 3) := by decide +kernel
theorem dX6_turn_134 : decode cX6_turn 134 = .ok (.aload_n 0, 1) := by decide +kernel
theorem dX6_turn_135 : decode cX6_turn 135 = .ok (.invokevirtual 62, 3) := by decide +kernel
theorem dX6_turn_138 : decode cX6_turn 138 = .ok (.aload_n 0, 1) := by decide +kernel
theorem dX6_turn_139 : decode cX6_turn 139 = .ok (.getfield 19, 3) := by decide +kernel
theorem dX6_turn_142 : decode cX6_turn 142 = .ok (.iload_n 1, 1) := by decide +kernel
theorem dX6_turn_143 : decode cX6_turn 143 = .ok (.iaload, 1) := by decide +kernel
theorem dX6_turn_144 : decode cX6_turn 144 = .ok (.bipush 100, 2) := by decide +kernel
theorem dX6_turn_146 : decode cX6_turn 146 = .ok (.iadd, 1) := by decide +kernel
theorem dX6_turn_147 : decode cX6_turn 147 = .ok (.ireturn, 1) := by decide +kernel
set_option maxRecDepth 20000 in
theorem ggX6_putsAt_X6_isJoint : GoodIn wsX6_putsAt wsX6_isJoint := goodIn_r _ [5, 6, 7, 8, 4, 9, 25, 26, 27, 28, 29, 30, 31, 32, 33, 34, 35, 36, 37, 38, 39, 40, 41] (by decide +kernel) (by decide +kernel)
set_option maxRecDepth 20000 in
theorem gX6_putsAt_X6_isJoint : GoodIn wsX6_putsAt (wsV RX6 86 RX6 yX6_isJoint wsX6_isJoint) := goodIn_app (goodIn_of _ (by decide +kernel)) ggX6_putsAt_X6_isJoint
set_option maxRecDepth 20000 in
theorem ggX6_putsAt_X6_in : GoodIn wsX6_putsAt wsX6_in := goodIn_r _ [9] (by decide +kernel) (by decide +kernel)
set_option maxRecDepth 20000 in
theorem gX6_putsAt_X6_in : GoodIn wsX6_putsAt (va_wsS RX6 41 yX6_in wsX6_in) := goodIn_app (goodIn_of _ (by decide +kernel)) ggX6_putsAt_X6_in
set_option maxRecDepth 20000 in
theorem ggX6_putsAt_X6_holds : GoodIn wsX6_putsAt wsX6_holds := goodIn_r _ [13, 14, 25, 26, 27, 28, 29, 30, 31, 32, 33, 34, 35, 36, 37, 38, 39, 40, 41] (by decide +kernel) (by decide +kernel)
set_option maxRecDepth 20000 in
theorem gX6_putsAt_X6_holds : GoodIn wsX6_putsAt (wsV RX6 65 RX6 yX6_holds wsX6_holds) := goodIn_app (goodIn_of _ (by decide +kernel)) ggX6_putsAt_X6_holds
set_option maxRecDepth 20000 in
theorem ggX6_putsAt_X6_puts : GoodIn wsX6_putsAt wsX6_puts := goodIn_r _ [18, 6, 19, 20, 21, 4, 22, 23, 24, 25, 26, 27, 28, 29, 30, 31, 32, 33, 34, 35, 36, 37, 38, 39, 40, 41] (by decide +kernel) (by decide +kernel)
set_option maxRecDepth 20000 in
theorem gX6_putsAt_X6_puts : GoodIn wsX6_putsAt (wsV RX6 78 RX6 yX6_puts wsX6_puts) := goodIn_app (goodIn_of _ (by decide +kernel)) ggX6_putsAt_X6_puts
theorem dX6_putsAt_0 : decode cX6_putsAt 0 = .ok (.aload_n 0, 1) := by decide +kernel
theorem dX6_putsAt_1 : decode cX6_putsAt 1 = .ok (.aload_n 0, 1) := by decide +kernel
theorem dX6_putsAt_2 : decode cX6_putsAt 2 = .ok (.iload_n 2, 1) := by decide +kernel
theorem dX6_putsAt_3 : decode cX6_putsAt 3 = .ok (.invokevirtual 86, 3) := by decide +kernel
theorem dX6_putsAt_6 : decode cX6_putsAt 6 = .ok (.ifCond .ne 7, 3) := by decide +kernel
theorem dX6_putsAt_9 : decode cX6_putsAt 9 = .ok (.iconst 1, 1) := by decide +kernel
theorem dX6_putsAt_10 : decode cX6_putsAt 10 = .ok (.goto 18, 3) := by decide +kernel
theorem dX6_putsAt_13 : decode cX6_putsAt 13 = .ok (.iload_n 3, 1) := by decide +kernel
theorem dX6_putsAt_14 : decode cX6_putsAt 14 = .ok (.iconst 0, 1) := by decide +kernel
theorem dX6_putsAt_15 : decode cX6_putsAt 15 = .ok (.bipush 99, 2) := by decide +kernel
theorem dX6_putsAt_17 : decode cX6_putsAt 17 = .ok (.invokestatic 41, 3) := by decide +kernel
theorem dX6_putsAt_20 : decode cX6_putsAt 20 = .ok (.ifCond .ne 7, 3) := by decide +kernel
theorem dX6_putsAt_23 : decode cX6_putsAt 23 = .ok (.iconst 2, 1) := by decide +kernel
theorem dX6_putsAt_24 : decode cX6_putsAt 24 = .ok (.goto 4, 3) := by decide +kernel
theorem dX6_putsAt_27 : decode cX6_putsAt 27 = .ok (.iconst 0, 1) := by decide +kernel
theorem dX6_putsAt_28 : decode cX6_putsAt 28 = .ok (.invokevirtual 65, 3) := by decide +kernel
theorem dX6_putsAt_31 : decode cX6_putsAt 31 = .ok (.ifCond .eq 14, 3) := by decide +kernel
theorem dX6_putsAt_34 : decode cX6_putsAt 34 = .ok (.aload_n 0, 1) := by decide +kernel
theorem dX6_putsAt_35 : decode cX6_putsAt 35 = .ok (.iload_n 1, 1) := by decide +kernel
theorem dX6_putsAt_36 : decode cX6_putsAt 36 = .ok (.iload_n 2, 1) := by decide +kernel
theorem dX6_putsAt_37 : decode cX6_putsAt 37 = .ok (.iadd, 1) := by decide +kernel
theorem dX6_putsAt_38 : decode cX6_putsAt 38 = .ok (.iload_n 3, 1) := by decide +kernel
theorem dX6_putsAt_39 : decode cX6_putsAt 39 = .ok (.invokevirtual 78, 3) := by decide +kernel
theorem dX6_putsAt_42 : decode cX6_putsAt 42 = .ok (.goto 4, 3) := by decide +kernel
theorem dX6_putsAt_45 : decode cX6_putsAt 45 = .ok (.iconst 0, 1) := by decide +kernel
theorem dX6_putsAt_46 : decode cX6_putsAt 46 = .ok (.ireturn, 1) := by decide +kernel
set_option maxRecDepth 20000 in
theorem ggX6_weight_X6_putsAt : GoodIn wsX6_weight wsX6_putsAt := goodIn_r _ [5, 6, 7, 8, 4, 9, 10, 11, 12, 13, 14, 15, 16, 17, 18, 19, 20, 21, 22, 23, 24, 25, 26, 27, 28, 29, 30, 31, 32, 33, 34, 35, 36, 37, 38, 39, 40, 41, 42, 43, 44, 45] (by decide +kernel) (by decide +kernel)
set_option maxRecDepth 20000 in
theorem gX6_weight_X6_putsAt : GoodIn wsX6_weight (wsV RX6 89 RX6 yX6_putsAt wsX6_putsAt) := goodIn_app (goodIn_of _ (by decide +kernel)) ggX6_weight_X6_putsAt
theorem dX6_weight_0 : decode cX6_weight 0 = .ok (.aload_n 0, 1) := by decide +kernel
theorem dX6_weight_1 : decode cX6_weight 1 = .ok (.bipush 25, 2) := by decide +kernel
theorem dX6_weight_3 : decode cX6_weight 3 = .ok (.iload_n 1, 1) := by decide +kernel
theorem dX6_weight_4 : decode cX6_weight 4 = .ok (.iload_n 2, 1) := by decide +kernel
theorem dX6_weight_5 : decode cX6_weight 5 = .ok (.invokevirtual 89, 3) := by decide +kernel
theorem dX6_weight_8 : decode cX6_weight 8 = .ok (.ireturn, 1) := by decide +kernel
set_option maxRecDepth 20000 in
theorem ggX6_hanger_X6_putsAt : GoodIn wsX6_hanger wsX6_putsAt := goodIn_r _ [5, 6, 7, 8, 4, 9, 10, 11, 12, 13, 14, 15, 16, 17, 18, 19, 20, 21, 22, 23, 24, 25, 26, 27, 28, 29, 30, 31, 32, 33, 34, 35, 36, 37, 38, 39, 40, 41, 42, 43, 44, 45] (by decide +kernel) (by decide +kernel)
set_option maxRecDepth 20000 in
theorem gX6_hanger_X6_putsAt : GoodIn wsX6_hanger (wsV RX6 89 RX6 yX6_putsAt wsX6_putsAt) := goodIn_app (goodIn_of _ (by decide +kernel)) ggX6_hanger_X6_putsAt
theorem dX6_hanger_0 : decode cX6_hanger 0 = .ok (.aload_n 0, 1) := by decide +kernel
theorem dX6_hanger_1 : decode cX6_hanger 1 = .ok (.bipush 46, 2) := by decide +kernel
theorem dX6_hanger_3 : decode cX6_hanger 3 = .ok (.iload_n 1, 1) := by decide +kernel
theorem dX6_hanger_4 : decode cX6_hanger 4 = .ok (.iload_n 2, 1) := by decide +kernel
theorem dX6_hanger_5 : decode cX6_hanger 5 = .ok (.invokevirtual 89, 3) := by decide +kernel
theorem dX6_hanger_8 : decode cX6_hanger 8 = .ok (.ireturn, 1) := by decide +kernel
set_option maxRecDepth 20000 in
theorem ggX6_prop_X6_putsAt : GoodIn wsX6_prop wsX6_putsAt := goodIn_r _ [5, 6, 7, 8, 4, 9, 10, 11, 12, 13, 14, 15, 16, 17, 18, 19, 20, 21, 22, 23, 24, 25, 26, 27, 28, 29, 30, 31, 32, 33, 34, 35, 36, 37, 38, 39, 40, 41, 42, 43, 44, 45] (by decide +kernel) (by decide +kernel)
set_option maxRecDepth 20000 in
theorem gX6_prop_X6_putsAt : GoodIn wsX6_prop (wsV RX6 89 RX6 yX6_putsAt wsX6_putsAt) := goodIn_app (goodIn_of _ (by decide +kernel)) ggX6_prop_X6_putsAt
theorem dX6_prop_0 : decode cX6_prop 0 = .ok (.aload_n 0, 1) := by decide +kernel
theorem dX6_prop_1 : decode cX6_prop 1 = .ok (.bipush 67, 2) := by decide +kernel
theorem dX6_prop_3 : decode cX6_prop 3 = .ok (.iload_n 1, 1) := by decide +kernel
theorem dX6_prop_4 : decode cX6_prop 4 = .ok (.iload_n 2, 1) := by decide +kernel
theorem dX6_prop_5 : decode cX6_prop 5 = .ok (.invokevirtual 89, 3) := by decide +kernel
theorem dX6_prop_8 : decode cX6_prop 8 = .ok (.ireturn, 1) := by decide +kernel
theorem dX6_moves_0 : decode cX6_moves 0 = .ok (.bipush 99, 2) := by decide +kernel
theorem dX6_moves_2 : decode cX6_moves 2 = .ok (.aload_n 0, 1) := by decide +kernel
theorem dX6_moves_3 : decode cX6_moves 3 = .ok (.getfield 7, 3) := by decide +kernel
theorem dX6_moves_6 : decode cX6_moves 6 = .ok (.bipush 25, 2) := by decide +kernel
theorem dX6_moves_8 : decode cX6_moves 8 = .ok (.iload_n 2, 1) := by decide +kernel
theorem dX6_moves_9 : decode cX6_moves 9 = .ok (.iadd, 1) := by decide +kernel
theorem dX6_moves_10 : decode cX6_moves 10 = .ok (.iaload, 1) := by decide +kernel
theorem dX6_moves_11 : decode cX6_moves 11 = .ok (.isub, 1) := by decide +kernel
theorem dX6_moves_12 : decode cX6_moves 12 = .ok (.istore_n 3, 1) := by decide +kernel
theorem dX6_moves_13 : decode cX6_moves 13 = .ok (.aload_n 0, 1) := by decide +kernel
theorem dX6_moves_14 : decode cX6_moves 14 = .ok (.getfield 7, 3) := by decide +kernel
theorem dX6_moves_17 : decode cX6_moves 17 = .ok (.bipush 25, 2) := by decide +kernel
theorem dX6_moves_19 : decode cX6_moves 19 = .ok (.iload_n 1, 1) := by decide +kernel
theorem dX6_moves_20 : decode cX6_moves 20 = .ok (.iadd, 1) := by decide +kernel
theorem dX6_moves_21 : decode cX6_moves 21 = .ok (.iaload, 1) := by decide +kernel
theorem dX6_moves_22 : decode cX6_moves 22 = .ok (.iload_n 3, 1) := by decide +kernel
theorem dX6_moves_23 : decode cX6_moves 23 = .ok (.if_icmp .ge 15, 3) := by decide +kernel
theorem dX6_moves_26 : decode cX6_moves 26 = .ok (.aload_n 0, 1) := by decide +kernel
theorem dX6_moves_27 : decode cX6_moves 27 = .ok (.getfield 7, 3) := by decide +kernel
theorem dX6_moves_30 : decode cX6_moves 30 = .ok (.bipush 25, 2) := by decide +kernel
theorem dX6_moves_32 : decode cX6_moves 32 = .ok (.iload_n 1, 1) := by decide +kernel
theorem dX6_moves_33 : decode cX6_moves 33 = .ok (.iadd, 1) := by decide +kernel
theorem dX6_moves_34 : decode cX6_moves 34 = .ok (.iaload, 1) := by decide +kernel
theorem dX6_moves_35 : decode cX6_moves 35 = .ok (.goto 4, 3) := by decide +kernel
theorem dX6_moves_38 : decode cX6_moves 38 = .ok (.iload_n 3, 1) := by decide +kernel
theorem dX6_moves_39 : decode cX6_moves 39 = .ok (.istore 4, 2) := by decide +kernel
theorem dX6_moves_41 : decode cX6_moves 41 = .ok (.aload_n 0, 1) := by decide +kernel
theorem dX6_moves_42 : decode cX6_moves 42 = .ok (.getfield 7, 3) := by decide +kernel
theorem dX6_moves_45 : decode cX6_moves 45 = .ok (.bipush 25, 2) := by decide +kernel
theorem dX6_moves_47 : decode cX6_moves 47 = .ok (.iload_n 1, 1) := by decide +kernel
theorem dX6_moves_48 : decode cX6_moves 48 = .ok (.iadd, 1) := by decide +kernel
theorem dX6_moves_49 : decode cX6_moves 49 = .ok (.dup2, 1) := by decide +kernel
theorem dX6_moves_50 : decode cX6_moves 50 = .ok (.iaload, 1) := by decide +kernel
theorem dX6_moves_51 : decode cX6_moves 51 = .ok (.iload 4, 2) := by decide +kernel
theorem dX6_moves_53 : decode cX6_moves 53 = .ok (.isub, 1) := by decide +kernel
theorem dX6_moves_54 : decode cX6_moves 54 = .ok (.iastore, 1) := by decide +kernel
theorem dX6_moves_55 : decode cX6_moves 55 = .ok (.aload_n 0, 1) := by decide +kernel
theorem dX6_moves_56 : decode cX6_moves 56 = .ok (.getfield 7, 3) := by decide +kernel
theorem dX6_moves_59 : decode cX6_moves 59 = .ok (.bipush 25, 2) := by decide +kernel
theorem dX6_moves_61 : decode cX6_moves 61 = .ok (.iload_n 2, 1) := by decide +kernel
theorem dX6_moves_62 : decode cX6_moves 62 = .ok (.iadd, 1) := by decide +kernel
theorem dX6_moves_63 : decode cX6_moves 63 = .ok (.dup2, 1) := by decide +kernel
theorem dX6_moves_64 : decode cX6_moves 64 = .ok (.iaload, 1) := by decide +kernel
theorem dX6_moves_65 : decode cX6_moves 65 = .ok (.iload 4, 2) := by decide +kernel
theorem dX6_moves_67 : decode cX6_moves 67 = .ok (.iadd, 1) := by decide +kernel
theorem dX6_moves_68 : decode cX6_moves 68 = .ok (.iastore, 1) := by decide +kernel
theorem dX6_moves_69 : decode cX6_moves 69 = .ok (.iload 4, 2) := by decide +kernel
theorem dX6_moves_71 : decode cX6_moves 71 = .ok (.ireturn, 1) := by decide +kernel
set_option maxRecDepth 20000 in
theorem ggX6_move_X6_isJoint : GoodIn wsX6_move wsX6_isJoint := goodIn_r _ [5, 6, 7, 8, 4, 9, 25, 26, 27, 28, 29, 30, 31, 32, 33, 34, 35, 36, 37, 38, 39, 40, 41] (by decide +kernel) (by decide +kernel)
set_option maxRecDepth 20000 in
theorem gX6_move_X6_isJoint : GoodIn wsX6_move (wsV RX6 86 RX6 yX6_isJoint wsX6_isJoint) := goodIn_app (goodIn_of _ (by decide +kernel)) ggX6_move_X6_isJoint
set_option maxRecDepth 20000 in
theorem ggX6_move_X6_holds : GoodIn wsX6_move wsX6_holds := goodIn_r _ [13, 14, 25, 26, 27, 28, 29, 30, 31, 32, 33, 34, 35, 36, 37, 38, 39, 40, 41] (by decide +kernel) (by decide +kernel)
set_option maxRecDepth 20000 in
theorem gX6_move_X6_holds : GoodIn wsX6_move (wsV RX6 65 RX6 yX6_holds wsX6_holds) := goodIn_app (goodIn_of _ (by decide +kernel)) ggX6_move_X6_holds
set_option maxRecDepth 20000 in
theorem ggX6_move_X6_save : GoodIn wsX6_move wsX6_save := goodIn_r _ [18, 19, 20, 6, 25, 26, 27, 28, 29, 30, 31, 32, 33, 34, 35, 36, 37, 38, 39, 40, 41] (by decide +kernel) (by decide +kernel)
set_option maxRecDepth 20000 in
theorem gX6_move_X6_save : GoodIn wsX6_move (wsV RX6 69 RX6 yX6_save wsX6_save) := goodIn_app (goodIn_of _ (by decide +kernel)) ggX6_move_X6_save
set_option maxRecDepth 20000 in
theorem ggX6_move_X6_moves : GoodIn wsX6_move wsX6_moves := goodIn_r _ [24, 6, 25, 26, 27, 28, 29, 30, 31, 32, 33, 34, 35, 36, 37, 38, 39, 40, 41] (by decide +kernel) (by decide +kernel)
set_option maxRecDepth 20000 in
theorem gX6_move_X6_moves : GoodIn wsX6_move (wsV RX6 93 RX6 yX6_moves wsX6_moves) := goodIn_app (goodIn_of _ (by decide +kernel)) ggX6_move_X6_moves
theorem dX6_move_0 : decode cX6_move 0 = .ok (.aload_n 0, 1) := by decide +kernel
theorem dX6_move_1 : decode cX6_move 1 = .ok (.aload_n 0, 1) := by decide +kernel
theorem dX6_move_2 : decode cX6_move 2 = .ok (.iload_n 1, 1) := by decide +kernel
theorem dX6_move_3 : decode cX6_move 3 = .ok (.invokevirtual 86, 3) := by decide +kernel
theorem dX6_move_6 : decode cX6_move 6 = .ok (.ifCond .eq 11, 3) := by decide +kernel
theorem dX6_move_9 : decode cX6_move 9 = .ok (.aload_n 0, 1) := by decide +kernel
theorem dX6_move_10 : decode cX6_move 10 = .ok (.iload_n 2, 1) := by decide +kernel
theorem dX6_move_11 : decode cX6_move 11 = .ok (.invokevirtual 86, 3) := by decide +kernel
theorem dX6_move_14 : decode cX6_move 14 = .ok (.ifCond .ne 7, 3) := by decide +kernel
theorem dX6_move_17 : decode cX6_move 17 = .ok (.iconst 1, 1) := by decide +kernel
theorem dX6_move_18 : decode cX6_move 18 = .ok (.goto 13, 3) := by decide +kernel
theorem dX6_move_21 : decode cX6_move 21 = .ok (.iload_n 1, 1) := by decide +kernel
theorem dX6_move_22 : decode cX6_move 22 = .ok (.iload_n 2, 1) := by decide +kernel
theorem dX6_move_23 : decode cX6_move 23 = .ok (.if_icmp .ne 7, 3) := by decide +kernel
theorem dX6_move_26 : decode cX6_move 26 = .ok (.iconst 2, 1) := by decide +kernel
theorem dX6_move_27 : decode cX6_move 27 = .ok (.goto 4, 3) := by decide +kernel
theorem dX6_move_30 : decode cX6_move 30 = .ok (.iconst 0, 1) := by decide +kernel
theorem dX6_move_31 : decode cX6_move 31 = .ok (.invokevirtual 65, 3) := by decide +kernel
theorem dX6_move_34 : decode cX6_move 34 = .ok (.ifCond .ne 5, 3) := by decide +kernel
theorem dX6_move_37 : decode cX6_move 37 = .ok (.iconst 0, 1) := by decide +kernel
theorem dX6_move_38 : decode cX6_move 38 = .ok (.ireturn, 1) := by decide +kernel
theorem dX6_move_39 : decode cX6_move 39 = .ok (.aload_n 0, 1) := by decide +kernel
theorem dX6_move_40 : decode cX6_move 40 = .ok (.invokevirtual 69, 3) := by decide +kernel
theorem dX6_move_43 : decode cX6_move 43 = .ok (.aload_n 0, 1) := by decide +kernel
theorem dX6_move_44 : decode cX6_move 44 = .ok (.iload_n 1, 1) := by decide +kernel
theorem dX6_move_45 : decode cX6_move 45 = .ok (.iload_n 2, 1) := by decide +kernel
theorem dX6_move_46 : decode cX6_move 46 = .ok (.invokevirtual 93, 3) := by decide +kernel
theorem dX6_move_49 : decode cX6_move 49 = .ok (.ireturn, 1) := by decide +kernel
set_option maxRecDepth 20000 in
theorem ggX6_set_X6_in : GoodIn wsX6_set wsX6_in := goodIn_r _ [4] (by decide +kernel) (by decide +kernel)
set_option maxRecDepth 20000 in
theorem gX6_set_X6_in : GoodIn wsX6_set (va_wsS RX6 41 yX6_in wsX6_in) := goodIn_app (goodIn_of _ (by decide +kernel)) ggX6_set_X6_in
set_option maxRecDepth 20000 in
theorem ggX6_set_X6_holds : GoodIn wsX6_set wsX6_holds := goodIn_r _ [8, 9, 21, 22, 23, 24, 25, 26, 27, 28, 29, 30, 31, 32, 33, 34, 35, 36, 37] (by decide +kernel) (by decide +kernel)
set_option maxRecDepth 20000 in
theorem gX6_set_X6_holds : GoodIn wsX6_set (wsV RX6 65 RX6 yX6_holds wsX6_holds) := goodIn_app (goodIn_of _ (by decide +kernel)) ggX6_set_X6_holds
set_option maxRecDepth 20000 in
theorem ggX6_set_X6_puts : GoodIn wsX6_set wsX6_puts := goodIn_r _ [13, 14, 15, 16, 17, 3, 18, 19, 20, 21, 22, 23, 24, 25, 26, 27, 28, 29, 30, 31, 32, 33, 34, 35, 36, 37] (by decide +kernel) (by decide +kernel)
set_option maxRecDepth 20000 in
theorem gX6_set_X6_puts : GoodIn wsX6_set (wsV RX6 78 RX6 yX6_puts wsX6_puts) := goodIn_app (goodIn_of _ (by decide +kernel)) ggX6_set_X6_puts
theorem dX6_set_0 : decode cX6_set 0 = .ok (.iload_n 1, 1) := by decide +kernel
theorem dX6_set_1 : decode cX6_set 1 = .ok (.iconst 1, 1) := by decide +kernel
theorem dX6_set_2 : decode cX6_set 2 = .ok (.if_icmp .ne 8, 3) := by decide +kernel
theorem dX6_set_5 : decode cX6_set 5 = .ok (.bipush (-40), 2) := by decide +kernel
theorem dX6_set_7 : decode cX6_set 7 = .ok (.goto 13, 3) := by decide +kernel
theorem dX6_set_10 : decode cX6_set 10 = .ok (.iload_n 1, 1) := by decide +kernel
theorem dX6_set_11 : decode cX6_set 11 = .ok (.iconst 3, 1) := by decide +kernel
theorem dX6_set_12 : decode cX6_set 12 = .ok (.if_icmp .ne 7, 3) := by decide +kernel
theorem dX6_set_15 : decode cX6_set 15 = .ok (.iconst 1, 1) := by decide +kernel
theorem dX6_set_16 : decode cX6_set 16 = .ok (.goto 4, 3) := by decide +kernel
theorem dX6_set_19 : decode cX6_set 19 = .ok (.iconst 0, 1) := by decide +kernel
theorem dX6_set_20 : decode cX6_set 20 = .ok (.istore_n 3, 1) := by decide +kernel
theorem dX6_set_21 : decode cX6_set 21 = .ok (.iload_n 1, 1) := by decide +kernel
theorem dX6_set_22 : decode cX6_set 22 = .ok (.iconst 1, 1) := by decide +kernel
theorem dX6_set_23 : decode cX6_set 23 = .ok (.if_icmp .ne 8, 3) := by decide +kernel
theorem dX6_set_26 : decode cX6_set 26 = .ok (.bipush 40, 2) := by decide +kernel
theorem dX6_set_28 : decode cX6_set 28 = .ok (.goto 16, 3) := by decide +kernel
theorem dX6_set_31 : decode cX6_set 31 = .ok (.iload_n 1, 1) := by decide +kernel
theorem dX6_set_32 : decode cX6_set 32 = .ok (.iconst 3, 1) := by decide +kernel
theorem dX6_set_33 : decode cX6_set 33 = .ok (.if_icmp .ne 9, 3) := by decide +kernel
theorem dX6_set_36 : decode cX6_set 36 = .ok (.sipush 999, 3) := by decide +kernel
theorem dX6_set_39 : decode cX6_set 39 = .ok (.goto 5, 3) := by decide +kernel
theorem dX6_set_42 : decode cX6_set 42 = .ok (.bipush 20, 2) := by decide +kernel
theorem dX6_set_44 : decode cX6_set 44 = .ok (.istore 4, 2) := by decide +kernel
theorem dX6_set_46 : decode cX6_set 46 = .ok (.aload_n 0, 1) := by decide +kernel
theorem dX6_set_47 : decode cX6_set 47 = .ok (.iload_n 1, 1) := by decide +kernel
theorem dX6_set_48 : decode cX6_set 48 = .ok (.iconst 0, 1) := by decide +kernel
theorem dX6_set_49 : decode cX6_set 49 = .ok (.iconst 3, 1) := by decide +kernel
theorem dX6_set_50 : decode cX6_set 50 = .ok (.invokestatic 41, 3) := by decide +kernel
theorem dX6_set_53 : decode cX6_set 53 = .ok (.ifCond .ne 7, 3) := by decide +kernel
theorem dX6_set_56 : decode cX6_set 56 = .ok (.iconst 1, 1) := by decide +kernel
theorem dX6_set_57 : decode cX6_set 57 = .ok (.goto 18, 3) := by decide +kernel
theorem dX6_set_60 : decode cX6_set 60 = .ok (.iload_n 2, 1) := by decide +kernel
theorem dX6_set_61 : decode cX6_set 61 = .ok (.iload_n 3, 1) := by decide +kernel
theorem dX6_set_62 : decode cX6_set 62 = .ok (.iload 4, 2) := by decide +kernel
theorem dX6_set_64 : decode cX6_set 64 = .ok (.invokestatic 41, 3) := by decide +kernel
theorem dX6_set_67 : decode cX6_set 67 = .ok (.ifCond .ne 7, 3) := by decide +kernel
theorem dX6_set_70 : decode cX6_set 70 = .ok (.iconst 2, 1) := by decide +kernel
theorem dX6_set_71 : decode cX6_set 71 = .ok (.goto 4, 3) := by decide +kernel
theorem dX6_set_74 : decode cX6_set 74 = .ok (.iconst 0, 1) := by decide +kernel
theorem dX6_set_75 : decode cX6_set 75 = .ok (.invokevirtual 65, 3) := by decide +kernel
theorem dX6_set_78 : decode cX6_set 78 = .ok (.ifCond .eq 17, 3) := by decide +kernel
theorem dX6_set_81 : decode cX6_set 81 = .ok (.aload_n 0, 1) := by decide +kernel
theorem dX6_set_82 : decode cX6_set 82 = .ok (.iconst 1, 1) := by decide +kernel
theorem dX6_set_83 : decode cX6_set 83 = .ok (.iload_n 1, 1) := by decide +kernel
theorem dX6_set_84 : decode cX6_set 84 = .ok (.iadd, 1) := by decide +kernel
theorem dX6_set_85 : decode cX6_set 85 = .ok (.iload_n 2, 1) := by decide +kernel
theorem dX6_set_86 : decode cX6_set 86 = .ok (.invokevirtual 78, 3) := by decide +kernel
theorem dX6_set_89 : decode cX6_set 89 = .ok (.bipush 100, 2) := by decide +kernel
theorem dX6_set_91 : decode cX6_set 91 = .ok (.iadd, 1) := by decide +kernel
theorem dX6_set_92 : decode cX6_set 92 = .ok (.goto 4, 3) := by decide +kernel
theorem dX6_set_95 : decode cX6_set 95 = .ok (.iconst 0, 1) := by decide +kernel
theorem dX6_set_96 : decode cX6_set 96 = .ok (.ireturn, 1) := by decide +kernel
set_option maxRecDepth 20000 in
theorem ggX6_append_X6_in : GoodIn wsX6_append wsX6_in := goodIn_r _ [6] (by decide +kernel) (by decide +kernel)
set_option maxRecDepth 20000 in
theorem gX6_append_X6_in : GoodIn wsX6_append (va_wsS RX6 41 yX6_in wsX6_in) := goodIn_app (goodIn_of _ (by decide +kernel)) ggX6_append_X6_in
set_option maxRecDepth 20000 in
theorem ggX6_append_X6_holds : GoodIn wsX6_append wsX6_holds := goodIn_r _ [10, 11, 12, 13, 14, 15, 16, 17, 18, 19, 20, 21, 22, 23, 24, 25, 26, 27, 28] (by decide +kernel) (by decide +kernel)
set_option maxRecDepth 20000 in
theorem gX6_append_X6_holds : GoodIn wsX6_append (wsV RX6 65 RX6 yX6_holds wsX6_holds) := goodIn_app (goodIn_of _ (by decide +kernel)) ggX6_append_X6_holds
theorem dX6_append_0 : decode cX6_append 0 = .ok (.aload_n 0, 1) := by decide +kernel
theorem dX6_append_1 : decode cX6_append 1 = .ok (.iload_n 1, 1) := by decide +kernel
theorem dX6_append_2 : decode cX6_append 2 = .ok (.bipush 33, 2) := by decide +kernel
theorem dX6_append_4 : decode cX6_append 4 = .ok (.bipush 126, 2) := by decide +kernel
theorem dX6_append_6 : decode cX6_append 6 = .ok (.invokestatic 41, 3) := by decide +kernel
theorem dX6_append_9 : decode cX6_append 9 = .ok (.ifCond .ne 7, 3) := by decide +kernel
theorem dX6_append_12 : decode cX6_append 12 = .ok (.iconst 1, 1) := by decide +kernel
theorem dX6_append_13 : decode cX6_append 13 = .ok (.goto 17, 3) := by decide +kernel
theorem dX6_append_16 : decode cX6_append 16 = .ok (.aload_n 0, 1) := by decide +kernel
theorem dX6_append_17 : decode cX6_append 17 = .ok (.getfield 96, 3) := by decide +kernel
theorem dX6_append_20 : decode cX6_append 20 = .ok (.bipush 60, 2) := by decide +kernel
theorem dX6_append_22 : decode cX6_append 22 = .ok (.if_icmp .ne 7, 3) := by decide +kernel
theorem dX6_append_25 : decode cX6_append 25 = .ok (.iconst 2, 1) := by decide +kernel
theorem dX6_append_26 : decode cX6_append 26 = .ok (.goto 4, 3) := by decide +kernel
theorem dX6_append_29 : decode cX6_append 29 = .ok (.iconst 0, 1) := by decide +kernel
theorem dX6_append_30 : decode cX6_append 30 = .ok (.invokevirtual 65, 3) := by decide +kernel
theorem dX6_append_33 : decode cX6_append 33 = .ok (.ifCond .ne 5, 3) := by decide +kernel
theorem dX6_append_36 : decode cX6_append 36 = .ok (.iconst 0, 1) := by decide +kernel
theorem dX6_append_37 : decode cX6_append 37 = .ok (.ireturn, 1) := by decide +kernel
theorem dX6_append_38 : decode cX6_append 38 = .ok (.aload_n 0, 1) := by decide +kernel
theorem dX6_append_39 : decode cX6_append 39 = .ok (.getfield 16, 3) := by decide +kernel
theorem dX6_append_42 : decode cX6_append 42 = .ok (.aload_n 0, 1) := by decide +kernel
theorem dX6_append_43 : decode cX6_append 43 = .ok (.getfield 96, 3) := by decide +kernel
theorem dX6_append_46 : decode cX6_append 46 = .ok (.iload_n 1, 1) := by decide +kernel
theorem dX6_append_47 : decode cX6_append 47 = .ok (.iastore, 1) := by decide +kernel
theorem dX6_append_48 : decode cX6_append 48 = .ok (.aload_n 0, 1) := by decide +kernel
theorem dX6_append_49 : decode cX6_append 49 = .ok (.dup, 1) := by decide +kernel
theorem dX6_append_50 : decode cX6_append 50 = .ok (.getfield 96, 3) := by decide +kernel
theorem dX6_append_53 : decode cX6_append 53 = .ok (.iconst 1, 1) := by decide +kernel
theorem dX6_append_54 : decode cX6_append 54 = .ok (.iadd, 1) := by decide +kernel
theorem dX6_append_55 : decode cX6_append 55 = .ok (.putfield 96, 3) := by decide +kernel
theorem dX6_append_58 : decode cX6_append 58 = .ok (.aload_n 0, 1) := by decide +kernel
theorem dX6_append_59 : decode cX6_append 59 = .ok (.getfield 96, 3) := by decide +kernel
theorem dX6_append_62 : decode cX6_append 62 = .ok (.ireturn, 1) := by decide +kernel
theorem dX6_clearBuffer_0 : decode cX6_clearBuffer 0 = .ok (.aload_n 0, 1) := by decide +kernel
theorem dX6_clearBuffer_1 : decode cX6_clearBuffer 1 = .ok (.iconst 0, 1) := by decide +kernel
theorem dX6_clearBuffer_2 : decode cX6_clearBuffer 2 = .ok (.putfield 37, 3) := by decide +kernel
theorem dX6_clearBuffer_5 : decode cX6_clearBuffer 5 = .ok (.aload_n 0, 1) := by decide +kernel
theorem dX6_clearBuffer_6 : decode cX6_clearBuffer 6 = .ok (.getfield 96, 3) := by decide +kernel
theorem dX6_clearBuffer_9 : decode cX6_clearBuffer 9 = .ok (.istore_n 1, 1) := by decide +kernel
theorem dX6_clearBuffer_10 : decode cX6_clearBuffer 10 = .ok (.aload_n 0, 1) := by decide +kernel
theorem dX6_clearBuffer_11 : decode cX6_clearBuffer 11 = .ok (.iconst 0, 1) := by decide +kernel
theorem dX6_clearBuffer_12 : decode cX6_clearBuffer 12 = .ok (.putfield 96, 3) := by decide +kernel
theorem dX6_clearBuffer_15 : decode cX6_clearBuffer 15 = .ok (.iload_n 1, 1) := by decide +kernel
theorem dX6_clearBuffer_16 : decode cX6_clearBuffer 16 = .ok (.ireturn, 1) := by decide +kernel
set_option maxRecDepth 20000 in
theorem ggX6_sign_X6_in : GoodIn wsX6_sign wsX6_in := goodIn_r _ [8] (by decide +kernel) (by decide +kernel)
set_option maxRecDepth 20000 in
theorem gX6_sign_X6_in : GoodIn wsX6_sign (va_wsS RX6 41 yX6_in wsX6_in) := goodIn_app (goodIn_of _ (by decide +kernel)) ggX6_sign_X6_in
theorem dX6_sign_0 : decode cX6_sign 0 = .ok (.aload_n 0, 1) := by decide +kernel
theorem dX6_sign_1 : decode cX6_sign 1 = .ok (.getfield 99, 3) := by decide +kernel
theorem dX6_sign_4 : decode cX6_sign 4 = .ok (.aload_n 0, 1) := by decide +kernel
theorem dX6_sign_5 : decode cX6_sign 5 = .ok (.getfield 96, 3) := by decide +kernel
theorem dX6_sign_8 : decode cX6_sign 8 = .ok (.if_icmp .ge 15, 3) := by decide +kernel
theorem dX6_sign_11 : decode cX6_sign 11 = .ok (.aload_n 0, 1) := by decide +kernel
theorem dX6_sign_12 : decode cX6_sign 12 = .ok (.getfield 16, 3) := by decide +kernel
theorem dX6_sign_15 : decode cX6_sign 15 = .ok (.aload_n 0, 1) := by decide +kernel
theorem dX6_sign_16 : decode cX6_sign 16 = .ok (.getfield 99, 3) := by decide +kernel
theorem dX6_sign_19 : decode cX6_sign 19 = .ok (.iaload, 1) := by decide +kernel
theorem dX6_sign_20 : decode cX6_sign 20 = .ok (.goto 4, 3) := by decide +kernel
theorem dX6_sign_23 : decode cX6_sign 23 = .ok (.iconst 0, 1) := by decide +kernel
theorem dX6_sign_24 : decode cX6_sign 24 = .ok (.istore_n 3, 1) := by decide +kernel
theorem dX6_sign_25 : decode cX6_sign 25 = .ok (.aload_n 0, 1) := by decide +kernel
theorem dX6_sign_26 : decode cX6_sign 26 = .ok (.aload_n 0, 1) := by decide +kernel
theorem dX6_sign_27 : decode cX6_sign 27 = .ok (.getfield 102, 3) := by decide +kernel
theorem dX6_sign_30 : decode cX6_sign 30 = .ok (.ifCond .ne 12, 3) := by decide +kernel
theorem dX6_sign_33 : decode cX6_sign 33 = .ok (.iload_n 3, 1) := by decide +kernel
theorem dX6_sign_34 : decode cX6_sign 34 = .ok (.iload_n 1, 1) := by decide +kernel
theorem dX6_sign_35 : decode cX6_sign 35 = .ok (.iload_n 2, 1) := by decide +kernel
theorem dX6_sign_36 : decode cX6_sign 36 = .ok (.invokestatic 41, 3) := by decide +kernel
theorem dX6_sign_39 : decode cX6_sign 39 = .ok (.ifCond .ne 7, 3) := by decide +kernel
theorem dX6_sign_42 : decode cX6_sign 42 = .ok (.iconst 1, 1) := by decide +kernel
theorem dX6_sign_43 : decode cX6_sign 43 = .ok (.goto 4, 3) := by decide +kernel
theorem dX6_sign_46 : decode cX6_sign 46 = .ok (.iconst 0, 1) := by decide +kernel
theorem dX6_sign_47 : decode cX6_sign 47 = .ok (.putfield 102, 3) := by decide +kernel
theorem dX6_sign_50 : decode cX6_sign 50 = .ok (.aload_n 0, 1) := by decide +kernel
theorem dX6_sign_51 : decode cX6_sign 51 = .ok (.dup, 1) := by decide +kernel
theorem dX6_sign_52 : decode cX6_sign 52 = .ok (.getfield 99, 3) := by decide +kernel
theorem dX6_sign_55 : decode cX6_sign 55 = .ok (.aload_n 0, 1) := by decide +kernel
theorem dX6_sign_56 : decode cX6_sign 56 = .ok (.getfield 102, 3) := by decide +kernel
theorem dX6_sign_59 : decode cX6_sign 59 = .ok (.ifCond .eq 7, 3) := by decide +kernel
theorem dX6_sign_62 : decode cX6_sign 62 = .ok (.iconst 0, 1) := by decide +kernel
theorem dX6_sign_63 : decode cX6_sign 63 = .ok (.goto 4, 3) := by decide +kernel
theorem dX6_sign_66 : decode cX6_sign 66 = .ok (.iconst 1, 1) := by decide +kernel
theorem dX6_sign_67 : decode cX6_sign 67 = .ok (.iadd, 1) := by decide +kernel
theorem dX6_sign_68 : decode cX6_sign 68 = .ok (.putfield 99, 3) := by decide +kernel
theorem dX6_sign_71 : decode cX6_sign 71 = .ok (.iload_n 3, 1) := by decide +kernel
theorem dX6_sign_72 : decode cX6_sign 72 = .ok (.ireturn, 1) := by decide +kernel
set_option maxRecDepth 20000 in
theorem ggX6_isNext_X6_in : GoodIn wsX6_isNext wsX6_in := goodIn_r _ [8] (by decide +kernel) (by decide +kernel)
set_option maxRecDepth 20000 in
theorem gX6_isNext_X6_in : GoodIn wsX6_isNext (va_wsS RX6 41 yX6_in wsX6_in) := goodIn_app (goodIn_of _ (by decide +kernel)) ggX6_isNext_X6_in
theorem dX6_isNext_0 : decode cX6_isNext 0 = .ok (.aload_n 0, 1) := by decide +kernel
theorem dX6_isNext_1 : decode cX6_isNext 1 = .ok (.getfield 102, 3) := by decide +kernel
theorem dX6_isNext_4 : decode cX6_isNext 4 = .ok (.ifCond .ne 35, 3) := by decide +kernel
theorem dX6_isNext_7 : decode cX6_isNext 7 = .ok (.aload_n 0, 1) := by decide +kernel
theorem dX6_isNext_8 : decode cX6_isNext 8 = .ok (.getfield 99, 3) := by decide +kernel
theorem dX6_isNext_11 : decode cX6_isNext 11 = .ok (.aload_n 0, 1) := by decide +kernel
theorem dX6_isNext_12 : decode cX6_isNext 12 = .ok (.getfield 96, 3) := by decide +kernel
theorem dX6_isNext_15 : decode cX6_isNext 15 = .ok (.if_icmp .ge 24, 3) := by decide +kernel
theorem dX6_isNext_18 : decode cX6_isNext 18 = .ok (.aload_n 0, 1) := by decide +kernel
theorem dX6_isNext_19 : decode cX6_isNext 19 = .ok (.getfield 16, 3) := by decide +kernel
theorem dX6_isNext_22 : decode cX6_isNext 22 = .ok (.aload_n 0, 1) := by decide +kernel
theorem dX6_isNext_23 : decode cX6_isNext 23 = .ok (.getfield 99, 3) := by decide +kernel
theorem dX6_isNext_26 : decode cX6_isNext 26 = .ok (.iaload, 1) := by decide +kernel
theorem dX6_isNext_27 : decode cX6_isNext 27 = .ok (.iload_n 1, 1) := by decide +kernel
theorem dX6_isNext_28 : decode cX6_isNext 28 = .ok (.iload_n 2, 1) := by decide +kernel
theorem dX6_isNext_29 : decode cX6_isNext 29 = .ok (.invokestatic 41, 3) := by decide +kernel
theorem dX6_isNext_32 : decode cX6_isNext 32 = .ok (.ifCond .eq 7, 3) := by decide +kernel
theorem dX6_isNext_35 : decode cX6_isNext 35 = .ok (.iconst 1, 1) := by decide +kernel
theorem dX6_isNext_36 : decode cX6_isNext 36 = .ok (.goto 4, 3) := by decide +kernel
theorem dX6_isNext_39 : decode cX6_isNext 39 = .ok (.iconst 0, 1) := by decide +kernel
theorem dX6_isNext_40 : decode cX6_isNext 40 = .ok (.ireturn, 1) := by decide +kernel
set_option maxRecDepth 20000 in
theorem ggX6_readLink_X6_isNext : GoodIn wsX6_readLink wsX6_isNext := goodIn_r _ [10, 4, 1, 2, 3, 11, 12, 9, 13, 22, 23, 24, 25, 26, 27, 28, 29, 30, 31, 32, 33, 34, 35, 36, 37, 38] (by decide +kernel) (by decide +kernel)
set_option maxRecDepth 20000 in
theorem gX6_readLink_X6_isNext : GoodIn wsX6_readLink (wsV RX6 106 RX6 yX6_isNext wsX6_isNext) := goodIn_app (goodIn_of _ (by decide +kernel)) ggX6_readLink_X6_isNext
set_option maxRecDepth 20000 in
theorem ggX6_readLink_X6_sign : GoodIn wsX6_readLink wsX6_sign := goodIn_r _ [17, 1, 2, 3, 4, 11, 12, 9, 13, 22, 23, 24, 25, 26, 27, 28, 29, 30, 31, 32, 33, 34, 35, 36, 37, 38] (by decide +kernel) (by decide +kernel)
set_option maxRecDepth 20000 in
theorem gX6_readLink_X6_sign : GoodIn wsX6_readLink (wsV RX6 110 RX6 yX6_sign wsX6_sign) := goodIn_app (goodIn_of _ (by decide +kernel)) ggX6_readLink_X6_sign
set_option maxRecDepth 20000 in
theorem ggX6_readLink_X6_noMore : GoodIn wsX6_readLink wsX6_noMore := goodIn_r _ [21, 5, 22, 23, 24, 25, 26, 27, 28, 29, 30, 31, 32, 33, 34, 35, 36, 37, 38] (by decide +kernel) (by decide +kernel)
set_option maxRecDepth 20000 in
theorem gX6_readLink_X6_noMore : GoodIn wsX6_readLink (wsV RX6 72 RX6 yX6_noMore wsX6_noMore) := goodIn_app (goodIn_of _ (by decide +kernel)) ggX6_readLink_X6_noMore
theorem dX6_readLink_0 : decode cX6_readLink 0 = .ok (.aload_n 0, 1) := by decide +kernel
theorem dX6_readLink_1 : decode cX6_readLink 1 = .ok (.getfield 99, 3) := by decide +kernel
theorem dX6_readLink_4 : decode cX6_readLink 4 = .ok (.aload_n 0, 1) := by decide +kernel
theorem dX6_readLink_5 : decode cX6_readLink 5 = .ok (.getfield 96, 3) := by decide +kernel
theorem dX6_readLink_8 : decode cX6_readLink 8 = .ok (.if_icmp .ge 15, 3) := by decide +kernel
theorem dX6_readLink_11 : decode cX6_readLink 11 = .ok (.aload_n 0, 1) := by decide +kernel
theorem dX6_readLink_12 : decode cX6_readLink 12 = .ok (.getfield 16, 3) := by decide +kernel
theorem dX6_readLink_15 : decode cX6_readLink 15 = .ok (.aload_n 0, 1) := by decide +kernel
theorem dX6_readLink_16 : decode cX6_readLink 16 = .ok (.getfield 99, 3) := by decide +kernel
theorem dX6_readLink_19 : decode cX6_readLink 19 = .ok (.iaload, 1) := by decide +kernel
theorem dX6_readLink_20 : decode cX6_readLink 20 = .ok (.goto 4, 3) := by decide +kernel
theorem dX6_readLink_23 : decode cX6_readLink 23 = .ok (.iconst 0, 1) := by decide +kernel
theorem dX6_readLink_24 : decode cX6_readLink 24 = .ok (.istore_n 3, 1) := by decide +kernel
theorem dX6_readLink_25 : decode cX6_readLink 25 = .ok (.aload_n 0, 1) := by decide +kernel
theorem dX6_readLink_26 : decode cX6_readLink 26 = .ok (.aload_n 0, 1) := by decide +kernel
theorem dX6_readLink_27 : decode cX6_readLink 27 = .ok (.getfield 102, 3) := by decide +kernel
theorem dX6_readLink_30 : decode cX6_readLink 30 = .ok (.ifCond .ne 27, 3) := by decide +kernel
theorem dX6_readLink_33 : decode cX6_readLink 33 = .ok (.iload_n 1, 1) := by decide +kernel
theorem dX6_readLink_34 : decode cX6_readLink 34 = .ok (.bipush 20, 2) := by decide +kernel
theorem dX6_readLink_36 : decode cX6_readLink 36 = .ok (.if_icmp .eq 21, 3) := by decide +kernel
theorem dX6_readLink_39 : decode cX6_readLink 39 = .ok (.iload_n 3, 1) := by decide +kernel
theorem dX6_readLink_40 : decode cX6_readLink 40 = .ok (.bipush 61, 2) := by decide +kernel
theorem dX6_readLink_42 : decode cX6_readLink 42 = .ok (.if_icmp .eq 19, 3) := by decide +kernel
theorem dX6_readLink_45 : decode cX6_readLink 45 = .ok (.iload_n 3, 1) := by decide +kernel
theorem dX6_readLink_46 : decode cX6_readLink 46 = .ok (.bipush 94, 2) := by decide +kernel
theorem dX6_readLink_48 : decode cX6_readLink 48 = .ok (.if_icmp .eq 13, 3) := by decide +kernel
theorem dX6_readLink_51 : decode cX6_readLink 51 = .ok (.iload_n 3, 1) := by decide +kernel
theorem dX6_readLink_52 : decode cX6_readLink 52 = .ok (.bipush 118, 2) := by decide +kernel
theorem dX6_readLink_54 : decode cX6_readLink 54 = .ok (.if_icmp .eq 7, 3) := by decide +kernel
theorem dX6_readLink_57 : decode cX6_readLink 57 = .ok (.iconst 1, 1) := by decide +kernel
theorem dX6_readLink_58 : decode cX6_readLink 58 = .ok (.goto 4, 3) := by decide +kernel
theorem dX6_readLink_61 : decode cX6_readLink 61 = .ok (.iconst 0, 1) := by decide +kernel
theorem dX6_readLink_62 : decode cX6_readLink 62 = .ok (.putfield 102, 3) := by decide +kernel
theorem dX6_readLink_65 : decode cX6_readLink 65 = .ok (.aload_n 0, 1) := by decide +kernel
theorem dX6_readLink_66 : decode cX6_readLink 66 = .ok (.dup, 1) := by decide +kernel
theorem dX6_readLink_67 : decode cX6_readLink 67 = .ok (.getfield 99, 3) := by decide +kernel
theorem dX6_readLink_70 : decode cX6_readLink 70 = .ok (.aload_n 0, 1) := by decide +kernel
theorem dX6_readLink_71 : decode cX6_readLink 71 = .ok (.getfield 102, 3) := by decide +kernel
theorem dX6_readLink_74 : decode cX6_readLink 74 = .ok (.ifCond .eq 7, 3) := by decide +kernel
theorem dX6_readLink_77 : decode cX6_readLink 77 = .ok (.iconst 0, 1) := by decide +kernel
theorem dX6_readLink_78 : decode cX6_readLink 78 = .ok (.goto 4, 3) := by decide +kernel
theorem dX6_readLink_81 : decode cX6_readLink 81 = .ok (.iconst 1, 1) := by decide +kernel
theorem dX6_readLink_82 : decode cX6_readLink 82 = .ok (.iadd, 1) := by decide +kernel
theorem dX6_readLink_83 : decode cX6_readLink 83 = .ok (.putfield 99, 3) := by decide +kernel
theorem dX6_readLink_86 : decode cX6_readLink 86 = .ok (.iload_n 3, 1) := by decide +kernel
theorem dX6_readLink_87 : decode cX6_readLink 87 = .ok (.bipush 61, 2) := by decide +kernel
theorem dX6_readLink_89 : decode cX6_readLink 89 = .ok (.if_icmp .eq 18, 3) := by decide +kernel
theorem dX6_readLink_92 : decode cX6_readLink 92 = .ok (.aload_n 0, 1) := by decide +kernel
theorem dX6_readLink_93 : decode cX6_readLink 93 = .ok (.bipush 50, 2) := by decide +kernel
theorem dX6_readLink_95 : decode cX6_readLink 95 = .ok (.bipush 50, 2) := by decide +kernel
theorem dX6_readLink_97 : decode cX6_readLink 97 = .ok (.invokevirtual 106, 3) := by decide +kernel
theorem dX6_readLink_100 : decode cX6_readLink 100 = .ok (.ifCond .eq 7, 3) := by decide +kernel
theorem dX6_readLink_103 : decode cX6_readLink 103 = .ok (.iconst 1, 1) := by decide +kernel
theorem dX6_readLink_104 : decode cX6_readLink 104 = .ok (.goto 4, 3) := by decide +kernel
theorem dX6_readLink_107 : decode cX6_readLink 107 = .ok (.iconst 0, 1) := by decide +kernel
theorem dX6_readLink_108 : decode cX6_readLink 108 = .ok (.istore 4, 2) := by decide +kernel
theorem dX6_readLink_110 : decode cX6_readLink 110 = .ok (.iload 4, 2) := by decide +kernel
theorem dX6_readLink_112 : decode cX6_readLink 112 = .ok (.ifCond .eq 14, 3) := by decide +kernel
theorem dX6_readLink_115 : decode cX6_readLink 115 = .ok (.aload_n 0, 1) := by decide +kernel
theorem dX6_readLink_116 : decode cX6_readLink 116 = .ok (.bipush 50, 2) := by decide +kernel
theorem dX6_readLink_118 : decode cX6_readLink 118 = .ok (.bipush 50, 2) := by decide +kernel
theorem dX6_readLink_120 : decode cX6_readLink 120 = .ok (.invokevirtual 110, 3) := by decide +kernel
theorem dX6_readLink_123 : decode cX6_readLink 123 = .ok (.goto 4, 3) := by decide +kernel
theorem dX6_readLink_126 : decode cX6_readLink 126 = .ok (.iconst 0, 1) := by decide +kernel
theorem dX6_readLink_127 : decode cX6_readLink 127 = .ok (.istore 5, 2) := by decide +kernel
theorem dX6_readLink_129 : decode cX6_readLink 129 = .ok (.iload 4, 2) := by decide +kernel
theorem dX6_readLink_131 : decode cX6_readLink 131 = .ok (.ifCond .eq 7, 3) := by decide +kernel
theorem dX6_readLink_134 : decode cX6_readLink 134 = .ok (.iconst 2, 1) := by decide +kernel
theorem dX6_readLink_135 : decode cX6_readLink 135 = .ok (.goto 4, 3) := by decide +kernel
theorem dX6_readLink_138 : decode cX6_readLink 138 = .ok (.iconst 1, 1) := by decide +kernel
theorem dX6_readLink_139 : decode cX6_readLink 139 = .ok (.istore 6, 2) := by decide +kernel
theorem dX6_readLink_141 : decode cX6_readLink 141 = .ok (.iconst 0, 1) := by decide +kernel
theorem dX6_readLink_142 : decode cX6_readLink 142 = .ok (.istore 7, 2) := by decide +kernel
theorem dX6_readLink_144 : decode cX6_readLink 144 = .ok (.aload_n 0, 1) := by decide +kernel
theorem dX6_readLink_145 : decode cX6_readLink 145 = .ok (.bipush 91, 2) := by decide +kernel
theorem dX6_readLink_147 : decode cX6_readLink 147 = .ok (.bipush 91, 2) := by decide +kernel
theorem dX6_readLink_149 : decode cX6_readLink 149 = .ok (.invokevirtual 106, 3) := by decide +kernel
theorem dX6_readLink_152 : decode cX6_readLink 152 = .ok (.ifCond .eq 71, 3) := by decide +kernel
theorem dX6_readLink_155 : decode cX6_readLink 155 = .ok (.aload_n 0, 1) := by decide +kernel
theorem dX6_readLink_156 : decode cX6_readLink 156 = .ok (.bipush 91, 2) := by decide +kernel
theorem dX6_readLink_158 : decode cX6_readLink 158 = .ok (.bipush 91, 2) := by decide +kernel
theorem dX6_readLink_160 : decode cX6_readLink 160 = .ok (.invokevirtual 110, 3) := by decide +kernel
theorem dX6_readLink_163 : decode cX6_readLink 163 = .ok (.istore 8, 2) := by decide +kernel
theorem dX6_readLink_165 : decode cX6_readLink 165 = .ok (.aload_n 0, 1) := by decide +kernel
theorem dX6_readLink_166 : decode cX6_readLink 166 = .ok (.bipush 49, 2) := by decide +kernel
theorem dX6_readLink_168 : decode cX6_readLink 168 = .ok (.bipush 57, 2) := by decide +kernel
theorem dX6_readLink_170 : decode cX6_readLink 170 = .ok (.invokevirtual 110, 3) := by decide +kernel
theorem dX6_readLink_173 : decode cX6_readLink 173 = .ok (.bipush 48, 2) := by decide +kernel
theorem dX6_readLink_175 : decode cX6_readLink 175 = .ok (.isub, 1) := by decide +kernel
theorem dX6_readLink_176 : decode cX6_readLink 176 = .ok (.istore 7, 2) := by decide +kernel
theorem dX6_readLink_178 : decode cX6_readLink 178 = .ok (.aload_n 0, 1) := by decide +kernel
theorem dX6_readLink_179 : decode cX6_readLink 179 = .ok (.bipush 48, 2) := by decide +kernel
theorem dX6_readLink_181 : decode cX6_readLink 181 = .ok (.bipush 57, 2) := by decide +kernel
theorem dX6_readLink_183 : decode cX6_readLink 183 = .ok (.invokevirtual 106, 3) := by decide +kernel
theorem dX6_readLink_186 : decode cX6_readLink 186 = .ok (.ifCond .eq 23, 3) := by decide +kernel
theorem dX6_readLink_189 : decode cX6_readLink 189 = .ok (.bipush 10, 2) := by decide +kernel
theorem dX6_readLink_191 : decode cX6_readLink 191 = .ok (.iload 7, 2) := by decide +kernel
theorem dX6_readLink_193 : decode cX6_readLink 193 = .ok (.imul, 1) := by decide +kernel
theorem dX6_readLink_194 : decode cX6_readLink 194 = .ok (.aload_n 0, 1) := by decide +kernel
theorem dX6_readLink_195 : decode cX6_readLink 195 = .ok (.bipush 48, 2) := by decide +kernel
theorem dX6_readLink_197 : decode cX6_readLink 197 = .ok (.bipush 57, 2) := by decide +kernel
theorem dX6_readLink_199 : decode cX6_readLink 199 = .ok (.invokevirtual 110, 3) := by decide +kernel
theorem dX6_readLink_202 : decode cX6_readLink 202 = .ok (.iadd, 1) := by decide +kernel
theorem dX6_readLink_203 : decode cX6_readLink 203 = .ok (.bipush 48, 2) := by decide +kernel
theorem dX6_readLink_205 : decode cX6_readLink 205 = .ok (.isub, 1) := by decide +kernel
theorem dX6_readLink_206 : decode cX6_readLink 206 = .ok (.goto 5, 3) := by decide +kernel
theorem dX6_readLink_209 : decode cX6_readLink 209 = .ok (.iload 7, 2) := by decide +kernel
theorem dX6_readLink_211 : decode cX6_readLink 211 = .ok (.istore 7, 2) := by decide +kernel
theorem dX6_readLink_213 : decode cX6_readLink 213 = .ok (.aload_n 0, 1) := by decide +kernel
theorem dX6_readLink_214 : decode cX6_readLink 214 = .ok (.bipush 93, 2) := by decide +kernel
theorem dX6_readLink_216 : decode cX6_readLink 216 = .ok (.bipush 93, 2) := by decide +kernel
theorem dX6_readLink_218 : decode cX6_readLink 218 = .ok (.invokevirtual 110, 3) := by decide +kernel
theorem dX6_readLink_221 : decode cX6_readLink 221 = .ok (.istore 9, 2) := by decide +kernel
theorem dX6_readLink_223 : decode cX6_readLink 223 = .ok (.iload_n 2, 1) := by decide +kernel
theorem dX6_readLink_224 : decode cX6_readLink 224 = .ok (.ifCond .eq 55, 3) := by decide +kernel
theorem dX6_readLink_227 : decode cX6_readLink 227 = .ok (.aload_n 0, 1) := by decide +kernel
theorem dX6_readLink_228 : decode cX6_readLink 228 = .ok (.getfield 7, 3) := by decide +kernel
theorem dX6_readLink_231 : decode cX6_readLink 231 = .ok (.iconst 5, 1) := by decide +kernel
theorem dX6_readLink_232 : decode cX6_readLink 232 = .ok (.iload_n 1, 1) := by decide +kernel
theorem dX6_readLink_233 : decode cX6_readLink 233 = .ok (.iadd, 1) := by decide +kernel
theorem dX6_readLink_234 : decode cX6_readLink 234 = .ok (.iload_n 3, 1) := by decide +kernel
theorem dX6_readLink_235 : decode cX6_readLink 235 = .ok (.bipush 61, 2) := by decide +kernel
theorem dX6_readLink_237 : decode cX6_readLink 237 = .ok (.if_icmp .ne 7, 3) := by decide +kernel
theorem dX6_readLink_240 : decode cX6_readLink 240 = .ok (.iconst 0, 1) := by decide +kernel
theorem dX6_readLink_241 : decode cX6_readLink 241 = .ok (.goto 17, 3) := by decide +kernel
theorem dX6_readLink_244 : decode cX6_readLink 244 = .ok (.iload_n 3, 1) := by decide +kernel
theorem dX6_readLink_245 : decode cX6_readLink 245 = .ok (.bipush 94, 2) := by decide +kernel
theorem dX6_readLink_247 : decode cX6_readLink 247 = .ok (.if_icmp .ne 8, 3) := by decide +kernel
theorem dX6_readLink_250 : decode cX6_readLink 250 = .ok (.iload 6, 2) := by decide +kernel
theorem dX6_readLink_252 : decode cX6_readLink 252 = .ok (.goto 6, 3) := by decide +kernel
theorem dX6_readLink_255 : decode cX6_readLink 255 = .ok (.iload 6, 2) := by decide +kernel
theorem dX6_readLink_257 : decode cX6_readLink 257 = .ok (.ineg, 1) := by decide +kernel
theorem dX6_readLink_258 : decode cX6_readLink 258 = .ok (.iastore, 1) := by decide +kernel
theorem dX6_readLink_259 : decode cX6_readLink 259 = .ok (.aload_n 0, 1) := by decide +kernel
theorem dX6_readLink_260 : decode cX6_readLink 260 = .ok (.iload_n 1, 1) := by decide +kernel
theorem dX6_readLink_261 : decode cX6_readLink 261 = .ok (.iconst 1, 1) := by decide +kernel
theorem dX6_readLink_262 : decode cX6_readLink 262 = .ok (.iadd, 1) := by decide +kernel
theorem dX6_readLink_263 : decode cX6_readLink 263 = .ok (.invokevirtual 72, 3) := by decide +kernel
theorem dX6_readLink_266 : decode cX6_readLink 266 = .ok (.aload_n 0, 1) := by decide +kernel
theorem dX6_readLink_267 : decode cX6_readLink 267 = .ok (.getfield 7, 3) := by decide +kernel
theorem dX6_readLink_270 : decode cX6_readLink 270 = .ok (.bipush 25, 2) := by decide +kernel
theorem dX6_readLink_272 : decode cX6_readLink 272 = .ok (.iload_n 1, 1) := by decide +kernel
theorem dX6_readLink_273 : decode cX6_readLink 273 = .ok (.iadd, 1) := by decide +kernel
theorem dX6_readLink_274 : decode cX6_readLink 274 = .ok (.iconst 1, 1) := by decide +kernel
theorem dX6_readLink_275 : decode cX6_readLink 275 = .ok (.iadd, 1) := by decide +kernel
theorem dX6_readLink_276 : decode cX6_readLink 276 = .ok (.iload 7, 2) := by decide +kernel
theorem dX6_readLink_278 : decode cX6_readLink 278 = .ok (.iastore, 1) := by decide +kernel
theorem dX6_readLink_279 : decode cX6_readLink 279 = .ok (.return_, 1) := by decide +kernel
set_option maxRecDepth 20000 in
theorem ggX6_go_X6_readLink : GoodIn wsX6_go wsX6_readLink := goodIn_r _ [8, 1, 3, 9, 2, 10, 11, 12, 13, 7, 14, 15, 16, 17, 18, 19, 20, 21, 22, 23, 24, 25, 26, 27, 28, 29, 30, 31, 32, 33, 34, 35, 36, 37, 38, 39, 40, 41, 42] (by decide +kernel) (by decide +kernel)
set_option maxRecDepth 20000 in
theorem gX6_go_X6_readLink : GoodIn wsX6_go (wsV RX6 113 RX6 yX6_readLink wsX6_readLink) := goodIn_app (goodIn_of _ (by decide +kernel)) ggX6_go_X6_readLink
theorem dX6_go_0 : decode cX6_go 0 = .ok (.aload_n 0, 1) := by decide +kernel
theorem dX6_go_1 : decode cX6_go 1 = .ok (.iconst 0, 1) := by decide +kernel
theorem dX6_go_2 : decode cX6_go 2 = .ok (.putfield 99, 3) := by decide +kernel
theorem dX6_go_5 : decode cX6_go 5 = .ok (.aload_n 0, 1) := by decide +kernel
theorem dX6_go_6 : decode cX6_go 6 = .ok (.iconst 0, 1) := by decide +kernel
theorem dX6_go_7 : decode cX6_go 7 = .ok (.putfield 102, 3) := by decide +kernel
theorem dX6_go_10 : decode cX6_go 10 = .ok (.iconst 0, 1) := by decide +kernel
theorem dX6_go_11 : decode cX6_go 11 = .ok (.istore_n 2, 1) := by decide +kernel
theorem dX6_go_12 : decode cX6_go 12 = .ok (.iconst 1, 1) := by decide +kernel
theorem dX6_go_13 : decode cX6_go 13 = .ok (.istore_n 3, 1) := by decide +kernel
theorem dX6_go_14 : decode cX6_go 14 = .ok (.iload_n 3, 1) := by decide +kernel
theorem dX6_go_15 : decode cX6_go 15 = .ok (.ifCond .eq 39, 3) := by decide +kernel
theorem dX6_go_18 : decode cX6_go 18 = .ok (.aload_n 0, 1) := by decide +kernel
theorem dX6_go_19 : decode cX6_go 19 = .ok (.iload_n 2, 1) := by decide +kernel
theorem dX6_go_20 : decode cX6_go 20 = .ok (.iload_n 1, 1) := by decide +kernel
theorem dX6_go_21 : decode cX6_go 21 = .ok (.invokevirtual 113, 3) := by decide +kernel
theorem dX6_go_24 : decode cX6_go 24 = .ok (.iinc 2 1, 3) := by decide +kernel
theorem dX6_go_27 : decode cX6_go 27 = .ok (.aload_n 0, 1) := by decide +kernel
theorem dX6_go_28 : decode cX6_go 28 = .ok (.getfield 102, 3) := by decide +kernel
theorem dX6_go_31 : decode cX6_go 31 = .ok (.ifCond .ne 18, 3) := by decide +kernel
theorem dX6_go_34 : decode cX6_go 34 = .ok (.aload_n 0, 1) := by decide +kernel
theorem dX6_go_35 : decode cX6_go 35 = .ok (.getfield 99, 3) := by decide +kernel
theorem dX6_go_38 : decode cX6_go 38 = .ok (.aload_n 0, 1) := by decide +kernel
theorem dX6_go_39 : decode cX6_go 39 = .ok (.getfield 96, 3) := by decide +kernel
theorem dX6_go_42 : decode cX6_go 42 = .ok (.if_icmp .ge 7, 3) := by decide +kernel
theorem dX6_go_45 : decode cX6_go 45 = .ok (.iconst 1, 1) := by decide +kernel
theorem dX6_go_46 : decode cX6_go 46 = .ok (.goto 4, 3) := by decide +kernel
theorem dX6_go_49 : decode cX6_go 49 = .ok (.iconst 0, 1) := by decide +kernel
theorem dX6_go_50 : decode cX6_go 50 = .ok (.istore_n 3, 1) := by decide +kernel
theorem dX6_go_51 : decode cX6_go 51 = .ok (.goto (-37), 3) := by decide +kernel
theorem dX6_go_54 : decode cX6_go 54 = .ok (.iload_n 2, 1) := by decide +kernel
theorem dX6_go_55 : decode cX6_go 55 = .ok (.ireturn, 1) := by decide +kernel
set_option maxRecDepth 20000 in
theorem ggX6_firstError_X6_go : GoodIn wsX6_firstError wsX6_go := goodIn_r _ [9, 3, 2, 4, 10, 11, 12, 8, 13, 14, 15, 16, 17, 18, 19, 20, 21, 22, 23, 24, 25, 26, 27, 28, 29, 30, 31, 32, 33, 34, 35, 36, 37, 38, 39, 40, 41, 42, 43, 44, 45, 46, 47] (by decide +kernel) (by decide +kernel)
set_option maxRecDepth 20000 in
theorem gX6_firstError_X6_go : GoodIn wsX6_firstError (wsV RX6 117 RX6 yX6_go wsX6_go) := goodIn_app (goodIn_of _ (by decide +kernel)) ggX6_firstError_X6_go
theorem dX6_firstError_0 : decode cX6_firstError 0 = .ok (.aload_n 0, 1) := by decide +kernel
theorem dX6_firstError_1 : decode cX6_firstError 1 = .ok (.iconst 0, 1) := by decide +kernel
theorem dX6_firstError_2 : decode cX6_firstError 2 = .ok (.putfield 37, 3) := by decide +kernel
theorem dX6_firstError_5 : decode cX6_firstError 5 = .ok (.aload_n 0, 1) := by decide +kernel
theorem dX6_firstError_6 : decode cX6_firstError 6 = .ok (.iconst 0, 1) := by decide +kernel
theorem dX6_firstError_7 : decode cX6_firstError 7 = .ok (.invokevirtual 117, 3) := by decide +kernel
theorem dX6_firstError_10 : decode cX6_firstError 10 = .ok (.istore_n 1, 1) := by decide +kernel
theorem dX6_firstError_11 : decode cX6_firstError 11 = .ok (.aload_n 0, 1) := by decide +kernel
theorem dX6_firstError_12 : decode cX6_firstError 12 = .ok (.getfield 102, 3) := by decide +kernel
theorem dX6_firstError_15 : decode cX6_firstError 15 = .ok (.ifCond .eq 10, 3) := by decide +kernel
theorem dX6_firstError_18 : decode cX6_firstError 18 = .ok (.aload_n 0, 1) := by decide +kernel
theorem dX6_firstError_19 : decode cX6_firstError 19 = .ok (.getfield 99, 3) := by decide +kernel
theorem dX6_firstError_22 : decode cX6_firstError 22 = .ok (.goto 7, 3) := by decide +kernel
theorem dX6_firstError_25 : decode cX6_firstError 25 = .ok (.aload_n 0, 1) := by decide +kernel
theorem dX6_firstError_26 : decode cX6_firstError 26 = .ok (.getfield 96, 3) := by decide +kernel
theorem dX6_firstError_29 : decode cX6_firstError 29 = .ok (.ireturn, 1) := by decide +kernel
set_option maxRecDepth 20000 in
theorem ggX6_shape_X6_go : GoodIn wsX6_shape wsX6_go := goodIn_r _ [8, 9, 1, 3, 10, 11, 12, 7, 13, 14, 2, 15, 16, 17, 18, 19, 20, 21, 22, 23, 24, 25, 26, 27, 28, 29, 41, 42, 43, 44, 45, 46, 47, 48, 49, 50, 51, 52, 53, 54, 55, 56, 57] (by decide +kernel) (by decide +kernel)
set_option maxRecDepth 20000 in
theorem gX6_shape_X6_go : GoodIn wsX6_shape (wsV RX6 117 RX6 yX6_go wsX6_go) := goodIn_app (goodIn_of _ (by decide +kernel)) ggX6_shape_X6_go
set_option maxRecDepth 20000 in
theorem ggX6_shape_X6_holds : GoodIn wsX6_shape wsX6_holds := goodIn_r _ [33, 34, 41, 42, 43, 44, 45, 46, 47, 48, 49, 50, 51, 52, 53, 54, 55, 56, 57] (by decide +kernel) (by decide +kernel)
set_option maxRecDepth 20000 in
theorem gX6_shape_X6_holds : GoodIn wsX6_shape (wsV RX6 65 RX6 yX6_holds wsX6_holds) := goodIn_app (goodIn_of _ (by decide +kernel)) ggX6_shape_X6_holds
set_option maxRecDepth 20000 in
theorem ggX6_shape_X6_save : GoodIn wsX6_shape wsX6_save := goodIn_r _ [38, 39, 40, 2, 41, 42, 43, 44, 45, 46, 47, 48, 49, 50, 51, 52, 53, 54, 55, 56, 57] (by decide +kernel) (by decide +kernel)
set_option maxRecDepth 20000 in
theorem gX6_shape_X6_save : GoodIn wsX6_shape (wsV RX6 69 RX6 yX6_save wsX6_save) := goodIn_app (goodIn_of _ (by decide +kernel)) ggX6_shape_X6_save
set_option maxRecDepth 20000 in
theorem ggX6_shape_X6_noMore : GoodIn wsX6_shape wsX6_noMore := goodIn_r _ [29, 2, 41, 42, 43, 44, 45, 46, 47, 48, 49, 50, 51, 52, 53, 54, 55, 56, 57] (by decide +kernel) (by decide +kernel)
set_option maxRecDepth 20000 in
theorem gX6_shape_X6_noMore : GoodIn wsX6_shape (wsV RX6 72 RX6 yX6_noMore wsX6_noMore) := goodIn_app (goodIn_of _ (by decide +kernel)) ggX6_shape_X6_noMore
theorem dX6_shape_0 : decode cX6_shape 0 = .ok (.aload_n 0, 1) := by decide +kernel
theorem dX6_shape_1 : decode cX6_shape 1 = .ok (.iconst 0, 1) := by decide +kernel
theorem dX6_shape_2 : decode cX6_shape 2 = .ok (.invokevirtual 117, 3) := by decide +kernel
theorem dX6_shape_5 : decode cX6_shape 5 = .ok (.istore_n 1, 1) := by decide +kernel
theorem dX6_shape_6 : decode cX6_shape 6 = .ok (.aload_n 0, 1) := by decide +kernel
theorem dX6_shape_7 : decode cX6_shape 7 = .ok (.aload_n 0, 1) := by decide +kernel
theorem dX6_shape_8 : decode cX6_shape 8 = .ok (.getfield 102, 3) := by decide +kernel
theorem dX6_shape_11 : decode cX6_shape 11 = .ok (.ifCond .eq 7, 3) := by decide +kernel
theorem dX6_shape_14 : decode cX6_shape 14 = .ok (.iconst 1, 1) := by decide +kernel
theorem dX6_shape_15 : decode cX6_shape 15 = .ok (.goto 4, 3) := by decide +kernel
theorem dX6_shape_18 : decode cX6_shape 18 = .ok (.iconst 0, 1) := by decide +kernel
theorem dX6_shape_19 : decode cX6_shape 19 = .ok (.invokevirtual 65, 3) := by decide +kernel
theorem dX6_shape_22 : decode cX6_shape 22 = .ok (.ifCond .ne 5, 3) := by decide +kernel
theorem dX6_shape_25 : decode cX6_shape 25 = .ok (.iconst 0, 1) := by decide +kernel
theorem dX6_shape_26 : decode cX6_shape 26 = .ok (.ireturn, 1) := by decide +kernel
theorem dX6_shape_27 : decode cX6_shape 27 = .ok (.aload_n 0, 1) := by decide +kernel
theorem dX6_shape_28 : decode cX6_shape 28 = .ok (.invokevirtual 69, 3) := by decide +kernel
theorem dX6_shape_31 : decode cX6_shape 31 = .ok (.aload_n 0, 1) := by decide +kernel
theorem dX6_shape_32 : decode cX6_shape 32 = .ok (.getfield 7, 3) := by decide +kernel
theorem dX6_shape_35 : decode cX6_shape 35 = .ok (.iconst 0, 1) := by decide +kernel
theorem dX6_shape_36 : decode cX6_shape 36 = .ok (.iaload, 1) := by decide +kernel
theorem dX6_shape_37 : decode cX6_shape 37 = .ok (.istore_n 2, 1) := by decide +kernel
theorem dX6_shape_38 : decode cX6_shape 38 = .ok (.aload_n 0, 1) := by decide +kernel
theorem dX6_shape_39 : decode cX6_shape 39 = .ok (.iconst 0, 1) := by decide +kernel
theorem dX6_shape_40 : decode cX6_shape 40 = .ok (.invokevirtual 72, 3) := by decide +kernel
theorem dX6_shape_43 : decode cX6_shape 43 = .ok (.aload_n 0, 1) := by decide +kernel
theorem dX6_shape_44 : decode cX6_shape 44 = .ok (.getfield 7, 3) := by decide +kernel
theorem dX6_shape_47 : decode cX6_shape 47 = .ok (.iconst 0, 1) := by decide +kernel
theorem dX6_shape_48 : decode cX6_shape 48 = .ok (.aload_n 0, 1) := by decide +kernel
theorem dX6_shape_49 : decode cX6_shape 49 = .ok (.iconst 1, 1) := by decide +kernel
theorem dX6_shape_50 : decode cX6_shape 50 = .ok (.invokevirtual 117, 3) := by decide +kernel
theorem dX6_shape_53 : decode cX6_shape 53 = .ok (.iastore, 1) := by decide +kernel
theorem dX6_shape_54 : decode cX6_shape 54 = .ok (.aload_n 0, 1) := by decide +kernel
theorem dX6_shape_55 : decode cX6_shape 55 = .ok (.iconst 0, 1) := by decide +kernel
theorem dX6_shape_56 : decode cX6_shape 56 = .ok (.putfield 96, 3) := by decide +kernel
theorem dX6_shape_59 : decode cX6_shape 59 = .ok (.iload_n 2, 1) := by decide +kernel
theorem dX6_shape_60 : decode cX6_shape 60 = .ok (.ireturn, 1) := by decide +kernel
set_option maxRecDepth 20000 in
theorem ggX6_undo_X6_holds : GoodIn wsX6_undo wsX6_holds := goodIn_r _ [8, 9, 10, 11, 12, 13, 14, 15, 16, 17, 18, 19, 20, 21, 22, 23, 24, 25, 26] (by decide +kernel) (by decide +kernel)
set_option maxRecDepth 20000 in
theorem gX6_undo_X6_holds : GoodIn wsX6_undo (wsV RX6 65 RX6 yX6_holds wsX6_holds) := goodIn_app (goodIn_of _ (by decide +kernel)) ggX6_undo_X6_holds
theorem dX6_undo_0 : decode cX6_undo 0 = .ok (.aload_n 0, 1) := by decide +kernel
theorem dX6_undo_1 : decode cX6_undo 1 = .ok (.aload_n 0, 1) := by decide +kernel
theorem dX6_undo_2 : decode cX6_undo 2 = .ok (.getfield 45, 3) := by decide +kernel
theorem dX6_undo_5 : decode cX6_undo 5 = .ok (.ifCond .le 7, 3) := by decide +kernel
theorem dX6_undo_8 : decode cX6_undo 8 = .ok (.iconst 0, 1) := by decide +kernel
theorem dX6_undo_9 : decode cX6_undo 9 = .ok (.goto 4, 3) := by decide +kernel
theorem dX6_undo_12 : decode cX6_undo 12 = .ok (.iconst 1, 1) := by decide +kernel
theorem dX6_undo_13 : decode cX6_undo 13 = .ok (.invokevirtual 65, 3) := by decide +kernel
theorem dX6_undo_16 : decode cX6_undo 16 = .ok (.ifCond .ne 5, 3) := by decide +kernel
theorem dX6_undo_19 : decode cX6_undo 19 = .ok (.iconst 0, 1) := by decide +kernel
theorem dX6_undo_20 : decode cX6_undo 20 = .ok (.ireturn, 1) := by decide +kernel
theorem dX6_undo_21 : decode cX6_undo 21 = .ok (.aload_n 0, 1) := by decide +kernel
theorem dX6_undo_22 : decode cX6_undo 22 = .ok (.dup, 1) := by decide +kernel
theorem dX6_undo_23 : decode cX6_undo 23 = .ok (.getfield 45, 3) := by decide +kernel
theorem dX6_undo_26 : decode cX6_undo 26 = .ok (.iconst 1, 1) := by decide +kernel
theorem dX6_undo_27 : decode cX6_undo 27 = .ok (.isub, 1) := by decide +kernel
theorem dX6_undo_28 : decode cX6_undo 28 = .ok (.putfield 45, 3) := by decide +kernel
theorem dX6_undo_31 : decode cX6_undo 31 = .ok (.iconst 0, 1) := by decide +kernel
theorem dX6_undo_32 : decode cX6_undo 32 = .ok (.istore_n 1, 1) := by decide +kernel
theorem dX6_undo_33 : decode cX6_undo 33 = .ok (.iload_n 1, 1) := by decide +kernel
theorem dX6_undo_34 : decode cX6_undo 34 = .ok (.bipush 88, 2) := by decide +kernel
theorem dX6_undo_36 : decode cX6_undo 36 = .ok (.if_icmp .ge 29, 3) := by decide +kernel
theorem dX6_undo_39 : decode cX6_undo 39 = .ok (.aload_n 0, 1) := by decide +kernel
theorem dX6_undo_40 : decode cX6_undo 40 = .ok (.getfield 7, 3) := by decide +kernel
theorem dX6_undo_43 : decode cX6_undo 43 = .ok (.iload_n 1, 1) := by decide +kernel
theorem dX6_undo_44 : decode cX6_undo 44 = .ok (.aload_n 0, 1) := by decide +kernel
theorem dX6_undo_45 : decode cX6_undo 45 = .ok (.getfield 13, 3) := by decide +kernel
theorem dX6_undo_48 : decode cX6_undo 48 = .ok (.bipush 88, 2) := by decide +kernel
theorem dX6_undo_50 : decode cX6_undo 50 = .ok (.aload_n 0, 1) := by decide +kernel
theorem dX6_undo_51 : decode cX6_undo 51 = .ok (.getfield 45, 3) := by decide +kernel
theorem dX6_undo_54 : decode cX6_undo 54 = .ok (.imul, 1) := by decide +kernel
theorem dX6_undo_55 : decode cX6_undo 55 = .ok (.iload_n 1, 1) := by decide +kernel
theorem dX6_undo_56 : decode cX6_undo 56 = .ok (.iadd, 1) := by decide +kernel
theorem dX6_undo_57 : decode cX6_undo 57 = .ok (.iaload, 1) := by decide +kernel
theorem dX6_undo_58 : decode cX6_undo 58 = .ok (.iastore, 1) := by decide +kernel
theorem dX6_undo_59 : decode cX6_undo 59 = .ok (.iinc 1 1, 3) := by decide +kernel
theorem dX6_undo_62 : decode cX6_undo 62 = .ok (.goto (-29), 3) := by decide +kernel
theorem dX6_undo_65 : decode cX6_undo 65 = .ok (.aload_n 0, 1) := by decide +kernel
theorem dX6_undo_66 : decode cX6_undo 66 = .ok (.getfield 45, 3) := by decide +kernel
theorem dX6_undo_69 : decode cX6_undo 69 = .ok (.ireturn, 1) := by decide +kernel
set_option maxRecDepth 20000 in
theorem ggX6_toldOfLink_X6_lay : GoodIn wsX6_toldOfLink wsX6_lay := goodIn_r _ [7, 1, 8, 9, 10, 11, 2, 12, 13, 14, 6, 15, 16, 17, 18, 19, 20, 21, 22, 23, 24, 25, 26, 27, 28, 29, 30, 31, 32, 33, 34, 35, 36, 37, 38] (by decide +kernel) (by decide +kernel)
set_option maxRecDepth 20000 in
theorem gX6_toldOfLink_X6_lay : GoodIn wsX6_toldOfLink (wsV RX6 62 RX6 yX6_lay wsX6_lay) := goodIn_app (goodIn_of _ (by decide +kernel)) ggX6_toldOfLink_X6_lay
theorem dX6_toldOfLink_0 : decode cX6_toldOfLink 0 = .ok (.aload_n 0, 1) := by decide +kernel
theorem dX6_toldOfLink_1 : decode cX6_toldOfLink 1 = .ok (.invokevirtual 62, 3) := by decide +kernel
theorem dX6_toldOfLink_4 : decode cX6_toldOfLink 4 = .ok (.iload_n 2, 1) := by decide +kernel
theorem dX6_toldOfLink_5 : decode cX6_toldOfLink 5 = .ok (.ifCond .ne 16, 3) := by decide +kernel
theorem dX6_toldOfLink_8 : decode cX6_toldOfLink 8 = .ok (.aload_n 0, 1) := by decide +kernel
theorem dX6_toldOfLink_9 : decode cX6_toldOfLink 9 = .ok (.getfield 7, 3) := by decide +kernel
theorem dX6_toldOfLink_12 : decode cX6_toldOfLink 12 = .ok (.iconst 5, 1) := by decide +kernel
theorem dX6_toldOfLink_13 : decode cX6_toldOfLink 13 = .ok (.iload_n 1, 1) := by decide +kernel
theorem dX6_toldOfLink_14 : decode cX6_toldOfLink 14 = .ok (.iadd, 1) := by decide +kernel
theorem dX6_toldOfLink_15 : decode cX6_toldOfLink 15 = .ok (.iaload, 1) := by decide +kernel
theorem dX6_toldOfLink_16 : decode cX6_toldOfLink 16 = .ok (.iconst 2, 1) := by decide +kernel
theorem dX6_toldOfLink_17 : decode cX6_toldOfLink 17 = .ok (.iadd, 1) := by decide +kernel
theorem dX6_toldOfLink_18 : decode cX6_toldOfLink 18 = .ok (.goto 37, 3) := by decide +kernel
theorem dX6_toldOfLink_21 : decode cX6_toldOfLink 21 = .ok (.iload_n 2, 1) := by decide +kernel
theorem dX6_toldOfLink_22 : decode cX6_toldOfLink 22 = .ok (.iconst 1, 1) := by decide +kernel
theorem dX6_toldOfLink_23 : decode cX6_toldOfLink 23 = .ok (.if_icmp .ne 12, 3) := by decide +kernel
theorem dX6_toldOfLink_26 : decode cX6_toldOfLink 26 = .ok (.aload_n 0, 1) := by decide +kernel
theorem dX6_toldOfLink_27 : decode cX6_toldOfLink 27 = .ok (.getfield 34, 3) := by decide +kernel
theorem dX6_toldOfLink_30 : decode cX6_toldOfLink 30 = .ok (.iload_n 1, 1) := by decide +kernel
theorem dX6_toldOfLink_31 : decode cX6_toldOfLink 31 = .ok (.iaload, 1) := by decide +kernel
theorem dX6_toldOfLink_32 : decode cX6_toldOfLink 32 = .ok (.goto 23, 3) := by decide +kernel
theorem dX6_toldOfLink_35 : decode cX6_toldOfLink 35 = .ok (.aload_n 0, 1) := by decide +kernel
theorem dX6_toldOfLink_36 : decode cX6_toldOfLink 36 = .ok (.getfield 34, 3) := by decide +kernel
theorem dX6_toldOfLink_39 : decode cX6_toldOfLink 39 = .ok (.iload_n 1, 1) := by decide +kernel
theorem dX6_toldOfLink_40 : decode cX6_toldOfLink 40 = .ok (.iaload, 1) := by decide +kernel
theorem dX6_toldOfLink_41 : decode cX6_toldOfLink 41 = .ok (.aload_n 0, 1) := by decide +kernel
theorem dX6_toldOfLink_42 : decode cX6_toldOfLink 42 = .ok (.getfield 7, 3) := by decide +kernel
theorem dX6_toldOfLink_45 : decode cX6_toldOfLink 45 = .ok (.iconst 4, 1) := by decide +kernel
theorem dX6_toldOfLink_46 : decode cX6_toldOfLink 46 = .ok (.iaload, 1) := by decide +kernel
theorem dX6_toldOfLink_47 : decode cX6_toldOfLink 47 = .ok (.if_icmp .le 7, 3) := by decide +kernel
theorem dX6_toldOfLink_50 : decode cX6_toldOfLink 50 = .ok (.iconst 1, 1) := by decide +kernel
theorem dX6_toldOfLink_51 : decode cX6_toldOfLink 51 = .ok (.goto 4, 3) := by decide +kernel
theorem dX6_toldOfLink_54 : decode cX6_toldOfLink 54 = .ok (.iconst 0, 1) := by decide +kernel
theorem dX6_toldOfLink_55 : decode cX6_toldOfLink 55 = .ok (.ireturn, 1) := by decide +kernel
set_option maxRecDepth 20000 in
theorem ggX6_linkOf_X6_isLink : GoodIn wsX6_linkOf wsX6_isLink := goodIn_r _ [5, 6, 7, 8, 4, 9, 38, 39, 40, 41, 42, 43, 44, 45, 46, 47, 48, 49, 50, 51, 52, 53, 54] (by decide +kernel) (by decide +kernel)
set_option maxRecDepth 20000 in
theorem gX6_linkOf_X6_isLink : GoodIn wsX6_linkOf (wsV RX6 75 RX6 yX6_isLink wsX6_isLink) := goodIn_app (goodIn_of _ (by decide +kernel)) ggX6_linkOf_X6_isLink
set_option maxRecDepth 20000 in
theorem ggX6_linkOf_X6_in : GoodIn wsX6_linkOf wsX6_in := goodIn_r _ [9] (by decide +kernel) (by decide +kernel)
set_option maxRecDepth 20000 in
theorem gX6_linkOf_X6_in : GoodIn wsX6_linkOf (va_wsS RX6 41 yX6_in wsX6_in) := goodIn_app (goodIn_of _ (by decide +kernel)) ggX6_linkOf_X6_in
set_option maxRecDepth 20000 in
theorem ggX6_linkOf_X6_holds : GoodIn wsX6_linkOf wsX6_holds := goodIn_r _ [13, 14, 38, 39, 40, 41, 42, 43, 44, 45, 46, 47, 48, 49, 50, 51, 52, 53, 54] (by decide +kernel) (by decide +kernel)
set_option maxRecDepth 20000 in
theorem gX6_linkOf_X6_holds : GoodIn wsX6_linkOf (wsV RX6 65 RX6 yX6_holds wsX6_holds) := goodIn_app (goodIn_of _ (by decide +kernel)) ggX6_linkOf_X6_holds
set_option maxRecDepth 20000 in
theorem ggX6_linkOf_X6_toldOfLink : GoodIn wsX6_linkOf wsX6_toldOfLink := goodIn_r _ [18, 6, 19, 20, 21, 22, 4, 23, 24, 25, 26, 27, 28, 29, 30, 31, 32, 33, 34, 35, 36, 37, 38, 39, 40, 41, 42, 43, 44, 45, 46, 47, 48, 49, 50, 51, 52, 53, 54] (by decide +kernel) (by decide +kernel)
set_option maxRecDepth 20000 in
theorem gX6_linkOf_X6_toldOfLink : GoodIn wsX6_linkOf (wsV RX6 121 RX6 yX6_toldOfLink wsX6_toldOfLink) := goodIn_app (goodIn_of _ (by decide +kernel)) ggX6_linkOf_X6_toldOfLink
theorem dX6_linkOf_0 : decode cX6_linkOf 0 = .ok (.aload_n 0, 1) := by decide +kernel
theorem dX6_linkOf_1 : decode cX6_linkOf 1 = .ok (.aload_n 0, 1) := by decide +kernel
theorem dX6_linkOf_2 : decode cX6_linkOf 2 = .ok (.iload_n 1, 1) := by decide +kernel
theorem dX6_linkOf_3 : decode cX6_linkOf 3 = .ok (.invokevirtual 75, 3) := by decide +kernel
theorem dX6_linkOf_6 : decode cX6_linkOf 6 = .ok (.ifCond .ne 7, 3) := by decide +kernel
theorem dX6_linkOf_9 : decode cX6_linkOf 9 = .ok (.iconst 1, 1) := by decide +kernel
theorem dX6_linkOf_10 : decode cX6_linkOf 10 = .ok (.goto 17, 3) := by decide +kernel
theorem dX6_linkOf_13 : decode cX6_linkOf 13 = .ok (.iload_n 2, 1) := by decide +kernel
theorem dX6_linkOf_14 : decode cX6_linkOf 14 = .ok (.iconst 0, 1) := by decide +kernel
theorem dX6_linkOf_15 : decode cX6_linkOf 15 = .ok (.iconst 2, 1) := by decide +kernel
theorem dX6_linkOf_16 : decode cX6_linkOf 16 = .ok (.invokestatic 41, 3) := by decide +kernel
theorem dX6_linkOf_19 : decode cX6_linkOf 19 = .ok (.ifCond .ne 7, 3) := by decide +kernel
theorem dX6_linkOf_22 : decode cX6_linkOf 22 = .ok (.iconst 2, 1) := by decide +kernel
theorem dX6_linkOf_23 : decode cX6_linkOf 23 = .ok (.goto 4, 3) := by decide +kernel
theorem dX6_linkOf_26 : decode cX6_linkOf 26 = .ok (.iconst 0, 1) := by decide +kernel
theorem dX6_linkOf_27 : decode cX6_linkOf 27 = .ok (.invokevirtual 65, 3) := by decide +kernel
theorem dX6_linkOf_30 : decode cX6_linkOf 30 = .ok (.ifCond .eq 12, 3) := by decide +kernel
theorem dX6_linkOf_33 : decode cX6_linkOf 33 = .ok (.aload_n 0, 1) := by decide +kernel
theorem dX6_linkOf_34 : decode cX6_linkOf 34 = .ok (.iload_n 1, 1) := by decide +kernel
theorem dX6_linkOf_35 : decode cX6_linkOf 35 = .ok (.iload_n 2, 1) := by decide +kernel
theorem dX6_linkOf_36 : decode cX6_linkOf 36 = .ok (.invokevirtual 121, 3) := by decide +kernel
theorem dX6_linkOf_39 : decode cX6_linkOf 39 = .ok (.goto 4, 3) := by decide +kernel
theorem dX6_linkOf_42 : decode cX6_linkOf 42 = .ok (.iconst 0, 1) := by decide +kernel
theorem dX6_linkOf_43 : decode cX6_linkOf 43 = .ok (.ireturn, 1) := by decide +kernel
set_option maxRecDepth 20000 in
theorem ggX6_toldOfJoint_X6_lay : GoodIn wsX6_toldOfJoint wsX6_lay := goodIn_r _ [11, 2, 12, 13, 1, 6, 14, 15, 16, 17, 10, 18, 3, 4, 5, 19, 20, 21, 22, 23, 24, 25, 26, 27, 28, 29, 30, 31, 32, 33, 34, 35, 36, 37, 38] (by decide +kernel) (by decide +kernel)
set_option maxRecDepth 20000 in
theorem gX6_toldOfJoint_X6_lay : GoodIn wsX6_toldOfJoint (wsV RX6 62 RX6 yX6_lay wsX6_lay) := goodIn_app (goodIn_of _ (by decide +kernel)) ggX6_toldOfJoint_X6_lay
theorem dX6_toldOfJoint_0 : decode cX6_toldOfJoint 0 = .ok (.aload_n 0, 1) := by decide +kernel
theorem dX6_toldOfJoint_1 : decode cX6_toldOfJoint 1 = .ok (.invokevirtual 62, 3) := by decide +kernel
theorem dX6_toldOfJoint_4 : decode cX6_toldOfJoint 4 = .ok (.iload_n 2, 1) := by decide +kernel
theorem dX6_toldOfJoint_5 : decode cX6_toldOfJoint 5 = .ok (.tableswitch 104 0 6 #[43, 53, 63, 73, 83, 90, 97], 43) := by decide +kernel
theorem dX6_toldOfJoint_48 : decode cX6_toldOfJoint 48 = .ok (.aload_n 0, 1) := by decide +kernel
theorem dX6_toldOfJoint_49 : decode cX6_toldOfJoint 49 = .ok (.getfield 19, 3) := by decide +kernel
theorem dX6_toldOfJoint_52 : decode cX6_toldOfJoint 52 = .ok (.iload_n 1, 1) := by decide +kernel
theorem dX6_toldOfJoint_53 : decode cX6_toldOfJoint 53 = .ok (.iaload, 1) := by decide +kernel
theorem dX6_toldOfJoint_54 : decode cX6_toldOfJoint 54 = .ok (.bipush 100, 2) := by decide +kernel
theorem dX6_toldOfJoint_56 : decode cX6_toldOfJoint 56 = .ok (.iadd, 1) := by decide +kernel
theorem dX6_toldOfJoint_57 : decode cX6_toldOfJoint 57 = .ok (.ireturn, 1) := by decide +kernel
theorem dX6_toldOfJoint_58 : decode cX6_toldOfJoint 58 = .ok (.aload_n 0, 1) := by decide +kernel
theorem dX6_toldOfJoint_59 : decode cX6_toldOfJoint 59 = .ok (.getfield 7, 3) := by decide +kernel
theorem dX6_toldOfJoint_62 : decode cX6_toldOfJoint 62 = .ok (.bipush 25, 2) := by decide +kernel
theorem dX6_toldOfJoint_64 : decode cX6_toldOfJoint 64 = .ok (.iload_n 1, 1) := by decide +kernel
theorem dX6_toldOfJoint_65 : decode cX6_toldOfJoint 65 = .ok (.iadd, 1) := by decide +kernel
theorem dX6_toldOfJoint_66 : decode cX6_toldOfJoint 66 = .ok (.iaload, 1) := by decide +kernel
theorem dX6_toldOfJoint_67 : decode cX6_toldOfJoint 67 = .ok (.ireturn, 1) := by decide +kernel
theorem dX6_toldOfJoint_68 : decode cX6_toldOfJoint 68 = .ok (.aload_n 0, 1) := by decide +kernel
theorem dX6_toldOfJoint_69 : decode cX6_toldOfJoint 69 = .ok (.getfield 7, 3) := by decide +kernel
theorem dX6_toldOfJoint_72 : decode cX6_toldOfJoint 72 = .ok (.bipush 46, 2) := by decide +kernel
theorem dX6_toldOfJoint_74 : decode cX6_toldOfJoint 74 = .ok (.iload_n 1, 1) := by decide +kernel
theorem dX6_toldOfJoint_75 : decode cX6_toldOfJoint 75 = .ok (.iadd, 1) := by decide +kernel
theorem dX6_toldOfJoint_76 : decode cX6_toldOfJoint 76 = .ok (.iaload, 1) := by decide +kernel
theorem dX6_toldOfJoint_77 : decode cX6_toldOfJoint 77 = .ok (.ireturn, 1) := by decide +kernel
theorem dX6_toldOfJoint_78 : decode cX6_toldOfJoint 78 = .ok (.aload_n 0, 1) := by decide +kernel
theorem dX6_toldOfJoint_79 : decode cX6_toldOfJoint 79 = .ok (.getfield 7, 3) := by decide +kernel
theorem dX6_toldOfJoint_82 : decode cX6_toldOfJoint 82 = .ok (.bipush 67, 2) := by decide +kernel
theorem dX6_toldOfJoint_84 : decode cX6_toldOfJoint 84 = .ok (.iload_n 1, 1) := by decide +kernel
theorem dX6_toldOfJoint_85 : decode cX6_toldOfJoint 85 = .ok (.iadd, 1) := by decide +kernel
theorem dX6_toldOfJoint_86 : decode cX6_toldOfJoint 86 = .ok (.iaload, 1) := by decide +kernel
theorem dX6_toldOfJoint_87 : decode cX6_toldOfJoint 87 = .ok (.ireturn, 1) := by decide +kernel
theorem dX6_toldOfJoint_88 : decode cX6_toldOfJoint 88 = .ok (.aload_n 0, 1) := by decide +kernel
theorem dX6_toldOfJoint_89 : decode cX6_toldOfJoint 89 = .ok (.getfield 22, 3) := by decide +kernel
theorem dX6_toldOfJoint_92 : decode cX6_toldOfJoint 92 = .ok (.iload_n 1, 1) := by decide +kernel
theorem dX6_toldOfJoint_93 : decode cX6_toldOfJoint 93 = .ok (.iaload, 1) := by decide +kernel
theorem dX6_toldOfJoint_94 : decode cX6_toldOfJoint 94 = .ok (.ireturn, 1) := by decide +kernel
theorem dX6_toldOfJoint_95 : decode cX6_toldOfJoint 95 = .ok (.aload_n 0, 1) := by decide +kernel
theorem dX6_toldOfJoint_96 : decode cX6_toldOfJoint 96 = .ok (.getfield 25, 3) := by decide +kernel
theorem dX6_toldOfJoint_99 : decode cX6_toldOfJoint 99 = .ok (.iload_n 1, 1) := by decide +kernel
theorem dX6_toldOfJoint_100 : decode cX6_toldOfJoint 100 = .ok (.iaload, 1) := by decide +kernel
theorem dX6_toldOfJoint_101 : decode cX6_toldOfJoint 101 = .ok (.ireturn, 1) := by decide +kernel
theorem dX6_toldOfJoint_102 : decode cX6_toldOfJoint 102 = .ok (.aload_n 0, 1) := by decide +kernel
theorem dX6_toldOfJoint_103 : decode cX6_toldOfJoint 103 = .ok (.getfield 28, 3) := by decide +kernel
theorem dX6_toldOfJoint_106 : decode cX6_toldOfJoint 106 = .ok (.iload_n 1, 1) := by decide +kernel
theorem dX6_toldOfJoint_107 : decode cX6_toldOfJoint 107 = .ok (.iaload, 1) := by decide +kernel
theorem dX6_toldOfJoint_108 : decode cX6_toldOfJoint 108 = .ok (.ireturn, 1) := by decide +kernel
theorem dX6_toldOfJoint_109 : decode cX6_toldOfJoint 109 = .ok (.aload_n 0, 1) := by decide +kernel
theorem dX6_toldOfJoint_110 : decode cX6_toldOfJoint 110 = .ok (.getfield 31, 3) := by decide +kernel
theorem dX6_toldOfJoint_113 : decode cX6_toldOfJoint 113 = .ok (.iload_n 1, 1) := by decide +kernel
theorem dX6_toldOfJoint_114 : decode cX6_toldOfJoint 114 = .ok (.iaload, 1) := by decide +kernel
theorem dX6_toldOfJoint_115 : decode cX6_toldOfJoint 115 = .ok (.ireturn, 1) := by decide +kernel
set_option maxRecDepth 20000 in
theorem ggX6_joint_X6_isJoint : GoodIn wsX6_joint wsX6_isJoint := goodIn_r _ [5, 6, 7, 8, 4, 9, 38, 39, 40, 41, 42, 43, 44, 45, 46, 47, 48, 49, 50, 51, 52, 53, 54] (by decide +kernel) (by decide +kernel)
set_option maxRecDepth 20000 in
theorem gX6_joint_X6_isJoint : GoodIn wsX6_joint (wsV RX6 86 RX6 yX6_isJoint wsX6_isJoint) := goodIn_app (goodIn_of _ (by decide +kernel)) ggX6_joint_X6_isJoint
set_option maxRecDepth 20000 in
theorem ggX6_joint_X6_in : GoodIn wsX6_joint wsX6_in := goodIn_r _ [9] (by decide +kernel) (by decide +kernel)
set_option maxRecDepth 20000 in
theorem gX6_joint_X6_in : GoodIn wsX6_joint (va_wsS RX6 41 yX6_in wsX6_in) := goodIn_app (goodIn_of _ (by decide +kernel)) ggX6_joint_X6_in
set_option maxRecDepth 20000 in
theorem ggX6_joint_X6_holds : GoodIn wsX6_joint wsX6_holds := goodIn_r _ [13, 14, 38, 39, 40, 41, 42, 43, 44, 45, 46, 47, 48, 49, 50, 51, 52, 53, 54] (by decide +kernel) (by decide +kernel)
set_option maxRecDepth 20000 in
theorem gX6_joint_X6_holds : GoodIn wsX6_joint (wsV RX6 65 RX6 yX6_holds wsX6_holds) := goodIn_app (goodIn_of _ (by decide +kernel)) ggX6_joint_X6_holds
set_option maxRecDepth 20000 in
theorem ggX6_joint_X6_toldOfJoint : GoodIn wsX6_joint wsX6_toldOfJoint := goodIn_r _ [18, 19, 6, 20, 21, 22, 23, 24, 25, 26, 4, 27, 28, 29, 30, 31, 32, 33, 34, 35, 36, 37, 38, 39, 40, 41, 42, 43, 44, 45, 46, 47, 48, 49, 50, 51, 52, 53, 54] (by decide +kernel) (by decide +kernel)
set_option maxRecDepth 20000 in
theorem gX6_joint_X6_toldOfJoint : GoodIn wsX6_joint (wsV RX6 124 RX6 yX6_toldOfJoint wsX6_toldOfJoint) := goodIn_app (goodIn_of _ (by decide +kernel)) ggX6_joint_X6_toldOfJoint
theorem dX6_joint_0 : decode cX6_joint 0 = .ok (.aload_n 0, 1) := by decide +kernel
theorem dX6_joint_1 : decode cX6_joint 1 = .ok (.aload_n 0, 1) := by decide +kernel
theorem dX6_joint_2 : decode cX6_joint 2 = .ok (.iload_n 1, 1) := by decide +kernel
theorem dX6_joint_3 : decode cX6_joint 3 = .ok (.invokevirtual 86, 3) := by decide +kernel
theorem dX6_joint_6 : decode cX6_joint 6 = .ok (.ifCond .ne 7, 3) := by decide +kernel
theorem dX6_joint_9 : decode cX6_joint 9 = .ok (.iconst 1, 1) := by decide +kernel
theorem dX6_joint_10 : decode cX6_joint 10 = .ok (.goto 18, 3) := by decide +kernel
theorem dX6_joint_13 : decode cX6_joint 13 = .ok (.iload_n 2, 1) := by decide +kernel
theorem dX6_joint_14 : decode cX6_joint 14 = .ok (.iconst 0, 1) := by decide +kernel
theorem dX6_joint_15 : decode cX6_joint 15 = .ok (.bipush 7, 2) := by decide +kernel
theorem dX6_joint_17 : decode cX6_joint 17 = .ok (.invokestatic 41, 3) := by decide +kernel
theorem dX6_joint_20 : decode cX6_joint 20 = .ok (.ifCond .ne 7, 3) := by decide +kernel
theorem dX6_joint_23 : decode cX6_joint 23 = .ok (.iconst 2, 1) := by decide +kernel
theorem dX6_joint_24 : decode cX6_joint 24 = .ok (.goto 4, 3) := by decide +kernel
theorem dX6_joint_27 : decode cX6_joint 27 = .ok (.iconst 0, 1) := by decide +kernel
theorem dX6_joint_28 : decode cX6_joint 28 = .ok (.invokevirtual 65, 3) := by decide +kernel
theorem dX6_joint_31 : decode cX6_joint 31 = .ok (.ifCond .eq 12, 3) := by decide +kernel
theorem dX6_joint_34 : decode cX6_joint 34 = .ok (.aload_n 0, 1) := by decide +kernel
theorem dX6_joint_35 : decode cX6_joint 35 = .ok (.iload_n 1, 1) := by decide +kernel
theorem dX6_joint_36 : decode cX6_joint 36 = .ok (.iload_n 2, 1) := by decide +kernel
theorem dX6_joint_37 : decode cX6_joint 37 = .ok (.invokevirtual 124, 3) := by decide +kernel
theorem dX6_joint_40 : decode cX6_joint 40 = .ok (.goto 4, 3) := by decide +kernel
theorem dX6_joint_43 : decode cX6_joint 43 = .ok (.iconst 0, 1) := by decide +kernel
theorem dX6_joint_44 : decode cX6_joint 44 = .ok (.ireturn, 1) := by decide +kernel
theorem dX6_lowest_0 : decode cX6_lowest 0 = .ok (.iconst 0, 1) := by decide +kernel
theorem dX6_lowest_1 : decode cX6_lowest 1 = .ok (.istore_n 1, 1) := by decide +kernel
theorem dX6_lowest_2 : decode cX6_lowest 2 = .ok (.iconst 1, 1) := by decide +kernel
theorem dX6_lowest_3 : decode cX6_lowest 3 = .ok (.istore_n 2, 1) := by decide +kernel
theorem dX6_lowest_4 : decode cX6_lowest 4 = .ok (.iload_n 2, 1) := by decide +kernel
theorem dX6_lowest_5 : decode cX6_lowest 5 = .ok (.aload_n 0, 1) := by decide +kernel
theorem dX6_lowest_6 : decode cX6_lowest 6 = .ok (.getfield 7, 3) := by decide +kernel
theorem dX6_lowest_9 : decode cX6_lowest 9 = .ok (.iconst 0, 1) := by decide +kernel
theorem dX6_lowest_10 : decode cX6_lowest 10 = .ok (.iaload, 1) := by decide +kernel
theorem dX6_lowest_11 : decode cX6_lowest 11 = .ok (.if_icmp .gt 30, 3) := by decide +kernel
theorem dX6_lowest_14 : decode cX6_lowest 14 = .ok (.aload_n 0, 1) := by decide +kernel
theorem dX6_lowest_15 : decode cX6_lowest 15 = .ok (.getfield 19, 3) := by decide +kernel
theorem dX6_lowest_18 : decode cX6_lowest 18 = .ok (.iload_n 2, 1) := by decide +kernel
theorem dX6_lowest_19 : decode cX6_lowest 19 = .ok (.iaload, 1) := by decide +kernel
theorem dX6_lowest_20 : decode cX6_lowest 20 = .ok (.aload_n 0, 1) := by decide +kernel
theorem dX6_lowest_21 : decode cX6_lowest 21 = .ok (.getfield 19, 3) := by decide +kernel
theorem dX6_lowest_24 : decode cX6_lowest 24 = .ok (.iload_n 1, 1) := by decide +kernel
theorem dX6_lowest_25 : decode cX6_lowest 25 = .ok (.iaload, 1) := by decide +kernel
theorem dX6_lowest_26 : decode cX6_lowest 26 = .ok (.if_icmp .ge 7, 3) := by decide +kernel
theorem dX6_lowest_29 : decode cX6_lowest 29 = .ok (.iload_n 2, 1) := by decide +kernel
theorem dX6_lowest_30 : decode cX6_lowest 30 = .ok (.goto 4, 3) := by decide +kernel
theorem dX6_lowest_33 : decode cX6_lowest 33 = .ok (.iload_n 1, 1) := by decide +kernel
theorem dX6_lowest_34 : decode cX6_lowest 34 = .ok (.istore_n 1, 1) := by decide +kernel
theorem dX6_lowest_35 : decode cX6_lowest 35 = .ok (.iinc 2 1, 3) := by decide +kernel
theorem dX6_lowest_38 : decode cX6_lowest 38 = .ok (.goto (-34), 3) := by decide +kernel
theorem dX6_lowest_41 : decode cX6_lowest 41 = .ok (.iload_n 1, 1) := by decide +kernel
theorem dX6_lowest_42 : decode cX6_lowest 42 = .ok (.ireturn, 1) := by decide +kernel
theorem dX6_sum_0 : decode cX6_sum 0 = .ok (.iconst 0, 1) := by decide +kernel
theorem dX6_sum_1 : decode cX6_sum 1 = .ok (.istore_n 2, 1) := by decide +kernel
theorem dX6_sum_2 : decode cX6_sum 2 = .ok (.iconst 0, 1) := by decide +kernel
theorem dX6_sum_3 : decode cX6_sum 3 = .ok (.istore_n 3, 1) := by decide +kernel
theorem dX6_sum_4 : decode cX6_sum 4 = .ok (.iload_n 3, 1) := by decide +kernel
theorem dX6_sum_5 : decode cX6_sum 5 = .ok (.aload_n 0, 1) := by decide +kernel
theorem dX6_sum_6 : decode cX6_sum 6 = .ok (.getfield 7, 3) := by decide +kernel
theorem dX6_sum_9 : decode cX6_sum 9 = .ok (.iconst 0, 1) := by decide +kernel
theorem dX6_sum_10 : decode cX6_sum 10 = .ok (.iaload, 1) := by decide +kernel
theorem dX6_sum_11 : decode cX6_sum 11 = .ok (.if_icmp .gt 34, 3) := by decide +kernel
theorem dX6_sum_14 : decode cX6_sum 14 = .ok (.iload_n 2, 1) := by decide +kernel
theorem dX6_sum_15 : decode cX6_sum 15 = .ok (.iload_n 1, 1) := by decide +kernel
theorem dX6_sum_16 : decode cX6_sum 16 = .ok (.ifCond .ne 15, 3) := by decide +kernel
theorem dX6_sum_19 : decode cX6_sum 19 = .ok (.aload_n 0, 1) := by decide +kernel
theorem dX6_sum_20 : decode cX6_sum 20 = .ok (.getfield 7, 3) := by decide +kernel
theorem dX6_sum_23 : decode cX6_sum 23 = .ok (.bipush 25, 2) := by decide +kernel
theorem dX6_sum_25 : decode cX6_sum 25 = .ok (.iload_n 3, 1) := by decide +kernel
theorem dX6_sum_26 : decode cX6_sum 26 = .ok (.iadd, 1) := by decide +kernel
theorem dX6_sum_27 : decode cX6_sum 27 = .ok (.iaload, 1) := by decide +kernel
theorem dX6_sum_28 : decode cX6_sum 28 = .ok (.goto 9, 3) := by decide +kernel
theorem dX6_sum_31 : decode cX6_sum 31 = .ok (.aload_n 0, 1) := by decide +kernel
theorem dX6_sum_32 : decode cX6_sum 32 = .ok (.getfield 31, 3) := by decide +kernel
theorem dX6_sum_35 : decode cX6_sum 35 = .ok (.iload_n 3, 1) := by decide +kernel
theorem dX6_sum_36 : decode cX6_sum 36 = .ok (.iaload, 1) := by decide +kernel
theorem dX6_sum_37 : decode cX6_sum 37 = .ok (.iadd, 1) := by decide +kernel
theorem dX6_sum_38 : decode cX6_sum 38 = .ok (.istore_n 2, 1) := by decide +kernel
theorem dX6_sum_39 : decode cX6_sum 39 = .ok (.iinc 3 1, 3) := by decide +kernel
theorem dX6_sum_42 : decode cX6_sum 42 = .ok (.goto (-38), 3) := by decide +kernel
theorem dX6_sum_45 : decode cX6_sum 45 = .ok (.iload_n 2, 1) := by decide +kernel
theorem dX6_sum_46 : decode cX6_sum 46 = .ok (.ireturn, 1) := by decide +kernel
theorem dX6_breaking_0 : decode cX6_breaking 0 = .ok (.iconst 0, 1) := by decide +kernel
theorem dX6_breaking_1 : decode cX6_breaking 1 = .ok (.istore_n 1, 1) := by decide +kernel
theorem dX6_breaking_2 : decode cX6_breaking 2 = .ok (.iconst 0, 1) := by decide +kernel
theorem dX6_breaking_3 : decode cX6_breaking 3 = .ok (.istore_n 2, 1) := by decide +kernel
theorem dX6_breaking_4 : decode cX6_breaking 4 = .ok (.iload_n 2, 1) := by decide +kernel
theorem dX6_breaking_5 : decode cX6_breaking 5 = .ok (.aload_n 0, 1) := by decide +kernel
theorem dX6_breaking_6 : decode cX6_breaking 6 = .ok (.getfield 7, 3) := by decide +kernel
theorem dX6_breaking_9 : decode cX6_breaking 9 = .ok (.iconst 0, 1) := by decide +kernel
theorem dX6_breaking_10 : decode cX6_breaking 10 = .ok (.iaload, 1) := by decide +kernel
theorem dX6_breaking_11 : decode cX6_breaking 11 = .ok (.if_icmp .ge 32, 3) := by decide +kernel
theorem dX6_breaking_14 : decode cX6_breaking 14 = .ok (.iload_n 1, 1) := by decide +kernel
theorem dX6_breaking_15 : decode cX6_breaking 15 = .ok (.aload_n 0, 1) := by decide +kernel
theorem dX6_breaking_16 : decode cX6_breaking 16 = .ok (.getfield 34, 3) := by decide +kernel
theorem dX6_breaking_19 : decode cX6_breaking 19 = .ok (.iload_n 2, 1) := by decide +kernel
theorem dX6_breaking_20 : decode cX6_breaking 20 = .ok (.iaload, 1) := by decide +kernel
theorem dX6_breaking_21 : decode cX6_breaking 21 = .ok (.aload_n 0, 1) := by decide +kernel
theorem dX6_breaking_22 : decode cX6_breaking 22 = .ok (.getfield 7, 3) := by decide +kernel
theorem dX6_breaking_25 : decode cX6_breaking 25 = .ok (.iconst 4, 1) := by decide +kernel
theorem dX6_breaking_26 : decode cX6_breaking 26 = .ok (.iaload, 1) := by decide +kernel
theorem dX6_breaking_27 : decode cX6_breaking 27 = .ok (.if_icmp .le 7, 3) := by decide +kernel
theorem dX6_breaking_30 : decode cX6_breaking 30 = .ok (.iconst 1, 1) := by decide +kernel
theorem dX6_breaking_31 : decode cX6_breaking 31 = .ok (.goto 4, 3) := by decide +kernel
theorem dX6_breaking_34 : decode cX6_breaking 34 = .ok (.iconst 0, 1) := by decide +kernel
theorem dX6_breaking_35 : decode cX6_breaking 35 = .ok (.iadd, 1) := by decide +kernel
theorem dX6_breaking_36 : decode cX6_breaking 36 = .ok (.istore_n 1, 1) := by decide +kernel
theorem dX6_breaking_37 : decode cX6_breaking 37 = .ok (.iinc 2 1, 3) := by decide +kernel
theorem dX6_breaking_40 : decode cX6_breaking 40 = .ok (.goto (-36), 3) := by decide +kernel
theorem dX6_breaking_43 : decode cX6_breaking 43 = .ok (.iload_n 1, 1) := by decide +kernel
theorem dX6_breaking_44 : decode cX6_breaking 44 = .ok (.ireturn, 1) := by decide +kernel
set_option maxRecDepth 20000 in
theorem ggX6_counted_X6_lay : GoodIn wsX6_counted wsX6_lay := goodIn_r _ [10, 1, 2, 3, 4, 11, 12, 13, 14, 15, 9, 16, 17, 18, 19, 20, 21, 22, 39, 40, 41, 42, 43, 44, 45, 46, 47, 48, 49, 50, 51, 52, 53, 54, 55] (by decide +kernel) (by decide +kernel)
set_option maxRecDepth 20000 in
theorem gX6_counted_X6_lay : GoodIn wsX6_counted (wsV RX6 62 RX6 yX6_lay wsX6_lay) := goodIn_app (goodIn_of _ (by decide +kernel)) ggX6_counted_X6_lay
set_option maxRecDepth 20000 in
theorem ggX6_counted_X6_sum : GoodIn wsX6_counted wsX6_sum := goodIn_r _ [26, 1, 11, 39, 40, 41, 42, 43, 44, 45, 46, 47, 48, 49, 50, 51, 52, 53, 54, 55] (by decide +kernel) (by decide +kernel)
set_option maxRecDepth 20000 in
theorem gX6_counted_X6_sum : GoodIn wsX6_counted (wsV RX6 127 RX6 yX6_sum wsX6_sum) := goodIn_app (goodIn_of _ (by decide +kernel)) ggX6_counted_X6_sum
set_option maxRecDepth 20000 in
theorem ggX6_counted_X6_greatest : GoodIn wsX6_counted wsX6_greatest := goodIn_r _ [30, 1, 12, 6, 7, 8, 9, 10, 2, 3, 4, 11, 13, 14, 15, 16, 17, 18, 19, 20, 21, 22, 39, 40, 41, 42, 43, 44, 45, 46, 47, 48, 49, 50, 51, 52, 53, 54, 55] (by decide +kernel) (by decide +kernel)
set_option maxRecDepth 20000 in
theorem gX6_counted_X6_greatest : GoodIn wsX6_counted (wsV RX6 130 RX6 yX6_greatest wsX6_greatest) := goodIn_app (goodIn_of _ (by decide +kernel)) ggX6_counted_X6_greatest
set_option maxRecDepth 20000 in
theorem ggX6_counted_X6_breaking : GoodIn wsX6_counted wsX6_breaking := goodIn_r _ [34, 1, 12, 39, 40, 41, 42, 43, 44, 45, 46, 47, 48, 49, 50, 51, 52, 53, 54, 55] (by decide +kernel) (by decide +kernel)
set_option maxRecDepth 20000 in
theorem gX6_counted_X6_breaking : GoodIn wsX6_counted (wsV RX6 134 RX6 yX6_breaking wsX6_breaking) := goodIn_app (goodIn_of _ (by decide +kernel)) ggX6_counted_X6_breaking
set_option maxRecDepth 20000 in
theorem ggX6_counted_X6_lowest : GoodIn wsX6_counted wsX6_lowest := goodIn_r _ [38, 1, 4, 39, 40, 41, 42, 43, 44, 45, 46, 47, 48, 49, 50, 51, 52, 53, 54, 55] (by decide +kernel) (by decide +kernel)
set_option maxRecDepth 20000 in
theorem gX6_counted_X6_lowest : GoodIn wsX6_counted (wsV RX6 137 RX6 yX6_lowest wsX6_lowest) := goodIn_app (goodIn_of _ (by decide +kernel)) ggX6_counted_X6_lowest
theorem dX6_counted_0 : decode cX6_counted 0 = .ok (.aload_n 0, 1) := by decide +kernel
theorem dX6_counted_1 : decode cX6_counted 1 = .ok (.invokevirtual 62, 3) := by decide +kernel
theorem dX6_counted_4 : decode cX6_counted 4 = .ok (.iload_n 1, 1) := by decide +kernel
theorem dX6_counted_5 : decode cX6_counted 5 = .ok (.tableswitch 121 0 9 #[55, 62, 62, 70, 75, 80, 85, 90, 103, 108], 55) := by decide +kernel
theorem dX6_counted_60 : decode cX6_counted 60 = .ok (.aload_n 0, 1) := by decide +kernel
theorem dX6_counted_61 : decode cX6_counted 61 = .ok (.getfield 7, 3) := by decide +kernel
theorem dX6_counted_64 : decode cX6_counted 64 = .ok (.iconst 0, 1) := by decide +kernel
theorem dX6_counted_65 : decode cX6_counted 65 = .ok (.iaload, 1) := by decide +kernel
theorem dX6_counted_66 : decode cX6_counted 66 = .ok (.ireturn, 1) := by decide +kernel
theorem dX6_counted_67 : decode cX6_counted 67 = .ok (.aload_n 0, 1) := by decide +kernel
theorem dX6_counted_68 : decode cX6_counted 68 = .ok (.iload_n 1, 1) := by decide +kernel
theorem dX6_counted_69 : decode cX6_counted 69 = .ok (.iconst 1, 1) := by decide +kernel
theorem dX6_counted_70 : decode cX6_counted 70 = .ok (.isub, 1) := by decide +kernel
theorem dX6_counted_71 : decode cX6_counted 71 = .ok (.invokevirtual 127, 3) := by decide +kernel
theorem dX6_counted_74 : decode cX6_counted 74 = .ok (.ireturn, 1) := by decide +kernel
theorem dX6_counted_75 : decode cX6_counted 75 = .ok (.aload_n 0, 1) := by decide +kernel
theorem dX6_counted_76 : decode cX6_counted 76 = .ok (.getfield 48, 3) := by decide +kernel
theorem dX6_counted_79 : decode cX6_counted 79 = .ok (.ireturn, 1) := by decide +kernel
theorem dX6_counted_80 : decode cX6_counted 80 = .ok (.aload_n 0, 1) := by decide +kernel
theorem dX6_counted_81 : decode cX6_counted 81 = .ok (.getfield 51, 3) := by decide +kernel
theorem dX6_counted_84 : decode cX6_counted 84 = .ok (.ireturn, 1) := by decide +kernel
theorem dX6_counted_85 : decode cX6_counted 85 = .ok (.aload_n 0, 1) := by decide +kernel
theorem dX6_counted_86 : decode cX6_counted 86 = .ok (.invokevirtual 130, 3) := by decide +kernel
theorem dX6_counted_89 : decode cX6_counted 89 = .ok (.ireturn, 1) := by decide +kernel
theorem dX6_counted_90 : decode cX6_counted 90 = .ok (.aload_n 0, 1) := by decide +kernel
theorem dX6_counted_91 : decode cX6_counted 91 = .ok (.invokevirtual 134, 3) := by decide +kernel
theorem dX6_counted_94 : decode cX6_counted 94 = .ok (.ireturn, 1) := by decide +kernel
theorem dX6_counted_95 : decode cX6_counted 95 = .ok (.aload_n 0, 1) := by decide +kernel
theorem dX6_counted_96 : decode cX6_counted 96 = .ok (.invokevirtual 134, 3) := by decide +kernel
theorem dX6_counted_99 : decode cX6_counted 99 = .ok (.ifCond .ne 7, 3) := by decide +kernel
theorem dX6_counted_102 : decode cX6_counted 102 = .ok (.iconst 1, 1) := by decide +kernel
theorem dX6_counted_103 : decode cX6_counted 103 = .ok (.goto 4, 3) := by decide +kernel
theorem dX6_counted_106 : decode cX6_counted 106 = .ok (.iconst 0, 1) := by decide +kernel
theorem dX6_counted_107 : decode cX6_counted 107 = .ok (.ireturn, 1) := by decide +kernel
theorem dX6_counted_108 : decode cX6_counted 108 = .ok (.aload_n 0, 1) := by decide +kernel
theorem dX6_counted_109 : decode cX6_counted 109 = .ok (.invokevirtual 137, 3) := by decide +kernel
theorem dX6_counted_112 : decode cX6_counted 112 = .ok (.ireturn, 1) := by decide +kernel
theorem dX6_counted_113 : decode cX6_counted 113 = .ok (.aload_n 0, 1) := by decide +kernel
theorem dX6_counted_114 : decode cX6_counted 114 = .ok (.getfield 19, 3) := by decide +kernel
theorem dX6_counted_117 : decode cX6_counted 117 = .ok (.aload_n 0, 1) := by decide +kernel
theorem dX6_counted_118 : decode cX6_counted 118 = .ok (.invokevirtual 137, 3) := by decide +kernel
theorem dX6_counted_121 : decode cX6_counted 121 = .ok (.iaload, 1) := by decide +kernel
theorem dX6_counted_122 : decode cX6_counted 122 = .ok (.bipush 100, 2) := by decide +kernel
theorem dX6_counted_124 : decode cX6_counted 124 = .ok (.iadd, 1) := by decide +kernel
theorem dX6_counted_125 : decode cX6_counted 125 = .ok (.ireturn, 1) := by decide +kernel
theorem dX6_counted_126 : decode cX6_counted 126 = .ok (.aload_n 0, 1) := by decide +kernel
theorem dX6_counted_127 : decode cX6_counted 127 = .ok (.getfield 45, 3) := by decide +kernel
theorem dX6_counted_130 : decode cX6_counted 130 = .ok (.ireturn, 1) := by decide +kernel
set_option maxRecDepth 20000 in
theorem ggX6_count_X6_in : GoodIn wsX6_count wsX6_in := goodIn_r _ [4] (by decide +kernel) (by decide +kernel)
set_option maxRecDepth 20000 in
theorem gX6_count_X6_in : GoodIn wsX6_count (va_wsS RX6 41 yX6_in wsX6_in) := goodIn_app (goodIn_of _ (by decide +kernel)) ggX6_count_X6_in
set_option maxRecDepth 20000 in
theorem ggX6_count_X6_holds : GoodIn wsX6_count wsX6_holds := goodIn_r _ [8, 9, 51, 52, 53, 54, 55, 56, 57, 58, 59, 60, 61, 62, 63, 64, 65, 66, 67] (by decide +kernel) (by decide +kernel)
set_option maxRecDepth 20000 in
theorem gX6_count_X6_holds : GoodIn wsX6_count (wsV RX6 65 RX6 yX6_holds wsX6_holds) := goodIn_app (goodIn_of _ (by decide +kernel)) ggX6_count_X6_holds
set_option maxRecDepth 20000 in
theorem ggX6_count_X6_counted : GoodIn wsX6_count wsX6_counted := goodIn_r _ [13, 14, 15, 16, 17, 18, 19, 20, 21, 3, 22, 23, 24, 25, 26, 27, 28, 29, 30, 31, 32, 33, 34, 35, 36, 37, 38, 39, 40, 41, 42, 43, 44, 45, 46, 47, 48, 49, 50, 51, 52, 53, 54, 55, 56, 57, 58, 59, 60, 61, 62, 63, 64, 65, 66, 67] (by decide +kernel) (by decide +kernel)
set_option maxRecDepth 20000 in
theorem gX6_count_X6_counted : GoodIn wsX6_count (wsV RX6 140 RX6 yX6_counted wsX6_counted) := goodIn_app (goodIn_of _ (by decide +kernel)) ggX6_count_X6_counted
theorem dX6_count_0 : decode cX6_count 0 = .ok (.aload_n 0, 1) := by decide +kernel
theorem dX6_count_1 : decode cX6_count 1 = .ok (.iload_n 1, 1) := by decide +kernel
theorem dX6_count_2 : decode cX6_count 2 = .ok (.iconst 0, 1) := by decide +kernel
theorem dX6_count_3 : decode cX6_count 3 = .ok (.bipush 10, 2) := by decide +kernel
theorem dX6_count_5 : decode cX6_count 5 = .ok (.invokestatic 41, 3) := by decide +kernel
theorem dX6_count_8 : decode cX6_count 8 = .ok (.ifCond .eq 7, 3) := by decide +kernel
theorem dX6_count_11 : decode cX6_count 11 = .ok (.iconst 0, 1) := by decide +kernel
theorem dX6_count_12 : decode cX6_count 12 = .ok (.goto 4, 3) := by decide +kernel
theorem dX6_count_15 : decode cX6_count 15 = .ok (.iconst 1, 1) := by decide +kernel
theorem dX6_count_16 : decode cX6_count 16 = .ok (.invokevirtual 65, 3) := by decide +kernel
theorem dX6_count_19 : decode cX6_count 19 = .ok (.ifCond .eq 11, 3) := by decide +kernel
theorem dX6_count_22 : decode cX6_count 22 = .ok (.aload_n 0, 1) := by decide +kernel
theorem dX6_count_23 : decode cX6_count 23 = .ok (.iload_n 1, 1) := by decide +kernel
theorem dX6_count_24 : decode cX6_count 24 = .ok (.invokevirtual 140, 3) := by decide +kernel
theorem dX6_count_27 : decode cX6_count 27 = .ok (.goto 4, 3) := by decide +kernel
theorem dX6_count_30 : decode cX6_count 30 = .ok (.iconst 0, 1) := by decide +kernel
theorem dX6_count_31 : decode cX6_count 31 = .ok (.ireturn, 1) := by decide +kernel
set_option maxRecDepth 20000 in
theorem ggX6_setting_X6_in : GoodIn wsX6_setting wsX6_in := goodIn_r _ [5] (by decide +kernel) (by decide +kernel)
set_option maxRecDepth 20000 in
theorem gX6_setting_X6_in : GoodIn wsX6_setting (va_wsS RX6 41 yX6_in wsX6_in) := goodIn_app (goodIn_of _ (by decide +kernel)) ggX6_setting_X6_in
set_option maxRecDepth 20000 in
theorem ggX6_setting_X6_holds : GoodIn wsX6_setting wsX6_holds := goodIn_r _ [9, 10, 11, 12, 13, 14, 15, 16, 17, 18, 19, 20, 21, 22, 23, 24, 25, 26, 27] (by decide +kernel) (by decide +kernel)
set_option maxRecDepth 20000 in
theorem gX6_setting_X6_holds : GoodIn wsX6_setting (wsV RX6 65 RX6 yX6_holds wsX6_holds) := goodIn_app (goodIn_of _ (by decide +kernel)) ggX6_setting_X6_holds
theorem dX6_setting_0 : decode cX6_setting 0 = .ok (.aload_n 0, 1) := by decide +kernel
theorem dX6_setting_1 : decode cX6_setting 1 = .ok (.iload_n 1, 1) := by decide +kernel
theorem dX6_setting_2 : decode cX6_setting 2 = .ok (.iconst 0, 1) := by decide +kernel
theorem dX6_setting_3 : decode cX6_setting 3 = .ok (.iconst 3, 1) := by decide +kernel
theorem dX6_setting_4 : decode cX6_setting 4 = .ok (.invokestatic 41, 3) := by decide +kernel
theorem dX6_setting_7 : decode cX6_setting 7 = .ok (.ifCond .eq 7, 3) := by decide +kernel
theorem dX6_setting_10 : decode cX6_setting 10 = .ok (.iconst 0, 1) := by decide +kernel
theorem dX6_setting_11 : decode cX6_setting 11 = .ok (.goto 4, 3) := by decide +kernel
theorem dX6_setting_14 : decode cX6_setting 14 = .ok (.iconst 1, 1) := by decide +kernel
theorem dX6_setting_15 : decode cX6_setting 15 = .ok (.invokevirtual 65, 3) := by decide +kernel
theorem dX6_setting_18 : decode cX6_setting 18 = .ok (.ifCond .eq 17, 3) := by decide +kernel
theorem dX6_setting_21 : decode cX6_setting 21 = .ok (.aload_n 0, 1) := by decide +kernel
theorem dX6_setting_22 : decode cX6_setting 22 = .ok (.getfield 7, 3) := by decide +kernel
theorem dX6_setting_25 : decode cX6_setting 25 = .ok (.iconst 1, 1) := by decide +kernel
theorem dX6_setting_26 : decode cX6_setting 26 = .ok (.iload_n 1, 1) := by decide +kernel
theorem dX6_setting_27 : decode cX6_setting 27 = .ok (.iadd, 1) := by decide +kernel
theorem dX6_setting_28 : decode cX6_setting 28 = .ok (.iaload, 1) := by decide +kernel
theorem dX6_setting_29 : decode cX6_setting 29 = .ok (.bipush 100, 2) := by decide +kernel
theorem dX6_setting_31 : decode cX6_setting 31 = .ok (.iadd, 1) := by decide +kernel
theorem dX6_setting_32 : decode cX6_setting 32 = .ok (.goto 4, 3) := by decide +kernel
theorem dX6_setting_35 : decode cX6_setting 35 = .ok (.iconst 0, 1) := by decide +kernel
theorem dX6_setting_36 : decode cX6_setting 36 = .ok (.ireturn, 1) := by decide +kernel
set_option maxRecDepth 20000 in
theorem ggX6_greatestWith_X6_greatest : GoodIn wsX6_greatestWith wsX6_greatest := goodIn_r _ [6, 1, 7, 8, 9, 10, 5, 11, 12, 13, 14, 15, 16, 17, 18, 19, 20, 21, 22, 23, 24, 25, 26, 27, 28, 29, 30, 31, 32, 33, 34, 35, 36, 37, 38, 39, 40, 41, 42] (by decide +kernel) (by decide +kernel)
set_option maxRecDepth 20000 in
theorem gX6_greatestWith_X6_greatest : GoodIn wsX6_greatestWith (wsV RX6 130 RX6 yX6_greatest wsX6_greatest) := goodIn_app (goodIn_of _ (by decide +kernel)) ggX6_greatestWith_X6_greatest
theorem dX6_greatestWith_0 : decode cX6_greatestWith 0 = .ok (.aload_n 0, 1) := by decide +kernel
theorem dX6_greatestWith_1 : decode cX6_greatestWith 1 = .ok (.getfield 7, 3) := by decide +kernel
theorem dX6_greatestWith_4 : decode cX6_greatestWith 4 = .ok (.iload_n 1, 1) := by decide +kernel
theorem dX6_greatestWith_5 : decode cX6_greatestWith 5 = .ok (.iaload, 1) := by decide +kernel
theorem dX6_greatestWith_6 : decode cX6_greatestWith 6 = .ok (.istore_n 3, 1) := by decide +kernel
theorem dX6_greatestWith_7 : decode cX6_greatestWith 7 = .ok (.aload_n 0, 1) := by decide +kernel
theorem dX6_greatestWith_8 : decode cX6_greatestWith 8 = .ok (.getfield 7, 3) := by decide +kernel
theorem dX6_greatestWith_11 : decode cX6_greatestWith 11 = .ok (.iload_n 1, 1) := by decide +kernel
theorem dX6_greatestWith_12 : decode cX6_greatestWith 12 = .ok (.iload_n 2, 1) := by decide +kernel
theorem dX6_greatestWith_13 : decode cX6_greatestWith 13 = .ok (.iastore, 1) := by decide +kernel
theorem dX6_greatestWith_14 : decode cX6_greatestWith 14 = .ok (.aload_n 0, 1) := by decide +kernel
theorem dX6_greatestWith_15 : decode cX6_greatestWith 15 = .ok (.invokevirtual 130, 3) := by decide +kernel
theorem dX6_greatestWith_18 : decode cX6_greatestWith 18 = .ok (.istore 4, 2) := by decide +kernel
theorem dX6_greatestWith_20 : decode cX6_greatestWith 20 = .ok (.aload_n 0, 1) := by decide +kernel
theorem dX6_greatestWith_21 : decode cX6_greatestWith 21 = .ok (.getfield 7, 3) := by decide +kernel
theorem dX6_greatestWith_24 : decode cX6_greatestWith 24 = .ok (.iload_n 1, 1) := by decide +kernel
theorem dX6_greatestWith_25 : decode cX6_greatestWith 25 = .ok (.iload_n 3, 1) := by decide +kernel
theorem dX6_greatestWith_26 : decode cX6_greatestWith 26 = .ok (.iastore, 1) := by decide +kernel
theorem dX6_greatestWith_27 : decode cX6_greatestWith 27 = .ok (.iload 4, 2) := by decide +kernel
theorem dX6_greatestWith_29 : decode cX6_greatestWith 29 = .ok (.ireturn, 1) := by decide +kernel
set_option maxRecDepth 20000 in
theorem ggX6_ifWeight_X6_isJoint : GoodIn wsX6_ifWeight wsX6_isJoint := goodIn_r _ [5, 6, 7, 8, 4, 9, 42, 43, 44, 45, 46, 47, 48, 49, 50, 51, 52, 53, 54, 55, 56, 57, 58] (by decide +kernel) (by decide +kernel)
set_option maxRecDepth 20000 in
theorem gX6_ifWeight_X6_isJoint : GoodIn wsX6_ifWeight (wsV RX6 86 RX6 yX6_isJoint wsX6_isJoint) := goodIn_app (goodIn_of _ (by decide +kernel)) ggX6_ifWeight_X6_isJoint
set_option maxRecDepth 20000 in
theorem ggX6_ifWeight_X6_in : GoodIn wsX6_ifWeight wsX6_in := goodIn_r _ [9] (by decide +kernel) (by decide +kernel)
set_option maxRecDepth 20000 in
theorem gX6_ifWeight_X6_in : GoodIn wsX6_ifWeight (va_wsS RX6 41 yX6_in wsX6_in) := goodIn_app (goodIn_of _ (by decide +kernel)) ggX6_ifWeight_X6_in
set_option maxRecDepth 20000 in
theorem ggX6_ifWeight_X6_holds : GoodIn wsX6_ifWeight wsX6_holds := goodIn_r _ [13, 14, 42, 43, 44, 45, 46, 47, 48, 49, 50, 51, 52, 53, 54, 55, 56, 57, 58] (by decide +kernel) (by decide +kernel)
set_option maxRecDepth 20000 in
theorem gX6_ifWeight_X6_holds : GoodIn wsX6_ifWeight (wsV RX6 65 RX6 yX6_holds wsX6_holds) := goodIn_app (goodIn_of _ (by decide +kernel)) ggX6_ifWeight_X6_holds
set_option maxRecDepth 20000 in
theorem ggX6_ifWeight_X6_greatestWith : GoodIn wsX6_ifWeight wsX6_greatestWith := goodIn_r _ [18, 6, 19, 20, 21, 4, 22, 23, 24, 25, 26, 27, 28, 29, 30, 31, 32, 33, 34, 35, 36, 37, 38, 39, 40, 41, 42, 43, 44, 45, 46, 47, 48, 49, 50, 51, 52, 53, 54, 55, 56, 57, 58] (by decide +kernel) (by decide +kernel)
set_option maxRecDepth 20000 in
theorem gX6_ifWeight_X6_greatestWith : GoodIn wsX6_ifWeight (wsV RX6 143 RX6 yX6_greatestWith wsX6_greatestWith) := goodIn_app (goodIn_of _ (by decide +kernel)) ggX6_ifWeight_X6_greatestWith
theorem dX6_ifWeight_0 : decode cX6_ifWeight 0 = .ok (.aload_n 0, 1) := by decide +kernel
theorem dX6_ifWeight_1 : decode cX6_ifWeight 1 = .ok (.aload_n 0, 1) := by decide +kernel
theorem dX6_ifWeight_2 : decode cX6_ifWeight 2 = .ok (.iload_n 1, 1) := by decide +kernel
theorem dX6_ifWeight_3 : decode cX6_ifWeight 3 = .ok (.invokevirtual 86, 3) := by decide +kernel
theorem dX6_ifWeight_6 : decode cX6_ifWeight 6 = .ok (.ifCond .ne 7, 3) := by decide +kernel
theorem dX6_ifWeight_9 : decode cX6_ifWeight 9 = .ok (.iconst 1, 1) := by decide +kernel
theorem dX6_ifWeight_10 : decode cX6_ifWeight 10 = .ok (.goto 18, 3) := by decide +kernel
theorem dX6_ifWeight_13 : decode cX6_ifWeight 13 = .ok (.iload_n 2, 1) := by decide +kernel
theorem dX6_ifWeight_14 : decode cX6_ifWeight 14 = .ok (.iconst 0, 1) := by decide +kernel
theorem dX6_ifWeight_15 : decode cX6_ifWeight 15 = .ok (.bipush 99, 2) := by decide +kernel
theorem dX6_ifWeight_17 : decode cX6_ifWeight 17 = .ok (.invokestatic 41, 3) := by decide +kernel
theorem dX6_ifWeight_20 : decode cX6_ifWeight 20 = .ok (.ifCond .ne 7, 3) := by decide +kernel
theorem dX6_ifWeight_23 : decode cX6_ifWeight 23 = .ok (.iconst 2, 1) := by decide +kernel
theorem dX6_ifWeight_24 : decode cX6_ifWeight 24 = .ok (.goto 4, 3) := by decide +kernel
theorem dX6_ifWeight_27 : decode cX6_ifWeight 27 = .ok (.iconst 0, 1) := by decide +kernel
theorem dX6_ifWeight_28 : decode cX6_ifWeight 28 = .ok (.invokevirtual 65, 3) := by decide +kernel
theorem dX6_ifWeight_31 : decode cX6_ifWeight 31 = .ok (.ifCond .eq 15, 3) := by decide +kernel
theorem dX6_ifWeight_34 : decode cX6_ifWeight 34 = .ok (.aload_n 0, 1) := by decide +kernel
theorem dX6_ifWeight_35 : decode cX6_ifWeight 35 = .ok (.bipush 25, 2) := by decide +kernel
theorem dX6_ifWeight_37 : decode cX6_ifWeight 37 = .ok (.iload_n 1, 1) := by decide +kernel
theorem dX6_ifWeight_38 : decode cX6_ifWeight 38 = .ok (.iadd, 1) := by decide +kernel
theorem dX6_ifWeight_39 : decode cX6_ifWeight 39 = .ok (.iload_n 2, 1) := by decide +kernel
theorem dX6_ifWeight_40 : decode cX6_ifWeight 40 = .ok (.invokevirtual 143, 3) := by decide +kernel
theorem dX6_ifWeight_43 : decode cX6_ifWeight 43 = .ok (.goto 4, 3) := by decide +kernel
theorem dX6_ifWeight_46 : decode cX6_ifWeight 46 = .ok (.iconst 0, 1) := by decide +kernel
theorem dX6_ifWeight_47 : decode cX6_ifWeight 47 = .ok (.ireturn, 1) := by decide +kernel
set_option maxRecDepth 20000 in
theorem ggX6_heaviest_X6_greatestWith : GoodIn wsX6_heaviest wsX6_greatestWith := goodIn_r _ [6, 1, 7, 8, 9, 5, 10, 11, 12, 13, 14, 15, 16, 17, 18, 19, 20, 21, 22, 23, 24, 25, 26, 27, 28, 29, 30, 31, 32, 33, 34, 35, 36, 37, 38, 39, 40, 41, 42, 43, 44, 45, 46] (by decide +kernel) (by decide +kernel)
set_option maxRecDepth 20000 in
theorem gX6_heaviest_X6_greatestWith : GoodIn wsX6_heaviest (wsV RX6 143 RX6 yX6_greatestWith wsX6_greatestWith) := goodIn_app (goodIn_of _ (by decide +kernel)) ggX6_heaviest_X6_greatestWith
theorem dX6_heaviest_0 : decode cX6_heaviest 0 = .ok (.bipush 99, 2) := by decide +kernel
theorem dX6_heaviest_2 : decode cX6_heaviest 2 = .ok (.istore_n 2, 1) := by decide +kernel
theorem dX6_heaviest_3 : decode cX6_heaviest 3 = .ok (.iload_n 2, 1) := by decide +kernel
theorem dX6_heaviest_4 : decode cX6_heaviest 4 = .ok (.ifCond .lt 29, 3) := by decide +kernel
theorem dX6_heaviest_7 : decode cX6_heaviest 7 = .ok (.aload_n 0, 1) := by decide +kernel
theorem dX6_heaviest_8 : decode cX6_heaviest 8 = .ok (.bipush 25, 2) := by decide +kernel
theorem dX6_heaviest_10 : decode cX6_heaviest 10 = .ok (.iload_n 1, 1) := by decide +kernel
theorem dX6_heaviest_11 : decode cX6_heaviest 11 = .ok (.iadd, 1) := by decide +kernel
theorem dX6_heaviest_12 : decode cX6_heaviest 12 = .ok (.iload_n 2, 1) := by decide +kernel
theorem dX6_heaviest_13 : decode cX6_heaviest 13 = .ok (.invokevirtual 143, 3) := by decide +kernel
theorem dX6_heaviest_16 : decode cX6_heaviest 16 = .ok (.aload_n 0, 1) := by decide +kernel
theorem dX6_heaviest_17 : decode cX6_heaviest 17 = .ok (.getfield 7, 3) := by decide +kernel
theorem dX6_heaviest_20 : decode cX6_heaviest 20 = .ok (.iconst 4, 1) := by decide +kernel
theorem dX6_heaviest_21 : decode cX6_heaviest 21 = .ok (.iaload, 1) := by decide +kernel
theorem dX6_heaviest_22 : decode cX6_heaviest 22 = .ok (.if_icmp .gt 5, 3) := by decide +kernel
theorem dX6_heaviest_25 : decode cX6_heaviest 25 = .ok (.iload_n 2, 1) := by decide +kernel
theorem dX6_heaviest_26 : decode cX6_heaviest 26 = .ok (.ireturn, 1) := by decide +kernel
theorem dX6_heaviest_27 : decode cX6_heaviest 27 = .ok (.iinc 2 (-1), 3) := by decide +kernel
theorem dX6_heaviest_30 : decode cX6_heaviest 30 = .ok (.goto (-27), 3) := by decide +kernel
theorem dX6_heaviest_33 : decode cX6_heaviest 33 = .ok (.iconst (-1), 1) := by decide +kernel
theorem dX6_heaviest_34 : decode cX6_heaviest 34 = .ok (.ireturn, 1) := by decide +kernel
set_option maxRecDepth 20000 in
theorem ggX6_mostWeight_X6_isJoint : GoodIn wsX6_mostWeight wsX6_isJoint := goodIn_r _ [5, 6, 7, 8, 4, 9, 46, 47, 48, 49, 50, 51, 52, 53, 54, 55, 56, 57, 58, 59, 60, 61, 62] (by decide +kernel) (by decide +kernel)
set_option maxRecDepth 20000 in
theorem gX6_mostWeight_X6_isJoint : GoodIn wsX6_mostWeight (wsV RX6 86 RX6 yX6_isJoint wsX6_isJoint) := goodIn_app (goodIn_of _ (by decide +kernel)) ggX6_mostWeight_X6_isJoint
set_option maxRecDepth 20000 in
theorem ggX6_mostWeight_X6_holds : GoodIn wsX6_mostWeight wsX6_holds := goodIn_r _ [13, 14, 46, 47, 48, 49, 50, 51, 52, 53, 54, 55, 56, 57, 58, 59, 60, 61, 62] (by decide +kernel) (by decide +kernel)
set_option maxRecDepth 20000 in
theorem gX6_mostWeight_X6_holds : GoodIn wsX6_mostWeight (wsV RX6 65 RX6 yX6_holds wsX6_holds) := goodIn_app (goodIn_of _ (by decide +kernel)) ggX6_mostWeight_X6_holds
set_option maxRecDepth 20000 in
theorem ggX6_mostWeight_X6_heaviest : GoodIn wsX6_mostWeight wsX6_heaviest := goodIn_r _ [18, 6, 19, 20, 21, 4, 22, 23, 24, 25, 26, 27, 28, 29, 30, 31, 32, 33, 34, 35, 36, 37, 38, 39, 40, 41, 42, 43, 44, 45, 46, 47, 48, 49, 50, 51, 52, 53, 54, 55, 56, 57, 58, 59, 60, 61, 62] (by decide +kernel) (by decide +kernel)
set_option maxRecDepth 20000 in
theorem gX6_mostWeight_X6_heaviest : GoodIn wsX6_mostWeight (wsV RX6 146 RX6 yX6_heaviest wsX6_heaviest) := goodIn_app (goodIn_of _ (by decide +kernel)) ggX6_mostWeight_X6_heaviest
theorem dX6_mostWeight_0 : decode cX6_mostWeight 0 = .ok (.aload_n 0, 1) := by decide +kernel
theorem dX6_mostWeight_1 : decode cX6_mostWeight 1 = .ok (.aload_n 0, 1) := by decide +kernel
theorem dX6_mostWeight_2 : decode cX6_mostWeight 2 = .ok (.iload_n 1, 1) := by decide +kernel
theorem dX6_mostWeight_3 : decode cX6_mostWeight 3 = .ok (.invokevirtual 86, 3) := by decide +kernel
theorem dX6_mostWeight_6 : decode cX6_mostWeight 6 = .ok (.ifCond .eq 7, 3) := by decide +kernel
theorem dX6_mostWeight_9 : decode cX6_mostWeight 9 = .ok (.iconst 0, 1) := by decide +kernel
theorem dX6_mostWeight_10 : decode cX6_mostWeight 10 = .ok (.goto 4, 3) := by decide +kernel
theorem dX6_mostWeight_13 : decode cX6_mostWeight 13 = .ok (.iconst 1, 1) := by decide +kernel
theorem dX6_mostWeight_14 : decode cX6_mostWeight 14 = .ok (.invokevirtual 65, 3) := by decide +kernel
theorem dX6_mostWeight_17 : decode cX6_mostWeight 17 = .ok (.ifCond .eq 11, 3) := by decide +kernel
theorem dX6_mostWeight_20 : decode cX6_mostWeight 20 = .ok (.aload_n 0, 1) := by decide +kernel
theorem dX6_mostWeight_21 : decode cX6_mostWeight 21 = .ok (.iload_n 1, 1) := by decide +kernel
theorem dX6_mostWeight_22 : decode cX6_mostWeight 22 = .ok (.invokevirtual 146, 3) := by decide +kernel
theorem dX6_mostWeight_25 : decode cX6_mostWeight 25 = .ok (.goto 4, 3) := by decide +kernel
theorem dX6_mostWeight_28 : decode cX6_mostWeight 28 = .ok (.iconst 0, 1) := by decide +kernel
theorem dX6_mostWeight_29 : decode cX6_mostWeight 29 = .ok (.ireturn, 1) := by decide +kernel
set_option maxRecDepth 20000 in
theorem ggX6_bestTo_X6_moves : GoodIn wsX6_bestTo wsX6_moves := goodIn_r _ [6, 1, 30, 31, 32, 33, 34, 35, 36, 37, 38, 39, 40, 41, 42, 43, 44, 45, 46] (by decide +kernel) (by decide +kernel)
set_option maxRecDepth 20000 in
theorem gX6_bestTo_X6_moves : GoodIn wsX6_bestTo (wsV RX6 93 RX6 yX6_moves wsX6_moves) := goodIn_app (goodIn_of _ (by decide +kernel)) ggX6_bestTo_X6_moves
set_option maxRecDepth 20000 in
theorem ggX6_bestTo_X6_greatest : GoodIn wsX6_bestTo wsX6_greatest := goodIn_r _ [10, 1, 11, 12, 13, 14, 5, 15, 16, 17, 18, 19, 20, 21, 22, 23, 24, 25, 26, 27, 28, 29, 30, 31, 32, 33, 34, 35, 36, 37, 38, 39, 40, 41, 42, 43, 44, 45, 46] (by decide +kernel) (by decide +kernel)
set_option maxRecDepth 20000 in
theorem gX6_bestTo_X6_greatest : GoodIn wsX6_bestTo (wsV RX6 130 RX6 yX6_greatest wsX6_greatest) := goodIn_app (goodIn_of _ (by decide +kernel)) ggX6_bestTo_X6_greatest
theorem dX6_bestTo_0 : decode cX6_bestTo 0 = .ok (.iconst (-1), 1) := by decide +kernel
theorem dX6_bestTo_1 : decode cX6_bestTo 1 = .ok (.istore_n 2, 1) := by decide +kernel
theorem dX6_bestTo_2 : decode cX6_bestTo 2 = .ok (.iconst 0, 1) := by decide +kernel
theorem dX6_bestTo_3 : decode cX6_bestTo 3 = .ok (.istore_n 3, 1) := by decide +kernel
theorem dX6_bestTo_4 : decode cX6_bestTo 4 = .ok (.iconst 0, 1) := by decide +kernel
theorem dX6_bestTo_5 : decode cX6_bestTo 5 = .ok (.istore 4, 2) := by decide +kernel
theorem dX6_bestTo_7 : decode cX6_bestTo 7 = .ok (.iload 4, 2) := by decide +kernel
theorem dX6_bestTo_9 : decode cX6_bestTo 9 = .ok (.aload_n 0, 1) := by decide +kernel
theorem dX6_bestTo_10 : decode cX6_bestTo 10 = .ok (.getfield 7, 3) := by decide +kernel
theorem dX6_bestTo_13 : decode cX6_bestTo 13 = .ok (.iconst 0, 1) := by decide +kernel
theorem dX6_bestTo_14 : decode cX6_bestTo 14 = .ok (.iaload, 1) := by decide +kernel
theorem dX6_bestTo_15 : decode cX6_bestTo 15 = .ok (.if_icmp .gt 113, 3) := by decide +kernel
theorem dX6_bestTo_18 : decode cX6_bestTo 18 = .ok (.aload_n 0, 1) := by decide +kernel
theorem dX6_bestTo_19 : decode cX6_bestTo 19 = .ok (.getfield 7, 3) := by decide +kernel
theorem dX6_bestTo_22 : decode cX6_bestTo 22 = .ok (.bipush 25, 2) := by decide +kernel
theorem dX6_bestTo_24 : decode cX6_bestTo 24 = .ok (.iload_n 1, 1) := by decide +kernel
theorem dX6_bestTo_25 : decode cX6_bestTo 25 = .ok (.iadd, 1) := by decide +kernel
theorem dX6_bestTo_26 : decode cX6_bestTo 26 = .ok (.iaload, 1) := by decide +kernel
theorem dX6_bestTo_27 : decode cX6_bestTo 27 = .ok (.ifCond .le 101, 3) := by decide +kernel
theorem dX6_bestTo_30 : decode cX6_bestTo 30 = .ok (.iload 4, 2) := by decide +kernel
theorem dX6_bestTo_32 : decode cX6_bestTo 32 = .ok (.iload_n 1, 1) := by decide +kernel
theorem dX6_bestTo_33 : decode cX6_bestTo 33 = .ok (.if_icmp .eq 89, 3) := by decide +kernel
theorem dX6_bestTo_36 : decode cX6_bestTo 36 = .ok (.aload_n 0, 1) := by decide +kernel
theorem dX6_bestTo_37 : decode cX6_bestTo 37 = .ok (.iload_n 1, 1) := by decide +kernel
theorem dX6_bestTo_38 : decode cX6_bestTo 38 = .ok (.iload 4, 2) := by decide +kernel
theorem dX6_bestTo_40 : decode cX6_bestTo 40 = .ok (.invokevirtual 93, 3) := by decide +kernel
theorem dX6_bestTo_43 : decode cX6_bestTo 43 = .ok (.istore 5, 2) := by decide +kernel
theorem dX6_bestTo_45 : decode cX6_bestTo 45 = .ok (.aload_n 0, 1) := by decide +kernel
theorem dX6_bestTo_46 : decode cX6_bestTo 46 = .ok (.invokevirtual 130, 3) := by decide +kernel
theorem dX6_bestTo_49 : decode cX6_bestTo 49 = .ok (.istore 6, 2) := by decide +kernel
theorem dX6_bestTo_51 : decode cX6_bestTo 51 = .ok (.aload_n 0, 1) := by decide +kernel
theorem dX6_bestTo_52 : decode cX6_bestTo 52 = .ok (.getfield 7, 3) := by decide +kernel
theorem dX6_bestTo_55 : decode cX6_bestTo 55 = .ok (.bipush 25, 2) := by decide +kernel
theorem dX6_bestTo_57 : decode cX6_bestTo 57 = .ok (.iload_n 1, 1) := by decide +kernel
theorem dX6_bestTo_58 : decode cX6_bestTo 58 = .ok (.iadd, 1) := by decide +kernel
theorem dX6_bestTo_59 : decode cX6_bestTo 59 = .ok (.dup2, 1) := by decide +kernel
theorem dX6_bestTo_60 : decode cX6_bestTo 60 = .ok (.iaload, 1) := by decide +kernel
theorem dX6_bestTo_61 : decode cX6_bestTo 61 = .ok (.iload 5, 2) := by decide +kernel
theorem dX6_bestTo_63 : decode cX6_bestTo 63 = .ok (.iadd, 1) := by decide +kernel
theorem dX6_bestTo_64 : decode cX6_bestTo 64 = .ok (.iastore, 1) := by decide +kernel
theorem dX6_bestTo_65 : decode cX6_bestTo 65 = .ok (.aload_n 0, 1) := by decide +kernel
theorem dX6_bestTo_66 : decode cX6_bestTo 66 = .ok (.getfield 7, 3) := by decide +kernel
theorem dX6_bestTo_69 : decode cX6_bestTo 69 = .ok (.bipush 25, 2) := by decide +kernel
theorem dX6_bestTo_71 : decode cX6_bestTo 71 = .ok (.iload 4, 2) := by decide +kernel
theorem dX6_bestTo_73 : decode cX6_bestTo 73 = .ok (.iadd, 1) := by decide +kernel
theorem dX6_bestTo_74 : decode cX6_bestTo 74 = .ok (.dup2, 1) := by decide +kernel
theorem dX6_bestTo_75 : decode cX6_bestTo 75 = .ok (.iaload, 1) := by decide +kernel
theorem dX6_bestTo_76 : decode cX6_bestTo 76 = .ok (.iload 5, 2) := by decide +kernel
theorem dX6_bestTo_78 : decode cX6_bestTo 78 = .ok (.isub, 1) := by decide +kernel
theorem dX6_bestTo_79 : decode cX6_bestTo 79 = .ok (.iastore, 1) := by decide +kernel
theorem dX6_bestTo_80 : decode cX6_bestTo 80 = .ok (.iload_n 2, 1) := by decide +kernel
theorem dX6_bestTo_81 : decode cX6_bestTo 81 = .ok (.iconst (-1), 1) := by decide +kernel
theorem dX6_bestTo_82 : decode cX6_bestTo 82 = .ok (.if_icmp .eq 9, 3) := by decide +kernel
theorem dX6_bestTo_85 : decode cX6_bestTo 85 = .ok (.iload 6, 2) := by decide +kernel
theorem dX6_bestTo_87 : decode cX6_bestTo 87 = .ok (.iload_n 3, 1) := by decide +kernel
theorem dX6_bestTo_88 : decode cX6_bestTo 88 = .ok (.if_icmp .ge 7, 3) := by decide +kernel
theorem dX6_bestTo_91 : decode cX6_bestTo 91 = .ok (.iconst 1, 1) := by decide +kernel
theorem dX6_bestTo_92 : decode cX6_bestTo 92 = .ok (.goto 4, 3) := by decide +kernel
theorem dX6_bestTo_95 : decode cX6_bestTo 95 = .ok (.iconst 0, 1) := by decide +kernel
theorem dX6_bestTo_96 : decode cX6_bestTo 96 = .ok (.istore 7, 2) := by decide +kernel
theorem dX6_bestTo_98 : decode cX6_bestTo 98 = .ok (.iload 7, 2) := by decide +kernel
theorem dX6_bestTo_100 : decode cX6_bestTo 100 = .ok (.ifCond .eq 8, 3) := by decide +kernel
theorem dX6_bestTo_103 : decode cX6_bestTo 103 = .ok (.iload 4, 2) := by decide +kernel
theorem dX6_bestTo_105 : decode cX6_bestTo 105 = .ok (.goto 4, 3) := by decide +kernel
theorem dX6_bestTo_108 : decode cX6_bestTo 108 = .ok (.iload_n 2, 1) := by decide +kernel
theorem dX6_bestTo_109 : decode cX6_bestTo 109 = .ok (.istore_n 2, 1) := by decide +kernel
theorem dX6_bestTo_110 : decode cX6_bestTo 110 = .ok (.iload 7, 2) := by decide +kernel
theorem dX6_bestTo_112 : decode cX6_bestTo 112 = .ok (.ifCond .eq 8, 3) := by decide +kernel
theorem dX6_bestTo_115 : decode cX6_bestTo 115 = .ok (.iload 6, 2) := by decide +kernel
theorem dX6_bestTo_117 : decode cX6_bestTo 117 = .ok (.goto 4, 3) := by decide +kernel
theorem dX6_bestTo_120 : decode cX6_bestTo 120 = .ok (.iload_n 3, 1) := by decide +kernel
theorem dX6_bestTo_121 : decode cX6_bestTo 121 = .ok (.istore_n 3, 1) := by decide +kernel
theorem dX6_bestTo_122 : decode cX6_bestTo 122 = .ok (.iinc 4 1, 3) := by decide +kernel
theorem dX6_bestTo_125 : decode cX6_bestTo 125 = .ok (.goto (-118), 3) := by decide +kernel
theorem dX6_bestTo_128 : decode cX6_bestTo 128 = .ok (.iload_n 2, 1) := by decide +kernel
theorem dX6_bestTo_129 : decode cX6_bestTo 129 = .ok (.ireturn, 1) := by decide +kernel
set_option maxRecDepth 20000 in
theorem ggX6_bestMove_X6_isJoint : GoodIn wsX6_bestMove wsX6_isJoint := goodIn_r _ [5, 6, 7, 8, 4, 9, 46, 47, 48, 49, 50, 51, 52, 53, 54, 55, 56, 57, 58, 59, 60, 61, 62] (by decide +kernel) (by decide +kernel)
set_option maxRecDepth 20000 in
theorem gX6_bestMove_X6_isJoint : GoodIn wsX6_bestMove (wsV RX6 86 RX6 yX6_isJoint wsX6_isJoint) := goodIn_app (goodIn_of _ (by decide +kernel)) ggX6_bestMove_X6_isJoint
set_option maxRecDepth 20000 in
theorem ggX6_bestMove_X6_holds : GoodIn wsX6_bestMove wsX6_holds := goodIn_r _ [13, 14, 46, 47, 48, 49, 50, 51, 52, 53, 54, 55, 56, 57, 58, 59, 60, 61, 62] (by decide +kernel) (by decide +kernel)
set_option maxRecDepth 20000 in
theorem gX6_bestMove_X6_holds : GoodIn wsX6_bestMove (wsV RX6 65 RX6 yX6_holds wsX6_holds) := goodIn_app (goodIn_of _ (by decide +kernel)) ggX6_bestMove_X6_holds
set_option maxRecDepth 20000 in
theorem ggX6_bestMove_X6_bestTo : GoodIn wsX6_bestMove wsX6_bestTo := goodIn_r _ [18, 6, 19, 20, 21, 4, 22, 23, 24, 25, 26, 27, 28, 29, 30, 31, 32, 33, 34, 35, 36, 37, 38, 39, 40, 41, 42, 43, 44, 45, 46, 47, 48, 49, 50, 51, 52, 53, 54, 55, 56, 57, 58, 59, 60, 61, 62] (by decide +kernel) (by decide +kernel)
set_option maxRecDepth 20000 in
theorem gX6_bestMove_X6_bestTo : GoodIn wsX6_bestMove (wsV RX6 149 RX6 yX6_bestTo wsX6_bestTo) := goodIn_app (goodIn_of _ (by decide +kernel)) ggX6_bestMove_X6_bestTo
theorem dX6_bestMove_0 : decode cX6_bestMove 0 = .ok (.aload_n 0, 1) := by decide +kernel
theorem dX6_bestMove_1 : decode cX6_bestMove 1 = .ok (.aload_n 0, 1) := by decide +kernel
theorem dX6_bestMove_2 : decode cX6_bestMove 2 = .ok (.iload_n 1, 1) := by decide +kernel
theorem dX6_bestMove_3 : decode cX6_bestMove 3 = .ok (.invokevirtual 86, 3) := by decide +kernel
theorem dX6_bestMove_6 : decode cX6_bestMove 6 = .ok (.ifCond .eq 7, 3) := by decide +kernel
theorem dX6_bestMove_9 : decode cX6_bestMove 9 = .ok (.iconst 0, 1) := by decide +kernel
theorem dX6_bestMove_10 : decode cX6_bestMove 10 = .ok (.goto 4, 3) := by decide +kernel
theorem dX6_bestMove_13 : decode cX6_bestMove 13 = .ok (.iconst 1, 1) := by decide +kernel
theorem dX6_bestMove_14 : decode cX6_bestMove 14 = .ok (.invokevirtual 65, 3) := by decide +kernel
theorem dX6_bestMove_17 : decode cX6_bestMove 17 = .ok (.ifCond .eq 11, 3) := by decide +kernel
theorem dX6_bestMove_20 : decode cX6_bestMove 20 = .ok (.aload_n 0, 1) := by decide +kernel
theorem dX6_bestMove_21 : decode cX6_bestMove 21 = .ok (.iload_n 1, 1) := by decide +kernel
theorem dX6_bestMove_22 : decode cX6_bestMove 22 = .ok (.invokevirtual 149, 3) := by decide +kernel
theorem dX6_bestMove_25 : decode cX6_bestMove 25 = .ok (.goto 4, 3) := by decide +kernel
theorem dX6_bestMove_28 : decode cX6_bestMove 28 = .ok (.iconst 0, 1) := by decide +kernel
theorem dX6_bestMove_29 : decode cX6_bestMove 29 = .ok (.ireturn, 1) := by decide +kernel
set_option maxRecDepth 20000 in
theorem ggX6_bestHung_X6_greatestWith : GoodIn wsX6_bestHung wsX6_greatestWith := goodIn_r _ [6, 1, 7, 8, 9, 5, 10, 11, 12, 13, 14, 15, 16, 17, 18, 19, 20, 21, 22, 23, 24, 25, 26, 27, 28, 29, 30, 31, 32, 33, 34, 35, 36, 37, 38, 39, 40, 41, 42, 43, 44, 45, 46] (by decide +kernel) (by decide +kernel)
set_option maxRecDepth 20000 in
theorem gX6_bestHung_X6_greatestWith : GoodIn wsX6_bestHung (wsV RX6 143 RX6 yX6_greatestWith wsX6_greatestWith) := goodIn_app (goodIn_of _ (by decide +kernel)) ggX6_bestHung_X6_greatestWith
theorem dX6_bestHung_0 : decode cX6_bestHung 0 = .ok (.iconst (-1), 1) := by decide +kernel
theorem dX6_bestHung_1 : decode cX6_bestHung 1 = .ok (.istore_n 2, 1) := by decide +kernel
theorem dX6_bestHung_2 : decode cX6_bestHung 2 = .ok (.iconst 0, 1) := by decide +kernel
theorem dX6_bestHung_3 : decode cX6_bestHung 3 = .ok (.istore_n 3, 1) := by decide +kernel
theorem dX6_bestHung_4 : decode cX6_bestHung 4 = .ok (.iconst 1, 1) := by decide +kernel
theorem dX6_bestHung_5 : decode cX6_bestHung 5 = .ok (.istore 4, 2) := by decide +kernel
theorem dX6_bestHung_7 : decode cX6_bestHung 7 = .ok (.iload 4, 2) := by decide +kernel
theorem dX6_bestHung_9 : decode cX6_bestHung 9 = .ok (.aload_n 0, 1) := by decide +kernel
theorem dX6_bestHung_10 : decode cX6_bestHung 10 = .ok (.getfield 7, 3) := by decide +kernel
theorem dX6_bestHung_13 : decode cX6_bestHung 13 = .ok (.iconst 0, 1) := by decide +kernel
theorem dX6_bestHung_14 : decode cX6_bestHung 14 = .ok (.iaload, 1) := by decide +kernel
theorem dX6_bestHung_15 : decode cX6_bestHung 15 = .ok (.if_icmp .ge 90, 3) := by decide +kernel
theorem dX6_bestHung_18 : decode cX6_bestHung 18 = .ok (.aload_n 0, 1) := by decide +kernel
theorem dX6_bestHung_19 : decode cX6_bestHung 19 = .ok (.getfield 7, 3) := by decide +kernel
theorem dX6_bestHung_22 : decode cX6_bestHung 22 = .ok (.bipush 46, 2) := by decide +kernel
theorem dX6_bestHung_24 : decode cX6_bestHung 24 = .ok (.iload 4, 2) := by decide +kernel
theorem dX6_bestHung_26 : decode cX6_bestHung 26 = .ok (.iadd, 1) := by decide +kernel
theorem dX6_bestHung_27 : decode cX6_bestHung 27 = .ok (.iaload, 1) := by decide +kernel
theorem dX6_bestHung_28 : decode cX6_bestHung 28 = .ok (.iload_n 1, 1) := by decide +kernel
theorem dX6_bestHung_29 : decode cX6_bestHung 29 = .ok (.iadd, 1) := by decide +kernel
theorem dX6_bestHung_30 : decode cX6_bestHung 30 = .ok (.istore 5, 2) := by decide +kernel
theorem dX6_bestHung_32 : decode cX6_bestHung 32 = .ok (.aload_n 0, 1) := by decide +kernel
theorem dX6_bestHung_33 : decode cX6_bestHung 33 = .ok (.bipush 46, 2) := by decide +kernel
theorem dX6_bestHung_35 : decode cX6_bestHung 35 = .ok (.iload 4, 2) := by decide +kernel
theorem dX6_bestHung_37 : decode cX6_bestHung 37 = .ok (.iadd, 1) := by decide +kernel
theorem dX6_bestHung_38 : decode cX6_bestHung 38 = .ok (.iload 5, 2) := by decide +kernel
theorem dX6_bestHung_40 : decode cX6_bestHung 40 = .ok (.bipush 99, 2) := by decide +kernel
theorem dX6_bestHung_42 : decode cX6_bestHung 42 = .ok (.if_icmp .le 8, 3) := by decide +kernel
theorem dX6_bestHung_45 : decode cX6_bestHung 45 = .ok (.bipush 99, 2) := by decide +kernel
theorem dX6_bestHung_47 : decode cX6_bestHung 47 = .ok (.goto 5, 3) := by decide +kernel
theorem dX6_bestHung_50 : decode cX6_bestHung 50 = .ok (.iload 5, 2) := by decide +kernel
theorem dX6_bestHung_52 : decode cX6_bestHung 52 = .ok (.invokevirtual 143, 3) := by decide +kernel
theorem dX6_bestHung_55 : decode cX6_bestHung 55 = .ok (.istore 6, 2) := by decide +kernel
theorem dX6_bestHung_57 : decode cX6_bestHung 57 = .ok (.iload_n 2, 1) := by decide +kernel
theorem dX6_bestHung_58 : decode cX6_bestHung 58 = .ok (.iconst (-1), 1) := by decide +kernel
theorem dX6_bestHung_59 : decode cX6_bestHung 59 = .ok (.if_icmp .eq 9, 3) := by decide +kernel
theorem dX6_bestHung_62 : decode cX6_bestHung 62 = .ok (.iload 6, 2) := by decide +kernel
theorem dX6_bestHung_64 : decode cX6_bestHung 64 = .ok (.iload_n 3, 1) := by decide +kernel
theorem dX6_bestHung_65 : decode cX6_bestHung 65 = .ok (.if_icmp .ge 7, 3) := by decide +kernel
theorem dX6_bestHung_68 : decode cX6_bestHung 68 = .ok (.iconst 1, 1) := by decide +kernel
theorem dX6_bestHung_69 : decode cX6_bestHung 69 = .ok (.goto 4, 3) := by decide +kernel
theorem dX6_bestHung_72 : decode cX6_bestHung 72 = .ok (.iconst 0, 1) := by decide +kernel
theorem dX6_bestHung_73 : decode cX6_bestHung 73 = .ok (.istore 7, 2) := by decide +kernel
theorem dX6_bestHung_75 : decode cX6_bestHung 75 = .ok (.iload 7, 2) := by decide +kernel
theorem dX6_bestHung_77 : decode cX6_bestHung 77 = .ok (.ifCond .eq 8, 3) := by decide +kernel
theorem dX6_bestHung_80 : decode cX6_bestHung 80 = .ok (.iload 4, 2) := by decide +kernel
theorem dX6_bestHung_82 : decode cX6_bestHung 82 = .ok (.goto 4, 3) := by decide +kernel
theorem dX6_bestHung_85 : decode cX6_bestHung 85 = .ok (.iload_n 2, 1) := by decide +kernel
theorem dX6_bestHung_86 : decode cX6_bestHung 86 = .ok (.istore_n 2, 1) := by decide +kernel
theorem dX6_bestHung_87 : decode cX6_bestHung 87 = .ok (.iload 7, 2) := by decide +kernel
theorem dX6_bestHung_89 : decode cX6_bestHung 89 = .ok (.ifCond .eq 8, 3) := by decide +kernel
theorem dX6_bestHung_92 : decode cX6_bestHung 92 = .ok (.iload 6, 2) := by decide +kernel
theorem dX6_bestHung_94 : decode cX6_bestHung 94 = .ok (.goto 4, 3) := by decide +kernel
theorem dX6_bestHung_97 : decode cX6_bestHung 97 = .ok (.iload_n 3, 1) := by decide +kernel
theorem dX6_bestHung_98 : decode cX6_bestHung 98 = .ok (.istore_n 3, 1) := by decide +kernel
theorem dX6_bestHung_99 : decode cX6_bestHung 99 = .ok (.iinc 4 1, 3) := by decide +kernel
theorem dX6_bestHung_102 : decode cX6_bestHung 102 = .ok (.goto (-95), 3) := by decide +kernel
theorem dX6_bestHung_105 : decode cX6_bestHung 105 = .ok (.iload_n 2, 1) := by decide +kernel
theorem dX6_bestHung_106 : decode cX6_bestHung 106 = .ok (.ireturn, 1) := by decide +kernel
set_option maxRecDepth 20000 in
theorem ggX6_bestHanger_X6_in : GoodIn wsX6_bestHanger wsX6_in := goodIn_r _ [4] (by decide +kernel) (by decide +kernel)
set_option maxRecDepth 20000 in
theorem gX6_bestHanger_X6_in : GoodIn wsX6_bestHanger (va_wsS RX6 41 yX6_in wsX6_in) := goodIn_app (goodIn_of _ (by decide +kernel)) ggX6_bestHanger_X6_in
set_option maxRecDepth 20000 in
theorem ggX6_bestHanger_X6_holds : GoodIn wsX6_bestHanger wsX6_holds := goodIn_r _ [8, 9, 42, 43, 44, 45, 46, 47, 48, 49, 50, 51, 52, 53, 54, 55, 56, 57, 58] (by decide +kernel) (by decide +kernel)
set_option maxRecDepth 20000 in
theorem gX6_bestHanger_X6_holds : GoodIn wsX6_bestHanger (wsV RX6 65 RX6 yX6_holds wsX6_holds) := goodIn_app (goodIn_of _ (by decide +kernel)) ggX6_bestHanger_X6_holds
set_option maxRecDepth 20000 in
theorem ggX6_bestHanger_X6_bestHung : GoodIn wsX6_bestHanger wsX6_bestHung := goodIn_r _ [13, 14, 15, 16, 17, 3, 18, 19, 20, 21, 22, 23, 24, 25, 26, 27, 28, 29, 30, 31, 32, 33, 34, 35, 36, 37, 38, 39, 40, 41, 42, 43, 44, 45, 46, 47, 48, 49, 50, 51, 52, 53, 54, 55, 56, 57, 58] (by decide +kernel) (by decide +kernel)
set_option maxRecDepth 20000 in
theorem gX6_bestHanger_X6_bestHung : GoodIn wsX6_bestHanger (wsV RX6 152 RX6 yX6_bestHung wsX6_bestHung) := goodIn_app (goodIn_of _ (by decide +kernel)) ggX6_bestHanger_X6_bestHung
theorem dX6_bestHanger_0 : decode cX6_bestHanger 0 = .ok (.aload_n 0, 1) := by decide +kernel
theorem dX6_bestHanger_1 : decode cX6_bestHanger 1 = .ok (.iload_n 1, 1) := by decide +kernel
theorem dX6_bestHanger_2 : decode cX6_bestHanger 2 = .ok (.iconst 0, 1) := by decide +kernel
theorem dX6_bestHanger_3 : decode cX6_bestHanger 3 = .ok (.bipush 99, 2) := by decide +kernel
theorem dX6_bestHanger_5 : decode cX6_bestHanger 5 = .ok (.invokestatic 41, 3) := by decide +kernel
theorem dX6_bestHanger_8 : decode cX6_bestHanger 8 = .ok (.ifCond .eq 7, 3) := by decide +kernel
theorem dX6_bestHanger_11 : decode cX6_bestHanger 11 = .ok (.iconst 0, 1) := by decide +kernel
theorem dX6_bestHanger_12 : decode cX6_bestHanger 12 = .ok (.goto 4, 3) := by decide +kernel
theorem dX6_bestHanger_15 : decode cX6_bestHanger 15 = .ok (.iconst 1, 1) := by decide +kernel
theorem dX6_bestHanger_16 : decode cX6_bestHanger 16 = .ok (.invokevirtual 65, 3) := by decide +kernel
theorem dX6_bestHanger_19 : decode cX6_bestHanger 19 = .ok (.ifCond .eq 11, 3) := by decide +kernel
theorem dX6_bestHanger_22 : decode cX6_bestHanger 22 = .ok (.aload_n 0, 1) := by decide +kernel
theorem dX6_bestHanger_23 : decode cX6_bestHanger 23 = .ok (.iload_n 1, 1) := by decide +kernel
theorem dX6_bestHanger_24 : decode cX6_bestHanger 24 = .ok (.invokevirtual 152, 3) := by decide +kernel
theorem dX6_bestHanger_27 : decode cX6_bestHanger 27 = .ok (.goto 4, 3) := by decide +kernel
theorem dX6_bestHanger_30 : decode cX6_bestHanger 30 = .ok (.iconst 0, 1) := by decide +kernel
theorem dX6_bestHanger_31 : decode cX6_bestHanger 31 = .ok (.ireturn, 1) := by decide +kernel
set_option maxRecDepth 20000 in
theorem ggX6_calmest_X6_greatestWith : GoodIn wsX6_calmest wsX6_greatestWith := goodIn_r _ [5, 6, 7, 8, 9, 4, 10, 11, 12, 13, 14, 15, 16, 17, 18, 19, 20, 21, 22, 23, 24, 25, 26, 27, 28, 29, 30, 31, 32, 33, 34, 35, 36, 37, 38, 39, 40, 41, 42, 43, 44, 45, 46] (by decide +kernel) (by decide +kernel)
set_option maxRecDepth 20000 in
theorem gX6_calmest_X6_greatestWith : GoodIn wsX6_calmest (wsV RX6 143 RX6 yX6_greatestWith wsX6_greatestWith) := goodIn_app (goodIn_of _ (by decide +kernel)) ggX6_calmest_X6_greatestWith
theorem dX6_calmest_0 : decode cX6_calmest 0 = .ok (.bipush (-3), 2) := by decide +kernel
theorem dX6_calmest_2 : decode cX6_calmest 2 = .ok (.istore_n 2, 1) := by decide +kernel
theorem dX6_calmest_3 : decode cX6_calmest 3 = .ok (.iconst 0, 1) := by decide +kernel
theorem dX6_calmest_4 : decode cX6_calmest 4 = .ok (.istore_n 3, 1) := by decide +kernel
theorem dX6_calmest_5 : decode cX6_calmest 5 = .ok (.bipush (-2), 2) := by decide +kernel
theorem dX6_calmest_7 : decode cX6_calmest 7 = .ok (.istore 4, 2) := by decide +kernel
theorem dX6_calmest_9 : decode cX6_calmest 9 = .ok (.iload 4, 2) := by decide +kernel
theorem dX6_calmest_11 : decode cX6_calmest 11 = .ok (.iconst 2, 1) := by decide +kernel
theorem dX6_calmest_12 : decode cX6_calmest 12 = .ok (.if_icmp .gt 63, 3) := by decide +kernel
theorem dX6_calmest_15 : decode cX6_calmest 15 = .ok (.aload_n 0, 1) := by decide +kernel
theorem dX6_calmest_16 : decode cX6_calmest 16 = .ok (.iconst 5, 1) := by decide +kernel
theorem dX6_calmest_17 : decode cX6_calmest 17 = .ok (.iload_n 1, 1) := by decide +kernel
theorem dX6_calmest_18 : decode cX6_calmest 18 = .ok (.iadd, 1) := by decide +kernel
theorem dX6_calmest_19 : decode cX6_calmest 19 = .ok (.iload 4, 2) := by decide +kernel
theorem dX6_calmest_21 : decode cX6_calmest 21 = .ok (.invokevirtual 143, 3) := by decide +kernel
theorem dX6_calmest_24 : decode cX6_calmest 24 = .ok (.istore 5, 2) := by decide +kernel
theorem dX6_calmest_26 : decode cX6_calmest 26 = .ok (.iload_n 2, 1) := by decide +kernel
theorem dX6_calmest_27 : decode cX6_calmest 27 = .ok (.bipush (-3), 2) := by decide +kernel
theorem dX6_calmest_29 : decode cX6_calmest 29 = .ok (.if_icmp .eq 9, 3) := by decide +kernel
theorem dX6_calmest_32 : decode cX6_calmest 32 = .ok (.iload 5, 2) := by decide +kernel
theorem dX6_calmest_34 : decode cX6_calmest 34 = .ok (.iload_n 3, 1) := by decide +kernel
theorem dX6_calmest_35 : decode cX6_calmest 35 = .ok (.if_icmp .ge 7, 3) := by decide +kernel
theorem dX6_calmest_38 : decode cX6_calmest 38 = .ok (.iconst 1, 1) := by decide +kernel
theorem dX6_calmest_39 : decode cX6_calmest 39 = .ok (.goto 4, 3) := by decide +kernel
theorem dX6_calmest_42 : decode cX6_calmest 42 = .ok (.iconst 0, 1) := by decide +kernel
theorem dX6_calmest_43 : decode cX6_calmest 43 = .ok (.istore 6, 2) := by decide +kernel
theorem dX6_calmest_45 : decode cX6_calmest 45 = .ok (.iload 6, 2) := by decide +kernel
theorem dX6_calmest_47 : decode cX6_calmest 47 = .ok (.ifCond .eq 8, 3) := by decide +kernel
theorem dX6_calmest_50 : decode cX6_calmest 50 = .ok (.iload 4, 2) := by decide +kernel
theorem dX6_calmest_52 : decode cX6_calmest 52 = .ok (.goto 4, 3) := by decide +kernel
theorem dX6_calmest_55 : decode cX6_calmest 55 = .ok (.iload_n 2, 1) := by decide +kernel
theorem dX6_calmest_56 : decode cX6_calmest 56 = .ok (.istore_n 2, 1) := by decide +kernel
theorem dX6_calmest_57 : decode cX6_calmest 57 = .ok (.iload 6, 2) := by decide +kernel
theorem dX6_calmest_59 : decode cX6_calmest 59 = .ok (.ifCond .eq 8, 3) := by decide +kernel
theorem dX6_calmest_62 : decode cX6_calmest 62 = .ok (.iload 5, 2) := by decide +kernel
theorem dX6_calmest_64 : decode cX6_calmest 64 = .ok (.goto 4, 3) := by decide +kernel
theorem dX6_calmest_67 : decode cX6_calmest 67 = .ok (.iload_n 3, 1) := by decide +kernel
theorem dX6_calmest_68 : decode cX6_calmest 68 = .ok (.istore_n 3, 1) := by decide +kernel
theorem dX6_calmest_69 : decode cX6_calmest 69 = .ok (.iinc 4 1, 3) := by decide +kernel
theorem dX6_calmest_72 : decode cX6_calmest 72 = .ok (.goto (-63), 3) := by decide +kernel
theorem dX6_calmest_75 : decode cX6_calmest 75 = .ok (.iload_n 2, 1) := by decide +kernel
theorem dX6_calmest_76 : decode cX6_calmest 76 = .ok (.iconst 2, 1) := by decide +kernel
theorem dX6_calmest_77 : decode cX6_calmest 77 = .ok (.iadd, 1) := by decide +kernel
theorem dX6_calmest_78 : decode cX6_calmest 78 = .ok (.ireturn, 1) := by decide +kernel
set_option maxRecDepth 20000 in
theorem ggX6_bestStep_X6_isLink : GoodIn wsX6_bestStep wsX6_isLink := goodIn_r _ [5, 6, 7, 8, 4, 9, 46, 47, 48, 49, 50, 51, 52, 53, 54, 55, 56, 57, 58, 59, 60, 61, 62] (by decide +kernel) (by decide +kernel)
set_option maxRecDepth 20000 in
theorem gX6_bestStep_X6_isLink : GoodIn wsX6_bestStep (wsV RX6 75 RX6 yX6_isLink wsX6_isLink) := goodIn_app (goodIn_of _ (by decide +kernel)) ggX6_bestStep_X6_isLink
set_option maxRecDepth 20000 in
theorem ggX6_bestStep_X6_holds : GoodIn wsX6_bestStep wsX6_holds := goodIn_r _ [13, 14, 46, 47, 48, 49, 50, 51, 52, 53, 54, 55, 56, 57, 58, 59, 60, 61, 62] (by decide +kernel) (by decide +kernel)
set_option maxRecDepth 20000 in
theorem gX6_bestStep_X6_holds : GoodIn wsX6_bestStep (wsV RX6 65 RX6 yX6_holds wsX6_holds) := goodIn_app (goodIn_of _ (by decide +kernel)) ggX6_bestStep_X6_holds
set_option maxRecDepth 20000 in
theorem ggX6_bestStep_X6_calmest : GoodIn wsX6_bestStep wsX6_calmest := goodIn_r _ [18, 19, 20, 21, 4, 22, 6, 23, 24, 25, 26, 27, 28, 29, 30, 31, 32, 33, 34, 35, 36, 37, 38, 39, 40, 41, 42, 43, 44, 45, 46, 47, 48, 49, 50, 51, 52, 53, 54, 55, 56, 57, 58, 59, 60, 61, 62] (by decide +kernel) (by decide +kernel)
set_option maxRecDepth 20000 in
theorem gX6_bestStep_X6_calmest : GoodIn wsX6_bestStep (wsV RX6 155 RX6 yX6_calmest wsX6_calmest) := goodIn_app (goodIn_of _ (by decide +kernel)) ggX6_bestStep_X6_calmest
theorem dX6_bestStep_0 : decode cX6_bestStep 0 = .ok (.aload_n 0, 1) := by decide +kernel
theorem dX6_bestStep_1 : decode cX6_bestStep 1 = .ok (.aload_n 0, 1) := by decide +kernel
theorem dX6_bestStep_2 : decode cX6_bestStep 2 = .ok (.iload_n 1, 1) := by decide +kernel
theorem dX6_bestStep_3 : decode cX6_bestStep 3 = .ok (.invokevirtual 75, 3) := by decide +kernel
theorem dX6_bestStep_6 : decode cX6_bestStep 6 = .ok (.ifCond .eq 7, 3) := by decide +kernel
theorem dX6_bestStep_9 : decode cX6_bestStep 9 = .ok (.iconst 0, 1) := by decide +kernel
theorem dX6_bestStep_10 : decode cX6_bestStep 10 = .ok (.goto 4, 3) := by decide +kernel
theorem dX6_bestStep_13 : decode cX6_bestStep 13 = .ok (.iconst 1, 1) := by decide +kernel
theorem dX6_bestStep_14 : decode cX6_bestStep 14 = .ok (.invokevirtual 65, 3) := by decide +kernel
theorem dX6_bestStep_17 : decode cX6_bestStep 17 = .ok (.ifCond .eq 11, 3) := by decide +kernel
theorem dX6_bestStep_20 : decode cX6_bestStep 20 = .ok (.aload_n 0, 1) := by decide +kernel
theorem dX6_bestStep_21 : decode cX6_bestStep 21 = .ok (.iload_n 1, 1) := by decide +kernel
theorem dX6_bestStep_22 : decode cX6_bestStep 22 = .ok (.invokevirtual 155, 3) := by decide +kernel
theorem dX6_bestStep_25 : decode cX6_bestStep 25 = .ok (.goto 4, 3) := by decide +kernel
theorem dX6_bestStep_28 : decode cX6_bestStep 28 = .ok (.iconst 0, 1) := by decide +kernel
theorem dX6_bestStep_29 : decode cX6_bestStep 29 = .ok (.ireturn, 1) := by decide +kernel
set_option maxRecDepth 20000 in
theorem ggX6_even_X6_lay : GoodIn wsX6_even wsX6_lay := goodIn_r _ [7, 8, 1, 2, 9, 10, 11, 12, 13, 14, 6, 15, 16, 17, 18, 19, 20, 21, 22, 23, 24, 25, 26, 27, 28, 29, 30, 31, 32, 33, 34, 35, 36, 37, 38] (by decide +kernel) (by decide +kernel)
set_option maxRecDepth 20000 in
theorem gX6_even_X6_lay : GoodIn wsX6_even (wsV RX6 62 RX6 yX6_lay wsX6_lay) := goodIn_app (goodIn_of _ (by decide +kernel)) ggX6_even_X6_lay
theorem dX6_even_0 : decode cX6_even 0 = .ok (.aload_n 0, 1) := by decide +kernel
theorem dX6_even_1 : decode cX6_even 1 = .ok (.invokevirtual 62, 3) := by decide +kernel
theorem dX6_even_4 : decode cX6_even 4 = .ok (.aload_n 0, 1) := by decide +kernel
theorem dX6_even_5 : decode cX6_even 5 = .ok (.getfield 48, 3) := by decide +kernel
theorem dX6_even_8 : decode cX6_even 8 = .ok (.aload_n 0, 1) := by decide +kernel
theorem dX6_even_9 : decode cX6_even 9 = .ok (.getfield 51, 3) := by decide +kernel
theorem dX6_even_12 : decode cX6_even 12 = .ok (.if_icmp .ge 10, 3) := by decide +kernel
theorem dX6_even_15 : decode cX6_even 15 = .ok (.aload_n 0, 1) := by decide +kernel
theorem dX6_even_16 : decode cX6_even 16 = .ok (.getfield 48, 3) := by decide +kernel
theorem dX6_even_19 : decode cX6_even 19 = .ok (.goto 7, 3) := by decide +kernel
theorem dX6_even_22 : decode cX6_even 22 = .ok (.aload_n 0, 1) := by decide +kernel
theorem dX6_even_23 : decode cX6_even 23 = .ok (.getfield 51, 3) := by decide +kernel
theorem dX6_even_26 : decode cX6_even 26 = .ok (.istore_n 1, 1) := by decide +kernel
theorem dX6_even_27 : decode cX6_even 27 = .ok (.aload_n 0, 1) := by decide +kernel
theorem dX6_even_28 : decode cX6_even 28 = .ok (.getfield 48, 3) := by decide +kernel
theorem dX6_even_31 : decode cX6_even 31 = .ok (.aload_n 0, 1) := by decide +kernel
theorem dX6_even_32 : decode cX6_even 32 = .ok (.getfield 51, 3) := by decide +kernel
theorem dX6_even_35 : decode cX6_even 35 = .ok (.if_icmp .ge 10, 3) := by decide +kernel
theorem dX6_even_38 : decode cX6_even 38 = .ok (.aload_n 0, 1) := by decide +kernel
theorem dX6_even_39 : decode cX6_even 39 = .ok (.getfield 51, 3) := by decide +kernel
theorem dX6_even_42 : decode cX6_even 42 = .ok (.goto 7, 3) := by decide +kernel
theorem dX6_even_45 : decode cX6_even 45 = .ok (.aload_n 0, 1) := by decide +kernel
theorem dX6_even_46 : decode cX6_even 46 = .ok (.getfield 48, 3) := by decide +kernel
theorem dX6_even_49 : decode cX6_even 49 = .ok (.istore_n 2, 1) := by decide +kernel
theorem dX6_even_50 : decode cX6_even 50 = .ok (.iload_n 2, 1) := by decide +kernel
theorem dX6_even_51 : decode cX6_even 51 = .ok (.ifCond .ne 7, 3) := by decide +kernel
theorem dX6_even_54 : decode cX6_even 54 = .ok (.dconst 1, 1) := by decide +kernel
theorem dX6_even_55 : decode cX6_even 55 = .ok (.goto 8, 3) := by decide +kernel
theorem dX6_even_58 : decode cX6_even 58 = .ok (.iload_n 1, 1) := by decide +kernel
theorem dX6_even_59 : decode cX6_even 59 = .ok (.i2d, 1) := by decide +kernel
theorem dX6_even_60 : decode cX6_even 60 = .ok (.iload_n 2, 1) := by decide +kernel
theorem dX6_even_61 : decode cX6_even 61 = .ok (.i2d, 1) := by decide +kernel
theorem dX6_even_62 : decode cX6_even 62 = .ok (.ddiv, 1) := by decide +kernel
theorem dX6_even_63 : decode cX6_even 63 = .ok (.dreturn, 1) := by decide +kernel
set_option maxRecDepth 20000 in
theorem ggX6_evenness_X6_even : GoodIn wsX6_evenness wsX6_even := goodIn_r _ [6, 7, 8, 9, 10, 11, 5, 12, 13, 14, 15, 16, 17, 18, 19, 20, 21, 22, 23, 24, 25, 26, 27, 28, 29, 30, 31, 32, 33, 34, 35, 36, 37, 38, 39, 40, 41, 42, 43] (by decide +kernel) (by decide +kernel)
set_option maxRecDepth 20000 in
theorem gX6_evenness_X6_even : GoodIn wsX6_evenness (wsV RX6 158 RX6 yX6_even wsX6_even) := goodIn_app (goodIn_of _ (by decide +kernel)) ggX6_evenness_X6_even
theorem dX6_evenness_0 : decode cX6_evenness 0 = .ok (.aload_n 0, 1) := by decide +kernel
theorem dX6_evenness_1 : decode cX6_evenness 1 = .ok (.iconst 0, 1) := by decide +kernel
theorem dX6_evenness_2 : decode cX6_evenness 2 = .ok (.putfield 37, 3) := by decide +kernel
theorem dX6_evenness_5 : decode cX6_evenness 5 = .ok (.aload_n 0, 1) := by decide +kernel
theorem dX6_evenness_6 : decode cX6_evenness 6 = .ok (.invokevirtual 158, 3) := by decide +kernel
theorem dX6_evenness_9 : decode cX6_evenness 9 = .ok (.dreturn, 1) := by decide +kernel
theorem dX6_bitsOf_0 : decode cX6_bitsOf 0 = .ok (.dload_n 0, 1) := by decide +kernel
theorem dX6_bitsOf_1 : decode cX6_bitsOf 1 = .ok (.dconst 0, 1) := by decide +kernel
theorem dX6_bitsOf_2 : decode cX6_bitsOf 2 = .ok (.dcmp .l, 1) := by decide +kernel
theorem dX6_bitsOf_3 : decode cX6_bitsOf 3 = .ok (.ifCond .ne 5, 3) := by decide +kernel
theorem dX6_bitsOf_6 : decode cX6_bitsOf 6 = .ok (.lconst 0, 1) := by decide +kernel
theorem dX6_bitsOf_7 : decode cX6_bitsOf 7 = .ok (.lreturn, 1) := by decide +kernel
theorem dX6_bitsOf_8 : decode cX6_bitsOf 8 = .ok (.ldc2_w 162, 3) := by decide +kernel
theorem dX6_bitsOf_11 : decode cX6_bitsOf 11 = .ok (.lstore_n 2, 1) := by decide +kernel
theorem dX6_bitsOf_12 : decode cX6_bitsOf 12 = .ok (.dload_n 0, 1) := by decide +kernel
theorem dX6_bitsOf_13 : decode cX6_bitsOf 13 = .ok (.dstore 4, 2) := by decide +kernel
theorem dX6_bitsOf_15 : decode cX6_bitsOf 15 = .ok (.dload 4, 2) := by decide +kernel
theorem dX6_bitsOf_17 : decode cX6_bitsOf 17 = .ok (.dconst 1, 1) := by decide +kernel
theorem dX6_bitsOf_18 : decode cX6_bitsOf 18 = .ok (.dcmp .g, 1) := by decide +kernel
theorem dX6_bitsOf_19 : decode cX6_bitsOf 19 = .ok (.ifCond .ge 18, 3) := by decide +kernel
theorem dX6_bitsOf_22 : decode cX6_bitsOf 22 = .ok (.dload 4, 2) := by decide +kernel
theorem dX6_bitsOf_24 : decode cX6_bitsOf 24 = .ok (.ldc2_w 164, 3) := by decide +kernel
theorem dX6_bitsOf_27 : decode cX6_bitsOf 27 = .ok (.dmul, 1) := by decide +kernel
theorem dX6_bitsOf_28 : decode cX6_bitsOf 28 = .ok (.dstore 4, 2) := by decide +kernel
theorem dX6_bitsOf_30 : decode cX6_bitsOf 30 = .ok (.lload_n 2, 1) := by decide +kernel
theorem dX6_bitsOf_31 : decode cX6_bitsOf 31 = .ok (.lconst 1, 1) := by decide +kernel
theorem dX6_bitsOf_32 : decode cX6_bitsOf 32 = .ok (.lsub, 1) := by decide +kernel
theorem dX6_bitsOf_33 : decode cX6_bitsOf 33 = .ok (.lstore_n 2, 1) := by decide +kernel
theorem dX6_bitsOf_34 : decode cX6_bitsOf 34 = .ok (.goto (-19), 3) := by decide +kernel
theorem dX6_bitsOf_37 : decode cX6_bitsOf 37 = .ok (.lload_n 2, 1) := by decide +kernel
theorem dX6_bitsOf_38 : decode cX6_bitsOf 38 = .ok (.ldc2_w 166, 3) := by decide +kernel
theorem dX6_bitsOf_41 : decode cX6_bitsOf 41 = .ok (.lmul, 1) := by decide +kernel
theorem dX6_bitsOf_42 : decode cX6_bitsOf 42 = .ok (.dload 4, 2) := by decide +kernel
theorem dX6_bitsOf_44 : decode cX6_bitsOf 44 = .ok (.dconst 1, 1) := by decide +kernel
theorem dX6_bitsOf_45 : decode cX6_bitsOf 45 = .ok (.dsub, 1) := by decide +kernel
theorem dX6_bitsOf_46 : decode cX6_bitsOf 46 = .ok (.ldc2_w 168, 3) := by decide +kernel
theorem dX6_bitsOf_49 : decode cX6_bitsOf 49 = .ok (.dmul, 1) := by decide +kernel
theorem dX6_bitsOf_50 : decode cX6_bitsOf 50 = .ok (.d2l, 1) := by decide +kernel
theorem dX6_bitsOf_51 : decode cX6_bitsOf 51 = .ok (.ladd, 1) := by decide +kernel
theorem dX6_bitsOf_52 : decode cX6_bitsOf 52 = .ok (.lreturn, 1) := by decide +kernel
theorem dX6_digestOne_0 : decode cX6_digestOne 0 = .ok (.aload_n 0, 1) := by decide +kernel
theorem dX6_digestOne_1 : decode cX6_digestOne 1 = .ok (.ldc2_w 170, 3) := by decide +kernel
theorem dX6_digestOne_4 : decode cX6_digestOne 4 = .ok (.aload_n 0, 1) := by decide +kernel
theorem dX6_digestOne_5 : decode cX6_digestOne 5 = .ok (.getfield 172, 3) := by decide +kernel
theorem dX6_digestOne_8 : decode cX6_digestOne 8 = .ok (.lmul, 1) := by decide +kernel
theorem dX6_digestOne_9 : decode cX6_digestOne 9 = .ok (.lload_n 1, 1) := by decide +kernel
theorem dX6_digestOne_10 : decode cX6_digestOne 10 = .ok (.ladd, 1) := by decide +kernel
theorem dX6_digestOne_11 : decode cX6_digestOne 11 = .ok (.putfield 172, 3) := by decide +kernel
theorem dX6_digestOne_14 : decode cX6_digestOne 14 = .ok (.return_, 1) := by decide +kernel
set_option maxRecDepth 20000 in
theorem ggX6_digest_X6_counted : GoodIn wsX6_digest wsX6_counted := goodIn_r _ [11, 4, 12, 13, 14, 15, 16, 17, 18, 10, 19, 20, 21, 22, 23, 24, 25, 26, 27, 28, 29, 30, 31, 32, 33, 34, 35, 36, 37, 38, 39, 40, 41, 42, 43, 44, 45, 46, 47, 96, 97, 98, 99, 100, 101, 102, 103, 104, 105, 106, 107, 108, 109, 110, 111, 112] (by decide +kernel) (by decide +kernel)
set_option maxRecDepth 20000 in
theorem gX6_digest_X6_counted : GoodIn wsX6_digest (wsV RX6 140 RX6 yX6_counted wsX6_counted) := goodIn_app (goodIn_of _ (by decide +kernel)) ggX6_digest_X6_counted
set_option maxRecDepth 20000 in
theorem ggX6_digest_X6_digestOne : GoodIn wsX6_digest wsX6_digestOne := goodIn_r _ [51, 52, 3, 96, 97, 98, 99, 100, 101, 102, 103, 104, 105, 106, 107, 108, 109, 110, 111, 112] (by decide +kernel) (by decide +kernel)
set_option maxRecDepth 20000 in
theorem gX6_digest_X6_digestOne : GoodIn wsX6_digest (wsV RX6 178 RX6 yX6_digestOne wsX6_digestOne) := goodIn_app (goodIn_of _ (by decide +kernel)) ggX6_digest_X6_digestOne
set_option maxRecDepth 20000 in
theorem ggX6_digest_X6_toldOfLink : GoodIn wsX6_digest wsX6_toldOfLink := goodIn_r _ [56, 4, 21, 16, 17, 18, 10, 19, 12, 13, 14, 20, 22, 23, 24, 25, 26, 27, 28, 29, 30, 31, 96, 97, 98, 99, 100, 101, 102, 103, 104, 105, 106, 107, 108, 109, 110, 111, 112] (by decide +kernel) (by decide +kernel)
set_option maxRecDepth 20000 in
theorem gX6_digest_X6_toldOfLink : GoodIn wsX6_digest (wsV RX6 121 RX6 yX6_toldOfLink wsX6_toldOfLink) := goodIn_app (goodIn_of _ (by decide +kernel)) ggX6_digest_X6_toldOfLink
set_option maxRecDepth 20000 in
theorem ggX6_digest_X6_calmest : GoodIn wsX6_digest wsX6_calmest := goodIn_r _ [60, 61, 62, 63, 10, 64, 4, 36, 37, 38, 39, 21, 16, 17, 18, 19, 12, 13, 14, 20, 22, 23, 24, 25, 26, 27, 28, 29, 30, 31, 96, 97, 98, 99, 100, 101, 102, 103, 104, 105, 106, 107, 108, 109, 110, 111, 112] (by decide +kernel) (by decide +kernel)
set_option maxRecDepth 20000 in
theorem gX6_digest_X6_calmest : GoodIn wsX6_digest (wsV RX6 155 RX6 yX6_calmest wsX6_calmest) := goodIn_app (goodIn_of _ (by decide +kernel)) ggX6_digest_X6_calmest
set_option maxRecDepth 20000 in
theorem ggX6_digest_X6_toldOfJoint : GoodIn wsX6_digest wsX6_toldOfJoint := goodIn_r _ [68, 14, 4, 26, 27, 28, 20, 16, 17, 18, 10, 19, 12, 13, 21, 22, 23, 24, 25, 29, 30, 31, 96, 97, 98, 99, 100, 101, 102, 103, 104, 105, 106, 107, 108, 109, 110, 111, 112] (by decide +kernel) (by decide +kernel)
set_option maxRecDepth 20000 in
theorem gX6_digest_X6_toldOfJoint : GoodIn wsX6_digest (wsV RX6 124 RX6 yX6_toldOfJoint wsX6_toldOfJoint) := goodIn_app (goodIn_of _ (by decide +kernel)) ggX6_digest_X6_toldOfJoint
set_option maxRecDepth 20000 in
theorem ggX6_digest_X6_greatestWith : GoodIn wsX6_digest wsX6_greatestWith := goodIn_r _ [64, 4, 36, 37, 38, 10, 39, 21, 16, 17, 18, 19, 12, 13, 14, 20, 22, 23, 24, 25, 26, 27, 28, 29, 30, 31, 96, 97, 98, 99, 100, 101, 102, 103, 104, 105, 106, 107, 108, 109, 110, 111, 112] (by decide +kernel) (by decide +kernel)
set_option maxRecDepth 20000 in
theorem gX6_digest_X6_greatestWith : GoodIn wsX6_digest (wsV RX6 143 RX6 yX6_greatestWith wsX6_greatestWith) := goodIn_app (goodIn_of _ (by decide +kernel)) ggX6_digest_X6_greatestWith
set_option maxRecDepth 20000 in
theorem ggX6_digest_X6_heaviest : GoodIn wsX6_digest wsX6_heaviest := goodIn_r _ [72, 4, 61, 62, 63, 10, 64, 36, 37, 38, 39, 21, 16, 17, 18, 19, 12, 13, 14, 20, 22, 23, 24, 25, 26, 27, 28, 29, 30, 31, 96, 97, 98, 99, 100, 101, 102, 103, 104, 105, 106, 107, 108, 109, 110, 111, 112] (by decide +kernel) (by decide +kernel)
set_option maxRecDepth 20000 in
theorem gX6_digest_X6_heaviest : GoodIn wsX6_digest (wsV RX6 146 RX6 yX6_heaviest wsX6_heaviest) := goodIn_app (goodIn_of _ (by decide +kernel)) ggX6_digest_X6_heaviest
set_option maxRecDepth 20000 in
theorem ggX6_digest_X6_bestTo : GoodIn wsX6_digest wsX6_bestTo := goodIn_r _ [76, 4, 77, 78, 79, 10, 80, 36, 37, 38, 39, 21, 16, 17, 18, 19, 12, 13, 14, 20, 22, 23, 24, 25, 26, 27, 28, 29, 30, 31, 96, 97, 98, 99, 100, 101, 102, 103, 104, 105, 106, 107, 108, 109, 110, 111, 112] (by decide +kernel) (by decide +kernel)
set_option maxRecDepth 20000 in
theorem gX6_digest_X6_bestTo : GoodIn wsX6_digest (wsV RX6 149 RX6 yX6_bestTo wsX6_bestTo) := goodIn_app (goodIn_of _ (by decide +kernel)) ggX6_digest_X6_bestTo
set_option maxRecDepth 20000 in
theorem ggX6_digest_X6_bestHung : GoodIn wsX6_digest wsX6_bestHung := goodIn_r _ [84, 4, 61, 62, 63, 10, 64, 36, 37, 38, 39, 21, 16, 17, 18, 19, 12, 13, 14, 20, 22, 23, 24, 25, 26, 27, 28, 29, 30, 31, 96, 97, 98, 99, 100, 101, 102, 103, 104, 105, 106, 107, 108, 109, 110, 111, 112] (by decide +kernel) (by decide +kernel)
set_option maxRecDepth 20000 in
theorem gX6_digest_X6_bestHung : GoodIn wsX6_digest (wsV RX6 152 RX6 yX6_bestHung wsX6_bestHung) := goodIn_app (goodIn_of _ (by decide +kernel)) ggX6_digest_X6_bestHung
set_option maxRecDepth 20000 in
theorem ggX6_digest_X6_even : GoodIn wsX6_digest wsX6_even := goodIn_r _ [88, 12, 13, 16, 17, 18, 10, 19, 4, 14, 20, 21, 22, 23, 24, 25, 26, 27, 28, 29, 30, 31, 96, 97, 98, 99, 100, 101, 102, 103, 104, 105, 106, 107, 108, 109, 110, 111, 112] (by decide +kernel) (by decide +kernel)
set_option maxRecDepth 20000 in
theorem gX6_digest_X6_even : GoodIn wsX6_digest (wsV RX6 158 RX6 yX6_even wsX6_even) := goodIn_app (goodIn_of _ (by decide +kernel)) ggX6_digest_X6_even
set_option maxRecDepth 20000 in
theorem ggX6_digest_X6_bitsOf : GoodIn wsX6_digest wsX6_bitsOf := goodIn_r _ [91, 92, 93, 94, 95] (by decide +kernel) (by decide +kernel)
set_option maxRecDepth 20000 in
theorem gX6_digest_X6_bitsOf : GoodIn wsX6_digest (va_wsS RX6 182 yX6_bitsOf wsX6_bitsOf) := goodIn_app (goodIn_of _ (by decide +kernel)) ggX6_digest_X6_bitsOf
theorem dX6_digest_0 : decode cX6_digest 0 = .ok (.aload_n 0, 1) := by decide +kernel
theorem dX6_digest_1 : decode cX6_digest 1 = .ok (.iconst 0, 1) := by decide +kernel
theorem dX6_digest_2 : decode cX6_digest 2 = .ok (.putfield 37, 3) := by decide +kernel
theorem dX6_digest_5 : decode cX6_digest 5 = .ok (.aload_n 0, 1) := by decide +kernel
theorem dX6_digest_6 : decode cX6_digest 6 = .ok (.ldc2_w 176, 3) := by decide +kernel
theorem dX6_digest_9 : decode cX6_digest 9 = .ok (.putfield 172, 3) := by decide +kernel
theorem dX6_digest_12 : decode cX6_digest 12 = .ok (.iconst 0, 1) := by decide +kernel
theorem dX6_digest_13 : decode cX6_digest 13 = .ok (.istore_n 1, 1) := by decide +kernel
theorem dX6_digest_14 : decode cX6_digest 14 = .ok (.iload_n 1, 1) := by decide +kernel
theorem dX6_digest_15 : decode cX6_digest 15 = .ok (.bipush 11, 2) := by decide +kernel
theorem dX6_digest_17 : decode cX6_digest 17 = .ok (.if_icmp .ge 19, 3) := by decide +kernel
theorem dX6_digest_20 : decode cX6_digest 20 = .ok (.aload_n 0, 1) := by decide +kernel
theorem dX6_digest_21 : decode cX6_digest 21 = .ok (.aload_n 0, 1) := by decide +kernel
theorem dX6_digest_22 : decode cX6_digest 22 = .ok (.iload_n 1, 1) := by decide +kernel
theorem dX6_digest_23 : decode cX6_digest 23 = .ok (.invokevirtual 140, 3) := by decide +kernel
theorem dX6_digest_26 : decode cX6_digest 26 = .ok (.i2l, 1) := by decide +kernel
theorem dX6_digest_27 : decode cX6_digest 27 = .ok (.invokevirtual 178, 3) := by decide +kernel
theorem dX6_digest_30 : decode cX6_digest 30 = .ok (.iinc 1 1, 3) := by decide +kernel
theorem dX6_digest_33 : decode cX6_digest 33 = .ok (.goto (-19), 3) := by decide +kernel
theorem dX6_digest_36 : decode cX6_digest 36 = .ok (.iconst 0, 1) := by decide +kernel
theorem dX6_digest_37 : decode cX6_digest 37 = .ok (.istore_n 1, 1) := by decide +kernel
theorem dX6_digest_38 : decode cX6_digest 38 = .ok (.iload_n 1, 1) := by decide +kernel
theorem dX6_digest_39 : decode cX6_digest 39 = .ok (.iconst 4, 1) := by decide +kernel
theorem dX6_digest_40 : decode cX6_digest 40 = .ok (.if_icmp .ge 25, 3) := by decide +kernel
theorem dX6_digest_43 : decode cX6_digest 43 = .ok (.aload_n 0, 1) := by decide +kernel
theorem dX6_digest_44 : decode cX6_digest 44 = .ok (.aload_n 0, 1) := by decide +kernel
theorem dX6_digest_45 : decode cX6_digest 45 = .ok (.getfield 7, 3) := by decide +kernel
theorem dX6_digest_48 : decode cX6_digest 48 = .ok (.iconst 1, 1) := by decide +kernel
theorem dX6_digest_49 : decode cX6_digest 49 = .ok (.iload_n 1, 1) := by decide +kernel
theorem dX6_digest_50 : decode cX6_digest 50 = .ok (.iadd, 1) := by decide +kernel
theorem dX6_digest_51 : decode cX6_digest 51 = .ok (.iaload, 1) := by decide +kernel
theorem dX6_digest_52 : decode cX6_digest 52 = .ok (.bipush 100, 2) := by decide +kernel
theorem dX6_digest_54 : decode cX6_digest 54 = .ok (.iadd, 1) := by decide +kernel
theorem dX6_digest_55 : decode cX6_digest 55 = .ok (.i2l, 1) := by decide +kernel
theorem dX6_digest_56 : decode cX6_digest 56 = .ok (.invokevirtual 178, 3) := by decide +kernel
theorem dX6_digest_59 : decode cX6_digest 59 = .ok (.iinc 1 1, 3) := by decide +kernel
theorem dX6_digest_62 : decode cX6_digest 62 = .ok (.goto (-24), 3) := by decide +kernel
theorem dX6_digest_65 : decode cX6_digest 65 = .ok (.iconst 0, 1) := by decide +kernel
theorem dX6_digest_66 : decode cX6_digest 66 = .ok (.istore_n 1, 1) := by decide +kernel
theorem dX6_digest_67 : decode cX6_digest 67 = .ok (.iload_n 1, 1) := by decide +kernel
theorem dX6_digest_68 : decode cX6_digest 68 = .ok (.aload_n 0, 1) := by decide +kernel
theorem dX6_digest_69 : decode cX6_digest 69 = .ok (.getfield 7, 3) := by decide +kernel
theorem dX6_digest_72 : decode cX6_digest 72 = .ok (.iconst 0, 1) := by decide +kernel
theorem dX6_digest_73 : decode cX6_digest 73 = .ok (.iaload, 1) := by decide +kernel
theorem dX6_digest_74 : decode cX6_digest 74 = .ok (.if_icmp .ge 43, 3) := by decide +kernel
theorem dX6_digest_77 : decode cX6_digest 77 = .ok (.iconst 0, 1) := by decide +kernel
theorem dX6_digest_78 : decode cX6_digest 78 = .ok (.istore_n 2, 1) := by decide +kernel
theorem dX6_digest_79 : decode cX6_digest 79 = .ok (.iload_n 2, 1) := by decide +kernel
theorem dX6_digest_80 : decode cX6_digest 80 = .ok (.iconst 3, 1) := by decide +kernel
theorem dX6_digest_81 : decode cX6_digest 81 = .ok (.if_icmp .ge 20, 3) := by decide +kernel
theorem dX6_digest_84 : decode cX6_digest 84 = .ok (.aload_n 0, 1) := by decide +kernel
theorem dX6_digest_85 : decode cX6_digest 85 = .ok (.aload_n 0, 1) := by decide +kernel
theorem dX6_digest_86 : decode cX6_digest 86 = .ok (.iload_n 1, 1) := by decide +kernel
theorem dX6_digest_87 : decode cX6_digest 87 = .ok (.iload_n 2, 1) := by decide +kernel
theorem dX6_digest_88 : decode cX6_digest 88 = .ok (.invokevirtual 121, 3) := by decide +kernel
theorem dX6_digest_91 : decode cX6_digest 91 = .ok (.i2l, 1) := by decide +kernel
theorem dX6_digest_92 : decode cX6_digest 92 = .ok (.invokevirtual 178, 3) := by decide +kernel
theorem dX6_digest_95 : decode cX6_digest 95 = .ok (.iinc 2 1, 3) := by decide +kernel
theorem dX6_digest_98 : decode cX6_digest 98 = .ok (.goto (-19), 3) := by decide +kernel
theorem dX6_digest_101 : decode cX6_digest 101 = .ok (.aload_n 0, 1) := by decide +kernel
theorem dX6_digest_102 : decode cX6_digest 102 = .ok (.aload_n 0, 1) := by decide +kernel
theorem dX6_digest_103 : decode cX6_digest 103 = .ok (.iload_n 1, 1) := by decide +kernel
theorem dX6_digest_104 : decode cX6_digest 104 = .ok (.invokevirtual 155, 3) := by decide +kernel
theorem dX6_digest_107 : decode cX6_digest 107 = .ok (.i2l, 1) := by decide +kernel
theorem dX6_digest_108 : decode cX6_digest 108 = .ok (.invokevirtual 178, 3) := by decide +kernel
theorem dX6_digest_111 : decode cX6_digest 111 = .ok (.iinc 1 1, 3) := by decide +kernel
theorem dX6_digest_114 : decode cX6_digest 114 = .ok (.goto (-47), 3) := by decide +kernel
theorem dX6_digest_117 : decode cX6_digest 117 = .ok (.iconst 0, 1) := by decide +kernel
theorem dX6_digest_118 : decode cX6_digest 118 = .ok (.istore_n 1, 1) := by decide +kernel
theorem dX6_digest_119 : decode cX6_digest 119 = .ok (.iload_n 1, 1) := by decide +kernel
theorem dX6_digest_120 : decode cX6_digest 120 = .ok (.aload_n 0, 1) := by decide +kernel
theorem dX6_digest_121 : decode cX6_digest 121 = .ok (.getfield 7, 3) := by decide +kernel
theorem dX6_digest_124 : decode cX6_digest 124 = .ok (.iconst 0, 1) := by decide +kernel
theorem dX6_digest_125 : decode cX6_digest 125 = .ok (.iaload, 1) := by decide +kernel
theorem dX6_digest_126 : decode cX6_digest 126 = .ok (.if_icmp .gt 69, 3) := by decide +kernel
theorem dX6_digest_129 : decode cX6_digest 129 = .ok (.iconst 0, 1) := by decide +kernel
theorem dX6_digest_130 : decode cX6_digest 130 = .ok (.istore_n 2, 1) := by decide +kernel
theorem dX6_digest_131 : decode cX6_digest 131 = .ok (.iload_n 2, 1) := by decide +kernel
theorem dX6_digest_132 : decode cX6_digest 132 = .ok (.bipush 8, 2) := by decide +kernel
theorem dX6_digest_134 : decode cX6_digest 134 = .ok (.if_icmp .ge 20, 3) := by decide +kernel
theorem dX6_digest_137 : decode cX6_digest 137 = .ok (.aload_n 0, 1) := by decide +kernel
theorem dX6_digest_138 : decode cX6_digest 138 = .ok (.aload_n 0, 1) := by decide +kernel
theorem dX6_digest_139 : decode cX6_digest 139 = .ok (.iload_n 1, 1) := by decide +kernel
theorem dX6_digest_140 : decode cX6_digest 140 = .ok (.iload_n 2, 1) := by decide +kernel
theorem dX6_digest_141 : decode cX6_digest 141 = .ok (.invokevirtual 124, 3) := by decide +kernel
theorem dX6_digest_144 : decode cX6_digest 144 = .ok (.i2l, 1) := by decide +kernel
theorem dX6_digest_145 : decode cX6_digest 145 = .ok (.invokevirtual 178, 3) := by decide +kernel
theorem dX6_digest_148 : decode cX6_digest 148 = .ok (.iinc 2 1, 3) := by decide +kernel
theorem dX6_digest_151 : decode cX6_digest 151 = .ok (.goto (-20), 3) := by decide +kernel
theorem dX6_digest_154 : decode cX6_digest 154 = .ok (.aload_n 0, 1) := by decide +kernel
theorem dX6_digest_155 : decode cX6_digest 155 = .ok (.aload_n 0, 1) := by decide +kernel
theorem dX6_digest_156 : decode cX6_digest 156 = .ok (.bipush 25, 2) := by decide +kernel
theorem dX6_digest_158 : decode cX6_digest 158 = .ok (.iload_n 1, 1) := by decide +kernel
theorem dX6_digest_159 : decode cX6_digest 159 = .ok (.iadd, 1) := by decide +kernel
theorem dX6_digest_160 : decode cX6_digest 160 = .ok (.bipush 20, 2) := by decide +kernel
theorem dX6_digest_162 : decode cX6_digest 162 = .ok (.invokevirtual 143, 3) := by decide +kernel
theorem dX6_digest_165 : decode cX6_digest 165 = .ok (.i2l, 1) := by decide +kernel
theorem dX6_digest_166 : decode cX6_digest 166 = .ok (.invokevirtual 178, 3) := by decide +kernel
theorem dX6_digest_169 : decode cX6_digest 169 = .ok (.aload_n 0, 1) := by decide +kernel
theorem dX6_digest_170 : decode cX6_digest 170 = .ok (.aload_n 0, 1) := by decide +kernel
theorem dX6_digest_171 : decode cX6_digest 171 = .ok (.iload_n 1, 1) := by decide +kernel
theorem dX6_digest_172 : decode cX6_digest 172 = .ok (.invokevirtual 146, 3) := by decide +kernel
theorem dX6_digest_175 : decode cX6_digest 175 = .ok (.i2l, 1) := by decide +kernel
theorem dX6_digest_176 : decode cX6_digest 176 = .ok (.invokevirtual 178, 3) := by decide +kernel
theorem dX6_digest_179 : decode cX6_digest 179 = .ok (.aload_n 0, 1) := by decide +kernel
theorem dX6_digest_180 : decode cX6_digest 180 = .ok (.aload_n 0, 1) := by decide +kernel
theorem dX6_digest_181 : decode cX6_digest 181 = .ok (.iload_n 1, 1) := by decide +kernel
theorem dX6_digest_182 : decode cX6_digest 182 = .ok (.invokevirtual 149, 3) := by decide +kernel
theorem dX6_digest_185 : decode cX6_digest 185 = .ok (.i2l, 1) := by decide +kernel
theorem dX6_digest_186 : decode cX6_digest 186 = .ok (.invokevirtual 178, 3) := by decide +kernel
theorem dX6_digest_189 : decode cX6_digest 189 = .ok (.iinc 1 1, 3) := by decide +kernel
theorem dX6_digest_192 : decode cX6_digest 192 = .ok (.goto (-73), 3) := by decide +kernel
theorem dX6_digest_195 : decode cX6_digest 195 = .ok (.aload_n 0, 1) := by decide +kernel
theorem dX6_digest_196 : decode cX6_digest 196 = .ok (.aload_n 0, 1) := by decide +kernel
theorem dX6_digest_197 : decode cX6_digest 197 = .ok (.bipush 15, 2) := by decide +kernel
theorem dX6_digest_199 : decode cX6_digest 199 = .ok (.invokevirtual 152, 3) := by decide +kernel
theorem dX6_digest_202 : decode cX6_digest 202 = .ok (.i2l, 1) := by decide +kernel
theorem dX6_digest_203 : decode cX6_digest 203 = .ok (.invokevirtual 178, 3) := by decide +kernel
theorem dX6_digest_206 : decode cX6_digest 206 = .ok (.aload_n 0, 1) := by decide +kernel
theorem dX6_digest_207 : decode cX6_digest 207 = .ok (.aload_n 0, 1) := by decide +kernel
theorem dX6_digest_208 : decode cX6_digest 208 = .ok (.invokevirtual 158, 3) := by decide +kernel
theorem dX6_digest_211 : decode cX6_digest 211 = .ok (.invokestatic 182, 3) := by decide +kernel
theorem dX6_digest_214 : decode cX6_digest 214 = .ok (.invokevirtual 178, 3) := by decide +kernel
theorem dX6_digest_217 : decode cX6_digest 217 = .ok (.aload_n 0, 1) := by decide +kernel
theorem dX6_digest_218 : decode cX6_digest 218 = .ok (.aload_n 0, 1) := by decide +kernel
theorem dX6_digest_219 : decode cX6_digest 219 = .ok (.getfield 96, 3) := by decide +kernel
theorem dX6_digest_222 : decode cX6_digest 222 = .ok (.i2l, 1) := by decide +kernel
theorem dX6_digest_223 : decode cX6_digest 223 = .ok (.invokevirtual 178, 3) := by decide +kernel
theorem dX6_digest_226 : decode cX6_digest 226 = .ok (.iconst 0, 1) := by decide +kernel
theorem dX6_digest_227 : decode cX6_digest 227 = .ok (.istore_n 1, 1) := by decide +kernel
theorem dX6_digest_228 : decode cX6_digest 228 = .ok (.iload_n 1, 1) := by decide +kernel
theorem dX6_digest_229 : decode cX6_digest 229 = .ok (.aload_n 0, 1) := by decide +kernel
theorem dX6_digest_230 : decode cX6_digest 230 = .ok (.getfield 96, 3) := by decide +kernel
theorem dX6_digest_233 : decode cX6_digest 233 = .ok (.if_icmp .ge 20, 3) := by decide +kernel
theorem dX6_digest_236 : decode cX6_digest 236 = .ok (.aload_n 0, 1) := by decide +kernel
theorem dX6_digest_237 : decode cX6_digest 237 = .ok (.aload_n 0, 1) := by decide +kernel
theorem dX6_digest_238 : decode cX6_digest 238 = .ok (.getfield 16, 3) := by decide +kernel
theorem dX6_digest_241 : decode cX6_digest 241 = .ok (.iload_n 1, 1) := by decide +kernel
theorem dX6_digest_242 : decode cX6_digest 242 = .ok (.iaload, 1) := by decide +kernel
theorem dX6_digest_243 : decode cX6_digest 243 = .ok (.i2l, 1) := by decide +kernel
theorem dX6_digest_244 : decode cX6_digest 244 = .ok (.invokevirtual 178, 3) := by decide +kernel
theorem dX6_digest_247 : decode cX6_digest 247 = .ok (.iinc 1 1, 3) := by decide +kernel
theorem dX6_digest_250 : decode cX6_digest 250 = .ok (.goto (-22), 3) := by decide +kernel
theorem dX6_digest_253 : decode cX6_digest 253 = .ok (.aload_n 0, 1) := by decide +kernel
theorem dX6_digest_254 : decode cX6_digest 254 = .ok (.getfield 172, 3) := by decide +kernel
theorem dX6_digest_257 : decode cX6_digest 257 = .ok (.lreturn, 1) := by decide +kernel
