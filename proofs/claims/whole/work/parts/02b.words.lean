/-! The words of the law, each by its place. Printed by wip/gen/words.py. -/
theorem tb_1 {w : Cond} (h : w ∈ tables_1_1) : w ∈ lw_tbl := List.mem_append_right _ (show w ∈ tables_1_1 ++ (tables_1_2 ++ (tables_1_3 ++ tables_1_4)) from List.mem_append_left _ h)
theorem tb_2 {w : Cond} (h : w ∈ tables_1_2) : w ∈ lw_tbl := List.mem_append_right _ (show w ∈ tables_1_1 ++ (tables_1_2 ++ (tables_1_3 ++ tables_1_4)) from List.mem_append_right _ (List.mem_append_left _ h))
theorem tb_3 {w : Cond} (h : w ∈ tables_1_3) : w ∈ lw_tbl := List.mem_append_right _ (show w ∈ tables_1_1 ++ (tables_1_2 ++ (tables_1_3 ++ tables_1_4)) from List.mem_append_right _ (List.mem_append_right _ (List.mem_append_left _ h)))
theorem tb_4 {w : Cond} (h : w ∈ tables_1_4) : w ∈ lw_tbl := List.mem_append_right _ (show w ∈ tables_1_1 ++ (tables_1_2 ++ (tables_1_3 ++ tables_1_4)) from List.mem_append_right _ (List.mem_append_right _ (List.mem_append_right _ h)))
theorem tb_p {q : MethodName × Nat} (h : q ∈ lw_privs) : Cond.selects q.1.cls q.1 q.1 ∈ lw_tbl := List.mem_append_left _ (List.mem_map.mpr ⟨q, h, rfl⟩)
theorem pv_1 {q : MethodName × Nat} (h : q ∈ lw_privs_1) : q ∈ lw_privs := List.mem_append_left _ h
theorem pv_2 {q : MethodName × Nat} (h : q ∈ lw_privs_2) : q ∈ lw_privs := List.mem_append_right _ (List.mem_append_left _ h)
theorem pv_3 {q : MethodName × Nat} (h : q ∈ lw_privs_3) : q ∈ lw_privs := List.mem_append_right _ (List.mem_append_right _ h)
set_option maxRecDepth 20000 in
theorem tw_1_0 : Cond.classLink RL 7 RX4 ∈ lw_tbl := tb_1 (List.mem_of_getElem? (i := 12) rfl)
set_option maxRecDepth 20000 in
theorem tw_1_1 : Cond.instantiable RX4 8 ∈ lw_tbl := tb_1 (List.mem_of_getElem? (i := 13) rfl)
set_option maxRecDepth 20000 in
theorem tw_1_2 : Cond.initialized RX4 ∈ lw_tbl := tb_1 (List.mem_of_getElem? (i := 1) rfl)
set_option maxRecDepth 20000 in
theorem tw_1_3 : Cond.classLink RL 10 RX5 ∈ lw_tbl := tb_3 (List.mem_of_getElem? (i := 22) rfl)
set_option maxRecDepth 20000 in
theorem tw_1_4 : Cond.instantiable RX5 25 ∈ lw_tbl := tb_3 (List.mem_of_getElem? (i := 23) rfl)
set_option maxRecDepth 20000 in
theorem tw_1_5 : Cond.initialized RX5 ∈ lw_tbl := tb_1 (List.mem_of_getElem? (i := 6) rfl)
set_option maxRecDepth 20000 in
theorem tw_1_6 : Cond.constantLong RL 79 (4294967295) ∈ lw_tbl := tb_4 (List.mem_of_getElem? (i := 68) rfl)
set_option maxRecDepth 20000 in
theorem tw_1_7 : Cond.methodLink RL 9 yX4_init ∈ lw_tbl := tb_1 (List.mem_of_getElem? (i := 14) rfl)
set_option maxRecDepth 20000 in
theorem tw_1_8 : Cond.instanceMethod yX4_init ∈ lw_tbl := tb_1 (List.mem_of_getElem? (i := 15) rfl)
set_option maxRecDepth 20000 in
theorem tw_1_9 : Cond.code yX4_init cX4_init 2 none ∈ lw_tbl := tb_1 (List.mem_of_getElem? (i := 16) rfl)
set_option maxRecDepth 20000 in
theorem tw_1_10 : Cond.methodLink RX4 3 objectInit ∈ lw_tbl := tb_1 (List.mem_of_getElem? (i := 17) rfl)
set_option maxRecDepth 20000 in
theorem tw_1_11 : Cond.instanceMethod objectInit ∈ lw_tbl := tb_1 (List.mem_of_getElem? (i := 18) rfl)
set_option maxRecDepth 20000 in
theorem tw_1_12 : Cond.code objectInit ⟨#[0xb1]⟩ 1 none ∈ lw_tbl := tb_1 (List.mem_of_getElem? (i := 19) rfl)
set_option maxRecDepth 20000 in
theorem tw_1_13 : Cond.classLink RX4 9 RX2 ∈ lw_tbl := tb_1 (List.mem_of_getElem? (i := 20) rfl)
set_option maxRecDepth 20000 in
theorem tw_1_14 : Cond.instantiable RX2 3 ∈ lw_tbl := tb_1 (List.mem_of_getElem? (i := 21) rfl)
set_option maxRecDepth 20000 in
theorem tw_1_15 : Cond.initialized RX2 ∈ lw_tbl := tb_1 (List.mem_of_getElem? (i := 2) rfl)
set_option maxRecDepth 20000 in
theorem tw_1_16 : Cond.fieldLink RX4 12 "ArrayMaker" "shape" "LArrayMaker$Shape;" ∈ lw_tbl := tb_1 (List.mem_of_getElem? (i := 121) rfl)
set_option maxRecDepth 20000 in
theorem tw_1_17 : Cond.classLink RX4 16 RX0 ∈ lw_tbl := tb_1 (List.mem_of_getElem? (i := 40) rfl)
set_option maxRecDepth 20000 in
theorem tw_1_18 : Cond.instantiable RX0 5 ∈ lw_tbl := tb_1 (List.mem_of_getElem? (i := 41) rfl)
set_option maxRecDepth 20000 in
theorem tw_1_19 : Cond.initialized RX0 ∈ lw_tbl := tb_1 (List.mem_of_getElem? (i := 3) rfl)
set_option maxRecDepth 20000 in
theorem tw_1_20 : Cond.fieldLink RX4 19 "ArrayMaker" "list" "LArrayMaker$Lines;" ∈ lw_tbl := tb_1 (List.mem_of_getElem? (i := 122) rfl)
set_option maxRecDepth 20000 in
theorem tw_1_21 : Cond.classLink RX4 23 RX3 ∈ lw_tbl := tb_1 (List.mem_of_getElem? (i := 68) rfl)
set_option maxRecDepth 20000 in
theorem tw_1_22 : Cond.instantiable RX3 6 ∈ lw_tbl := tb_1 (List.mem_of_getElem? (i := 69) rfl)
set_option maxRecDepth 20000 in
theorem tw_1_23 : Cond.initialized RX3 ∈ lw_tbl := tb_1 (List.mem_of_getElem? (i := 4) rfl)
set_option maxRecDepth 20000 in
theorem tw_2_0 : Cond.fieldLink RX4 26 "ArrayMaker" "store" "LArrayMaker$Store;" ∈ lw_tbl := tb_1 (List.mem_of_getElem? (i := 123) rfl)
set_option maxRecDepth 20000 in
theorem tw_2_1 : Cond.classLink RX4 30 RX1 ∈ lw_tbl := tb_1 (List.mem_of_getElem? (i := 96) rfl)
set_option maxRecDepth 20000 in
theorem tw_2_2 : Cond.fieldLink RX4 32 "ArrayMaker" "arrays" "[LArrayMaker$MadeArray;" ∈ lw_tbl := tb_1 (List.mem_of_getElem? (i := 124) rfl)
set_option maxRecDepth 20000 in
theorem tw_2_3 : Cond.arrayClass .int ∈ lw_tbl := tb_1 (List.mem_of_getElem? (i := 39) rfl)
set_option maxRecDepth 20000 in
theorem tw_2_4 : Cond.fieldLink RX4 36 "ArrayMaker" "sources" "[I" ∈ lw_tbl := tb_1 (List.mem_of_getElem? (i := 125) rfl)
set_option maxRecDepth 20000 in
theorem tw_2_5 : Cond.fieldLink RX4 40 "ArrayMaker" "made" "I" ∈ lw_tbl := tb_1 (List.mem_of_getElem? (i := 126) rfl)
set_option maxRecDepth 20000 in
theorem tw_2_6 : Cond.fieldLink RX4 44 "ArrayMaker" "code" "I" ∈ lw_tbl := tb_1 (List.mem_of_getElem? (i := 127) rfl)
set_option maxRecDepth 20000 in
theorem tw_2_7 : Cond.fieldLink RX4 47 "ArrayMaker" "which" "I" ∈ lw_tbl := tb_1 (List.mem_of_getElem? (i := 128) rfl)
set_option maxRecDepth 20000 in
theorem tw_2_8 : Cond.instantiable RX1 4 ∈ lw_tbl := tb_1 (List.mem_of_getElem? (i := 98) rfl)
set_option maxRecDepth 20000 in
theorem tw_2_9 : Cond.initialized RX1 ∈ lw_tbl := tb_1 (List.mem_of_getElem? (i := 5) rfl)
set_option maxRecDepth 20000 in
theorem tw_2_10 : Cond.instanceMethod yX2_init ∈ lw_tbl := tb_1 (List.mem_of_getElem? (i := 23) rfl)
set_option maxRecDepth 20000 in
theorem tw_2_11 : Cond.code yX2_init cX2_init 1 none ∈ lw_tbl := tb_1 (List.mem_of_getElem? (i := 24) rfl)
set_option maxRecDepth 20000 in
theorem tw_2_12 : Cond.methodLink RX2 3 objectInit ∈ lw_tbl := tb_1 (List.mem_of_getElem? (i := 25) rfl)
set_option maxRecDepth 20000 in
theorem tw_2_13 : Cond.fieldLink RX2 9 "ArrayMaker$Shape" "low" "[I" ∈ lw_tbl := tb_1 (List.mem_of_getElem? (i := 26) rfl)
set_option maxRecDepth 20000 in
theorem tw_2_14 : Cond.fieldLink RX2 15 "ArrayMaker$Shape" "high" "[I" ∈ lw_tbl := tb_1 (List.mem_of_getElem? (i := 28) rfl)
set_option maxRecDepth 20000 in
theorem tw_2_15 : Cond.instanceMethod yX0_init ∈ lw_tbl := tb_1 (List.mem_of_getElem? (i := 43) rfl)
set_option maxRecDepth 20000 in
theorem tw_2_16 : Cond.code yX0_init cX0_init 1 none ∈ lw_tbl := tb_1 (List.mem_of_getElem? (i := 44) rfl)
set_option maxRecDepth 20000 in
theorem tw_2_17 : Cond.methodLink RX0 3 objectInit ∈ lw_tbl := tb_1 (List.mem_of_getElem? (i := 45) rfl)
set_option maxRecDepth 20000 in
theorem tw_2_18 : Cond.fieldLink RX0 9 "ArrayMaker$Lines" "i" "[I" ∈ lw_tbl := tb_1 (List.mem_of_getElem? (i := 46) rfl)
set_option maxRecDepth 20000 in
theorem tw_2_19 : Cond.fieldLink RX0 15 "ArrayMaker$Lines" "j" "[I" ∈ lw_tbl := tb_1 (List.mem_of_getElem? (i := 48) rfl)
set_option maxRecDepth 20000 in
theorem tw_2_20 : Cond.fieldLink RX0 18 "ArrayMaker$Lines" "k" "[I" ∈ lw_tbl := tb_1 (List.mem_of_getElem? (i := 50) rfl)
set_option maxRecDepth 20000 in
theorem tw_2_21 : Cond.arrayClass .long ∈ lw_tbl := tb_1 (List.mem_of_getElem? (i := 67) rfl)
set_option maxRecDepth 20000 in
theorem tw_2_22 : Cond.fieldLink RX0 21 "ArrayMaker$Lines" "v" "[J" ∈ lw_tbl := tb_1 (List.mem_of_getElem? (i := 52) rfl)
set_option maxRecDepth 20000 in
theorem tw_2_23 : Cond.instanceMethod yX3_init ∈ lw_tbl := tb_1 (List.mem_of_getElem? (i := 71) rfl)
set_option maxRecDepth 20000 in
theorem tw_3_0 : Cond.code yX3_init cX3_init 1 none ∈ lw_tbl := tb_1 (List.mem_of_getElem? (i := 72) rfl)
set_option maxRecDepth 20000 in
theorem tw_3_1 : Cond.methodLink RX3 3 objectInit ∈ lw_tbl := tb_1 (List.mem_of_getElem? (i := 73) rfl)
set_option maxRecDepth 20000 in
theorem tw_3_2 : Cond.fieldLink RX3 9 "ArrayMaker$Store" "numbers" "[J" ∈ lw_tbl := tb_1 (List.mem_of_getElem? (i := 74) rfl)
set_option maxRecDepth 20000 in
theorem tw_3_3 : Cond.arrayClass .boolean ∈ lw_tbl := tb_1 (List.mem_of_getElem? (i := 95) rfl)
set_option maxRecDepth 20000 in
theorem tw_3_4 : Cond.fieldLink RX3 15 "ArrayMaker$Store" "filled" "[Z" ∈ lw_tbl := tb_1 (List.mem_of_getElem? (i := 76) rfl)
set_option maxRecDepth 20000 in
theorem tw_3_5 : Cond.fieldLink RX3 19 "ArrayMaker$Store" "starts" "[I" ∈ lw_tbl := tb_1 (List.mem_of_getElem? (i := 78) rfl)
set_option maxRecDepth 20000 in
theorem tw_3_6 : Cond.fieldLink RX3 23 "ArrayMaker$Store" "lengths" "[I" ∈ lw_tbl := tb_1 (List.mem_of_getElem? (i := 79) rfl)
set_option maxRecDepth 20000 in
theorem tw_3_7 : Cond.instanceMethod yX1_init ∈ lw_tbl := tb_1 (List.mem_of_getElem? (i := 100) rfl)
set_option maxRecDepth 20000 in
theorem tw_3_8 : Cond.code yX1_init cX1_init 1 none ∈ lw_tbl := tb_1 (List.mem_of_getElem? (i := 101) rfl)
set_option maxRecDepth 20000 in
theorem tw_3_9 : Cond.methodLink RX1 3 objectInit ∈ lw_tbl := tb_1 (List.mem_of_getElem? (i := 102) rfl)
set_option maxRecDepth 20000 in
theorem tw_3_10 : Cond.classLink RX1 9 RX2 ∈ lw_tbl := tb_1 (List.mem_of_getElem? (i := 103) rfl)
set_option maxRecDepth 20000 in
theorem tw_3_11 : Cond.fieldLink RX1 12 "ArrayMaker$MadeArray" "shape" "LArrayMaker$Shape;" ∈ lw_tbl := tb_1 (List.mem_of_getElem? (i := 105) rfl)
set_option maxRecDepth 20000 in
theorem tw_3_12 : Cond.fieldLink RX1 18 "ArrayMaker$MadeArray" "row" "I" ∈ lw_tbl := tb_1 (List.mem_of_getElem? (i := 108) rfl)
set_option maxRecDepth 20000 in
theorem tw_3_13 : Cond.fieldLink RX1 22 "ArrayMaker$MadeArray" "rows" "[I" ∈ lw_tbl := tb_1 (List.mem_of_getElem? (i := 110) rfl)
set_option maxRecDepth 20000 in
theorem tw_3_14 : Cond.methodLink RL 12 yX5_init ∈ lw_tbl := tb_3 (List.mem_of_getElem? (i := 24) rfl)
set_option maxRecDepth 20000 in
theorem tw_3_15 : Cond.instanceMethod yX5_init ∈ lw_tbl := tb_3 (List.mem_of_getElem? (i := 25) rfl)
set_option maxRecDepth 20000 in
theorem tw_3_16 : Cond.code yX5_init cX5_init 1 none ∈ lw_tbl := tb_3 (List.mem_of_getElem? (i := 26) rfl)
set_option maxRecDepth 20000 in
theorem tw_3_17 : Cond.methodLink RX5 1 objectInit ∈ lw_tbl := tb_3 (List.mem_of_getElem? (i := 27) rfl)
set_option maxRecDepth 20000 in
theorem tw_3_18 : Cond.fieldLink RX5 9 "ArrayMakerModel" "which" "I" ∈ lw_tbl := tb_3 (List.mem_of_getElem? (i := 30) rfl)
set_option maxRecDepth 20000 in
theorem tw_3_19 : Cond.fieldLink RX5 13 "ArrayMakerModel" "low" "[I" ∈ lw_tbl := tb_3 (List.mem_of_getElem? (i := 32) rfl)
set_option maxRecDepth 20000 in
theorem tw_3_20 : Cond.fieldLink RX5 17 "ArrayMakerModel" "high" "[I" ∈ lw_tbl := tb_3 (List.mem_of_getElem? (i := 33) rfl)
set_option maxRecDepth 20000 in
theorem tw_3_21 : Cond.fieldLink RX5 20 "ArrayMakerModel" "kinds" "[I" ∈ lw_tbl := tb_3 (List.mem_of_getElem? (i := 35) rfl)
set_option maxRecDepth 20000 in
theorem tw_3_22 : Cond.fieldLink RX5 23 "ArrayMakerModel" "ranks" "[I" ∈ lw_tbl := tb_3 (List.mem_of_getElem? (i := 36) rfl)
set_option maxRecDepth 20000 in
theorem tw_3_23 : Cond.fieldLink RX5 26 "ArrayMakerModel" "lows" "[I" ∈ lw_tbl := tb_3 (List.mem_of_getElem? (i := 37) rfl)
set_option maxRecDepth 20000 in
theorem tw_4_0 : Cond.fieldLink RX5 29 "ArrayMakerModel" "highs" "[I" ∈ lw_tbl := tb_3 (List.mem_of_getElem? (i := 38) rfl)
set_option maxRecDepth 20000 in
theorem tw_4_1 : Cond.fieldLink RX5 32 "ArrayMakerModel" "rowOf" "[I" ∈ lw_tbl := tb_3 (List.mem_of_getElem? (i := 39) rfl)
set_option maxRecDepth 20000 in
theorem tw_4_2 : Cond.fieldLink RX5 35 "ArrayMakerModel" "rowAt" "[I" ∈ lw_tbl := tb_3 (List.mem_of_getElem? (i := 41) rfl)
set_option maxRecDepth 20000 in
theorem tw_4_3 : Cond.fieldLink RX5 38 "ArrayMakerModel" "rowSize" "[I" ∈ lw_tbl := tb_3 (List.mem_of_getElem? (i := 42) rfl)
set_option maxRecDepth 20000 in
theorem tw_4_4 : Cond.constant RX5 41 (300000) ∈ lw_tbl := tb_3 (List.mem_of_getElem? (i := 28) rfl)
set_option maxRecDepth 20000 in
theorem tw_4_5 : Cond.fieldLink RX5 42 "ArrayMakerModel" "pool" "[J" ∈ lw_tbl := tb_3 (List.mem_of_getElem? (i := 44) rfl)
set_option maxRecDepth 20000 in
theorem tw_4_6 : Cond.fieldLink RX5 46 "ArrayMakerModel" "hasBox" "[Z" ∈ lw_tbl := tb_3 (List.mem_of_getElem? (i := 45) rfl)
set_option maxRecDepth 20000 in
theorem tw_4_7 : Cond.fieldLink RX5 50 "ArrayMakerModel" "slot" "[I" ∈ lw_tbl := tb_3 (List.mem_of_getElem? (i := 47) rfl)
set_option maxRecDepth 20000 in
theorem tw_4_8 : Cond.fieldLink RX5 53 "ArrayMakerModel" "lineI" "[I" ∈ lw_tbl := tb_3 (List.mem_of_getElem? (i := 49) rfl)
set_option maxRecDepth 20000 in
theorem tw_4_9 : Cond.fieldLink RX5 56 "ArrayMakerModel" "lineJ" "[I" ∈ lw_tbl := tb_3 (List.mem_of_getElem? (i := 50) rfl)
set_option maxRecDepth 20000 in
theorem tw_4_10 : Cond.fieldLink RX5 59 "ArrayMakerModel" "lineK" "[I" ∈ lw_tbl := tb_3 (List.mem_of_getElem? (i := 51) rfl)
set_option maxRecDepth 20000 in
theorem tw_4_11 : Cond.fieldLink RX5 62 "ArrayMakerModel" "lineV" "[J" ∈ lw_tbl := tb_3 (List.mem_of_getElem? (i := 52) rfl)
set_option maxRecDepth 20000 in
theorem tw_4_12 : Cond.methodLink RL 13 yX4_code ∈ lw_tbl := tb_1 (List.mem_of_getElem? (i := 146) rfl)
set_option maxRecDepth 20000 in
theorem tw_4_13 : Cond.instanceMethod yX4_code ∈ lw_tbl := tb_1 (List.mem_of_getElem? (i := 147) rfl)
set_option maxRecDepth 20000 in
theorem tw_4_14 : Cond.selects RX4 yX4_code yX4_code ∈ lw_tbl := tb_1 (List.mem_of_getElem? (i := 148) rfl)
set_option maxRecDepth 20000 in
theorem tw_4_15 : Cond.code yX4_code cX4_code 1 (some .int) ∈ lw_tbl := tb_1 (List.mem_of_getElem? (i := 149) rfl)
set_option maxRecDepth 20000 in
theorem tw_4_16 : Cond.methodLink RL 17 yX5_code ∈ lw_tbl := tb_3 (List.mem_of_getElem? (i := 105) rfl)
set_option maxRecDepth 20000 in
theorem tw_4_17 : Cond.instanceMethod yX5_code ∈ lw_tbl := tb_3 (List.mem_of_getElem? (i := 106) rfl)
set_option maxRecDepth 20000 in
theorem tw_4_18 : Cond.selects RX5 yX5_code yX5_code ∈ lw_tbl := tb_3 (List.mem_of_getElem? (i := 107) rfl)
set_option maxRecDepth 20000 in
theorem tw_4_19 : Cond.code yX5_code cX5_code 1 (some .int) ∈ lw_tbl := tb_3 (List.mem_of_getElem? (i := 108) rfl)
set_option maxRecDepth 20000 in
theorem tw_4_20 : Cond.fieldLink RX5 65 "ArrayMakerModel" "code" "I" ∈ lw_tbl := tb_3 (List.mem_of_getElem? (i := 29) rfl)
set_option maxRecDepth 20000 in
theorem tw_4_21 : Cond.methodLink RL 18 yX4_which ∈ lw_tbl := tb_1 (List.mem_of_getElem? (i := 150) rfl)
set_option maxRecDepth 20000 in
theorem tw_4_22 : Cond.instanceMethod yX4_which ∈ lw_tbl := tb_1 (List.mem_of_getElem? (i := 151) rfl)
set_option maxRecDepth 20000 in
theorem tw_4_23 : Cond.selects RX4 yX4_which yX4_which ∈ lw_tbl := tb_1 (List.mem_of_getElem? (i := 152) rfl)
set_option maxRecDepth 20000 in
theorem tw_5_0 : Cond.code yX4_which cX4_which 1 (some .int) ∈ lw_tbl := tb_1 (List.mem_of_getElem? (i := 153) rfl)
set_option maxRecDepth 20000 in
theorem tw_5_1 : Cond.methodLink RL 21 yX5_which ∈ lw_tbl := tb_3 (List.mem_of_getElem? (i := 109) rfl)
set_option maxRecDepth 20000 in
theorem tw_5_2 : Cond.instanceMethod yX5_which ∈ lw_tbl := tb_3 (List.mem_of_getElem? (i := 110) rfl)
set_option maxRecDepth 20000 in
theorem tw_5_3 : Cond.selects RX5 yX5_which yX5_which ∈ lw_tbl := tb_3 (List.mem_of_getElem? (i := 111) rfl)
set_option maxRecDepth 20000 in
theorem tw_5_4 : Cond.code yX5_which cX5_which 1 (some .int) ∈ lw_tbl := tb_3 (List.mem_of_getElem? (i := 112) rfl)
set_option maxRecDepth 20000 in
theorem tw_5_5 : Cond.methodLink RL 22 yX4_range ∈ lw_tbl := tb_1 (List.mem_of_getElem? (i := 154) rfl)
set_option maxRecDepth 20000 in
theorem tw_5_6 : Cond.instanceMethod yX4_range ∈ lw_tbl := tb_1 (List.mem_of_getElem? (i := 155) rfl)
set_option maxRecDepth 20000 in
theorem tw_5_7 : Cond.selects RX4 yX4_range yX4_range ∈ lw_tbl := tb_1 (List.mem_of_getElem? (i := 156) rfl)
set_option maxRecDepth 20000 in
theorem tw_5_8 : Cond.code yX4_range cX4_range 3 (some .int) ∈ lw_tbl := tb_1 (List.mem_of_getElem? (i := 157) rfl)
set_option maxRecDepth 20000 in
theorem tw_5_9 : Cond.fieldLink RX4 51 "ArrayMaker$Shape" "count" "I" ∈ lw_tbl := tb_1 (List.mem_of_getElem? (i := 31) rfl)
set_option maxRecDepth 20000 in
theorem tw_5_10 : Cond.methodLink RX4 54 yX4_stop ∈ lw_tbl := tb_1 (List.mem_of_getElem? (i := 158) rfl)
set_option maxRecDepth 20000 in
theorem tw_5_11 : Cond.instanceMethod yX4_stop ∈ lw_tbl := tb_1 (List.mem_of_getElem? (i := 160) rfl)
set_option maxRecDepth 20000 in
theorem tw_5_12 : Cond.selects RX4 yX4_stop yX4_stop ∈ lw_tbl := tb_p (pv_1 (List.mem_of_getElem? (i := 0) rfl))
set_option maxRecDepth 20000 in
theorem tw_5_13 : Cond.code yX4_stop cX4_stop 2 (some .int) ∈ lw_tbl := tb_1 (List.mem_of_getElem? (i := 161) rfl)
set_option maxRecDepth 20000 in
theorem tw_5_14 : Cond.methodLink RX4 205 yX4_tell ∈ lw_tbl := tb_1 (List.mem_of_getElem? (i := 162) rfl)
set_option maxRecDepth 20000 in
theorem tw_5_15 : Cond.instanceMethod yX4_tell ∈ lw_tbl := tb_1 (List.mem_of_getElem? (i := 164) rfl)
set_option maxRecDepth 20000 in
theorem tw_5_16 : Cond.selects RX4 yX4_tell yX4_tell ∈ lw_tbl := tb_p (pv_1 (List.mem_of_getElem? (i := 1) rfl))
set_option maxRecDepth 20000 in
theorem tw_5_17 : Cond.code yX4_tell cX4_tell 3 (some .int) ∈ lw_tbl := tb_1 (List.mem_of_getElem? (i := 165) rfl)
set_option maxRecDepth 20000 in
theorem tw_5_18 : Cond.methodLink RX4 58 yX2_add ∈ lw_tbl := tb_1 (List.mem_of_getElem? (i := 166) rfl)
set_option maxRecDepth 20000 in
theorem tw_5_19 : Cond.instanceMethod yX2_add ∈ lw_tbl := tb_1 (List.mem_of_getElem? (i := 167) rfl)
set_option maxRecDepth 20000 in
theorem tw_5_20 : Cond.selects RX2 yX2_add yX2_add ∈ lw_tbl := tb_1 (List.mem_of_getElem? (i := 168) rfl)
set_option maxRecDepth 20000 in
theorem tw_5_21 : Cond.code yX2_add cX2_add 3 none ∈ lw_tbl := tb_1 (List.mem_of_getElem? (i := 169) rfl)
set_option maxRecDepth 20000 in
theorem tw_5_22 : Cond.fieldLink RX2 18 "ArrayMaker$Shape" "count" "I" ∈ lw_tbl := tb_1 (List.mem_of_getElem? (i := 30) rfl)
set_option maxRecDepth 20000 in
theorem tw_5_23 : Cond.methodLink RX4 62 yX4_done ∈ lw_tbl := tb_1 (List.mem_of_getElem? (i := 170) rfl)
set_option maxRecDepth 20000 in
theorem tw_6_0 : Cond.instanceMethod yX4_done ∈ lw_tbl := tb_1 (List.mem_of_getElem? (i := 172) rfl)
set_option maxRecDepth 20000 in
theorem tw_6_1 : Cond.selects RX4 yX4_done yX4_done ∈ lw_tbl := tb_p (pv_1 (List.mem_of_getElem? (i := 2) rfl))
set_option maxRecDepth 20000 in
theorem tw_6_2 : Cond.code yX4_done cX4_done 2 (some .int) ∈ lw_tbl := tb_1 (List.mem_of_getElem? (i := 173) rfl)
set_option maxRecDepth 20000 in
theorem tw_6_3 : Cond.methodLink RL 26 yX5_range ∈ lw_tbl := tb_3 (List.mem_of_getElem? (i := 113) rfl)
set_option maxRecDepth 20000 in
theorem tw_6_4 : Cond.instanceMethod yX5_range ∈ lw_tbl := tb_3 (List.mem_of_getElem? (i := 114) rfl)
set_option maxRecDepth 20000 in
theorem tw_6_5 : Cond.selects RX5 yX5_range yX5_range ∈ lw_tbl := tb_3 (List.mem_of_getElem? (i := 115) rfl)
set_option maxRecDepth 20000 in
theorem tw_6_6 : Cond.code yX5_range cX5_range 3 (some .int) ∈ lw_tbl := tb_3 (List.mem_of_getElem? (i := 116) rfl)
set_option maxRecDepth 20000 in
theorem tw_6_7 : Cond.fieldLink RX5 72 "ArrayMakerModel" "dimensions" "I" ∈ lw_tbl := tb_3 (List.mem_of_getElem? (i := 31) rfl)
set_option maxRecDepth 20000 in
theorem tw_6_8 : Cond.methodLink RX5 68 yX5_no ∈ lw_tbl := tb_3 (List.mem_of_getElem? (i := 117) rfl)
set_option maxRecDepth 20000 in
theorem tw_6_9 : Cond.instanceMethod yX5_no ∈ lw_tbl := tb_3 (List.mem_of_getElem? (i := 119) rfl)
set_option maxRecDepth 20000 in
theorem tw_6_10 : Cond.selects RX5 yX5_no yX5_no ∈ lw_tbl := tb_p (pv_2 (List.mem_of_getElem? (i := 9) rfl))
set_option maxRecDepth 20000 in
theorem tw_6_11 : Cond.code yX5_no cX5_no 2 (some .int) ∈ lw_tbl := tb_3 (List.mem_of_getElem? (i := 120) rfl)
set_option maxRecDepth 20000 in
theorem tw_6_12 : Cond.methodLink RX5 75 yX5_yes ∈ lw_tbl := tb_3 (List.mem_of_getElem? (i := 121) rfl)
set_option maxRecDepth 20000 in
theorem tw_6_13 : Cond.instanceMethod yX5_yes ∈ lw_tbl := tb_3 (List.mem_of_getElem? (i := 123) rfl)
set_option maxRecDepth 20000 in
theorem tw_6_14 : Cond.selects RX5 yX5_yes yX5_yes ∈ lw_tbl := tb_p (pv_2 (List.mem_of_getElem? (i := 10) rfl))
set_option maxRecDepth 20000 in
theorem tw_6_15 : Cond.code yX5_yes cX5_yes 2 (some .int) ∈ lw_tbl := tb_3 (List.mem_of_getElem? (i := 124) rfl)
set_option maxRecDepth 20000 in
theorem tw_6_16 : Cond.methodLink RL 27 yX4_shapeless ∈ lw_tbl := tb_1 (List.mem_of_getElem? (i := 174) rfl)
set_option maxRecDepth 20000 in
theorem tw_6_17 : Cond.instanceMethod yX4_shapeless ∈ lw_tbl := tb_1 (List.mem_of_getElem? (i := 175) rfl)
set_option maxRecDepth 20000 in
theorem tw_6_18 : Cond.selects RX4 yX4_shapeless yX4_shapeless ∈ lw_tbl := tb_1 (List.mem_of_getElem? (i := 176) rfl)
set_option maxRecDepth 20000 in
theorem tw_6_19 : Cond.code yX4_shapeless cX4_shapeless 2 (some .int) ∈ lw_tbl := tb_1 (List.mem_of_getElem? (i := 177) rfl)
set_option maxRecDepth 20000 in
theorem tw_6_20 : Cond.methodLink RL 30 yX5_shapeless ∈ lw_tbl := tb_3 (List.mem_of_getElem? (i := 125) rfl)
set_option maxRecDepth 20000 in
theorem tw_6_21 : Cond.instanceMethod yX5_shapeless ∈ lw_tbl := tb_3 (List.mem_of_getElem? (i := 126) rfl)
set_option maxRecDepth 20000 in
theorem tw_6_22 : Cond.selects RX5 yX5_shapeless yX5_shapeless ∈ lw_tbl := tb_3 (List.mem_of_getElem? (i := 127) rfl)
set_option maxRecDepth 20000 in
theorem tw_6_23 : Cond.code yX5_shapeless cX5_shapeless 2 (some .int) ∈ lw_tbl := tb_3 (List.mem_of_getElem? (i := 128) rfl)
set_option maxRecDepth 20000 in
theorem tw_7_0 : Cond.methodLink RL 31 yX4_make ∈ lw_tbl := tb_1 (List.mem_of_getElem? (i := 178) rfl)
set_option maxRecDepth 20000 in
theorem tw_7_1 : Cond.instanceMethod yX4_make ∈ lw_tbl := tb_1 (List.mem_of_getElem? (i := 179) rfl)
set_option maxRecDepth 20000 in
theorem tw_7_2 : Cond.selects RX4 yX4_make yX4_make ∈ lw_tbl := tb_1 (List.mem_of_getElem? (i := 180) rfl)
set_option maxRecDepth 20000 in
theorem tw_7_3 : Cond.code yX4_make cX4_make 4 (some .int) ∈ lw_tbl := tb_1 (List.mem_of_getElem? (i := 181) rfl)
set_option maxRecDepth 20000 in
theorem tw_7_4 : Cond.constant RX4 65 (-2000000001) ∈ lw_tbl := tb_1 (List.mem_of_getElem? (i := 182) rfl)
set_option maxRecDepth 20000 in
theorem tw_7_5 : Cond.methodLink RX4 66 yX4_whyNotMade ∈ lw_tbl := tb_1 (List.mem_of_getElem? (i := 183) rfl)
set_option maxRecDepth 20000 in
theorem tw_7_6 : Cond.instanceMethod yX4_whyNotMade ∈ lw_tbl := tb_1 (List.mem_of_getElem? (i := 185) rfl)
set_option maxRecDepth 20000 in
theorem tw_7_7 : Cond.selects RX4 yX4_whyNotMade yX4_whyNotMade ∈ lw_tbl := tb_p (pv_1 (List.mem_of_getElem? (i := 3) rfl))
set_option maxRecDepth 20000 in
theorem tw_7_8 : Cond.code yX4_whyNotMade cX4_whyNotMade 4 (some .int) ∈ lw_tbl := tb_1 (List.mem_of_getElem? (i := 186) rfl)
set_option maxRecDepth 20000 in
theorem tw_7_9 : Cond.constantLong RX4 238 (500) ∈ lw_tbl := tb_1 (List.mem_of_getElem? (i := 203) rfl)
set_option maxRecDepth 20000 in
theorem tw_7_10 : Cond.methodLink RX4 96 yX2_items ∈ lw_tbl := tb_1 (List.mem_of_getElem? (i := 187) rfl)
set_option maxRecDepth 20000 in
theorem tw_7_11 : Cond.instanceMethod yX2_items ∈ lw_tbl := tb_1 (List.mem_of_getElem? (i := 188) rfl)
set_option maxRecDepth 20000 in
theorem tw_7_12 : Cond.selects RX2 yX2_items yX2_items ∈ lw_tbl := tb_1 (List.mem_of_getElem? (i := 189) rfl)
set_option maxRecDepth 20000 in
theorem tw_7_13 : Cond.code yX2_items cX2_items 4 (some .int) ∈ lw_tbl := tb_1 (List.mem_of_getElem? (i := 190) rfl)
set_option maxRecDepth 20000 in
theorem tw_7_14 : Cond.constantLong RX2 32 (501) ∈ lw_tbl := tb_1 (List.mem_of_getElem? (i := 191) rfl)
set_option maxRecDepth 20000 in
theorem tw_7_15 : Cond.methodLink RX2 34 Lib.MathLoose.min_long.x ∈ lw_tbl := tb_1 (List.mem_of_getElem? (i := 192) rfl)
set_option maxRecDepth 20000 in
theorem tw_7_16 : Cond.static Lib.MathLoose.min_long.x ∈ lw_tbl := tb_1 (List.mem_of_getElem? (i := 193) rfl)
set_option maxRecDepth 20000 in
theorem tw_7_17 : Cond.initialized "java/lang/Math" ∈ lw_tbl := tb_1 (List.mem_of_getElem? (i := 7) rfl)
set_option maxRecDepth 20000 in
theorem tw_7_18 : Cond.code Lib.MathLoose.min_long.x Lib.MathLoose.min_long.code 4 (some .long) ∈ lw_tbl := tb_1 (List.mem_of_getElem? (i := 194) rfl)
set_option maxRecDepth 20000 in
theorem tw_7_19 : Cond.methodLink RX2 37 yX2_length ∈ lw_tbl := tb_1 (List.mem_of_getElem? (i := 195) rfl)
set_option maxRecDepth 20000 in
theorem tw_7_20 : Cond.instanceMethod yX2_length ∈ lw_tbl := tb_1 (List.mem_of_getElem? (i := 196) rfl)
set_option maxRecDepth 20000 in
theorem tw_7_21 : Cond.selects RX2 yX2_length yX2_length ∈ lw_tbl := tb_1 (List.mem_of_getElem? (i := 197) rfl)
set_option maxRecDepth 20000 in
theorem tw_7_22 : Cond.code yX2_length cX2_length 2 (some .long) ∈ lw_tbl := tb_1 (List.mem_of_getElem? (i := 198) rfl)
set_option maxRecDepth 20000 in
theorem tw_7_23 : Cond.methodLink RX2 26 Lib.MathLoose.max_long.x ∈ lw_tbl := tb_1 (List.mem_of_getElem? (i := 199) rfl)
set_option maxRecDepth 20000 in
theorem tw_8_0 : Cond.static Lib.MathLoose.max_long.x ∈ lw_tbl := tb_1 (List.mem_of_getElem? (i := 200) rfl)
set_option maxRecDepth 20000 in
theorem tw_8_1 : Cond.code Lib.MathLoose.max_long.x Lib.MathLoose.max_long.code 4 (some .long) ∈ lw_tbl := tb_1 (List.mem_of_getElem? (i := 201) rfl)
set_option maxRecDepth 20000 in
theorem tw_8_2 : Cond.methodLink RX4 235 yX2_length ∈ lw_tbl := tb_1 (List.mem_of_getElem? (i := 202) rfl)
set_option maxRecDepth 20000 in
theorem tw_8_3 : Cond.methodLink RX4 80 yX4_hasRoom ∈ lw_tbl := tb_1 (List.mem_of_getElem? (i := 204) rfl)
set_option maxRecDepth 20000 in
theorem tw_8_4 : Cond.instanceMethod yX4_hasRoom ∈ lw_tbl := tb_1 (List.mem_of_getElem? (i := 206) rfl)
set_option maxRecDepth 20000 in
theorem tw_8_5 : Cond.selects RX4 yX4_hasRoom yX4_hasRoom ∈ lw_tbl := tb_p (pv_1 (List.mem_of_getElem? (i := 4) rfl))
set_option maxRecDepth 20000 in
theorem tw_8_6 : Cond.code yX4_hasRoom cX4_hasRoom 3 (some .boolean) ∈ lw_tbl := tb_1 (List.mem_of_getElem? (i := 207) rfl)
set_option maxRecDepth 20000 in
theorem tw_8_7 : Cond.methodLink RX4 147 yX3_reserve ∈ lw_tbl := tb_1 (List.mem_of_getElem? (i := 208) rfl)
set_option maxRecDepth 20000 in
theorem tw_8_8 : Cond.instanceMethod yX3_reserve ∈ lw_tbl := tb_1 (List.mem_of_getElem? (i := 209) rfl)
set_option maxRecDepth 20000 in
theorem tw_8_9 : Cond.selects RX3 yX3_reserve yX3_reserve ∈ lw_tbl := tb_1 (List.mem_of_getElem? (i := 210) rfl)
set_option maxRecDepth 20000 in
theorem tw_8_10 : Cond.code yX3_reserve cX3_reserve 3 (some .boolean) ∈ lw_tbl := tb_1 (List.mem_of_getElem? (i := 211) rfl)
set_option maxRecDepth 20000 in
theorem tw_8_11 : Cond.fieldLink RX3 26 "ArrayMaker$Store" "rowCount" "I" ∈ lw_tbl := tb_1 (List.mem_of_getElem? (i := 81) rfl)
set_option maxRecDepth 20000 in
theorem tw_8_12 : Cond.constant RX3 30 (63200) ∈ lw_tbl := tb_1 (List.mem_of_getElem? (i := 212) rfl)
set_option maxRecDepth 20000 in
theorem tw_8_13 : Cond.fieldLink RX3 31 "ArrayMaker$Store" "cellCount" "I" ∈ lw_tbl := tb_1 (List.mem_of_getElem? (i := 80) rfl)
set_option maxRecDepth 20000 in
theorem tw_8_14 : Cond.methodLink RX3 34 yX3_growRows ∈ lw_tbl := tb_1 (List.mem_of_getElem? (i := 213) rfl)
set_option maxRecDepth 20000 in
theorem tw_8_15 : Cond.instanceMethod yX3_growRows ∈ lw_tbl := tb_1 (List.mem_of_getElem? (i := 215) rfl)
set_option maxRecDepth 20000 in
theorem tw_8_16 : Cond.selects RX3 yX3_growRows yX3_growRows ∈ lw_tbl := tb_p (pv_1 (List.mem_of_getElem? (i := 5) rfl))
set_option maxRecDepth 20000 in
theorem tw_8_17 : Cond.code yX3_growRows cX3_growRows 3 none ∈ lw_tbl := tb_1 (List.mem_of_getElem? (i := 216) rfl)
set_option maxRecDepth 20000 in
theorem tw_8_18 : Cond.methodLink RX3 41 Lib.Math.max.name ∈ lw_tbl := tb_1 (List.mem_of_getElem? (i := 217) rfl)
set_option maxRecDepth 20000 in
theorem tw_8_19 : Cond.static Lib.Math.max.name ∈ lw_tbl := tb_1 (List.mem_of_getElem? (i := 218) rfl)
set_option maxRecDepth 20000 in
theorem tw_8_20 : Cond.code Lib.Math.max.name Lib.Math.max.code 2 (some .int) ∈ lw_tbl := tb_1 (List.mem_of_getElem? (i := 219) rfl)
set_option maxRecDepth 20000 in
theorem tw_8_21 : Cond.methodLink RX3 47 yJ7_copyOf_59c91 ∈ lw_tbl := tb_1 (List.mem_of_getElem? (i := 220) rfl)
set_option maxRecDepth 20000 in
theorem tw_8_22 : Cond.static yJ7_copyOf_59c91 ∈ lw_tbl := tb_1 (List.mem_of_getElem? (i := 221) rfl)
set_option maxRecDepth 20000 in
theorem tw_8_23 : Cond.initialized RJ7 ∈ lw_tbl := tb_1 (List.mem_of_getElem? (i := 8) rfl)
set_option maxRecDepth 20000 in
theorem tw_9_0 : Cond.code yJ7_copyOf_59c91 cJ7_copyOf_59c91 3 (some (.array .int)) ∈ lw_tbl := tb_1 (List.mem_of_getElem? (i := 222) rfl)
set_option maxRecDepth 20000 in
theorem tw_9_1 : Cond.methodLink RJ7 316 ⟨"[I", "clone", "()Ljava/lang/Object;"⟩ ∈ lw_tbl := tb_1 (List.mem_of_getElem? (i := 223) rfl)
set_option maxRecDepth 20000 in
theorem tw_9_2 : Cond.sameMethod "[I" "java/lang/Object" "clone" "()Ljava/lang/Object;" ∈ lw_tbl := tb_1 (List.mem_of_getElem? (i := 224) rfl)
set_option maxRecDepth 20000 in
theorem tw_9_3 : Cond.native ⟨"java/lang/Object", "clone", "()Ljava/lang/Object;"⟩ ∈ lw_tbl := tb_1 (List.mem_of_getElem? (i := 225) rfl)
set_option maxRecDepth 20000 in
theorem tw_9_4 : Cond.instanceMethod ⟨"java/lang/Object", "clone", "()Ljava/lang/Object;"⟩ ∈ lw_tbl := tb_1 (List.mem_of_getElem? (i := 226) rfl)
set_option maxRecDepth 20000 in
theorem tw_9_5 : Cond.selects "[I" ⟨"[I", "clone", "()Ljava/lang/Object;"⟩ ⟨"java/lang/Object", "clone", "()Ljava/lang/Object;"⟩ ∈ lw_tbl := tb_1 (List.mem_of_getElem? (i := 227) rfl)
set_option maxRecDepth 20000 in
theorem tw_9_6 : Cond.classLink RJ7 317 "[I" ∈ lw_tbl := tb_1 (List.mem_of_getElem? (i := 229) rfl)
set_option maxRecDepth 20000 in
theorem tw_9_7 : Cond.methodLink RJ7 304 Lib.Math.min.name ∈ lw_tbl := tb_1 (List.mem_of_getElem? (i := 230) rfl)
set_option maxRecDepth 20000 in
theorem tw_9_8 : Cond.static Lib.Math.min.name ∈ lw_tbl := tb_1 (List.mem_of_getElem? (i := 231) rfl)
set_option maxRecDepth 20000 in
theorem tw_9_9 : Cond.code Lib.Math.min.name Lib.Math.min.code 2 (some .int) ∈ lw_tbl := tb_1 (List.mem_of_getElem? (i := 232) rfl)
set_option maxRecDepth 20000 in
theorem tw_9_10 : Cond.methodLink RJ7 150 arraycopyName ∈ lw_tbl := tb_1 (List.mem_of_getElem? (i := 233) rfl)
set_option maxRecDepth 20000 in
theorem tw_9_11 : Cond.native arraycopyName ∈ lw_tbl := tb_1 (List.mem_of_getElem? (i := 235) rfl)
set_option maxRecDepth 20000 in
theorem tw_9_12 : Cond.static arraycopyName ∈ lw_tbl := tb_1 (List.mem_of_getElem? (i := 234) rfl)
set_option maxRecDepth 20000 in
theorem tw_9_13 : Cond.initialized "java/lang/System" ∈ lw_tbl := tb_1 (List.mem_of_getElem? (i := 9) rfl)
set_option maxRecDepth 20000 in
theorem tw_9_14 : Cond.methodLink RX3 38 yX3_growCells ∈ lw_tbl := tb_1 (List.mem_of_getElem? (i := 236) rfl)
set_option maxRecDepth 20000 in
theorem tw_9_15 : Cond.instanceMethod yX3_growCells ∈ lw_tbl := tb_1 (List.mem_of_getElem? (i := 238) rfl)
set_option maxRecDepth 20000 in
theorem tw_9_16 : Cond.selects RX3 yX3_growCells yX3_growCells ∈ lw_tbl := tb_p (pv_1 (List.mem_of_getElem? (i := 6) rfl))
set_option maxRecDepth 20000 in
theorem tw_9_17 : Cond.code yX3_growCells cX3_growCells 3 none ∈ lw_tbl := tb_1 (List.mem_of_getElem? (i := 239) rfl)
set_option maxRecDepth 20000 in
theorem tw_9_18 : Cond.methodLink RX3 53 yJ7_copyOf_c38d5 ∈ lw_tbl := tb_2 (List.mem_of_getElem? (i := 0) rfl)
set_option maxRecDepth 20000 in
theorem tw_9_19 : Cond.static yJ7_copyOf_c38d5 ∈ lw_tbl := tb_2 (List.mem_of_getElem? (i := 1) rfl)
set_option maxRecDepth 20000 in
theorem tw_9_20 : Cond.code yJ7_copyOf_c38d5 cJ7_copyOf_c38d5 3 (some (.array .long)) ∈ lw_tbl := tb_2 (List.mem_of_getElem? (i := 2) rfl)
set_option maxRecDepth 20000 in
theorem tw_9_21 : Cond.methodLink RJ7 319 ⟨"[J", "clone", "()Ljava/lang/Object;"⟩ ∈ lw_tbl := tb_2 (List.mem_of_getElem? (i := 3) rfl)
set_option maxRecDepth 20000 in
theorem tw_9_22 : Cond.sameMethod "[J" "java/lang/Object" "clone" "()Ljava/lang/Object;" ∈ lw_tbl := tb_2 (List.mem_of_getElem? (i := 4) rfl)
set_option maxRecDepth 20000 in
theorem tw_9_23 : Cond.selects "[J" ⟨"[J", "clone", "()Ljava/lang/Object;"⟩ ⟨"java/lang/Object", "clone", "()Ljava/lang/Object;"⟩ ∈ lw_tbl := tb_2 (List.mem_of_getElem? (i := 5) rfl)
set_option maxRecDepth 20000 in
theorem tw_10_0 : Cond.classLink RJ7 320 "[J" ∈ lw_tbl := tb_2 (List.mem_of_getElem? (i := 7) rfl)
set_option maxRecDepth 20000 in
theorem tw_10_1 : Cond.methodLink RX3 56 yX3_grown ∈ lw_tbl := tb_2 (List.mem_of_getElem? (i := 8) rfl)
set_option maxRecDepth 20000 in
theorem tw_10_2 : Cond.static yX3_grown ∈ lw_tbl := tb_2 (List.mem_of_getElem? (i := 9) rfl)
set_option maxRecDepth 20000 in
theorem tw_10_3 : Cond.code yX3_grown cX3_grown 4 (some (.array .boolean)) ∈ lw_tbl := tb_2 (List.mem_of_getElem? (i := 10) rfl)
set_option maxRecDepth 20000 in
theorem tw_10_4 : Cond.methodLink RX4 69 yX4_nextArrayIn ∈ lw_tbl := tb_2 (List.mem_of_getElem? (i := 11) rfl)
set_option maxRecDepth 20000 in
theorem tw_10_5 : Cond.instanceMethod yX4_nextArrayIn ∈ lw_tbl := tb_2 (List.mem_of_getElem? (i := 13) rfl)
set_option maxRecDepth 20000 in
theorem tw_10_6 : Cond.selects RX4 yX4_nextArrayIn yX4_nextArrayIn ∈ lw_tbl := tb_p (pv_1 (List.mem_of_getElem? (i := 7) rfl))
set_option maxRecDepth 20000 in
theorem tw_10_7 : Cond.code yX4_nextArrayIn cX4_nextArrayIn 4 (some (.object "ArrayMaker$MadeArray")) ∈ lw_tbl := tb_2 (List.mem_of_getElem? (i := 14) rfl)
set_option maxRecDepth 20000 in
theorem tw_10_8 : Cond.fieldLink RX4 88 "ArrayMaker$MadeArray" "shape" "LArrayMaker$Shape;" ∈ lw_tbl := tb_1 (List.mem_of_getElem? (i := 106) rfl)
set_option maxRecDepth 20000 in
theorem tw_10_9 : Cond.methodLink RX4 84 yX4_nextArray ∈ lw_tbl := tb_2 (List.mem_of_getElem? (i := 15) rfl)
set_option maxRecDepth 20000 in
theorem tw_10_10 : Cond.instanceMethod yX4_nextArray ∈ lw_tbl := tb_2 (List.mem_of_getElem? (i := 17) rfl)
set_option maxRecDepth 20000 in
theorem tw_10_11 : Cond.selects RX4 yX4_nextArray yX4_nextArray ∈ lw_tbl := tb_p (pv_1 (List.mem_of_getElem? (i := 8) rfl))
set_option maxRecDepth 20000 in
theorem tw_10_12 : Cond.code yX4_nextArray cX4_nextArray 3 (some (.object "ArrayMaker$MadeArray")) ∈ lw_tbl := tb_2 (List.mem_of_getElem? (i := 18) rfl)
set_option maxRecDepth 20000 in
theorem tw_10_13 : Cond.fieldLink RX4 106 "ArrayMaker$MadeArray" "kind" "I" ∈ lw_tbl := tb_1 (List.mem_of_getElem? (i := 107) rfl)
set_option maxRecDepth 20000 in
theorem tw_10_14 : Cond.fieldLink RX4 100 "ArrayMaker$MadeArray" "row" "I" ∈ lw_tbl := tb_1 (List.mem_of_getElem? (i := 109) rfl)
set_option maxRecDepth 20000 in
theorem tw_10_15 : Cond.methodLink RX4 240 yX2_addAll ∈ lw_tbl := tb_2 (List.mem_of_getElem? (i := 19) rfl)
set_option maxRecDepth 20000 in
theorem tw_10_16 : Cond.instanceMethod yX2_addAll ∈ lw_tbl := tb_2 (List.mem_of_getElem? (i := 20) rfl)
set_option maxRecDepth 20000 in
theorem tw_10_17 : Cond.selects RX2 yX2_addAll yX2_addAll ∈ lw_tbl := tb_2 (List.mem_of_getElem? (i := 21) rfl)
set_option maxRecDepth 20000 in
theorem tw_10_18 : Cond.code yX2_addAll cX2_addAll 3 none ∈ lw_tbl := tb_2 (List.mem_of_getElem? (i := 22) rfl)
set_option maxRecDepth 20000 in
theorem tw_10_19 : Cond.methodLink RX2 22 yX2_add ∈ lw_tbl := tb_2 (List.mem_of_getElem? (i := 23) rfl)
set_option maxRecDepth 20000 in
theorem tw_10_20 : Cond.methodLink RX4 73 yX4_addTableRows ∈ lw_tbl := tb_2 (List.mem_of_getElem? (i := 24) rfl)
set_option maxRecDepth 20000 in
theorem tw_10_21 : Cond.instanceMethod yX4_addTableRows ∈ lw_tbl := tb_2 (List.mem_of_getElem? (i := 26) rfl)
set_option maxRecDepth 20000 in
theorem tw_10_22 : Cond.selects RX4 yX4_addTableRows yX4_addTableRows ∈ lw_tbl := tb_p (pv_1 (List.mem_of_getElem? (i := 9) rfl))
set_option maxRecDepth 20000 in
theorem tw_10_23 : Cond.code yX4_addTableRows cX4_addTableRows 5 none ∈ lw_tbl := tb_2 (List.mem_of_getElem? (i := 27) rfl)
set_option maxRecDepth 20000 in
theorem tw_11_0 : Cond.fieldLink RX4 133 "ArrayMaker$MadeArray" "rows" "[I" ∈ lw_tbl := tb_1 (List.mem_of_getElem? (i := 111) rfl)
set_option maxRecDepth 20000 in
theorem tw_11_1 : Cond.methodLink RX4 130 yX1_rowCount ∈ lw_tbl := tb_2 (List.mem_of_getElem? (i := 28) rfl)
set_option maxRecDepth 20000 in
theorem tw_11_2 : Cond.instanceMethod yX1_rowCount ∈ lw_tbl := tb_2 (List.mem_of_getElem? (i := 29) rfl)
set_option maxRecDepth 20000 in
theorem tw_11_3 : Cond.selects RX1 yX1_rowCount yX1_rowCount ∈ lw_tbl := tb_2 (List.mem_of_getElem? (i := 30) rfl)
set_option maxRecDepth 20000 in
theorem tw_11_4 : Cond.code yX1_rowCount cX1_rowCount 1 (some .int) ∈ lw_tbl := tb_2 (List.mem_of_getElem? (i := 31) rfl)
set_option maxRecDepth 20000 in
theorem tw_11_5 : Cond.methodLink RX1 26 yX2_length ∈ lw_tbl := tb_2 (List.mem_of_getElem? (i := 32) rfl)
set_option maxRecDepth 20000 in
theorem tw_11_6 : Cond.methodLink RX4 154 yX3_addRow ∈ lw_tbl := tb_2 (List.mem_of_getElem? (i := 33) rfl)
set_option maxRecDepth 20000 in
theorem tw_11_7 : Cond.instanceMethod yX3_addRow ∈ lw_tbl := tb_2 (List.mem_of_getElem? (i := 34) rfl)
set_option maxRecDepth 20000 in
theorem tw_11_8 : Cond.selects RX3 yX3_addRow yX3_addRow ∈ lw_tbl := tb_2 (List.mem_of_getElem? (i := 35) rfl)
set_option maxRecDepth 20000 in
theorem tw_11_9 : Cond.code yX3_addRow cX3_addRow 5 (some .int) ∈ lw_tbl := tb_2 (List.mem_of_getElem? (i := 36) rfl)
set_option maxRecDepth 20000 in
theorem tw_11_10 : Cond.methodLink RX4 77 yX4_addOwnRow ∈ lw_tbl := tb_2 (List.mem_of_getElem? (i := 37) rfl)
set_option maxRecDepth 20000 in
theorem tw_11_11 : Cond.instanceMethod yX4_addOwnRow ∈ lw_tbl := tb_2 (List.mem_of_getElem? (i := 39) rfl)
set_option maxRecDepth 20000 in
theorem tw_11_12 : Cond.selects RX4 yX4_addOwnRow yX4_addOwnRow ∈ lw_tbl := tb_p (pv_1 (List.mem_of_getElem? (i := 10) rfl))
set_option maxRecDepth 20000 in
theorem tw_11_13 : Cond.code yX4_addOwnRow cX4_addOwnRow 2 none ∈ lw_tbl := tb_2 (List.mem_of_getElem? (i := 40) rfl)
set_option maxRecDepth 20000 in
theorem tw_11_14 : Cond.methodLink RL 35 yX5_make ∈ lw_tbl := tb_3 (List.mem_of_getElem? (i := 129) rfl)
set_option maxRecDepth 20000 in
theorem tw_11_15 : Cond.instanceMethod yX5_make ∈ lw_tbl := tb_3 (List.mem_of_getElem? (i := 130) rfl)
set_option maxRecDepth 20000 in
theorem tw_11_16 : Cond.selects RX5 yX5_make yX5_make ∈ lw_tbl := tb_3 (List.mem_of_getElem? (i := 131) rfl)
set_option maxRecDepth 20000 in
theorem tw_11_17 : Cond.code yX5_make cX5_make 4 (some .int) ∈ lw_tbl := tb_3 (List.mem_of_getElem? (i := 132) rfl)
set_option maxRecDepth 20000 in
theorem tw_11_18 : Cond.constantLong RX5 114 (4) ∈ lw_tbl := tb_3 (List.mem_of_getElem? (i := 133) rfl)
set_option maxRecDepth 20000 in
theorem tw_11_19 : Cond.constant RX5 116 (-2000000001) ∈ lw_tbl := tb_3 (List.mem_of_getElem? (i := 137) rfl)
set_option maxRecDepth 20000 in
theorem tw_11_20 : Cond.constantLong RX5 82 (500) ∈ lw_tbl := tb_3 (List.mem_of_getElem? (i := 145) rfl)
set_option maxRecDepth 20000 in
theorem tw_11_21 : Cond.fieldLink RX5 98 "ArrayMakerModel" "arrays" "I" ∈ lw_tbl := tb_3 (List.mem_of_getElem? (i := 34) rfl)
set_option maxRecDepth 20000 in
theorem tw_11_22 : Cond.methodLink RX5 101 yX5_within ∈ lw_tbl := tb_3 (List.mem_of_getElem? (i := 134) rfl)
set_option maxRecDepth 20000 in
theorem tw_11_23 : Cond.static yX5_within ∈ lw_tbl := tb_3 (List.mem_of_getElem? (i := 135) rfl)
set_option maxRecDepth 20000 in
theorem tw_12_0 : Cond.code yX5_within cX5_within 6 (some .boolean) ∈ lw_tbl := tb_3 (List.mem_of_getElem? (i := 136) rfl)
set_option maxRecDepth 20000 in
theorem tw_12_1 : Cond.methodLink RX5 117 yX5_shapeItems ∈ lw_tbl := tb_3 (List.mem_of_getElem? (i := 138) rfl)
set_option maxRecDepth 20000 in
theorem tw_12_2 : Cond.instanceMethod yX5_shapeItems ∈ lw_tbl := tb_3 (List.mem_of_getElem? (i := 140) rfl)
set_option maxRecDepth 20000 in
theorem tw_12_3 : Cond.selects RX5 yX5_shapeItems yX5_shapeItems ∈ lw_tbl := tb_p (pv_2 (List.mem_of_getElem? (i := 11) rfl))
set_option maxRecDepth 20000 in
theorem tw_12_4 : Cond.code yX5_shapeItems cX5_shapeItems 7 (some .int) ∈ lw_tbl := tb_3 (List.mem_of_getElem? (i := 141) rfl)
set_option maxRecDepth 20000 in
theorem tw_12_5 : Cond.constantLong RX5 84 (501) ∈ lw_tbl := tb_3 (List.mem_of_getElem? (i := 146) rfl)
set_option maxRecDepth 20000 in
theorem tw_12_6 : Cond.methodLink RX5 78 yX5_length ∈ lw_tbl := tb_3 (List.mem_of_getElem? (i := 142) rfl)
set_option maxRecDepth 20000 in
theorem tw_12_7 : Cond.static yX5_length ∈ lw_tbl := tb_3 (List.mem_of_getElem? (i := 143) rfl)
set_option maxRecDepth 20000 in
theorem tw_12_8 : Cond.code yX5_length cX5_length 4 (some .long) ∈ lw_tbl := tb_3 (List.mem_of_getElem? (i := 144) rfl)
set_option maxRecDepth 20000 in
theorem tw_12_9 : Cond.methodLink RX5 121 yX5_newArray ∈ lw_tbl := tb_3 (List.mem_of_getElem? (i := 147) rfl)
set_option maxRecDepth 20000 in
theorem tw_12_10 : Cond.instanceMethod yX5_newArray ∈ lw_tbl := tb_3 (List.mem_of_getElem? (i := 149) rfl)
set_option maxRecDepth 20000 in
theorem tw_12_11 : Cond.selects RX5 yX5_newArray yX5_newArray ∈ lw_tbl := tb_p (pv_2 (List.mem_of_getElem? (i := 12) rfl))
set_option maxRecDepth 20000 in
theorem tw_12_12 : Cond.code yX5_newArray cX5_newArray 4 (some .int) ∈ lw_tbl := tb_3 (List.mem_of_getElem? (i := 150) rfl)
set_option maxRecDepth 20000 in
theorem tw_12_13 : Cond.methodLink RX5 125 yX5_newTable ∈ lw_tbl := tb_3 (List.mem_of_getElem? (i := 151) rfl)
set_option maxRecDepth 20000 in
theorem tw_12_14 : Cond.instanceMethod yX5_newTable ∈ lw_tbl := tb_3 (List.mem_of_getElem? (i := 153) rfl)
set_option maxRecDepth 20000 in
theorem tw_12_15 : Cond.selects RX5 yX5_newTable yX5_newTable ∈ lw_tbl := tb_p (pv_2 (List.mem_of_getElem? (i := 13) rfl))
set_option maxRecDepth 20000 in
theorem tw_12_16 : Cond.code yX5_newTable cX5_newTable 5 none ∈ lw_tbl := tb_3 (List.mem_of_getElem? (i := 154) rfl)
set_option maxRecDepth 20000 in
theorem tw_12_17 : Cond.fieldLink RX5 105 "ArrayMakerModel" "slots" "I" ∈ lw_tbl := tb_3 (List.mem_of_getElem? (i := 46) rfl)
set_option maxRecDepth 20000 in
theorem tw_12_18 : Cond.methodLink RX5 108 yX5_lengthOf ∈ lw_tbl := tb_3 (List.mem_of_getElem? (i := 155) rfl)
set_option maxRecDepth 20000 in
theorem tw_12_19 : Cond.instanceMethod yX5_lengthOf ∈ lw_tbl := tb_3 (List.mem_of_getElem? (i := 157) rfl)
set_option maxRecDepth 20000 in
theorem tw_12_20 : Cond.selects RX5 yX5_lengthOf yX5_lengthOf ∈ lw_tbl := tb_p (pv_2 (List.mem_of_getElem? (i := 14) rfl))
set_option maxRecDepth 20000 in
theorem tw_12_21 : Cond.code yX5_lengthOf cX5_lengthOf 3 (some .long) ∈ lw_tbl := tb_3 (List.mem_of_getElem? (i := 158) rfl)
set_option maxRecDepth 20000 in
theorem tw_12_22 : Cond.methodLink RX5 111 yX5_newRow ∈ lw_tbl := tb_3 (List.mem_of_getElem? (i := 159) rfl)
set_option maxRecDepth 20000 in
theorem tw_12_23 : Cond.instanceMethod yX5_newRow ∈ lw_tbl := tb_3 (List.mem_of_getElem? (i := 161) rfl)
set_option maxRecDepth 20000 in
theorem tw_13_0 : Cond.selects RX5 yX5_newRow yX5_newRow ∈ lw_tbl := tb_p (pv_2 (List.mem_of_getElem? (i := 15) rfl))
set_option maxRecDepth 20000 in
theorem tw_13_1 : Cond.code yX5_newRow cX5_newRow 3 (some .int) ∈ lw_tbl := tb_3 (List.mem_of_getElem? (i := 162) rfl)
set_option maxRecDepth 20000 in
theorem tw_13_2 : Cond.fieldLink RX5 86 "ArrayMakerModel" "rows" "I" ∈ lw_tbl := tb_3 (List.mem_of_getElem? (i := 40) rfl)
set_option maxRecDepth 20000 in
theorem tw_13_3 : Cond.fieldLink RX5 89 "ArrayMakerModel" "pooled" "I" ∈ lw_tbl := tb_3 (List.mem_of_getElem? (i := 43) rfl)
set_option maxRecDepth 20000 in
theorem tw_13_4 : Cond.methodLink RL 36 yX4_raw ∈ lw_tbl := tb_2 (List.mem_of_getElem? (i := 41) rfl)
set_option maxRecDepth 20000 in
theorem tw_13_5 : Cond.instanceMethod yX4_raw ∈ lw_tbl := tb_2 (List.mem_of_getElem? (i := 42) rfl)
set_option maxRecDepth 20000 in
theorem tw_13_6 : Cond.selects RX4 yX4_raw yX4_raw ∈ lw_tbl := tb_2 (List.mem_of_getElem? (i := 43) rfl)
set_option maxRecDepth 20000 in
theorem tw_13_7 : Cond.code yX4_raw cX4_raw 4 (some .int) ∈ lw_tbl := tb_2 (List.mem_of_getElem? (i := 44) rfl)
set_option maxRecDepth 20000 in
theorem tw_13_8 : Cond.methodLink RL 39 yX5_raw ∈ lw_tbl := tb_3 (List.mem_of_getElem? (i := 163) rfl)
set_option maxRecDepth 20000 in
theorem tw_13_9 : Cond.instanceMethod yX5_raw ∈ lw_tbl := tb_3 (List.mem_of_getElem? (i := 164) rfl)
set_option maxRecDepth 20000 in
theorem tw_13_10 : Cond.selects RX5 yX5_raw yX5_raw ∈ lw_tbl := tb_3 (List.mem_of_getElem? (i := 165) rfl)
set_option maxRecDepth 20000 in
theorem tw_13_11 : Cond.code yX5_raw cX5_raw 3 (some .int) ∈ lw_tbl := tb_3 (List.mem_of_getElem? (i := 166) rfl)
set_option maxRecDepth 20000 in
theorem tw_13_12 : Cond.constantLong RX5 129 (3) ∈ lw_tbl := tb_3 (List.mem_of_getElem? (i := 167) rfl)
set_option maxRecDepth 20000 in
theorem tw_13_13 : Cond.methodLink RL 40 yX4_see ∈ lw_tbl := tb_2 (List.mem_of_getElem? (i := 45) rfl)
set_option maxRecDepth 20000 in
theorem tw_13_14 : Cond.instanceMethod yX4_see ∈ lw_tbl := tb_2 (List.mem_of_getElem? (i := 46) rfl)
set_option maxRecDepth 20000 in
theorem tw_13_15 : Cond.selects RX4 yX4_see yX4_see ∈ lw_tbl := tb_2 (List.mem_of_getElem? (i := 47) rfl)
set_option maxRecDepth 20000 in
theorem tw_13_16 : Cond.code yX4_see cX4_see 4 (some .int) ∈ lw_tbl := tb_2 (List.mem_of_getElem? (i := 48) rfl)
set_option maxRecDepth 20000 in
theorem tw_13_17 : Cond.methodLink RX4 89 yX4_arrayOf ∈ lw_tbl := tb_2 (List.mem_of_getElem? (i := 49) rfl)
set_option maxRecDepth 20000 in
theorem tw_13_18 : Cond.instanceMethod yX4_arrayOf ∈ lw_tbl := tb_2 (List.mem_of_getElem? (i := 51) rfl)
set_option maxRecDepth 20000 in
theorem tw_13_19 : Cond.selects RX4 yX4_arrayOf yX4_arrayOf ∈ lw_tbl := tb_p (pv_1 (List.mem_of_getElem? (i := 11) rfl))
set_option maxRecDepth 20000 in
theorem tw_13_20 : Cond.code yX4_arrayOf cX4_arrayOf 2 (some (.object "ArrayMaker$MadeArray")) ∈ lw_tbl := tb_2 (List.mem_of_getElem? (i := 52) rfl)
set_option maxRecDepth 20000 in
theorem tw_13_21 : Cond.methodLink RX4 92 yX4_whyNoRow ∈ lw_tbl := tb_2 (List.mem_of_getElem? (i := 53) rfl)
set_option maxRecDepth 20000 in
theorem tw_13_22 : Cond.instanceMethod yX4_whyNoRow ∈ lw_tbl := tb_2 (List.mem_of_getElem? (i := 55) rfl)
set_option maxRecDepth 20000 in
theorem tw_13_23 : Cond.selects RX4 yX4_whyNoRow yX4_whyNoRow ∈ lw_tbl := tb_p (pv_1 (List.mem_of_getElem? (i := 12) rfl))
set_option maxRecDepth 20000 in
theorem tw_14_0 : Cond.code yX4_whyNoRow cX4_whyNoRow 2 (some .int) ∈ lw_tbl := tb_2 (List.mem_of_getElem? (i := 56) rfl)
set_option maxRecDepth 20000 in
theorem tw_14_1 : Cond.methodLink RX4 103 yX3_lengthOf ∈ lw_tbl := tb_2 (List.mem_of_getElem? (i := 57) rfl)
set_option maxRecDepth 20000 in
theorem tw_14_2 : Cond.instanceMethod yX3_lengthOf ∈ lw_tbl := tb_2 (List.mem_of_getElem? (i := 58) rfl)
set_option maxRecDepth 20000 in
theorem tw_14_3 : Cond.selects RX3 yX3_lengthOf yX3_lengthOf ∈ lw_tbl := tb_2 (List.mem_of_getElem? (i := 59) rfl)
set_option maxRecDepth 20000 in
theorem tw_14_4 : Cond.code yX3_lengthOf cX3_lengthOf 2 (some .int) ∈ lw_tbl := tb_2 (List.mem_of_getElem? (i := 60) rfl)
set_option maxRecDepth 20000 in
theorem tw_14_5 : Cond.methodLink RL 43 yX5_see ∈ lw_tbl := tb_3 (List.mem_of_getElem? (i := 168) rfl)
set_option maxRecDepth 20000 in
theorem tw_14_6 : Cond.instanceMethod yX5_see ∈ lw_tbl := tb_3 (List.mem_of_getElem? (i := 169) rfl)
set_option maxRecDepth 20000 in
theorem tw_14_7 : Cond.selects RX5 yX5_see yX5_see ∈ lw_tbl := tb_3 (List.mem_of_getElem? (i := 170) rfl)
set_option maxRecDepth 20000 in
theorem tw_14_8 : Cond.code yX5_see cX5_see 4 (some .int) ∈ lw_tbl := tb_3 (List.mem_of_getElem? (i := 171) rfl)
set_option maxRecDepth 20000 in
theorem tw_14_9 : Cond.methodLink RX5 135 yX5_wants ∈ lw_tbl := tb_3 (List.mem_of_getElem? (i := 172) rfl)
set_option maxRecDepth 20000 in
theorem tw_14_10 : Cond.instanceMethod yX5_wants ∈ lw_tbl := tb_3 (List.mem_of_getElem? (i := 174) rfl)
set_option maxRecDepth 20000 in
theorem tw_14_11 : Cond.selects RX5 yX5_wants yX5_wants ∈ lw_tbl := tb_p (pv_3 (List.mem_of_getElem? (i := 0) rfl))
set_option maxRecDepth 20000 in
theorem tw_14_12 : Cond.code yX5_wants cX5_wants 2 (some .int) ∈ lw_tbl := tb_3 (List.mem_of_getElem? (i := 175) rfl)
set_option maxRecDepth 20000 in
theorem tw_14_13 : Cond.methodLink RX5 131 yX5_isArray ∈ lw_tbl := tb_3 (List.mem_of_getElem? (i := 176) rfl)
set_option maxRecDepth 20000 in
theorem tw_14_14 : Cond.instanceMethod yX5_isArray ∈ lw_tbl := tb_3 (List.mem_of_getElem? (i := 178) rfl)
set_option maxRecDepth 20000 in
theorem tw_14_15 : Cond.selects RX5 yX5_isArray yX5_isArray ∈ lw_tbl := tb_p (pv_3 (List.mem_of_getElem? (i := 1) rfl))
set_option maxRecDepth 20000 in
theorem tw_14_16 : Cond.code yX5_isArray cX5_isArray 2 (some .boolean) ∈ lw_tbl := tb_3 (List.mem_of_getElem? (i := 179) rfl)
set_option maxRecDepth 20000 in
theorem tw_14_17 : Cond.methodLink RL 44 yX4_turn ∈ lw_tbl := tb_2 (List.mem_of_getElem? (i := 61) rfl)
set_option maxRecDepth 20000 in
theorem tw_14_18 : Cond.instanceMethod yX4_turn ∈ lw_tbl := tb_2 (List.mem_of_getElem? (i := 62) rfl)
set_option maxRecDepth 20000 in
theorem tw_14_19 : Cond.selects RX4 yX4_turn yX4_turn ∈ lw_tbl := tb_2 (List.mem_of_getElem? (i := 63) rfl)
set_option maxRecDepth 20000 in
theorem tw_14_20 : Cond.code yX4_turn cX4_turn 5 (some .int) ∈ lw_tbl := tb_2 (List.mem_of_getElem? (i := 64) rfl)
set_option maxRecDepth 20000 in
theorem tw_14_21 : Cond.methodLink RX4 109 yX4_findTurned ∈ lw_tbl := tb_2 (List.mem_of_getElem? (i := 65) rfl)
set_option maxRecDepth 20000 in
theorem tw_14_22 : Cond.instanceMethod yX4_findTurned ∈ lw_tbl := tb_2 (List.mem_of_getElem? (i := 67) rfl)
set_option maxRecDepth 20000 in
theorem tw_14_23 : Cond.selects RX4 yX4_findTurned yX4_findTurned ∈ lw_tbl := tb_p (pv_1 (List.mem_of_getElem? (i := 13) rfl))
set_option maxRecDepth 20000 in
theorem tw_15_0 : Cond.code yX4_findTurned cX4_findTurned 10 none ∈ lw_tbl := tb_2 (List.mem_of_getElem? (i := 68) rfl)
set_option maxRecDepth 20000 in
theorem tw_15_1 : Cond.methodLink RX4 127 yX3_startOf ∈ lw_tbl := tb_2 (List.mem_of_getElem? (i := 69) rfl)
set_option maxRecDepth 20000 in
theorem tw_15_2 : Cond.instanceMethod yX3_startOf ∈ lw_tbl := tb_2 (List.mem_of_getElem? (i := 70) rfl)
set_option maxRecDepth 20000 in
theorem tw_15_3 : Cond.selects RX3 yX3_startOf yX3_startOf ∈ lw_tbl := tb_2 (List.mem_of_getElem? (i := 71) rfl)
set_option maxRecDepth 20000 in
theorem tw_15_4 : Cond.code yX3_startOf cX3_startOf 2 (some .int) ∈ lw_tbl := tb_2 (List.mem_of_getElem? (i := 72) rfl)
set_option maxRecDepth 20000 in
theorem tw_15_5 : Cond.methodLink RX4 112 yX2_swapFirstTwo ∈ lw_tbl := tb_2 (List.mem_of_getElem? (i := 73) rfl)
set_option maxRecDepth 20000 in
theorem tw_15_6 : Cond.instanceMethod yX2_swapFirstTwo ∈ lw_tbl := tb_2 (List.mem_of_getElem? (i := 74) rfl)
set_option maxRecDepth 20000 in
theorem tw_15_7 : Cond.selects RX2 yX2_swapFirstTwo yX2_swapFirstTwo ∈ lw_tbl := tb_2 (List.mem_of_getElem? (i := 75) rfl)
set_option maxRecDepth 20000 in
theorem tw_15_8 : Cond.code yX2_swapFirstTwo cX2_swapFirstTwo 3 none ∈ lw_tbl := tb_2 (List.mem_of_getElem? (i := 76) rfl)
set_option maxRecDepth 20000 in
theorem tw_15_9 : Cond.methodLink RX4 115 yX4_copySources ∈ lw_tbl := tb_2 (List.mem_of_getElem? (i := 77) rfl)
set_option maxRecDepth 20000 in
theorem tw_15_10 : Cond.instanceMethod yX4_copySources ∈ lw_tbl := tb_2 (List.mem_of_getElem? (i := 79) rfl)
set_option maxRecDepth 20000 in
theorem tw_15_11 : Cond.selects RX4 yX4_copySources yX4_copySources ∈ lw_tbl := tb_p (pv_1 (List.mem_of_getElem? (i := 14) rfl))
set_option maxRecDepth 20000 in
theorem tw_15_12 : Cond.code yX4_copySources cX4_copySources 4 none ∈ lw_tbl := tb_2 (List.mem_of_getElem? (i := 80) rfl)
set_option maxRecDepth 20000 in
theorem tw_15_13 : Cond.methodLink RX4 136 yX3_copyCells ∈ lw_tbl := tb_2 (List.mem_of_getElem? (i := 81) rfl)
set_option maxRecDepth 20000 in
theorem tw_15_14 : Cond.instanceMethod yX3_copyCells ∈ lw_tbl := tb_2 (List.mem_of_getElem? (i := 82) rfl)
set_option maxRecDepth 20000 in
theorem tw_15_15 : Cond.selects RX3 yX3_copyCells yX3_copyCells ∈ lw_tbl := tb_2 (List.mem_of_getElem? (i := 83) rfl)
set_option maxRecDepth 20000 in
theorem tw_15_16 : Cond.code yX3_copyCells cX3_copyCells 5 none ∈ lw_tbl := tb_2 (List.mem_of_getElem? (i := 84) rfl)
set_option maxRecDepth 20000 in
theorem tw_15_17 : Cond.methodLink RL 47 yX5_turn ∈ lw_tbl := tb_3 (List.mem_of_getElem? (i := 180) rfl)
set_option maxRecDepth 20000 in
theorem tw_15_18 : Cond.instanceMethod yX5_turn ∈ lw_tbl := tb_3 (List.mem_of_getElem? (i := 181) rfl)
set_option maxRecDepth 20000 in
theorem tw_15_19 : Cond.selects RX5 yX5_turn yX5_turn ∈ lw_tbl := tb_3 (List.mem_of_getElem? (i := 182) rfl)
set_option maxRecDepth 20000 in
theorem tw_15_20 : Cond.code yX5_turn cX5_turn 12 (some .int) ∈ lw_tbl := tb_3 (List.mem_of_getElem? (i := 183) rfl)
set_option maxRecDepth 20000 in
theorem tw_15_21 : Cond.methodLink RX5 138 yX5_copy ∈ lw_tbl := tb_3 (List.mem_of_getElem? (i := 184) rfl)
set_option maxRecDepth 20000 in
theorem tw_15_22 : Cond.instanceMethod yX5_copy ∈ lw_tbl := tb_3 (List.mem_of_getElem? (i := 186) rfl)
set_option maxRecDepth 20000 in
theorem tw_15_23 : Cond.selects RX5 yX5_copy yX5_copy ∈ lw_tbl := tb_p (pv_3 (List.mem_of_getElem? (i := 2) rfl))
set_option maxRecDepth 20000 in
theorem tw_16_0 : Cond.code yX5_copy cX5_copy 3 none ∈ lw_tbl := tb_3 (List.mem_of_getElem? (i := 187) rfl)
set_option maxRecDepth 20000 in
theorem tw_16_1 : Cond.methodLink RL 48 yX4_cut ∈ lw_tbl := tb_2 (List.mem_of_getElem? (i := 85) rfl)
set_option maxRecDepth 20000 in
theorem tw_16_2 : Cond.instanceMethod yX4_cut ∈ lw_tbl := tb_2 (List.mem_of_getElem? (i := 86) rfl)
set_option maxRecDepth 20000 in
theorem tw_16_3 : Cond.selects RX4 yX4_cut yX4_cut ∈ lw_tbl := tb_2 (List.mem_of_getElem? (i := 87) rfl)
set_option maxRecDepth 20000 in
theorem tw_16_4 : Cond.code yX4_cut cX4_cut 7 (some .int) ∈ lw_tbl := tb_2 (List.mem_of_getElem? (i := 88) rfl)
set_option maxRecDepth 20000 in
theorem tw_16_5 : Cond.methodLink RX4 118 yX4_findCut ∈ lw_tbl := tb_2 (List.mem_of_getElem? (i := 89) rfl)
set_option maxRecDepth 20000 in
theorem tw_16_6 : Cond.instanceMethod yX4_findCut ∈ lw_tbl := tb_2 (List.mem_of_getElem? (i := 91) rfl)
set_option maxRecDepth 20000 in
theorem tw_16_7 : Cond.selects RX4 yX4_findCut yX4_findCut ∈ lw_tbl := tb_p (pv_1 (List.mem_of_getElem? (i := 15) rfl))
set_option maxRecDepth 20000 in
theorem tw_16_8 : Cond.code yX4_findCut cX4_findCut 11 (some .int) ∈ lw_tbl := tb_2 (List.mem_of_getElem? (i := 92) rfl)
set_option maxRecDepth 20000 in
theorem tw_16_9 : Cond.fieldLink RX4 219 "ArrayMaker$Shape" "low" "[I" ∈ lw_tbl := tb_1 (List.mem_of_getElem? (i := 27) rfl)
set_option maxRecDepth 20000 in
theorem tw_16_10 : Cond.methodLink RX4 244 yX2_firstBeyond ∈ lw_tbl := tb_2 (List.mem_of_getElem? (i := 93) rfl)
set_option maxRecDepth 20000 in
theorem tw_16_11 : Cond.instanceMethod yX2_firstBeyond ∈ lw_tbl := tb_2 (List.mem_of_getElem? (i := 94) rfl)
set_option maxRecDepth 20000 in
theorem tw_16_12 : Cond.selects RX2 yX2_firstBeyond yX2_firstBeyond ∈ lw_tbl := tb_2 (List.mem_of_getElem? (i := 95) rfl)
set_option maxRecDepth 20000 in
theorem tw_16_13 : Cond.code yX2_firstBeyond cX2_firstBeyond 5 (some .int) ∈ lw_tbl := tb_2 (List.mem_of_getElem? (i := 96) rfl)
set_option maxRecDepth 20000 in
theorem tw_16_14 : Cond.methodLink RX2 41 yX2_indexOf ∈ lw_tbl := tb_2 (List.mem_of_getElem? (i := 97) rfl)
set_option maxRecDepth 20000 in
theorem tw_16_15 : Cond.static yX2_indexOf ∈ lw_tbl := tb_2 (List.mem_of_getElem? (i := 98) rfl)
set_option maxRecDepth 20000 in
theorem tw_16_16 : Cond.code yX2_indexOf cX2_indexOf 4 (some .int) ∈ lw_tbl := tb_2 (List.mem_of_getElem? (i := 99) rfl)
set_option maxRecDepth 20000 in
theorem tw_16_17 : Cond.methodLink RX2 45 yX2_holds ∈ lw_tbl := tb_2 (List.mem_of_getElem? (i := 100) rfl)
set_option maxRecDepth 20000 in
theorem tw_16_18 : Cond.instanceMethod yX2_holds ∈ lw_tbl := tb_2 (List.mem_of_getElem? (i := 101) rfl)
set_option maxRecDepth 20000 in
theorem tw_16_19 : Cond.selects RX2 yX2_holds yX2_holds ∈ lw_tbl := tb_2 (List.mem_of_getElem? (i := 102) rfl)
set_option maxRecDepth 20000 in
theorem tw_16_20 : Cond.code yX2_holds cX2_holds 3 (some .boolean) ∈ lw_tbl := tb_2 (List.mem_of_getElem? (i := 103) rfl)
set_option maxRecDepth 20000 in
theorem tw_16_21 : Cond.methodLink RX4 248 yX2_place ∈ lw_tbl := tb_2 (List.mem_of_getElem? (i := 104) rfl)
set_option maxRecDepth 20000 in
theorem tw_16_22 : Cond.instanceMethod yX2_place ∈ lw_tbl := tb_2 (List.mem_of_getElem? (i := 105) rfl)
set_option maxRecDepth 20000 in
theorem tw_16_23 : Cond.selects RX2 yX2_place yX2_place ∈ lw_tbl := tb_2 (List.mem_of_getElem? (i := 106) rfl)
set_option maxRecDepth 20000 in
theorem tw_17_0 : Cond.code yX2_place cX2_place 6 (some .int) ∈ lw_tbl := tb_2 (List.mem_of_getElem? (i := 107) rfl)
set_option maxRecDepth 20000 in
theorem tw_17_1 : Cond.methodLink RX2 49 yX2_offset ∈ lw_tbl := tb_2 (List.mem_of_getElem? (i := 108) rfl)
set_option maxRecDepth 20000 in
theorem tw_17_2 : Cond.instanceMethod yX2_offset ∈ lw_tbl := tb_2 (List.mem_of_getElem? (i := 109) rfl)
set_option maxRecDepth 20000 in
theorem tw_17_3 : Cond.selects RX2 yX2_offset yX2_offset ∈ lw_tbl := tb_2 (List.mem_of_getElem? (i := 110) rfl)
set_option maxRecDepth 20000 in
theorem tw_17_4 : Cond.code yX2_offset cX2_offset 3 (some .int) ∈ lw_tbl := tb_2 (List.mem_of_getElem? (i := 111) rfl)
set_option maxRecDepth 20000 in
theorem tw_17_5 : Cond.methodLink RX4 121 yX4_stopBeyond ∈ lw_tbl := tb_2 (List.mem_of_getElem? (i := 112) rfl)
set_option maxRecDepth 20000 in
theorem tw_17_6 : Cond.instanceMethod yX4_stopBeyond ∈ lw_tbl := tb_2 (List.mem_of_getElem? (i := 114) rfl)
set_option maxRecDepth 20000 in
theorem tw_17_7 : Cond.selects RX4 yX4_stopBeyond yX4_stopBeyond ∈ lw_tbl := tb_p (pv_2 (List.mem_of_getElem? (i := 0) rfl))
set_option maxRecDepth 20000 in
theorem tw_17_8 : Cond.code yX4_stopBeyond cX4_stopBeyond 2 (some .int) ∈ lw_tbl := tb_2 (List.mem_of_getElem? (i := 115) rfl)
set_option maxRecDepth 20000 in
theorem tw_17_9 : Cond.methodLink RL 51 yX5_cut ∈ lw_tbl := tb_3 (List.mem_of_getElem? (i := 188) rfl)
set_option maxRecDepth 20000 in
theorem tw_17_10 : Cond.instanceMethod yX5_cut ∈ lw_tbl := tb_3 (List.mem_of_getElem? (i := 189) rfl)
set_option maxRecDepth 20000 in
theorem tw_17_11 : Cond.selects RX5 yX5_cut yX5_cut ∈ lw_tbl := tb_3 (List.mem_of_getElem? (i := 190) rfl)
set_option maxRecDepth 20000 in
theorem tw_17_12 : Cond.code yX5_cut cX5_cut 9 (some .int) ∈ lw_tbl := tb_3 (List.mem_of_getElem? (i := 191) rfl)
set_option maxRecDepth 20000 in
theorem tw_17_13 : Cond.fieldLink RX5 142 "ArrayMakerModel" "beyond" "I" ∈ lw_tbl := tb_3 (List.mem_of_getElem? (i := 53) rfl)
set_option maxRecDepth 20000 in
theorem tw_17_14 : Cond.methodLink RX5 145 yX5_index ∈ lw_tbl := tb_3 (List.mem_of_getElem? (i := 192) rfl)
set_option maxRecDepth 20000 in
theorem tw_17_15 : Cond.static yX5_index ∈ lw_tbl := tb_3 (List.mem_of_getElem? (i := 193) rfl)
set_option maxRecDepth 20000 in
theorem tw_17_16 : Cond.code yX5_index cX5_index 2 (some .int) ∈ lw_tbl := tb_3 (List.mem_of_getElem? (i := 194) rfl)
set_option maxRecDepth 20000 in
theorem tw_17_17 : Cond.methodLink RX5 148 yX5_placeOf ∈ lw_tbl := tb_3 (List.mem_of_getElem? (i := 195) rfl)
set_option maxRecDepth 20000 in
theorem tw_17_18 : Cond.instanceMethod yX5_placeOf ∈ lw_tbl := tb_3 (List.mem_of_getElem? (i := 197) rfl)
set_option maxRecDepth 20000 in
theorem tw_17_19 : Cond.selects RX5 yX5_placeOf yX5_placeOf ∈ lw_tbl := tb_p (pv_3 (List.mem_of_getElem? (i := 3) rfl))
set_option maxRecDepth 20000 in
theorem tw_17_20 : Cond.code yX5_placeOf cX5_placeOf 9 (some .int) ∈ lw_tbl := tb_3 (List.mem_of_getElem? (i := 198) rfl)
set_option maxRecDepth 20000 in
theorem tw_17_21 : Cond.methodLink RX5 152 yX5_noItem ∈ lw_tbl := tb_3 (List.mem_of_getElem? (i := 199) rfl)
set_option maxRecDepth 20000 in
theorem tw_17_22 : Cond.instanceMethod yX5_noItem ∈ lw_tbl := tb_3 (List.mem_of_getElem? (i := 201) rfl)
set_option maxRecDepth 20000 in
theorem tw_17_23 : Cond.selects RX5 yX5_noItem yX5_noItem ∈ lw_tbl := tb_p (pv_3 (List.mem_of_getElem? (i := 4) rfl))
set_option maxRecDepth 20000 in
theorem tw_18_0 : Cond.code yX5_noItem cX5_noItem 2 (some .int) ∈ lw_tbl := tb_3 (List.mem_of_getElem? (i := 202) rfl)
set_option maxRecDepth 20000 in
theorem tw_18_1 : Cond.methodLink RL 52 yX4_deep ∈ lw_tbl := tb_2 (List.mem_of_getElem? (i := 116) rfl)
set_option maxRecDepth 20000 in
theorem tw_18_2 : Cond.instanceMethod yX4_deep ∈ lw_tbl := tb_2 (List.mem_of_getElem? (i := 117) rfl)
set_option maxRecDepth 20000 in
theorem tw_18_3 : Cond.selects RX4 yX4_deep yX4_deep ∈ lw_tbl := tb_2 (List.mem_of_getElem? (i := 118) rfl)
set_option maxRecDepth 20000 in
theorem tw_18_4 : Cond.code yX4_deep cX4_deep 8 (some .int) ∈ lw_tbl := tb_2 (List.mem_of_getElem? (i := 119) rfl)
set_option maxRecDepth 20000 in
theorem tw_18_5 : Cond.methodLink RX4 124 yX4_whyNotDeep ∈ lw_tbl := tb_2 (List.mem_of_getElem? (i := 120) rfl)
set_option maxRecDepth 20000 in
theorem tw_18_6 : Cond.instanceMethod yX4_whyNotDeep ∈ lw_tbl := tb_2 (List.mem_of_getElem? (i := 122) rfl)
set_option maxRecDepth 20000 in
theorem tw_18_7 : Cond.selects RX4 yX4_whyNotDeep yX4_whyNotDeep ∈ lw_tbl := tb_p (pv_2 (List.mem_of_getElem? (i := 1) rfl))
set_option maxRecDepth 20000 in
theorem tw_18_8 : Cond.code yX4_whyNotDeep cX4_whyNotDeep 3 (some .int) ∈ lw_tbl := tb_2 (List.mem_of_getElem? (i := 123) rfl)
set_option maxRecDepth 20000 in
theorem tw_18_9 : Cond.methodLink RL 55 yX5_deep ∈ lw_tbl := tb_3 (List.mem_of_getElem? (i := 203) rfl)
set_option maxRecDepth 20000 in
theorem tw_18_10 : Cond.instanceMethod yX5_deep ∈ lw_tbl := tb_3 (List.mem_of_getElem? (i := 204) rfl)
set_option maxRecDepth 20000 in
theorem tw_18_11 : Cond.selects RX5 yX5_deep yX5_deep ∈ lw_tbl := tb_3 (List.mem_of_getElem? (i := 205) rfl)
set_option maxRecDepth 20000 in
theorem tw_18_12 : Cond.code yX5_deep cX5_deep 6 (some .int) ∈ lw_tbl := tb_3 (List.mem_of_getElem? (i := 206) rfl)
set_option maxRecDepth 20000 in
theorem tw_18_13 : Cond.methodLink RL 56 yX4_flat ∈ lw_tbl := tb_2 (List.mem_of_getElem? (i := 124) rfl)
set_option maxRecDepth 20000 in
theorem tw_18_14 : Cond.instanceMethod yX4_flat ∈ lw_tbl := tb_2 (List.mem_of_getElem? (i := 125) rfl)
set_option maxRecDepth 20000 in
theorem tw_18_15 : Cond.selects RX4 yX4_flat yX4_flat ∈ lw_tbl := tb_2 (List.mem_of_getElem? (i := 126) rfl)
set_option maxRecDepth 20000 in
theorem tw_18_16 : Cond.code yX4_flat cX4_flat 8 (some .int) ∈ lw_tbl := tb_2 (List.mem_of_getElem? (i := 127) rfl)
set_option maxRecDepth 20000 in
theorem tw_18_17 : Cond.methodLink RX4 140 yX4_whyNotFlat ∈ lw_tbl := tb_2 (List.mem_of_getElem? (i := 128) rfl)
set_option maxRecDepth 20000 in
theorem tw_18_18 : Cond.instanceMethod yX4_whyNotFlat ∈ lw_tbl := tb_2 (List.mem_of_getElem? (i := 130) rfl)
set_option maxRecDepth 20000 in
theorem tw_18_19 : Cond.selects RX4 yX4_whyNotFlat yX4_whyNotFlat ∈ lw_tbl := tb_p (pv_2 (List.mem_of_getElem? (i := 2) rfl))
set_option maxRecDepth 20000 in
theorem tw_18_20 : Cond.code yX4_whyNotFlat cX4_whyNotFlat 6 (some .int) ∈ lw_tbl := tb_2 (List.mem_of_getElem? (i := 131) rfl)
set_option maxRecDepth 20000 in
theorem tw_18_21 : Cond.methodLink RL 59 yX5_flat ∈ lw_tbl := tb_3 (List.mem_of_getElem? (i := 207) rfl)
set_option maxRecDepth 20000 in
theorem tw_18_22 : Cond.instanceMethod yX5_flat ∈ lw_tbl := tb_3 (List.mem_of_getElem? (i := 208) rfl)
set_option maxRecDepth 20000 in
theorem tw_18_23 : Cond.selects RX5 yX5_flat yX5_flat ∈ lw_tbl := tb_3 (List.mem_of_getElem? (i := 209) rfl)
set_option maxRecDepth 20000 in
theorem tw_19_0 : Cond.code yX5_flat cX5_flat 9 (some .int) ∈ lw_tbl := tb_3 (List.mem_of_getElem? (i := 210) rfl)
set_option maxRecDepth 20000 in
theorem tw_19_1 : Cond.methodLink RX5 155 yX5_tableRows ∈ lw_tbl := tb_3 (List.mem_of_getElem? (i := 211) rfl)
set_option maxRecDepth 20000 in
theorem tw_19_2 : Cond.instanceMethod yX5_tableRows ∈ lw_tbl := tb_3 (List.mem_of_getElem? (i := 213) rfl)
set_option maxRecDepth 20000 in
theorem tw_19_3 : Cond.selects RX5 yX5_tableRows yX5_tableRows ∈ lw_tbl := tb_p (pv_3 (List.mem_of_getElem? (i := 5) rfl))
set_option maxRecDepth 20000 in
theorem tw_19_4 : Cond.code yX5_tableRows cX5_tableRows 2 (some .int) ∈ lw_tbl := tb_3 (List.mem_of_getElem? (i := 214) rfl)
set_option maxRecDepth 20000 in
theorem tw_19_5 : Cond.methodLink RL 60 yX4_ragged ∈ lw_tbl := tb_2 (List.mem_of_getElem? (i := 132) rfl)
set_option maxRecDepth 20000 in
theorem tw_19_6 : Cond.instanceMethod yX4_ragged ∈ lw_tbl := tb_2 (List.mem_of_getElem? (i := 133) rfl)
set_option maxRecDepth 20000 in
theorem tw_19_7 : Cond.selects RX4 yX4_ragged yX4_ragged ∈ lw_tbl := tb_2 (List.mem_of_getElem? (i := 134) rfl)
set_option maxRecDepth 20000 in
theorem tw_19_8 : Cond.code yX4_ragged cX4_ragged 6 (some .int) ∈ lw_tbl := tb_2 (List.mem_of_getElem? (i := 135) rfl)
set_option maxRecDepth 20000 in
theorem tw_19_9 : Cond.methodLink RX4 143 yX4_whyNoTableRow ∈ lw_tbl := tb_2 (List.mem_of_getElem? (i := 136) rfl)
set_option maxRecDepth 20000 in
theorem tw_19_10 : Cond.instanceMethod yX4_whyNoTableRow ∈ lw_tbl := tb_2 (List.mem_of_getElem? (i := 138) rfl)
set_option maxRecDepth 20000 in
theorem tw_19_11 : Cond.selects RX4 yX4_whyNoTableRow yX4_whyNoTableRow ∈ lw_tbl := tb_p (pv_2 (List.mem_of_getElem? (i := 3) rfl))
set_option maxRecDepth 20000 in
theorem tw_19_12 : Cond.code yX4_whyNoTableRow cX4_whyNoTableRow 3 (some .int) ∈ lw_tbl := tb_2 (List.mem_of_getElem? (i := 139) rfl)
set_option maxRecDepth 20000 in
theorem tw_19_13 : Cond.methodLink RX4 158 yX2_holds ∈ lw_tbl := tb_2 (List.mem_of_getElem? (i := 140) rfl)
set_option maxRecDepth 20000 in
theorem tw_19_14 : Cond.methodLink RX4 150 yX2_offset ∈ lw_tbl := tb_2 (List.mem_of_getElem? (i := 141) rfl)
set_option maxRecDepth 20000 in
theorem tw_19_15 : Cond.methodLink RL 64 yX5_ragged ∈ lw_tbl := tb_3 (List.mem_of_getElem? (i := 215) rfl)
set_option maxRecDepth 20000 in
theorem tw_19_16 : Cond.instanceMethod yX5_ragged ∈ lw_tbl := tb_3 (List.mem_of_getElem? (i := 216) rfl)
set_option maxRecDepth 20000 in
theorem tw_19_17 : Cond.selects RX5 yX5_ragged yX5_ragged ∈ lw_tbl := tb_3 (List.mem_of_getElem? (i := 217) rfl)
set_option maxRecDepth 20000 in
theorem tw_19_18 : Cond.code yX5_ragged cX5_ragged 5 (some .int) ∈ lw_tbl := tb_3 (List.mem_of_getElem? (i := 218) rfl)
set_option maxRecDepth 20000 in
theorem tw_19_19 : Cond.methodLink RX5 158 yX5_wantsRow ∈ lw_tbl := tb_3 (List.mem_of_getElem? (i := 219) rfl)
set_option maxRecDepth 20000 in
theorem tw_19_20 : Cond.instanceMethod yX5_wantsRow ∈ lw_tbl := tb_3 (List.mem_of_getElem? (i := 221) rfl)
set_option maxRecDepth 20000 in
theorem tw_19_21 : Cond.selects RX5 yX5_wantsRow yX5_wantsRow ∈ lw_tbl := tb_p (pv_3 (List.mem_of_getElem? (i := 6) rfl))
set_option maxRecDepth 20000 in
theorem tw_19_22 : Cond.code yX5_wantsRow cX5_wantsRow 3 (some .int) ∈ lw_tbl := tb_3 (List.mem_of_getElem? (i := 222) rfl)
set_option maxRecDepth 20000 in
theorem tw_19_23 : Cond.methodLink RX5 161 yX5_slotOf ∈ lw_tbl := tb_3 (List.mem_of_getElem? (i := 223) rfl)
set_option maxRecDepth 20000 in
theorem tw_20_0 : Cond.instanceMethod yX5_slotOf ∈ lw_tbl := tb_3 (List.mem_of_getElem? (i := 225) rfl)
set_option maxRecDepth 20000 in
theorem tw_20_1 : Cond.selects RX5 yX5_slotOf yX5_slotOf ∈ lw_tbl := tb_p (pv_3 (List.mem_of_getElem? (i := 7) rfl))
set_option maxRecDepth 20000 in
theorem tw_20_2 : Cond.code yX5_slotOf cX5_slotOf 3 (some .int) ∈ lw_tbl := tb_3 (List.mem_of_getElem? (i := 226) rfl)
set_option maxRecDepth 20000 in
theorem tw_20_3 : Cond.methodLink RL 65 yX4_without ∈ lw_tbl := tb_2 (List.mem_of_getElem? (i := 142) rfl)
set_option maxRecDepth 20000 in
theorem tw_20_4 : Cond.instanceMethod yX4_without ∈ lw_tbl := tb_2 (List.mem_of_getElem? (i := 143) rfl)
set_option maxRecDepth 20000 in
theorem tw_20_5 : Cond.selects RX4 yX4_without yX4_without ∈ lw_tbl := tb_2 (List.mem_of_getElem? (i := 144) rfl)
set_option maxRecDepth 20000 in
theorem tw_20_6 : Cond.code yX4_without cX4_without 5 (some .int) ∈ lw_tbl := tb_2 (List.mem_of_getElem? (i := 145) rfl)
set_option maxRecDepth 20000 in
theorem tw_20_7 : Cond.methodLink RL 68 yX5_without ∈ lw_tbl := tb_3 (List.mem_of_getElem? (i := 227) rfl)
set_option maxRecDepth 20000 in
theorem tw_20_8 : Cond.instanceMethod yX5_without ∈ lw_tbl := tb_3 (List.mem_of_getElem? (i := 228) rfl)
set_option maxRecDepth 20000 in
theorem tw_20_9 : Cond.selects RX5 yX5_without yX5_without ∈ lw_tbl := tb_3 (List.mem_of_getElem? (i := 229) rfl)
set_option maxRecDepth 20000 in
theorem tw_20_10 : Cond.code yX5_without cX5_without 4 (some .int) ∈ lw_tbl := tb_3 (List.mem_of_getElem? (i := 230) rfl)
set_option maxRecDepth 20000 in
theorem tw_20_11 : Cond.methodLink RL 69 yX4_tie ∈ lw_tbl := tb_2 (List.mem_of_getElem? (i := 146) rfl)
set_option maxRecDepth 20000 in
theorem tw_20_12 : Cond.instanceMethod yX4_tie ∈ lw_tbl := tb_2 (List.mem_of_getElem? (i := 147) rfl)
set_option maxRecDepth 20000 in
theorem tw_20_13 : Cond.selects RX4 yX4_tie yX4_tie ∈ lw_tbl := tb_2 (List.mem_of_getElem? (i := 148) rfl)
set_option maxRecDepth 20000 in
theorem tw_20_14 : Cond.code yX4_tie cX4_tie 7 (some .int) ∈ lw_tbl := tb_2 (List.mem_of_getElem? (i := 149) rfl)
set_option maxRecDepth 20000 in
theorem tw_20_15 : Cond.methodLink RL 73 yX5_tie ∈ lw_tbl := tb_3 (List.mem_of_getElem? (i := 231) rfl)
set_option maxRecDepth 20000 in
theorem tw_20_16 : Cond.instanceMethod yX5_tie ∈ lw_tbl := tb_3 (List.mem_of_getElem? (i := 232) rfl)
set_option maxRecDepth 20000 in
theorem tw_20_17 : Cond.selects RX5 yX5_tie yX5_tie ∈ lw_tbl := tb_3 (List.mem_of_getElem? (i := 233) rfl)
set_option maxRecDepth 20000 in
theorem tw_20_18 : Cond.code yX5_tie cX5_tie 5 (some .int) ∈ lw_tbl := tb_3 (List.mem_of_getElem? (i := 234) rfl)
set_option maxRecDepth 20000 in
theorem tw_20_19 : Cond.methodLink RL 74 yX4_get ∈ lw_tbl := tb_2 (List.mem_of_getElem? (i := 150) rfl)
set_option maxRecDepth 20000 in
theorem tw_20_20 : Cond.instanceMethod yX4_get ∈ lw_tbl := tb_2 (List.mem_of_getElem? (i := 151) rfl)
set_option maxRecDepth 20000 in
theorem tw_20_21 : Cond.selects RX4 yX4_get yX4_get ∈ lw_tbl := tb_2 (List.mem_of_getElem? (i := 152) rfl)
set_option maxRecDepth 20000 in
theorem tw_20_22 : Cond.code yX4_get cX4_get 6 (some .long) ∈ lw_tbl := tb_2 (List.mem_of_getElem? (i := 153) rfl)
set_option maxRecDepth 20000 in
theorem tw_20_23 : Cond.fieldLink RX4 165 "ArrayMaker$Store" "filled" "[Z" ∈ lw_tbl := tb_1 (List.mem_of_getElem? (i := 77) rfl)
set_option maxRecDepth 20000 in
theorem tw_21_0 : Cond.fieldLink RX4 169 "ArrayMaker$Store" "numbers" "[J" ∈ lw_tbl := tb_1 (List.mem_of_getElem? (i := 75) rfl)
set_option maxRecDepth 20000 in
theorem tw_21_1 : Cond.methodLink RX4 161 yX4_cellOf ∈ lw_tbl := tb_2 (List.mem_of_getElem? (i := 154) rfl)
set_option maxRecDepth 20000 in
theorem tw_21_2 : Cond.instanceMethod yX4_cellOf ∈ lw_tbl := tb_2 (List.mem_of_getElem? (i := 156) rfl)
set_option maxRecDepth 20000 in
theorem tw_21_3 : Cond.selects RX4 yX4_cellOf yX4_cellOf ∈ lw_tbl := tb_p (pv_2 (List.mem_of_getElem? (i := 4) rfl))
set_option maxRecDepth 20000 in
theorem tw_21_4 : Cond.code yX4_cellOf cX4_cellOf 6 (some .int) ∈ lw_tbl := tb_2 (List.mem_of_getElem? (i := 157) rfl)
set_option maxRecDepth 20000 in
theorem tw_21_5 : Cond.methodLink RX4 251 yX4_tableCellOf ∈ lw_tbl := tb_2 (List.mem_of_getElem? (i := 158) rfl)
set_option maxRecDepth 20000 in
theorem tw_21_6 : Cond.instanceMethod yX4_tableCellOf ∈ lw_tbl := tb_2 (List.mem_of_getElem? (i := 160) rfl)
set_option maxRecDepth 20000 in
theorem tw_21_7 : Cond.selects RX4 yX4_tableCellOf yX4_tableCellOf ∈ lw_tbl := tb_p (pv_2 (List.mem_of_getElem? (i := 5) rfl))
set_option maxRecDepth 20000 in
theorem tw_21_8 : Cond.code yX4_tableCellOf cX4_tableCellOf 7 (some .int) ∈ lw_tbl := tb_2 (List.mem_of_getElem? (i := 161) rfl)
set_option maxRecDepth 20000 in
theorem tw_21_9 : Cond.methodLink RL 78 yX5_get ∈ lw_tbl := tb_3 (List.mem_of_getElem? (i := 235) rfl)
set_option maxRecDepth 20000 in
theorem tw_21_10 : Cond.instanceMethod yX5_get ∈ lw_tbl := tb_3 (List.mem_of_getElem? (i := 236) rfl)
set_option maxRecDepth 20000 in
theorem tw_21_11 : Cond.selects RX5 yX5_get yX5_get ∈ lw_tbl := tb_3 (List.mem_of_getElem? (i := 237) rfl)
set_option maxRecDepth 20000 in
theorem tw_21_12 : Cond.code yX5_get cX5_get 6 (some .long) ∈ lw_tbl := tb_3 (List.mem_of_getElem? (i := 238) rfl)
set_option maxRecDepth 20000 in
theorem tw_21_13 : Cond.methodLink RX5 164 yX5_find ∈ lw_tbl := tb_3 (List.mem_of_getElem? (i := 239) rfl)
set_option maxRecDepth 20000 in
theorem tw_21_14 : Cond.instanceMethod yX5_find ∈ lw_tbl := tb_4 (List.mem_of_getElem? (i := 1) rfl)
set_option maxRecDepth 20000 in
theorem tw_21_15 : Cond.selects RX5 yX5_find yX5_find ∈ lw_tbl := tb_p (pv_3 (List.mem_of_getElem? (i := 8) rfl))
set_option maxRecDepth 20000 in
theorem tw_21_16 : Cond.code yX5_find cX5_find 9 (some .int) ∈ lw_tbl := tb_4 (List.mem_of_getElem? (i := 2) rfl)
set_option maxRecDepth 20000 in
theorem tw_21_17 : Cond.methodLink RL 81 yX4_put ∈ lw_tbl := tb_2 (List.mem_of_getElem? (i := 162) rfl)
set_option maxRecDepth 20000 in
theorem tw_21_18 : Cond.instanceMethod yX4_put ∈ lw_tbl := tb_2 (List.mem_of_getElem? (i := 163) rfl)
set_option maxRecDepth 20000 in
theorem tw_21_19 : Cond.selects RX4 yX4_put yX4_put ∈ lw_tbl := tb_2 (List.mem_of_getElem? (i := 164) rfl)
set_option maxRecDepth 20000 in
theorem tw_21_20 : Cond.code yX4_put cX4_put 9 (some .int) ∈ lw_tbl := tb_2 (List.mem_of_getElem? (i := 165) rfl)
set_option maxRecDepth 20000 in
theorem tw_21_21 : Cond.methodLink RX4 173 yX4_fitted ∈ lw_tbl := tb_2 (List.mem_of_getElem? (i := 166) rfl)
set_option maxRecDepth 20000 in
theorem tw_21_22 : Cond.static yX4_fitted ∈ lw_tbl := tb_2 (List.mem_of_getElem? (i := 167) rfl)
set_option maxRecDepth 20000 in
theorem tw_21_23 : Cond.code yX4_fitted cX4_fitted 3 (some .long) ∈ lw_tbl := tb_2 (List.mem_of_getElem? (i := 168) rfl)
set_option maxRecDepth 20000 in
theorem tw_22_0 : Cond.methodLink RX4 177 yX3_fill ∈ lw_tbl := tb_2 (List.mem_of_getElem? (i := 169) rfl)
set_option maxRecDepth 20000 in
theorem tw_22_1 : Cond.instanceMethod yX3_fill ∈ lw_tbl := tb_2 (List.mem_of_getElem? (i := 170) rfl)
set_option maxRecDepth 20000 in
theorem tw_22_2 : Cond.selects RX3 yX3_fill yX3_fill ∈ lw_tbl := tb_2 (List.mem_of_getElem? (i := 171) rfl)
set_option maxRecDepth 20000 in
theorem tw_22_3 : Cond.code yX3_fill cX3_fill 4 none ∈ lw_tbl := tb_2 (List.mem_of_getElem? (i := 172) rfl)
set_option maxRecDepth 20000 in
theorem tw_22_4 : Cond.methodLink RL 85 yX5_put ∈ lw_tbl := tb_4 (List.mem_of_getElem? (i := 3) rfl)
set_option maxRecDepth 20000 in
theorem tw_22_5 : Cond.instanceMethod yX5_put ∈ lw_tbl := tb_4 (List.mem_of_getElem? (i := 4) rfl)
set_option maxRecDepth 20000 in
theorem tw_22_6 : Cond.selects RX5 yX5_put yX5_put ∈ lw_tbl := tb_4 (List.mem_of_getElem? (i := 5) rfl)
set_option maxRecDepth 20000 in
theorem tw_22_7 : Cond.code yX5_put cX5_put 8 (some .int) ∈ lw_tbl := tb_4 (List.mem_of_getElem? (i := 6) rfl)
set_option maxRecDepth 20000 in
theorem tw_22_8 : Cond.methodLink RX5 171 yX5_lay ∈ lw_tbl := tb_4 (List.mem_of_getElem? (i := 7) rfl)
set_option maxRecDepth 20000 in
theorem tw_22_9 : Cond.instanceMethod yX5_lay ∈ lw_tbl := tb_4 (List.mem_of_getElem? (i := 9) rfl)
set_option maxRecDepth 20000 in
theorem tw_22_10 : Cond.selects RX5 yX5_lay yX5_lay ∈ lw_tbl := tb_p (pv_3 (List.mem_of_getElem? (i := 9) rfl))
set_option maxRecDepth 20000 in
theorem tw_22_11 : Cond.code yX5_lay cX5_lay 5 none ∈ lw_tbl := tb_4 (List.mem_of_getElem? (i := 10) rfl)
set_option maxRecDepth 20000 in
theorem tw_22_12 : Cond.methodLink RX5 167 yX5_as ∈ lw_tbl := tb_4 (List.mem_of_getElem? (i := 11) rfl)
set_option maxRecDepth 20000 in
theorem tw_22_13 : Cond.static yX5_as ∈ lw_tbl := tb_4 (List.mem_of_getElem? (i := 12) rfl)
set_option maxRecDepth 20000 in
theorem tw_22_14 : Cond.code yX5_as cX5_as 5 (some .long) ∈ lw_tbl := tb_4 (List.mem_of_getElem? (i := 13) rfl)
set_option maxRecDepth 20000 in
theorem tw_22_15 : Cond.constantLong RX5 92 (255) ∈ lw_tbl := tb_4 (List.mem_of_getElem? (i := 14) rfl)
set_option maxRecDepth 20000 in
theorem tw_22_16 : Cond.constantLong RX5 94 (127) ∈ lw_tbl := tb_4 (List.mem_of_getElem? (i := 15) rfl)
set_option maxRecDepth 20000 in
theorem tw_22_17 : Cond.constantLong RX5 96 (256) ∈ lw_tbl := tb_4 (List.mem_of_getElem? (i := 16) rfl)
set_option maxRecDepth 20000 in
theorem tw_22_18 : Cond.methodLink RL 86 yX4_empty ∈ lw_tbl := tb_2 (List.mem_of_getElem? (i := 173) rfl)
set_option maxRecDepth 20000 in
theorem tw_22_19 : Cond.instanceMethod yX4_empty ∈ lw_tbl := tb_2 (List.mem_of_getElem? (i := 174) rfl)
set_option maxRecDepth 20000 in
theorem tw_22_20 : Cond.selects RX4 yX4_empty yX4_empty ∈ lw_tbl := tb_2 (List.mem_of_getElem? (i := 175) rfl)
set_option maxRecDepth 20000 in
theorem tw_22_21 : Cond.code yX4_empty cX4_empty 7 (some .int) ∈ lw_tbl := tb_2 (List.mem_of_getElem? (i := 176) rfl)
set_option maxRecDepth 20000 in
theorem tw_22_22 : Cond.methodLink RX4 181 yX3_drain ∈ lw_tbl := tb_2 (List.mem_of_getElem? (i := 177) rfl)
set_option maxRecDepth 20000 in
theorem tw_22_23 : Cond.instanceMethod yX3_drain ∈ lw_tbl := tb_2 (List.mem_of_getElem? (i := 178) rfl)
set_option maxRecDepth 20000 in
theorem tw_23_0 : Cond.selects RX3 yX3_drain yX3_drain ∈ lw_tbl := tb_2 (List.mem_of_getElem? (i := 179) rfl)
set_option maxRecDepth 20000 in
theorem tw_23_1 : Cond.code yX3_drain cX3_drain 2 none ∈ lw_tbl := tb_2 (List.mem_of_getElem? (i := 180) rfl)
set_option maxRecDepth 20000 in
theorem tw_23_2 : Cond.methodLink RL 89 yX5_empty ∈ lw_tbl := tb_4 (List.mem_of_getElem? (i := 17) rfl)
set_option maxRecDepth 20000 in
theorem tw_23_3 : Cond.instanceMethod yX5_empty ∈ lw_tbl := tb_4 (List.mem_of_getElem? (i := 18) rfl)
set_option maxRecDepth 20000 in
theorem tw_23_4 : Cond.selects RX5 yX5_empty yX5_empty ∈ lw_tbl := tb_4 (List.mem_of_getElem? (i := 19) rfl)
set_option maxRecDepth 20000 in
theorem tw_23_5 : Cond.code yX5_empty cX5_empty 6 (some .int) ∈ lw_tbl := tb_4 (List.mem_of_getElem? (i := 20) rfl)
set_option maxRecDepth 20000 in
theorem tw_23_6 : Cond.methodLink RL 90 yX4_pair ∈ lw_tbl := tb_2 (List.mem_of_getElem? (i := 181) rfl)
set_option maxRecDepth 20000 in
theorem tw_23_7 : Cond.instanceMethod yX4_pair ∈ lw_tbl := tb_2 (List.mem_of_getElem? (i := 182) rfl)
set_option maxRecDepth 20000 in
theorem tw_23_8 : Cond.selects RX4 yX4_pair yX4_pair ∈ lw_tbl := tb_2 (List.mem_of_getElem? (i := 183) rfl)
set_option maxRecDepth 20000 in
theorem tw_23_9 : Cond.code yX4_pair cX4_pair 6 (some .int) ∈ lw_tbl := tb_2 (List.mem_of_getElem? (i := 184) rfl)
set_option maxRecDepth 20000 in
theorem tw_23_10 : Cond.fieldLink RX4 185 "ArrayMaker$Lines" "count" "I" ∈ lw_tbl := tb_1 (List.mem_of_getElem? (i := 55) rfl)
set_option maxRecDepth 20000 in
theorem tw_23_11 : Cond.methodLink RX4 186 yX0_add ∈ lw_tbl := tb_2 (List.mem_of_getElem? (i := 185) rfl)
set_option maxRecDepth 20000 in
theorem tw_23_12 : Cond.instanceMethod yX0_add ∈ lw_tbl := tb_2 (List.mem_of_getElem? (i := 186) rfl)
set_option maxRecDepth 20000 in
theorem tw_23_13 : Cond.selects RX0 yX0_add yX0_add ∈ lw_tbl := tb_2 (List.mem_of_getElem? (i := 187) rfl)
set_option maxRecDepth 20000 in
theorem tw_23_14 : Cond.code yX0_add cX0_add 6 none ∈ lw_tbl := tb_2 (List.mem_of_getElem? (i := 188) rfl)
set_option maxRecDepth 20000 in
theorem tw_23_15 : Cond.fieldLink RX0 25 "ArrayMaker$Lines" "count" "I" ∈ lw_tbl := tb_1 (List.mem_of_getElem? (i := 54) rfl)
set_option maxRecDepth 20000 in
theorem tw_23_16 : Cond.methodLink RL 94 yX5_pair ∈ lw_tbl := tb_4 (List.mem_of_getElem? (i := 21) rfl)
set_option maxRecDepth 20000 in
theorem tw_23_17 : Cond.instanceMethod yX5_pair ∈ lw_tbl := tb_4 (List.mem_of_getElem? (i := 22) rfl)
set_option maxRecDepth 20000 in
theorem tw_23_18 : Cond.selects RX5 yX5_pair yX5_pair ∈ lw_tbl := tb_4 (List.mem_of_getElem? (i := 23) rfl)
set_option maxRecDepth 20000 in
theorem tw_23_19 : Cond.code yX5_pair cX5_pair 6 (some .int) ∈ lw_tbl := tb_4 (List.mem_of_getElem? (i := 24) rfl)
set_option maxRecDepth 20000 in
theorem tw_23_20 : Cond.fieldLink RX5 175 "ArrayMakerModel" "lines" "I" ∈ lw_tbl := tb_3 (List.mem_of_getElem? (i := 48) rfl)
set_option maxRecDepth 20000 in
theorem tw_23_21 : Cond.methodLink RL 95 yX4_gather ∈ lw_tbl := tb_2 (List.mem_of_getElem? (i := 189) rfl)
set_option maxRecDepth 20000 in
theorem tw_23_22 : Cond.instanceMethod yX4_gather ∈ lw_tbl := tb_2 (List.mem_of_getElem? (i := 190) rfl)
set_option maxRecDepth 20000 in
theorem tw_23_23 : Cond.selects RX4 yX4_gather yX4_gather ∈ lw_tbl := tb_2 (List.mem_of_getElem? (i := 191) rfl)
set_option maxRecDepth 20000 in
theorem tw_24_0 : Cond.code yX4_gather cX4_gather 7 (some .int) ∈ lw_tbl := tb_2 (List.mem_of_getElem? (i := 192) rfl)
set_option maxRecDepth 20000 in
theorem tw_24_1 : Cond.fieldLink RX4 189 "ArrayMaker$Lines" "i" "[I" ∈ lw_tbl := tb_1 (List.mem_of_getElem? (i := 47) rfl)
set_option maxRecDepth 20000 in
theorem tw_24_2 : Cond.fieldLink RX4 192 "ArrayMaker$Lines" "j" "[I" ∈ lw_tbl := tb_1 (List.mem_of_getElem? (i := 49) rfl)
set_option maxRecDepth 20000 in
theorem tw_24_3 : Cond.fieldLink RX4 195 "ArrayMaker$Lines" "k" "[I" ∈ lw_tbl := tb_1 (List.mem_of_getElem? (i := 51) rfl)
set_option maxRecDepth 20000 in
theorem tw_24_4 : Cond.fieldLink RX4 198 "ArrayMaker$Lines" "v" "[J" ∈ lw_tbl := tb_1 (List.mem_of_getElem? (i := 53) rfl)
set_option maxRecDepth 20000 in
theorem tw_24_5 : Cond.methodLink RX4 201 yX4_joinCell ∈ lw_tbl := tb_2 (List.mem_of_getElem? (i := 193) rfl)
set_option maxRecDepth 20000 in
theorem tw_24_6 : Cond.instanceMethod yX4_joinCell ∈ lw_tbl := tb_2 (List.mem_of_getElem? (i := 195) rfl)
set_option maxRecDepth 20000 in
theorem tw_24_7 : Cond.selects RX4 yX4_joinCell yX4_joinCell ∈ lw_tbl := tb_p (pv_2 (List.mem_of_getElem? (i := 6) rfl))
set_option maxRecDepth 20000 in
theorem tw_24_8 : Cond.code yX4_joinCell cX4_joinCell 6 (some .boolean) ∈ lw_tbl := tb_2 (List.mem_of_getElem? (i := 196) rfl)
set_option maxRecDepth 20000 in
theorem tw_24_9 : Cond.methodLink RX4 255 yX4_joined ∈ lw_tbl := tb_2 (List.mem_of_getElem? (i := 197) rfl)
set_option maxRecDepth 20000 in
theorem tw_24_10 : Cond.static yX4_joined ∈ lw_tbl := tb_2 (List.mem_of_getElem? (i := 198) rfl)
set_option maxRecDepth 20000 in
theorem tw_24_11 : Cond.code yX4_joined cX4_joined 5 (some .long) ∈ lw_tbl := tb_2 (List.mem_of_getElem? (i := 199) rfl)
set_option maxRecDepth 20000 in
theorem tw_24_12 : Cond.methodLink RX4 259 Lib.MathLoose.max_long.x ∈ lw_tbl := tb_2 (List.mem_of_getElem? (i := 200) rfl)
set_option maxRecDepth 20000 in
theorem tw_24_13 : Cond.methodLink RX4 265 Lib.MathLoose.min_long.x ∈ lw_tbl := tb_2 (List.mem_of_getElem? (i := 201) rfl)
set_option maxRecDepth 20000 in
theorem tw_24_14 : Cond.methodLink RL 98 yX5_gather ∈ lw_tbl := tb_4 (List.mem_of_getElem? (i := 25) rfl)
set_option maxRecDepth 20000 in
theorem tw_24_15 : Cond.instanceMethod yX5_gather ∈ lw_tbl := tb_4 (List.mem_of_getElem? (i := 26) rfl)
set_option maxRecDepth 20000 in
theorem tw_24_16 : Cond.selects RX5 yX5_gather yX5_gather ∈ lw_tbl := tb_4 (List.mem_of_getElem? (i := 27) rfl)
set_option maxRecDepth 20000 in
theorem tw_24_17 : Cond.code yX5_gather cX5_gather 6 (some .int) ∈ lw_tbl := tb_4 (List.mem_of_getElem? (i := 28) rfl)
set_option maxRecDepth 20000 in
theorem tw_24_18 : Cond.constantLong RX5 180 (5) ∈ lw_tbl := tb_4 (List.mem_of_getElem? (i := 29) rfl)
set_option maxRecDepth 20000 in
theorem tw_24_19 : Cond.methodLink RX5 182 yX5_joins ∈ lw_tbl := tb_4 (List.mem_of_getElem? (i := 30) rfl)
set_option maxRecDepth 20000 in
theorem tw_24_20 : Cond.instanceMethod yX5_joins ∈ lw_tbl := tb_4 (List.mem_of_getElem? (i := 32) rfl)
set_option maxRecDepth 20000 in
theorem tw_24_21 : Cond.selects RX5 yX5_joins yX5_joins ∈ lw_tbl := tb_p (pv_3 (List.mem_of_getElem? (i := 10) rfl))
set_option maxRecDepth 20000 in
theorem tw_24_22 : Cond.code yX5_joins cX5_joins 10 (some .boolean) ∈ lw_tbl := tb_4 (List.mem_of_getElem? (i := 33) rfl)
set_option maxRecDepth 20000 in
theorem tw_24_23 : Cond.constantLong RX5 178 (-1) ∈ lw_tbl := tb_4 (List.mem_of_getElem? (i := 34) rfl)
set_option maxRecDepth 20000 in
theorem tw_25_0 : Cond.methodLink RL 99 yX4_join ∈ lw_tbl := tb_2 (List.mem_of_getElem? (i := 202) rfl)
set_option maxRecDepth 20000 in
theorem tw_25_1 : Cond.instanceMethod yX4_join ∈ lw_tbl := tb_2 (List.mem_of_getElem? (i := 203) rfl)
set_option maxRecDepth 20000 in
theorem tw_25_2 : Cond.selects RX4 yX4_join yX4_join ∈ lw_tbl := tb_2 (List.mem_of_getElem? (i := 204) rfl)
set_option maxRecDepth 20000 in
theorem tw_25_3 : Cond.code yX4_join cX4_join 11 (some .int) ∈ lw_tbl := tb_2 (List.mem_of_getElem? (i := 205) rfl)
set_option maxRecDepth 20000 in
theorem tw_25_4 : Cond.methodLink RX4 208 yX4_whyNotJoined ∈ lw_tbl := tb_2 (List.mem_of_getElem? (i := 206) rfl)
set_option maxRecDepth 20000 in
theorem tw_25_5 : Cond.instanceMethod yX4_whyNotJoined ∈ lw_tbl := tb_2 (List.mem_of_getElem? (i := 208) rfl)
set_option maxRecDepth 20000 in
theorem tw_25_6 : Cond.selects RX4 yX4_whyNotJoined yX4_whyNotJoined ∈ lw_tbl := tb_p (pv_2 (List.mem_of_getElem? (i := 7) rfl))
set_option maxRecDepth 20000 in
theorem tw_25_7 : Cond.code yX4_whyNotJoined cX4_whyNotJoined 3 (some .int) ∈ lw_tbl := tb_2 (List.mem_of_getElem? (i := 209) rfl)
set_option maxRecDepth 20000 in
theorem tw_25_8 : Cond.methodLink RL 102 yX5_join ∈ lw_tbl := tb_4 (List.mem_of_getElem? (i := 35) rfl)
set_option maxRecDepth 20000 in
theorem tw_25_9 : Cond.instanceMethod yX5_join ∈ lw_tbl := tb_4 (List.mem_of_getElem? (i := 36) rfl)
set_option maxRecDepth 20000 in
theorem tw_25_10 : Cond.selects RX5 yX5_join yX5_join ∈ lw_tbl := tb_4 (List.mem_of_getElem? (i := 37) rfl)
set_option maxRecDepth 20000 in
theorem tw_25_11 : Cond.code yX5_join cX5_join 8 (some .int) ∈ lw_tbl := tb_4 (List.mem_of_getElem? (i := 38) rfl)
set_option maxRecDepth 20000 in
theorem tw_25_12 : Cond.methodLink RL 103 yX4_sum ∈ lw_tbl := tb_2 (List.mem_of_getElem? (i := 210) rfl)
set_option maxRecDepth 20000 in
theorem tw_25_13 : Cond.instanceMethod yX4_sum ∈ lw_tbl := tb_2 (List.mem_of_getElem? (i := 211) rfl)
set_option maxRecDepth 20000 in
theorem tw_25_14 : Cond.selects RX4 yX4_sum yX4_sum ∈ lw_tbl := tb_2 (List.mem_of_getElem? (i := 212) rfl)
set_option maxRecDepth 20000 in
theorem tw_25_15 : Cond.code yX4_sum cX4_sum 6 (some .long) ∈ lw_tbl := tb_2 (List.mem_of_getElem? (i := 213) rfl)
set_option maxRecDepth 20000 in
theorem tw_25_16 : Cond.methodLink RX4 212 yX3_totalOf ∈ lw_tbl := tb_2 (List.mem_of_getElem? (i := 214) rfl)
set_option maxRecDepth 20000 in
theorem tw_25_17 : Cond.instanceMethod yX3_totalOf ∈ lw_tbl := tb_2 (List.mem_of_getElem? (i := 215) rfl)
set_option maxRecDepth 20000 in
theorem tw_25_18 : Cond.selects RX3 yX3_totalOf yX3_totalOf ∈ lw_tbl := tb_2 (List.mem_of_getElem? (i := 216) rfl)
set_option maxRecDepth 20000 in
theorem tw_25_19 : Cond.code yX3_totalOf cX3_totalOf 5 (some .long) ∈ lw_tbl := tb_2 (List.mem_of_getElem? (i := 217) rfl)
set_option maxRecDepth 20000 in
theorem tw_25_20 : Cond.methodLink RX3 60 yX3_lengthOf ∈ lw_tbl := tb_2 (List.mem_of_getElem? (i := 218) rfl)
set_option maxRecDepth 20000 in
theorem tw_25_21 : Cond.methodLink RX3 64 yX3_startOf ∈ lw_tbl := tb_2 (List.mem_of_getElem? (i := 219) rfl)
set_option maxRecDepth 20000 in
theorem tw_25_22 : Cond.methodLink RL 107 yX5_sum ∈ lw_tbl := tb_4 (List.mem_of_getElem? (i := 39) rfl)
set_option maxRecDepth 20000 in
theorem tw_25_23 : Cond.instanceMethod yX5_sum ∈ lw_tbl := tb_4 (List.mem_of_getElem? (i := 40) rfl)
set_option maxRecDepth 20000 in
theorem tw_26_0 : Cond.selects RX5 yX5_sum yX5_sum ∈ lw_tbl := tb_4 (List.mem_of_getElem? (i := 41) rfl)
set_option maxRecDepth 20000 in
theorem tw_26_1 : Cond.code yX5_sum cX5_sum 6 (some .long) ∈ lw_tbl := tb_4 (List.mem_of_getElem? (i := 42) rfl)
set_option maxRecDepth 20000 in
theorem tw_26_2 : Cond.methodLink RX5 186 yX5_sumOf ∈ lw_tbl := tb_4 (List.mem_of_getElem? (i := 43) rfl)
set_option maxRecDepth 20000 in
theorem tw_26_3 : Cond.instanceMethod yX5_sumOf ∈ lw_tbl := tb_4 (List.mem_of_getElem? (i := 45) rfl)
set_option maxRecDepth 20000 in
theorem tw_26_4 : Cond.selects RX5 yX5_sumOf yX5_sumOf ∈ lw_tbl := tb_p (pv_3 (List.mem_of_getElem? (i := 11) rfl))
set_option maxRecDepth 20000 in
theorem tw_26_5 : Cond.code yX5_sumOf cX5_sumOf 5 (some .long) ∈ lw_tbl := tb_4 (List.mem_of_getElem? (i := 46) rfl)
set_option maxRecDepth 20000 in
theorem tw_26_6 : Cond.methodLink RL 108 yX4_mean ∈ lw_tbl := tb_2 (List.mem_of_getElem? (i := 220) rfl)
set_option maxRecDepth 20000 in
theorem tw_26_7 : Cond.instanceMethod yX4_mean ∈ lw_tbl := tb_2 (List.mem_of_getElem? (i := 221) rfl)
set_option maxRecDepth 20000 in
theorem tw_26_8 : Cond.selects RX4 yX4_mean yX4_mean ∈ lw_tbl := tb_2 (List.mem_of_getElem? (i := 222) rfl)
set_option maxRecDepth 20000 in
theorem tw_26_9 : Cond.code yX4_mean cX4_mean 4 (some .long) ∈ lw_tbl := tb_2 (List.mem_of_getElem? (i := 223) rfl)
set_option maxRecDepth 20000 in
theorem tw_26_10 : Cond.methodLink RL 111 yX5_mean ∈ lw_tbl := tb_4 (List.mem_of_getElem? (i := 47) rfl)
set_option maxRecDepth 20000 in
theorem tw_26_11 : Cond.instanceMethod yX5_mean ∈ lw_tbl := tb_4 (List.mem_of_getElem? (i := 48) rfl)
set_option maxRecDepth 20000 in
theorem tw_26_12 : Cond.selects RX5 yX5_mean yX5_mean ∈ lw_tbl := tb_4 (List.mem_of_getElem? (i := 49) rfl)
set_option maxRecDepth 20000 in
theorem tw_26_13 : Cond.code yX5_mean cX5_mean 3 (some .long) ∈ lw_tbl := tb_4 (List.mem_of_getElem? (i := 50) rfl)
set_option maxRecDepth 20000 in
theorem tw_26_14 : Cond.methodLink RL 112 yX4_about ∈ lw_tbl := tb_2 (List.mem_of_getElem? (i := 224) rfl)
set_option maxRecDepth 20000 in
theorem tw_26_15 : Cond.instanceMethod yX4_about ∈ lw_tbl := tb_2 (List.mem_of_getElem? (i := 225) rfl)
set_option maxRecDepth 20000 in
theorem tw_26_16 : Cond.selects RX4 yX4_about yX4_about ∈ lw_tbl := tb_2 (List.mem_of_getElem? (i := 226) rfl)
set_option maxRecDepth 20000 in
theorem tw_26_17 : Cond.code yX4_about cX4_about 6 (some .int) ∈ lw_tbl := tb_2 (List.mem_of_getElem? (i := 227) rfl)
set_option maxRecDepth 20000 in
theorem tw_26_18 : Cond.fieldLink RX4 222 "ArrayMaker$Shape" "high" "[I" ∈ lw_tbl := tb_1 (List.mem_of_getElem? (i := 29) rfl)
set_option maxRecDepth 20000 in
theorem tw_26_19 : Cond.methodLink RX4 216 yX4_itemsOf ∈ lw_tbl := tb_2 (List.mem_of_getElem? (i := 228) rfl)
set_option maxRecDepth 20000 in
theorem tw_26_20 : Cond.instanceMethod yX4_itemsOf ∈ lw_tbl := tb_2 (List.mem_of_getElem? (i := 230) rfl)
set_option maxRecDepth 20000 in
theorem tw_26_21 : Cond.selects RX4 yX4_itemsOf yX4_itemsOf ∈ lw_tbl := tb_p (pv_2 (List.mem_of_getElem? (i := 8) rfl))
set_option maxRecDepth 20000 in
theorem tw_26_22 : Cond.code yX4_itemsOf cX4_itemsOf 4 (some .int) ∈ lw_tbl := tb_2 (List.mem_of_getElem? (i := 231) rfl)
set_option maxRecDepth 20000 in
theorem tw_26_23 : Cond.methodLink RL 115 yX5_about ∈ lw_tbl := tb_4 (List.mem_of_getElem? (i := 51) rfl)
set_option maxRecDepth 20000 in
theorem tw_27_0 : Cond.instanceMethod yX5_about ∈ lw_tbl := tb_4 (List.mem_of_getElem? (i := 52) rfl)
set_option maxRecDepth 20000 in
theorem tw_27_1 : Cond.selects RX5 yX5_about yX5_about ∈ lw_tbl := tb_4 (List.mem_of_getElem? (i := 53) rfl)
set_option maxRecDepth 20000 in
theorem tw_27_2 : Cond.code yX5_about cX5_about 6 (some .int) ∈ lw_tbl := tb_4 (List.mem_of_getElem? (i := 54) rfl)
set_option maxRecDepth 20000 in
theorem tw_27_3 : Cond.constantLong RX5 190 (8) ∈ lw_tbl := tb_4 (List.mem_of_getElem? (i := 55) rfl)
set_option maxRecDepth 20000 in
theorem tw_27_4 : Cond.methodLink RL 116 yX4_same ∈ lw_tbl := tb_2 (List.mem_of_getElem? (i := 232) rfl)
set_option maxRecDepth 20000 in
theorem tw_27_5 : Cond.instanceMethod yX4_same ∈ lw_tbl := tb_2 (List.mem_of_getElem? (i := 233) rfl)
set_option maxRecDepth 20000 in
theorem tw_27_6 : Cond.selects RX4 yX4_same yX4_same ∈ lw_tbl := tb_2 (List.mem_of_getElem? (i := 234) rfl)
set_option maxRecDepth 20000 in
theorem tw_27_7 : Cond.code yX4_same cX4_same 5 (some .int) ∈ lw_tbl := tb_2 (List.mem_of_getElem? (i := 235) rfl)
set_option maxRecDepth 20000 in
theorem tw_27_8 : Cond.methodLink RX4 225 yX4_haveSameRows ∈ lw_tbl := tb_2 (List.mem_of_getElem? (i := 236) rfl)
set_option maxRecDepth 20000 in
theorem tw_27_9 : Cond.static yX4_haveSameRows ∈ lw_tbl := tb_2 (List.mem_of_getElem? (i := 237) rfl)
set_option maxRecDepth 20000 in
theorem tw_27_10 : Cond.code yX4_haveSameRows cX4_haveSameRows 3 (some .boolean) ∈ lw_tbl := tb_2 (List.mem_of_getElem? (i := 238) rfl)
set_option maxRecDepth 20000 in
theorem tw_27_11 : Cond.methodLink RL 119 yX5_same ∈ lw_tbl := tb_4 (List.mem_of_getElem? (i := 56) rfl)
set_option maxRecDepth 20000 in
theorem tw_27_12 : Cond.instanceMethod yX5_same ∈ lw_tbl := tb_4 (List.mem_of_getElem? (i := 57) rfl)
set_option maxRecDepth 20000 in
theorem tw_27_13 : Cond.selects RX5 yX5_same yX5_same ∈ lw_tbl := tb_4 (List.mem_of_getElem? (i := 58) rfl)
set_option maxRecDepth 20000 in
theorem tw_27_14 : Cond.code yX5_same cX5_same 5 (some .int) ∈ lw_tbl := tb_4 (List.mem_of_getElem? (i := 59) rfl)
set_option maxRecDepth 20000 in
theorem tw_27_15 : Cond.methodLink RL 120 yX4_compare ∈ lw_tbl := tb_2 (List.mem_of_getElem? (i := 239) rfl)
set_option maxRecDepth 20000 in
theorem tw_27_16 : Cond.instanceMethod yX4_compare ∈ lw_tbl := tb_3 (List.mem_of_getElem? (i := 0) rfl)
set_option maxRecDepth 20000 in
theorem tw_27_17 : Cond.selects RX4 yX4_compare yX4_compare ∈ lw_tbl := tb_3 (List.mem_of_getElem? (i := 1) rfl)
set_option maxRecDepth 20000 in
theorem tw_27_18 : Cond.code yX4_compare cX4_compare 5 (some .int) ∈ lw_tbl := tb_3 (List.mem_of_getElem? (i := 2) rfl)
set_option maxRecDepth 20000 in
theorem tw_27_19 : Cond.methodLink RX4 229 yX3_orderOf ∈ lw_tbl := tb_3 (List.mem_of_getElem? (i := 3) rfl)
set_option maxRecDepth 20000 in
theorem tw_27_20 : Cond.instanceMethod yX3_orderOf ∈ lw_tbl := tb_3 (List.mem_of_getElem? (i := 4) rfl)
set_option maxRecDepth 20000 in
theorem tw_27_21 : Cond.selects RX3 yX3_orderOf yX3_orderOf ∈ lw_tbl := tb_3 (List.mem_of_getElem? (i := 5) rfl)
set_option maxRecDepth 20000 in
theorem tw_27_22 : Cond.code yX3_orderOf cX3_orderOf 6 (some .int) ∈ lw_tbl := tb_3 (List.mem_of_getElem? (i := 6) rfl)
set_option maxRecDepth 20000 in
theorem tw_27_23 : Cond.methodLink RX3 67 Lib.Math.min.name ∈ lw_tbl := tb_3 (List.mem_of_getElem? (i := 7) rfl)
set_option maxRecDepth 20000 in
theorem tw_28_0 : Cond.methodLink RX3 70 yJ13_compare_74951 ∈ lw_tbl := tb_3 (List.mem_of_getElem? (i := 8) rfl)
set_option maxRecDepth 20000 in
theorem tw_28_1 : Cond.static yJ13_compare_74951 ∈ lw_tbl := tb_3 (List.mem_of_getElem? (i := 9) rfl)
set_option maxRecDepth 20000 in
theorem tw_28_2 : Cond.initialized RJ13 ∈ lw_tbl := tb_1 (List.mem_of_getElem? (i := 10) rfl)
set_option maxRecDepth 20000 in
theorem tw_28_3 : Cond.code yJ13_compare_74951 cJ13_compare_74951 4 (some .int) ∈ lw_tbl := tb_3 (List.mem_of_getElem? (i := 10) rfl)
set_option maxRecDepth 20000 in
theorem tw_28_4 : Cond.methodLink RX3 76 yJ6_compare_7cf53 ∈ lw_tbl := tb_3 (List.mem_of_getElem? (i := 11) rfl)
set_option maxRecDepth 20000 in
theorem tw_28_5 : Cond.static yJ6_compare_7cf53 ∈ lw_tbl := tb_3 (List.mem_of_getElem? (i := 12) rfl)
set_option maxRecDepth 20000 in
theorem tw_28_6 : Cond.initialized RJ6 ∈ lw_tbl := tb_1 (List.mem_of_getElem? (i := 11) rfl)
set_option maxRecDepth 20000 in
theorem tw_28_7 : Cond.code yJ6_compare_7cf53 cJ6_compare_7cf53 2 (some .int) ∈ lw_tbl := tb_3 (List.mem_of_getElem? (i := 13) rfl)
set_option maxRecDepth 20000 in
theorem tw_28_8 : Cond.methodLink RL 123 yX5_compare ∈ lw_tbl := tb_4 (List.mem_of_getElem? (i := 60) rfl)
set_option maxRecDepth 20000 in
theorem tw_28_9 : Cond.instanceMethod yX5_compare ∈ lw_tbl := tb_4 (List.mem_of_getElem? (i := 61) rfl)
set_option maxRecDepth 20000 in
theorem tw_28_10 : Cond.selects RX5 yX5_compare yX5_compare ∈ lw_tbl := tb_4 (List.mem_of_getElem? (i := 62) rfl)
set_option maxRecDepth 20000 in
theorem tw_28_11 : Cond.code yX5_compare cX5_compare 10 (some .int) ∈ lw_tbl := tb_4 (List.mem_of_getElem? (i := 63) rfl)
set_option maxRecDepth 20000 in
theorem tw_28_12 : Cond.methodLink RL 124 yX4_clear ∈ lw_tbl := tb_3 (List.mem_of_getElem? (i := 14) rfl)
set_option maxRecDepth 20000 in
theorem tw_28_13 : Cond.instanceMethod yX4_clear ∈ lw_tbl := tb_3 (List.mem_of_getElem? (i := 15) rfl)
set_option maxRecDepth 20000 in
theorem tw_28_14 : Cond.selects RX4 yX4_clear yX4_clear ∈ lw_tbl := tb_3 (List.mem_of_getElem? (i := 16) rfl)
set_option maxRecDepth 20000 in
theorem tw_28_15 : Cond.code yX4_clear cX4_clear 2 (some .int) ∈ lw_tbl := tb_3 (List.mem_of_getElem? (i := 17) rfl)
set_option maxRecDepth 20000 in
theorem tw_28_16 : Cond.methodLink RX4 232 yX3_forget ∈ lw_tbl := tb_3 (List.mem_of_getElem? (i := 18) rfl)
set_option maxRecDepth 20000 in
theorem tw_28_17 : Cond.instanceMethod yX3_forget ∈ lw_tbl := tb_3 (List.mem_of_getElem? (i := 19) rfl)
set_option maxRecDepth 20000 in
theorem tw_28_18 : Cond.selects RX3 yX3_forget yX3_forget ∈ lw_tbl := tb_3 (List.mem_of_getElem? (i := 20) rfl)
set_option maxRecDepth 20000 in
theorem tw_28_19 : Cond.code yX3_forget cX3_forget 1 none ∈ lw_tbl := tb_3 (List.mem_of_getElem? (i := 21) rfl)
set_option maxRecDepth 20000 in
theorem tw_28_20 : Cond.methodLink RL 127 yX5_clear ∈ lw_tbl := tb_4 (List.mem_of_getElem? (i := 64) rfl)
set_option maxRecDepth 20000 in
theorem tw_28_21 : Cond.instanceMethod yX5_clear ∈ lw_tbl := tb_4 (List.mem_of_getElem? (i := 65) rfl)
set_option maxRecDepth 20000 in
theorem tw_28_22 : Cond.selects RX5 yX5_clear yX5_clear ∈ lw_tbl := tb_4 (List.mem_of_getElem? (i := 66) rfl)
set_option maxRecDepth 20000 in
theorem tw_28_23 : Cond.code yX5_clear cX5_clear 2 (some .int) ∈ lw_tbl := tb_4 (List.mem_of_getElem? (i := 67) rfl)
theorem tr_1 : ∀ w ∈ wsL_law_r1, w ∈ lw_tbl := List.forall_mem_cons.mpr ⟨tw_1_0, List.forall_mem_cons.mpr ⟨tw_1_1, List.forall_mem_cons.mpr ⟨tw_1_2, List.forall_mem_cons.mpr ⟨tw_1_3, List.forall_mem_cons.mpr ⟨tw_1_4, List.forall_mem_cons.mpr ⟨tw_1_5, List.forall_mem_cons.mpr ⟨tw_1_6, List.forall_mem_cons.mpr ⟨tw_1_7, List.forall_mem_cons.mpr ⟨tw_1_8, List.forall_mem_cons.mpr ⟨tw_1_9, List.forall_mem_cons.mpr ⟨tw_1_10, List.forall_mem_cons.mpr ⟨tw_1_11, List.forall_mem_cons.mpr ⟨tw_1_12, List.forall_mem_cons.mpr ⟨tw_1_13, List.forall_mem_cons.mpr ⟨tw_1_14, List.forall_mem_cons.mpr ⟨tw_1_15, List.forall_mem_cons.mpr ⟨tw_1_16, List.forall_mem_cons.mpr ⟨tw_1_17, List.forall_mem_cons.mpr ⟨tw_1_18, List.forall_mem_cons.mpr ⟨tw_1_19, List.forall_mem_cons.mpr ⟨tw_1_20, List.forall_mem_cons.mpr ⟨tw_1_21, List.forall_mem_cons.mpr ⟨tw_1_22, List.forall_mem_cons.mpr ⟨tw_1_23, fun _ h => absurd h List.not_mem_nil⟩⟩⟩⟩⟩⟩⟩⟩⟩⟩⟩⟩⟩⟩⟩⟩⟩⟩⟩⟩⟩⟩⟩⟩
theorem tr_2 : ∀ w ∈ wsL_law_r2, w ∈ lw_tbl := List.forall_mem_cons.mpr ⟨tw_2_0, List.forall_mem_cons.mpr ⟨tw_2_1, List.forall_mem_cons.mpr ⟨tw_2_2, List.forall_mem_cons.mpr ⟨tw_2_3, List.forall_mem_cons.mpr ⟨tw_2_4, List.forall_mem_cons.mpr ⟨tw_2_5, List.forall_mem_cons.mpr ⟨tw_2_6, List.forall_mem_cons.mpr ⟨tw_2_7, List.forall_mem_cons.mpr ⟨tw_2_8, List.forall_mem_cons.mpr ⟨tw_2_9, List.forall_mem_cons.mpr ⟨tw_2_10, List.forall_mem_cons.mpr ⟨tw_2_11, List.forall_mem_cons.mpr ⟨tw_2_12, List.forall_mem_cons.mpr ⟨tw_2_13, List.forall_mem_cons.mpr ⟨tw_2_14, List.forall_mem_cons.mpr ⟨tw_2_15, List.forall_mem_cons.mpr ⟨tw_2_16, List.forall_mem_cons.mpr ⟨tw_2_17, List.forall_mem_cons.mpr ⟨tw_2_18, List.forall_mem_cons.mpr ⟨tw_2_19, List.forall_mem_cons.mpr ⟨tw_2_20, List.forall_mem_cons.mpr ⟨tw_2_21, List.forall_mem_cons.mpr ⟨tw_2_22, List.forall_mem_cons.mpr ⟨tw_2_23, fun _ h => absurd h List.not_mem_nil⟩⟩⟩⟩⟩⟩⟩⟩⟩⟩⟩⟩⟩⟩⟩⟩⟩⟩⟩⟩⟩⟩⟩⟩
theorem tr_3 : ∀ w ∈ wsL_law_r3, w ∈ lw_tbl := List.forall_mem_cons.mpr ⟨tw_3_0, List.forall_mem_cons.mpr ⟨tw_3_1, List.forall_mem_cons.mpr ⟨tw_3_2, List.forall_mem_cons.mpr ⟨tw_3_3, List.forall_mem_cons.mpr ⟨tw_3_4, List.forall_mem_cons.mpr ⟨tw_3_5, List.forall_mem_cons.mpr ⟨tw_3_6, List.forall_mem_cons.mpr ⟨tw_3_7, List.forall_mem_cons.mpr ⟨tw_3_8, List.forall_mem_cons.mpr ⟨tw_3_9, List.forall_mem_cons.mpr ⟨tw_3_10, List.forall_mem_cons.mpr ⟨tw_3_11, List.forall_mem_cons.mpr ⟨tw_3_12, List.forall_mem_cons.mpr ⟨tw_3_13, List.forall_mem_cons.mpr ⟨tw_3_14, List.forall_mem_cons.mpr ⟨tw_3_15, List.forall_mem_cons.mpr ⟨tw_3_16, List.forall_mem_cons.mpr ⟨tw_3_17, List.forall_mem_cons.mpr ⟨tw_3_18, List.forall_mem_cons.mpr ⟨tw_3_19, List.forall_mem_cons.mpr ⟨tw_3_20, List.forall_mem_cons.mpr ⟨tw_3_21, List.forall_mem_cons.mpr ⟨tw_3_22, List.forall_mem_cons.mpr ⟨tw_3_23, fun _ h => absurd h List.not_mem_nil⟩⟩⟩⟩⟩⟩⟩⟩⟩⟩⟩⟩⟩⟩⟩⟩⟩⟩⟩⟩⟩⟩⟩⟩
theorem tr_4 : ∀ w ∈ wsL_law_r4, w ∈ lw_tbl := List.forall_mem_cons.mpr ⟨tw_4_0, List.forall_mem_cons.mpr ⟨tw_4_1, List.forall_mem_cons.mpr ⟨tw_4_2, List.forall_mem_cons.mpr ⟨tw_4_3, List.forall_mem_cons.mpr ⟨tw_4_4, List.forall_mem_cons.mpr ⟨tw_4_5, List.forall_mem_cons.mpr ⟨tw_4_6, List.forall_mem_cons.mpr ⟨tw_4_7, List.forall_mem_cons.mpr ⟨tw_4_8, List.forall_mem_cons.mpr ⟨tw_4_9, List.forall_mem_cons.mpr ⟨tw_4_10, List.forall_mem_cons.mpr ⟨tw_4_11, List.forall_mem_cons.mpr ⟨tw_4_12, List.forall_mem_cons.mpr ⟨tw_4_13, List.forall_mem_cons.mpr ⟨tw_4_14, List.forall_mem_cons.mpr ⟨tw_4_15, List.forall_mem_cons.mpr ⟨tw_4_16, List.forall_mem_cons.mpr ⟨tw_4_17, List.forall_mem_cons.mpr ⟨tw_4_18, List.forall_mem_cons.mpr ⟨tw_4_19, List.forall_mem_cons.mpr ⟨tw_4_20, List.forall_mem_cons.mpr ⟨tw_4_21, List.forall_mem_cons.mpr ⟨tw_4_22, List.forall_mem_cons.mpr ⟨tw_4_23, fun _ h => absurd h List.not_mem_nil⟩⟩⟩⟩⟩⟩⟩⟩⟩⟩⟩⟩⟩⟩⟩⟩⟩⟩⟩⟩⟩⟩⟩⟩
theorem tr_5 : ∀ w ∈ wsL_law_r5, w ∈ lw_tbl := List.forall_mem_cons.mpr ⟨tw_5_0, List.forall_mem_cons.mpr ⟨tw_5_1, List.forall_mem_cons.mpr ⟨tw_5_2, List.forall_mem_cons.mpr ⟨tw_5_3, List.forall_mem_cons.mpr ⟨tw_5_4, List.forall_mem_cons.mpr ⟨tw_5_5, List.forall_mem_cons.mpr ⟨tw_5_6, List.forall_mem_cons.mpr ⟨tw_5_7, List.forall_mem_cons.mpr ⟨tw_5_8, List.forall_mem_cons.mpr ⟨tw_5_9, List.forall_mem_cons.mpr ⟨tw_5_10, List.forall_mem_cons.mpr ⟨tw_5_11, List.forall_mem_cons.mpr ⟨tw_5_12, List.forall_mem_cons.mpr ⟨tw_5_13, List.forall_mem_cons.mpr ⟨tw_5_14, List.forall_mem_cons.mpr ⟨tw_5_15, List.forall_mem_cons.mpr ⟨tw_5_16, List.forall_mem_cons.mpr ⟨tw_5_17, List.forall_mem_cons.mpr ⟨tw_5_18, List.forall_mem_cons.mpr ⟨tw_5_19, List.forall_mem_cons.mpr ⟨tw_5_20, List.forall_mem_cons.mpr ⟨tw_5_21, List.forall_mem_cons.mpr ⟨tw_5_22, List.forall_mem_cons.mpr ⟨tw_5_23, fun _ h => absurd h List.not_mem_nil⟩⟩⟩⟩⟩⟩⟩⟩⟩⟩⟩⟩⟩⟩⟩⟩⟩⟩⟩⟩⟩⟩⟩⟩
theorem tr_6 : ∀ w ∈ wsL_law_r6, w ∈ lw_tbl := List.forall_mem_cons.mpr ⟨tw_6_0, List.forall_mem_cons.mpr ⟨tw_6_1, List.forall_mem_cons.mpr ⟨tw_6_2, List.forall_mem_cons.mpr ⟨tw_6_3, List.forall_mem_cons.mpr ⟨tw_6_4, List.forall_mem_cons.mpr ⟨tw_6_5, List.forall_mem_cons.mpr ⟨tw_6_6, List.forall_mem_cons.mpr ⟨tw_6_7, List.forall_mem_cons.mpr ⟨tw_6_8, List.forall_mem_cons.mpr ⟨tw_6_9, List.forall_mem_cons.mpr ⟨tw_6_10, List.forall_mem_cons.mpr ⟨tw_6_11, List.forall_mem_cons.mpr ⟨tw_6_12, List.forall_mem_cons.mpr ⟨tw_6_13, List.forall_mem_cons.mpr ⟨tw_6_14, List.forall_mem_cons.mpr ⟨tw_6_15, List.forall_mem_cons.mpr ⟨tw_6_16, List.forall_mem_cons.mpr ⟨tw_6_17, List.forall_mem_cons.mpr ⟨tw_6_18, List.forall_mem_cons.mpr ⟨tw_6_19, List.forall_mem_cons.mpr ⟨tw_6_20, List.forall_mem_cons.mpr ⟨tw_6_21, List.forall_mem_cons.mpr ⟨tw_6_22, List.forall_mem_cons.mpr ⟨tw_6_23, fun _ h => absurd h List.not_mem_nil⟩⟩⟩⟩⟩⟩⟩⟩⟩⟩⟩⟩⟩⟩⟩⟩⟩⟩⟩⟩⟩⟩⟩⟩
theorem tr_7 : ∀ w ∈ wsL_law_r7, w ∈ lw_tbl := List.forall_mem_cons.mpr ⟨tw_7_0, List.forall_mem_cons.mpr ⟨tw_7_1, List.forall_mem_cons.mpr ⟨tw_7_2, List.forall_mem_cons.mpr ⟨tw_7_3, List.forall_mem_cons.mpr ⟨tw_7_4, List.forall_mem_cons.mpr ⟨tw_7_5, List.forall_mem_cons.mpr ⟨tw_7_6, List.forall_mem_cons.mpr ⟨tw_7_7, List.forall_mem_cons.mpr ⟨tw_7_8, List.forall_mem_cons.mpr ⟨tw_7_9, List.forall_mem_cons.mpr ⟨tw_7_10, List.forall_mem_cons.mpr ⟨tw_7_11, List.forall_mem_cons.mpr ⟨tw_7_12, List.forall_mem_cons.mpr ⟨tw_7_13, List.forall_mem_cons.mpr ⟨tw_7_14, List.forall_mem_cons.mpr ⟨tw_7_15, List.forall_mem_cons.mpr ⟨tw_7_16, List.forall_mem_cons.mpr ⟨tw_7_17, List.forall_mem_cons.mpr ⟨tw_7_18, List.forall_mem_cons.mpr ⟨tw_7_19, List.forall_mem_cons.mpr ⟨tw_7_20, List.forall_mem_cons.mpr ⟨tw_7_21, List.forall_mem_cons.mpr ⟨tw_7_22, List.forall_mem_cons.mpr ⟨tw_7_23, fun _ h => absurd h List.not_mem_nil⟩⟩⟩⟩⟩⟩⟩⟩⟩⟩⟩⟩⟩⟩⟩⟩⟩⟩⟩⟩⟩⟩⟩⟩
theorem tr_8 : ∀ w ∈ wsL_law_r8, w ∈ lw_tbl := List.forall_mem_cons.mpr ⟨tw_8_0, List.forall_mem_cons.mpr ⟨tw_8_1, List.forall_mem_cons.mpr ⟨tw_8_2, List.forall_mem_cons.mpr ⟨tw_8_3, List.forall_mem_cons.mpr ⟨tw_8_4, List.forall_mem_cons.mpr ⟨tw_8_5, List.forall_mem_cons.mpr ⟨tw_8_6, List.forall_mem_cons.mpr ⟨tw_8_7, List.forall_mem_cons.mpr ⟨tw_8_8, List.forall_mem_cons.mpr ⟨tw_8_9, List.forall_mem_cons.mpr ⟨tw_8_10, List.forall_mem_cons.mpr ⟨tw_8_11, List.forall_mem_cons.mpr ⟨tw_8_12, List.forall_mem_cons.mpr ⟨tw_8_13, List.forall_mem_cons.mpr ⟨tw_8_14, List.forall_mem_cons.mpr ⟨tw_8_15, List.forall_mem_cons.mpr ⟨tw_8_16, List.forall_mem_cons.mpr ⟨tw_8_17, List.forall_mem_cons.mpr ⟨tw_8_18, List.forall_mem_cons.mpr ⟨tw_8_19, List.forall_mem_cons.mpr ⟨tw_8_20, List.forall_mem_cons.mpr ⟨tw_8_21, List.forall_mem_cons.mpr ⟨tw_8_22, List.forall_mem_cons.mpr ⟨tw_8_23, fun _ h => absurd h List.not_mem_nil⟩⟩⟩⟩⟩⟩⟩⟩⟩⟩⟩⟩⟩⟩⟩⟩⟩⟩⟩⟩⟩⟩⟩⟩
theorem tr_9 : ∀ w ∈ wsL_law_r9, w ∈ lw_tbl := List.forall_mem_cons.mpr ⟨tw_9_0, List.forall_mem_cons.mpr ⟨tw_9_1, List.forall_mem_cons.mpr ⟨tw_9_2, List.forall_mem_cons.mpr ⟨tw_9_3, List.forall_mem_cons.mpr ⟨tw_9_4, List.forall_mem_cons.mpr ⟨tw_9_5, List.forall_mem_cons.mpr ⟨tw_9_6, List.forall_mem_cons.mpr ⟨tw_9_7, List.forall_mem_cons.mpr ⟨tw_9_8, List.forall_mem_cons.mpr ⟨tw_9_9, List.forall_mem_cons.mpr ⟨tw_9_10, List.forall_mem_cons.mpr ⟨tw_9_11, List.forall_mem_cons.mpr ⟨tw_9_12, List.forall_mem_cons.mpr ⟨tw_9_13, List.forall_mem_cons.mpr ⟨tw_9_14, List.forall_mem_cons.mpr ⟨tw_9_15, List.forall_mem_cons.mpr ⟨tw_9_16, List.forall_mem_cons.mpr ⟨tw_9_17, List.forall_mem_cons.mpr ⟨tw_9_18, List.forall_mem_cons.mpr ⟨tw_9_19, List.forall_mem_cons.mpr ⟨tw_9_20, List.forall_mem_cons.mpr ⟨tw_9_21, List.forall_mem_cons.mpr ⟨tw_9_22, List.forall_mem_cons.mpr ⟨tw_9_23, fun _ h => absurd h List.not_mem_nil⟩⟩⟩⟩⟩⟩⟩⟩⟩⟩⟩⟩⟩⟩⟩⟩⟩⟩⟩⟩⟩⟩⟩⟩
theorem tr_10 : ∀ w ∈ wsL_law_r10, w ∈ lw_tbl := List.forall_mem_cons.mpr ⟨tw_10_0, List.forall_mem_cons.mpr ⟨tw_10_1, List.forall_mem_cons.mpr ⟨tw_10_2, List.forall_mem_cons.mpr ⟨tw_10_3, List.forall_mem_cons.mpr ⟨tw_10_4, List.forall_mem_cons.mpr ⟨tw_10_5, List.forall_mem_cons.mpr ⟨tw_10_6, List.forall_mem_cons.mpr ⟨tw_10_7, List.forall_mem_cons.mpr ⟨tw_10_8, List.forall_mem_cons.mpr ⟨tw_10_9, List.forall_mem_cons.mpr ⟨tw_10_10, List.forall_mem_cons.mpr ⟨tw_10_11, List.forall_mem_cons.mpr ⟨tw_10_12, List.forall_mem_cons.mpr ⟨tw_10_13, List.forall_mem_cons.mpr ⟨tw_10_14, List.forall_mem_cons.mpr ⟨tw_10_15, List.forall_mem_cons.mpr ⟨tw_10_16, List.forall_mem_cons.mpr ⟨tw_10_17, List.forall_mem_cons.mpr ⟨tw_10_18, List.forall_mem_cons.mpr ⟨tw_10_19, List.forall_mem_cons.mpr ⟨tw_10_20, List.forall_mem_cons.mpr ⟨tw_10_21, List.forall_mem_cons.mpr ⟨tw_10_22, List.forall_mem_cons.mpr ⟨tw_10_23, fun _ h => absurd h List.not_mem_nil⟩⟩⟩⟩⟩⟩⟩⟩⟩⟩⟩⟩⟩⟩⟩⟩⟩⟩⟩⟩⟩⟩⟩⟩
theorem tr_11 : ∀ w ∈ wsL_law_r11, w ∈ lw_tbl := List.forall_mem_cons.mpr ⟨tw_11_0, List.forall_mem_cons.mpr ⟨tw_11_1, List.forall_mem_cons.mpr ⟨tw_11_2, List.forall_mem_cons.mpr ⟨tw_11_3, List.forall_mem_cons.mpr ⟨tw_11_4, List.forall_mem_cons.mpr ⟨tw_11_5, List.forall_mem_cons.mpr ⟨tw_11_6, List.forall_mem_cons.mpr ⟨tw_11_7, List.forall_mem_cons.mpr ⟨tw_11_8, List.forall_mem_cons.mpr ⟨tw_11_9, List.forall_mem_cons.mpr ⟨tw_11_10, List.forall_mem_cons.mpr ⟨tw_11_11, List.forall_mem_cons.mpr ⟨tw_11_12, List.forall_mem_cons.mpr ⟨tw_11_13, List.forall_mem_cons.mpr ⟨tw_11_14, List.forall_mem_cons.mpr ⟨tw_11_15, List.forall_mem_cons.mpr ⟨tw_11_16, List.forall_mem_cons.mpr ⟨tw_11_17, List.forall_mem_cons.mpr ⟨tw_11_18, List.forall_mem_cons.mpr ⟨tw_11_19, List.forall_mem_cons.mpr ⟨tw_11_20, List.forall_mem_cons.mpr ⟨tw_11_21, List.forall_mem_cons.mpr ⟨tw_11_22, List.forall_mem_cons.mpr ⟨tw_11_23, fun _ h => absurd h List.not_mem_nil⟩⟩⟩⟩⟩⟩⟩⟩⟩⟩⟩⟩⟩⟩⟩⟩⟩⟩⟩⟩⟩⟩⟩⟩
theorem tr_12 : ∀ w ∈ wsL_law_r12, w ∈ lw_tbl := List.forall_mem_cons.mpr ⟨tw_12_0, List.forall_mem_cons.mpr ⟨tw_12_1, List.forall_mem_cons.mpr ⟨tw_12_2, List.forall_mem_cons.mpr ⟨tw_12_3, List.forall_mem_cons.mpr ⟨tw_12_4, List.forall_mem_cons.mpr ⟨tw_12_5, List.forall_mem_cons.mpr ⟨tw_12_6, List.forall_mem_cons.mpr ⟨tw_12_7, List.forall_mem_cons.mpr ⟨tw_12_8, List.forall_mem_cons.mpr ⟨tw_12_9, List.forall_mem_cons.mpr ⟨tw_12_10, List.forall_mem_cons.mpr ⟨tw_12_11, List.forall_mem_cons.mpr ⟨tw_12_12, List.forall_mem_cons.mpr ⟨tw_12_13, List.forall_mem_cons.mpr ⟨tw_12_14, List.forall_mem_cons.mpr ⟨tw_12_15, List.forall_mem_cons.mpr ⟨tw_12_16, List.forall_mem_cons.mpr ⟨tw_12_17, List.forall_mem_cons.mpr ⟨tw_12_18, List.forall_mem_cons.mpr ⟨tw_12_19, List.forall_mem_cons.mpr ⟨tw_12_20, List.forall_mem_cons.mpr ⟨tw_12_21, List.forall_mem_cons.mpr ⟨tw_12_22, List.forall_mem_cons.mpr ⟨tw_12_23, fun _ h => absurd h List.not_mem_nil⟩⟩⟩⟩⟩⟩⟩⟩⟩⟩⟩⟩⟩⟩⟩⟩⟩⟩⟩⟩⟩⟩⟩⟩
theorem tr_13 : ∀ w ∈ wsL_law_r13, w ∈ lw_tbl := List.forall_mem_cons.mpr ⟨tw_13_0, List.forall_mem_cons.mpr ⟨tw_13_1, List.forall_mem_cons.mpr ⟨tw_13_2, List.forall_mem_cons.mpr ⟨tw_13_3, List.forall_mem_cons.mpr ⟨tw_13_4, List.forall_mem_cons.mpr ⟨tw_13_5, List.forall_mem_cons.mpr ⟨tw_13_6, List.forall_mem_cons.mpr ⟨tw_13_7, List.forall_mem_cons.mpr ⟨tw_13_8, List.forall_mem_cons.mpr ⟨tw_13_9, List.forall_mem_cons.mpr ⟨tw_13_10, List.forall_mem_cons.mpr ⟨tw_13_11, List.forall_mem_cons.mpr ⟨tw_13_12, List.forall_mem_cons.mpr ⟨tw_13_13, List.forall_mem_cons.mpr ⟨tw_13_14, List.forall_mem_cons.mpr ⟨tw_13_15, List.forall_mem_cons.mpr ⟨tw_13_16, List.forall_mem_cons.mpr ⟨tw_13_17, List.forall_mem_cons.mpr ⟨tw_13_18, List.forall_mem_cons.mpr ⟨tw_13_19, List.forall_mem_cons.mpr ⟨tw_13_20, List.forall_mem_cons.mpr ⟨tw_13_21, List.forall_mem_cons.mpr ⟨tw_13_22, List.forall_mem_cons.mpr ⟨tw_13_23, fun _ h => absurd h List.not_mem_nil⟩⟩⟩⟩⟩⟩⟩⟩⟩⟩⟩⟩⟩⟩⟩⟩⟩⟩⟩⟩⟩⟩⟩⟩
theorem tr_14 : ∀ w ∈ wsL_law_r14, w ∈ lw_tbl := List.forall_mem_cons.mpr ⟨tw_14_0, List.forall_mem_cons.mpr ⟨tw_14_1, List.forall_mem_cons.mpr ⟨tw_14_2, List.forall_mem_cons.mpr ⟨tw_14_3, List.forall_mem_cons.mpr ⟨tw_14_4, List.forall_mem_cons.mpr ⟨tw_14_5, List.forall_mem_cons.mpr ⟨tw_14_6, List.forall_mem_cons.mpr ⟨tw_14_7, List.forall_mem_cons.mpr ⟨tw_14_8, List.forall_mem_cons.mpr ⟨tw_14_9, List.forall_mem_cons.mpr ⟨tw_14_10, List.forall_mem_cons.mpr ⟨tw_14_11, List.forall_mem_cons.mpr ⟨tw_14_12, List.forall_mem_cons.mpr ⟨tw_14_13, List.forall_mem_cons.mpr ⟨tw_14_14, List.forall_mem_cons.mpr ⟨tw_14_15, List.forall_mem_cons.mpr ⟨tw_14_16, List.forall_mem_cons.mpr ⟨tw_14_17, List.forall_mem_cons.mpr ⟨tw_14_18, List.forall_mem_cons.mpr ⟨tw_14_19, List.forall_mem_cons.mpr ⟨tw_14_20, List.forall_mem_cons.mpr ⟨tw_14_21, List.forall_mem_cons.mpr ⟨tw_14_22, List.forall_mem_cons.mpr ⟨tw_14_23, fun _ h => absurd h List.not_mem_nil⟩⟩⟩⟩⟩⟩⟩⟩⟩⟩⟩⟩⟩⟩⟩⟩⟩⟩⟩⟩⟩⟩⟩⟩
theorem tr_15 : ∀ w ∈ wsL_law_r15, w ∈ lw_tbl := List.forall_mem_cons.mpr ⟨tw_15_0, List.forall_mem_cons.mpr ⟨tw_15_1, List.forall_mem_cons.mpr ⟨tw_15_2, List.forall_mem_cons.mpr ⟨tw_15_3, List.forall_mem_cons.mpr ⟨tw_15_4, List.forall_mem_cons.mpr ⟨tw_15_5, List.forall_mem_cons.mpr ⟨tw_15_6, List.forall_mem_cons.mpr ⟨tw_15_7, List.forall_mem_cons.mpr ⟨tw_15_8, List.forall_mem_cons.mpr ⟨tw_15_9, List.forall_mem_cons.mpr ⟨tw_15_10, List.forall_mem_cons.mpr ⟨tw_15_11, List.forall_mem_cons.mpr ⟨tw_15_12, List.forall_mem_cons.mpr ⟨tw_15_13, List.forall_mem_cons.mpr ⟨tw_15_14, List.forall_mem_cons.mpr ⟨tw_15_15, List.forall_mem_cons.mpr ⟨tw_15_16, List.forall_mem_cons.mpr ⟨tw_15_17, List.forall_mem_cons.mpr ⟨tw_15_18, List.forall_mem_cons.mpr ⟨tw_15_19, List.forall_mem_cons.mpr ⟨tw_15_20, List.forall_mem_cons.mpr ⟨tw_15_21, List.forall_mem_cons.mpr ⟨tw_15_22, List.forall_mem_cons.mpr ⟨tw_15_23, fun _ h => absurd h List.not_mem_nil⟩⟩⟩⟩⟩⟩⟩⟩⟩⟩⟩⟩⟩⟩⟩⟩⟩⟩⟩⟩⟩⟩⟩⟩
theorem tr_16 : ∀ w ∈ wsL_law_r16, w ∈ lw_tbl := List.forall_mem_cons.mpr ⟨tw_16_0, List.forall_mem_cons.mpr ⟨tw_16_1, List.forall_mem_cons.mpr ⟨tw_16_2, List.forall_mem_cons.mpr ⟨tw_16_3, List.forall_mem_cons.mpr ⟨tw_16_4, List.forall_mem_cons.mpr ⟨tw_16_5, List.forall_mem_cons.mpr ⟨tw_16_6, List.forall_mem_cons.mpr ⟨tw_16_7, List.forall_mem_cons.mpr ⟨tw_16_8, List.forall_mem_cons.mpr ⟨tw_16_9, List.forall_mem_cons.mpr ⟨tw_16_10, List.forall_mem_cons.mpr ⟨tw_16_11, List.forall_mem_cons.mpr ⟨tw_16_12, List.forall_mem_cons.mpr ⟨tw_16_13, List.forall_mem_cons.mpr ⟨tw_16_14, List.forall_mem_cons.mpr ⟨tw_16_15, List.forall_mem_cons.mpr ⟨tw_16_16, List.forall_mem_cons.mpr ⟨tw_16_17, List.forall_mem_cons.mpr ⟨tw_16_18, List.forall_mem_cons.mpr ⟨tw_16_19, List.forall_mem_cons.mpr ⟨tw_16_20, List.forall_mem_cons.mpr ⟨tw_16_21, List.forall_mem_cons.mpr ⟨tw_16_22, List.forall_mem_cons.mpr ⟨tw_16_23, fun _ h => absurd h List.not_mem_nil⟩⟩⟩⟩⟩⟩⟩⟩⟩⟩⟩⟩⟩⟩⟩⟩⟩⟩⟩⟩⟩⟩⟩⟩
theorem tr_17 : ∀ w ∈ wsL_law_r17, w ∈ lw_tbl := List.forall_mem_cons.mpr ⟨tw_17_0, List.forall_mem_cons.mpr ⟨tw_17_1, List.forall_mem_cons.mpr ⟨tw_17_2, List.forall_mem_cons.mpr ⟨tw_17_3, List.forall_mem_cons.mpr ⟨tw_17_4, List.forall_mem_cons.mpr ⟨tw_17_5, List.forall_mem_cons.mpr ⟨tw_17_6, List.forall_mem_cons.mpr ⟨tw_17_7, List.forall_mem_cons.mpr ⟨tw_17_8, List.forall_mem_cons.mpr ⟨tw_17_9, List.forall_mem_cons.mpr ⟨tw_17_10, List.forall_mem_cons.mpr ⟨tw_17_11, List.forall_mem_cons.mpr ⟨tw_17_12, List.forall_mem_cons.mpr ⟨tw_17_13, List.forall_mem_cons.mpr ⟨tw_17_14, List.forall_mem_cons.mpr ⟨tw_17_15, List.forall_mem_cons.mpr ⟨tw_17_16, List.forall_mem_cons.mpr ⟨tw_17_17, List.forall_mem_cons.mpr ⟨tw_17_18, List.forall_mem_cons.mpr ⟨tw_17_19, List.forall_mem_cons.mpr ⟨tw_17_20, List.forall_mem_cons.mpr ⟨tw_17_21, List.forall_mem_cons.mpr ⟨tw_17_22, List.forall_mem_cons.mpr ⟨tw_17_23, fun _ h => absurd h List.not_mem_nil⟩⟩⟩⟩⟩⟩⟩⟩⟩⟩⟩⟩⟩⟩⟩⟩⟩⟩⟩⟩⟩⟩⟩⟩
theorem tr_18 : ∀ w ∈ wsL_law_r18, w ∈ lw_tbl := List.forall_mem_cons.mpr ⟨tw_18_0, List.forall_mem_cons.mpr ⟨tw_18_1, List.forall_mem_cons.mpr ⟨tw_18_2, List.forall_mem_cons.mpr ⟨tw_18_3, List.forall_mem_cons.mpr ⟨tw_18_4, List.forall_mem_cons.mpr ⟨tw_18_5, List.forall_mem_cons.mpr ⟨tw_18_6, List.forall_mem_cons.mpr ⟨tw_18_7, List.forall_mem_cons.mpr ⟨tw_18_8, List.forall_mem_cons.mpr ⟨tw_18_9, List.forall_mem_cons.mpr ⟨tw_18_10, List.forall_mem_cons.mpr ⟨tw_18_11, List.forall_mem_cons.mpr ⟨tw_18_12, List.forall_mem_cons.mpr ⟨tw_18_13, List.forall_mem_cons.mpr ⟨tw_18_14, List.forall_mem_cons.mpr ⟨tw_18_15, List.forall_mem_cons.mpr ⟨tw_18_16, List.forall_mem_cons.mpr ⟨tw_18_17, List.forall_mem_cons.mpr ⟨tw_18_18, List.forall_mem_cons.mpr ⟨tw_18_19, List.forall_mem_cons.mpr ⟨tw_18_20, List.forall_mem_cons.mpr ⟨tw_18_21, List.forall_mem_cons.mpr ⟨tw_18_22, List.forall_mem_cons.mpr ⟨tw_18_23, fun _ h => absurd h List.not_mem_nil⟩⟩⟩⟩⟩⟩⟩⟩⟩⟩⟩⟩⟩⟩⟩⟩⟩⟩⟩⟩⟩⟩⟩⟩
theorem tr_19 : ∀ w ∈ wsL_law_r19, w ∈ lw_tbl := List.forall_mem_cons.mpr ⟨tw_19_0, List.forall_mem_cons.mpr ⟨tw_19_1, List.forall_mem_cons.mpr ⟨tw_19_2, List.forall_mem_cons.mpr ⟨tw_19_3, List.forall_mem_cons.mpr ⟨tw_19_4, List.forall_mem_cons.mpr ⟨tw_19_5, List.forall_mem_cons.mpr ⟨tw_19_6, List.forall_mem_cons.mpr ⟨tw_19_7, List.forall_mem_cons.mpr ⟨tw_19_8, List.forall_mem_cons.mpr ⟨tw_19_9, List.forall_mem_cons.mpr ⟨tw_19_10, List.forall_mem_cons.mpr ⟨tw_19_11, List.forall_mem_cons.mpr ⟨tw_19_12, List.forall_mem_cons.mpr ⟨tw_19_13, List.forall_mem_cons.mpr ⟨tw_19_14, List.forall_mem_cons.mpr ⟨tw_19_15, List.forall_mem_cons.mpr ⟨tw_19_16, List.forall_mem_cons.mpr ⟨tw_19_17, List.forall_mem_cons.mpr ⟨tw_19_18, List.forall_mem_cons.mpr ⟨tw_19_19, List.forall_mem_cons.mpr ⟨tw_19_20, List.forall_mem_cons.mpr ⟨tw_19_21, List.forall_mem_cons.mpr ⟨tw_19_22, List.forall_mem_cons.mpr ⟨tw_19_23, fun _ h => absurd h List.not_mem_nil⟩⟩⟩⟩⟩⟩⟩⟩⟩⟩⟩⟩⟩⟩⟩⟩⟩⟩⟩⟩⟩⟩⟩⟩
theorem tr_20 : ∀ w ∈ wsL_law_r20, w ∈ lw_tbl := List.forall_mem_cons.mpr ⟨tw_20_0, List.forall_mem_cons.mpr ⟨tw_20_1, List.forall_mem_cons.mpr ⟨tw_20_2, List.forall_mem_cons.mpr ⟨tw_20_3, List.forall_mem_cons.mpr ⟨tw_20_4, List.forall_mem_cons.mpr ⟨tw_20_5, List.forall_mem_cons.mpr ⟨tw_20_6, List.forall_mem_cons.mpr ⟨tw_20_7, List.forall_mem_cons.mpr ⟨tw_20_8, List.forall_mem_cons.mpr ⟨tw_20_9, List.forall_mem_cons.mpr ⟨tw_20_10, List.forall_mem_cons.mpr ⟨tw_20_11, List.forall_mem_cons.mpr ⟨tw_20_12, List.forall_mem_cons.mpr ⟨tw_20_13, List.forall_mem_cons.mpr ⟨tw_20_14, List.forall_mem_cons.mpr ⟨tw_20_15, List.forall_mem_cons.mpr ⟨tw_20_16, List.forall_mem_cons.mpr ⟨tw_20_17, List.forall_mem_cons.mpr ⟨tw_20_18, List.forall_mem_cons.mpr ⟨tw_20_19, List.forall_mem_cons.mpr ⟨tw_20_20, List.forall_mem_cons.mpr ⟨tw_20_21, List.forall_mem_cons.mpr ⟨tw_20_22, List.forall_mem_cons.mpr ⟨tw_20_23, fun _ h => absurd h List.not_mem_nil⟩⟩⟩⟩⟩⟩⟩⟩⟩⟩⟩⟩⟩⟩⟩⟩⟩⟩⟩⟩⟩⟩⟩⟩
theorem tr_21 : ∀ w ∈ wsL_law_r21, w ∈ lw_tbl := List.forall_mem_cons.mpr ⟨tw_21_0, List.forall_mem_cons.mpr ⟨tw_21_1, List.forall_mem_cons.mpr ⟨tw_21_2, List.forall_mem_cons.mpr ⟨tw_21_3, List.forall_mem_cons.mpr ⟨tw_21_4, List.forall_mem_cons.mpr ⟨tw_21_5, List.forall_mem_cons.mpr ⟨tw_21_6, List.forall_mem_cons.mpr ⟨tw_21_7, List.forall_mem_cons.mpr ⟨tw_21_8, List.forall_mem_cons.mpr ⟨tw_21_9, List.forall_mem_cons.mpr ⟨tw_21_10, List.forall_mem_cons.mpr ⟨tw_21_11, List.forall_mem_cons.mpr ⟨tw_21_12, List.forall_mem_cons.mpr ⟨tw_21_13, List.forall_mem_cons.mpr ⟨tw_21_14, List.forall_mem_cons.mpr ⟨tw_21_15, List.forall_mem_cons.mpr ⟨tw_21_16, List.forall_mem_cons.mpr ⟨tw_21_17, List.forall_mem_cons.mpr ⟨tw_21_18, List.forall_mem_cons.mpr ⟨tw_21_19, List.forall_mem_cons.mpr ⟨tw_21_20, List.forall_mem_cons.mpr ⟨tw_21_21, List.forall_mem_cons.mpr ⟨tw_21_22, List.forall_mem_cons.mpr ⟨tw_21_23, fun _ h => absurd h List.not_mem_nil⟩⟩⟩⟩⟩⟩⟩⟩⟩⟩⟩⟩⟩⟩⟩⟩⟩⟩⟩⟩⟩⟩⟩⟩
theorem tr_22 : ∀ w ∈ wsL_law_r22, w ∈ lw_tbl := List.forall_mem_cons.mpr ⟨tw_22_0, List.forall_mem_cons.mpr ⟨tw_22_1, List.forall_mem_cons.mpr ⟨tw_22_2, List.forall_mem_cons.mpr ⟨tw_22_3, List.forall_mem_cons.mpr ⟨tw_22_4, List.forall_mem_cons.mpr ⟨tw_22_5, List.forall_mem_cons.mpr ⟨tw_22_6, List.forall_mem_cons.mpr ⟨tw_22_7, List.forall_mem_cons.mpr ⟨tw_22_8, List.forall_mem_cons.mpr ⟨tw_22_9, List.forall_mem_cons.mpr ⟨tw_22_10, List.forall_mem_cons.mpr ⟨tw_22_11, List.forall_mem_cons.mpr ⟨tw_22_12, List.forall_mem_cons.mpr ⟨tw_22_13, List.forall_mem_cons.mpr ⟨tw_22_14, List.forall_mem_cons.mpr ⟨tw_22_15, List.forall_mem_cons.mpr ⟨tw_22_16, List.forall_mem_cons.mpr ⟨tw_22_17, List.forall_mem_cons.mpr ⟨tw_22_18, List.forall_mem_cons.mpr ⟨tw_22_19, List.forall_mem_cons.mpr ⟨tw_22_20, List.forall_mem_cons.mpr ⟨tw_22_21, List.forall_mem_cons.mpr ⟨tw_22_22, List.forall_mem_cons.mpr ⟨tw_22_23, fun _ h => absurd h List.not_mem_nil⟩⟩⟩⟩⟩⟩⟩⟩⟩⟩⟩⟩⟩⟩⟩⟩⟩⟩⟩⟩⟩⟩⟩⟩
theorem tr_23 : ∀ w ∈ wsL_law_r23, w ∈ lw_tbl := List.forall_mem_cons.mpr ⟨tw_23_0, List.forall_mem_cons.mpr ⟨tw_23_1, List.forall_mem_cons.mpr ⟨tw_23_2, List.forall_mem_cons.mpr ⟨tw_23_3, List.forall_mem_cons.mpr ⟨tw_23_4, List.forall_mem_cons.mpr ⟨tw_23_5, List.forall_mem_cons.mpr ⟨tw_23_6, List.forall_mem_cons.mpr ⟨tw_23_7, List.forall_mem_cons.mpr ⟨tw_23_8, List.forall_mem_cons.mpr ⟨tw_23_9, List.forall_mem_cons.mpr ⟨tw_23_10, List.forall_mem_cons.mpr ⟨tw_23_11, List.forall_mem_cons.mpr ⟨tw_23_12, List.forall_mem_cons.mpr ⟨tw_23_13, List.forall_mem_cons.mpr ⟨tw_23_14, List.forall_mem_cons.mpr ⟨tw_23_15, List.forall_mem_cons.mpr ⟨tw_23_16, List.forall_mem_cons.mpr ⟨tw_23_17, List.forall_mem_cons.mpr ⟨tw_23_18, List.forall_mem_cons.mpr ⟨tw_23_19, List.forall_mem_cons.mpr ⟨tw_23_20, List.forall_mem_cons.mpr ⟨tw_23_21, List.forall_mem_cons.mpr ⟨tw_23_22, List.forall_mem_cons.mpr ⟨tw_23_23, fun _ h => absurd h List.not_mem_nil⟩⟩⟩⟩⟩⟩⟩⟩⟩⟩⟩⟩⟩⟩⟩⟩⟩⟩⟩⟩⟩⟩⟩⟩
theorem tr_24 : ∀ w ∈ wsL_law_r24, w ∈ lw_tbl := List.forall_mem_cons.mpr ⟨tw_24_0, List.forall_mem_cons.mpr ⟨tw_24_1, List.forall_mem_cons.mpr ⟨tw_24_2, List.forall_mem_cons.mpr ⟨tw_24_3, List.forall_mem_cons.mpr ⟨tw_24_4, List.forall_mem_cons.mpr ⟨tw_24_5, List.forall_mem_cons.mpr ⟨tw_24_6, List.forall_mem_cons.mpr ⟨tw_24_7, List.forall_mem_cons.mpr ⟨tw_24_8, List.forall_mem_cons.mpr ⟨tw_24_9, List.forall_mem_cons.mpr ⟨tw_24_10, List.forall_mem_cons.mpr ⟨tw_24_11, List.forall_mem_cons.mpr ⟨tw_24_12, List.forall_mem_cons.mpr ⟨tw_24_13, List.forall_mem_cons.mpr ⟨tw_24_14, List.forall_mem_cons.mpr ⟨tw_24_15, List.forall_mem_cons.mpr ⟨tw_24_16, List.forall_mem_cons.mpr ⟨tw_24_17, List.forall_mem_cons.mpr ⟨tw_24_18, List.forall_mem_cons.mpr ⟨tw_24_19, List.forall_mem_cons.mpr ⟨tw_24_20, List.forall_mem_cons.mpr ⟨tw_24_21, List.forall_mem_cons.mpr ⟨tw_24_22, List.forall_mem_cons.mpr ⟨tw_24_23, fun _ h => absurd h List.not_mem_nil⟩⟩⟩⟩⟩⟩⟩⟩⟩⟩⟩⟩⟩⟩⟩⟩⟩⟩⟩⟩⟩⟩⟩⟩
theorem tr_25 : ∀ w ∈ wsL_law_r25, w ∈ lw_tbl := List.forall_mem_cons.mpr ⟨tw_25_0, List.forall_mem_cons.mpr ⟨tw_25_1, List.forall_mem_cons.mpr ⟨tw_25_2, List.forall_mem_cons.mpr ⟨tw_25_3, List.forall_mem_cons.mpr ⟨tw_25_4, List.forall_mem_cons.mpr ⟨tw_25_5, List.forall_mem_cons.mpr ⟨tw_25_6, List.forall_mem_cons.mpr ⟨tw_25_7, List.forall_mem_cons.mpr ⟨tw_25_8, List.forall_mem_cons.mpr ⟨tw_25_9, List.forall_mem_cons.mpr ⟨tw_25_10, List.forall_mem_cons.mpr ⟨tw_25_11, List.forall_mem_cons.mpr ⟨tw_25_12, List.forall_mem_cons.mpr ⟨tw_25_13, List.forall_mem_cons.mpr ⟨tw_25_14, List.forall_mem_cons.mpr ⟨tw_25_15, List.forall_mem_cons.mpr ⟨tw_25_16, List.forall_mem_cons.mpr ⟨tw_25_17, List.forall_mem_cons.mpr ⟨tw_25_18, List.forall_mem_cons.mpr ⟨tw_25_19, List.forall_mem_cons.mpr ⟨tw_25_20, List.forall_mem_cons.mpr ⟨tw_25_21, List.forall_mem_cons.mpr ⟨tw_25_22, List.forall_mem_cons.mpr ⟨tw_25_23, fun _ h => absurd h List.not_mem_nil⟩⟩⟩⟩⟩⟩⟩⟩⟩⟩⟩⟩⟩⟩⟩⟩⟩⟩⟩⟩⟩⟩⟩⟩
theorem tr_26 : ∀ w ∈ wsL_law_r26, w ∈ lw_tbl := List.forall_mem_cons.mpr ⟨tw_26_0, List.forall_mem_cons.mpr ⟨tw_26_1, List.forall_mem_cons.mpr ⟨tw_26_2, List.forall_mem_cons.mpr ⟨tw_26_3, List.forall_mem_cons.mpr ⟨tw_26_4, List.forall_mem_cons.mpr ⟨tw_26_5, List.forall_mem_cons.mpr ⟨tw_26_6, List.forall_mem_cons.mpr ⟨tw_26_7, List.forall_mem_cons.mpr ⟨tw_26_8, List.forall_mem_cons.mpr ⟨tw_26_9, List.forall_mem_cons.mpr ⟨tw_26_10, List.forall_mem_cons.mpr ⟨tw_26_11, List.forall_mem_cons.mpr ⟨tw_26_12, List.forall_mem_cons.mpr ⟨tw_26_13, List.forall_mem_cons.mpr ⟨tw_26_14, List.forall_mem_cons.mpr ⟨tw_26_15, List.forall_mem_cons.mpr ⟨tw_26_16, List.forall_mem_cons.mpr ⟨tw_26_17, List.forall_mem_cons.mpr ⟨tw_26_18, List.forall_mem_cons.mpr ⟨tw_26_19, List.forall_mem_cons.mpr ⟨tw_26_20, List.forall_mem_cons.mpr ⟨tw_26_21, List.forall_mem_cons.mpr ⟨tw_26_22, List.forall_mem_cons.mpr ⟨tw_26_23, fun _ h => absurd h List.not_mem_nil⟩⟩⟩⟩⟩⟩⟩⟩⟩⟩⟩⟩⟩⟩⟩⟩⟩⟩⟩⟩⟩⟩⟩⟩
theorem tr_27 : ∀ w ∈ wsL_law_r27, w ∈ lw_tbl := List.forall_mem_cons.mpr ⟨tw_27_0, List.forall_mem_cons.mpr ⟨tw_27_1, List.forall_mem_cons.mpr ⟨tw_27_2, List.forall_mem_cons.mpr ⟨tw_27_3, List.forall_mem_cons.mpr ⟨tw_27_4, List.forall_mem_cons.mpr ⟨tw_27_5, List.forall_mem_cons.mpr ⟨tw_27_6, List.forall_mem_cons.mpr ⟨tw_27_7, List.forall_mem_cons.mpr ⟨tw_27_8, List.forall_mem_cons.mpr ⟨tw_27_9, List.forall_mem_cons.mpr ⟨tw_27_10, List.forall_mem_cons.mpr ⟨tw_27_11, List.forall_mem_cons.mpr ⟨tw_27_12, List.forall_mem_cons.mpr ⟨tw_27_13, List.forall_mem_cons.mpr ⟨tw_27_14, List.forall_mem_cons.mpr ⟨tw_27_15, List.forall_mem_cons.mpr ⟨tw_27_16, List.forall_mem_cons.mpr ⟨tw_27_17, List.forall_mem_cons.mpr ⟨tw_27_18, List.forall_mem_cons.mpr ⟨tw_27_19, List.forall_mem_cons.mpr ⟨tw_27_20, List.forall_mem_cons.mpr ⟨tw_27_21, List.forall_mem_cons.mpr ⟨tw_27_22, List.forall_mem_cons.mpr ⟨tw_27_23, fun _ h => absurd h List.not_mem_nil⟩⟩⟩⟩⟩⟩⟩⟩⟩⟩⟩⟩⟩⟩⟩⟩⟩⟩⟩⟩⟩⟩⟩⟩
theorem tr_28 : ∀ w ∈ wsL_law_r28, w ∈ lw_tbl := List.forall_mem_cons.mpr ⟨tw_28_0, List.forall_mem_cons.mpr ⟨tw_28_1, List.forall_mem_cons.mpr ⟨tw_28_2, List.forall_mem_cons.mpr ⟨tw_28_3, List.forall_mem_cons.mpr ⟨tw_28_4, List.forall_mem_cons.mpr ⟨tw_28_5, List.forall_mem_cons.mpr ⟨tw_28_6, List.forall_mem_cons.mpr ⟨tw_28_7, List.forall_mem_cons.mpr ⟨tw_28_8, List.forall_mem_cons.mpr ⟨tw_28_9, List.forall_mem_cons.mpr ⟨tw_28_10, List.forall_mem_cons.mpr ⟨tw_28_11, List.forall_mem_cons.mpr ⟨tw_28_12, List.forall_mem_cons.mpr ⟨tw_28_13, List.forall_mem_cons.mpr ⟨tw_28_14, List.forall_mem_cons.mpr ⟨tw_28_15, List.forall_mem_cons.mpr ⟨tw_28_16, List.forall_mem_cons.mpr ⟨tw_28_17, List.forall_mem_cons.mpr ⟨tw_28_18, List.forall_mem_cons.mpr ⟨tw_28_19, List.forall_mem_cons.mpr ⟨tw_28_20, List.forall_mem_cons.mpr ⟨tw_28_21, List.forall_mem_cons.mpr ⟨tw_28_22, List.forall_mem_cons.mpr ⟨tw_28_23, fun _ h => absurd h List.not_mem_nil⟩⟩⟩⟩⟩⟩⟩⟩⟩⟩⟩⟩⟩⟩⟩⟩⟩⟩⟩⟩⟩⟩⟩⟩
set_option maxRecDepth 20000 in
theorem ty_0_0 : u_lay RX0 TX0 0 ∈ lw_tbl := tb_1 (List.mem_of_getElem? (i := 56) rfl)
set_option maxRecDepth 20000 in
theorem ty_0_1 : u_lay RX0 TX0 1 ∈ lw_tbl := tb_1 (List.mem_of_getElem? (i := 58) rfl)
set_option maxRecDepth 20000 in
theorem ty_0_2 : u_lay RX0 TX0 2 ∈ lw_tbl := tb_1 (List.mem_of_getElem? (i := 60) rfl)
set_option maxRecDepth 20000 in
theorem ty_0_3 : u_lay RX0 TX0 3 ∈ lw_tbl := tb_1 (List.mem_of_getElem? (i := 62) rfl)
set_option maxRecDepth 20000 in
theorem ty_0_4 : u_lay RX0 TX0 4 ∈ lw_tbl := tb_1 (List.mem_of_getElem? (i := 64) rfl)
theorem inX0 : ∀ w ∈ wsX00, w ∈ lw_tbl := by
  show ∀ w ∈ [u_lay RX0 TX0 0, u_lay RX0 TX0 1, u_lay RX0 TX0 2, u_lay RX0 TX0 3, u_lay RX0 TX0 4], w ∈ lw_tbl
  exact List.forall_mem_cons.mpr ⟨ty_0_0, List.forall_mem_cons.mpr ⟨ty_0_1, List.forall_mem_cons.mpr ⟨ty_0_2, List.forall_mem_cons.mpr ⟨ty_0_3, List.forall_mem_cons.mpr ⟨ty_0_4, fun _ h => absurd h List.not_mem_nil⟩⟩⟩⟩⟩
set_option maxRecDepth 20000 in
theorem ty_1_0 : u_lay RX1 TX1 0 ∈ lw_tbl := tb_1 (List.mem_of_getElem? (i := 112) rfl)
set_option maxRecDepth 20000 in
theorem ty_1_1 : u_lay RX1 TX1 1 ∈ lw_tbl := tb_1 (List.mem_of_getElem? (i := 114) rfl)
set_option maxRecDepth 20000 in
theorem ty_1_2 : u_lay RX1 TX1 2 ∈ lw_tbl := tb_1 (List.mem_of_getElem? (i := 116) rfl)
set_option maxRecDepth 20000 in
theorem ty_1_3 : u_lay RX1 TX1 3 ∈ lw_tbl := tb_1 (List.mem_of_getElem? (i := 118) rfl)
theorem inX1 : ∀ w ∈ wsX10, w ∈ lw_tbl := by
  show ∀ w ∈ [u_lay RX1 TX1 0, u_lay RX1 TX1 1, u_lay RX1 TX1 2, u_lay RX1 TX1 3], w ∈ lw_tbl
  exact List.forall_mem_cons.mpr ⟨ty_1_0, List.forall_mem_cons.mpr ⟨ty_1_1, List.forall_mem_cons.mpr ⟨ty_1_2, List.forall_mem_cons.mpr ⟨ty_1_3, fun _ h => absurd h List.not_mem_nil⟩⟩⟩⟩
set_option maxRecDepth 20000 in
theorem ty_2_0 : u_lay RX2 TX2 0 ∈ lw_tbl := tb_1 (List.mem_of_getElem? (i := 32) rfl)
set_option maxRecDepth 20000 in
theorem ty_2_1 : u_lay RX2 TX2 1 ∈ lw_tbl := tb_1 (List.mem_of_getElem? (i := 34) rfl)
set_option maxRecDepth 20000 in
theorem ty_2_2 : u_lay RX2 TX2 2 ∈ lw_tbl := tb_1 (List.mem_of_getElem? (i := 36) rfl)
theorem inX2 : ∀ w ∈ wsX20, w ∈ lw_tbl := by
  show ∀ w ∈ [u_lay RX2 TX2 0, u_lay RX2 TX2 1, u_lay RX2 TX2 2], w ∈ lw_tbl
  exact List.forall_mem_cons.mpr ⟨ty_2_0, List.forall_mem_cons.mpr ⟨ty_2_1, List.forall_mem_cons.mpr ⟨ty_2_2, fun _ h => absurd h List.not_mem_nil⟩⟩⟩
set_option maxRecDepth 20000 in
theorem ty_3_0 : u_lay RX3 TX3 0 ∈ lw_tbl := tb_1 (List.mem_of_getElem? (i := 82) rfl)
set_option maxRecDepth 20000 in
theorem ty_3_1 : u_lay RX3 TX3 1 ∈ lw_tbl := tb_1 (List.mem_of_getElem? (i := 84) rfl)
set_option maxRecDepth 20000 in
theorem ty_3_2 : u_lay RX3 TX3 2 ∈ lw_tbl := tb_1 (List.mem_of_getElem? (i := 86) rfl)
set_option maxRecDepth 20000 in
theorem ty_3_3 : u_lay RX3 TX3 3 ∈ lw_tbl := tb_1 (List.mem_of_getElem? (i := 88) rfl)
set_option maxRecDepth 20000 in
theorem ty_3_4 : u_lay RX3 TX3 4 ∈ lw_tbl := tb_1 (List.mem_of_getElem? (i := 90) rfl)
set_option maxRecDepth 20000 in
theorem ty_3_5 : u_lay RX3 TX3 5 ∈ lw_tbl := tb_1 (List.mem_of_getElem? (i := 92) rfl)
theorem inX3 : ∀ w ∈ wsX30, w ∈ lw_tbl := by
  show ∀ w ∈ [u_lay RX3 TX3 0, u_lay RX3 TX3 1, u_lay RX3 TX3 2, u_lay RX3 TX3 3, u_lay RX3 TX3 4, u_lay RX3 TX3 5], w ∈ lw_tbl
  exact List.forall_mem_cons.mpr ⟨ty_3_0, List.forall_mem_cons.mpr ⟨ty_3_1, List.forall_mem_cons.mpr ⟨ty_3_2, List.forall_mem_cons.mpr ⟨ty_3_3, List.forall_mem_cons.mpr ⟨ty_3_4, List.forall_mem_cons.mpr ⟨ty_3_5, fun _ h => absurd h List.not_mem_nil⟩⟩⟩⟩⟩⟩
set_option maxRecDepth 20000 in
theorem ty_4_0 : u_lay RX4 TX4 0 ∈ lw_tbl := tb_1 (List.mem_of_getElem? (i := 129) rfl)
set_option maxRecDepth 20000 in
theorem ty_4_1 : u_lay RX4 TX4 1 ∈ lw_tbl := tb_1 (List.mem_of_getElem? (i := 131) rfl)
set_option maxRecDepth 20000 in
theorem ty_4_2 : u_lay RX4 TX4 2 ∈ lw_tbl := tb_1 (List.mem_of_getElem? (i := 133) rfl)
set_option maxRecDepth 20000 in
theorem ty_4_3 : u_lay RX4 TX4 3 ∈ lw_tbl := tb_1 (List.mem_of_getElem? (i := 135) rfl)
set_option maxRecDepth 20000 in
theorem ty_4_4 : u_lay RX4 TX4 4 ∈ lw_tbl := tb_1 (List.mem_of_getElem? (i := 137) rfl)
set_option maxRecDepth 20000 in
theorem ty_4_5 : u_lay RX4 TX4 5 ∈ lw_tbl := tb_1 (List.mem_of_getElem? (i := 139) rfl)
set_option maxRecDepth 20000 in
theorem ty_4_6 : u_lay RX4 TX4 6 ∈ lw_tbl := tb_1 (List.mem_of_getElem? (i := 141) rfl)
set_option maxRecDepth 20000 in
theorem ty_4_7 : u_lay RX4 TX4 7 ∈ lw_tbl := tb_1 (List.mem_of_getElem? (i := 143) rfl)
theorem inX4 : ∀ w ∈ wsX40, w ∈ lw_tbl := by
  show ∀ w ∈ [u_lay RX4 TX4 0, u_lay RX4 TX4 1, u_lay RX4 TX4 2, u_lay RX4 TX4 3, u_lay RX4 TX4 4, u_lay RX4 TX4 5, u_lay RX4 TX4 6, u_lay RX4 TX4 7], w ∈ lw_tbl
  exact List.forall_mem_cons.mpr ⟨ty_4_0, List.forall_mem_cons.mpr ⟨ty_4_1, List.forall_mem_cons.mpr ⟨ty_4_2, List.forall_mem_cons.mpr ⟨ty_4_3, List.forall_mem_cons.mpr ⟨ty_4_4, List.forall_mem_cons.mpr ⟨ty_4_5, List.forall_mem_cons.mpr ⟨ty_4_6, List.forall_mem_cons.mpr ⟨ty_4_7, fun _ h => absurd h List.not_mem_nil⟩⟩⟩⟩⟩⟩⟩⟩
set_option maxRecDepth 20000 in
theorem ty_5_0 : u_lay RX5 TX5 0 ∈ lw_tbl := tb_3 (List.mem_of_getElem? (i := 54) rfl)
set_option maxRecDepth 20000 in
theorem ty_5_1 : u_lay RX5 TX5 1 ∈ lw_tbl := tb_3 (List.mem_of_getElem? (i := 56) rfl)
set_option maxRecDepth 20000 in
theorem ty_5_2 : u_lay RX5 TX5 2 ∈ lw_tbl := tb_3 (List.mem_of_getElem? (i := 58) rfl)
set_option maxRecDepth 20000 in
theorem ty_5_3 : u_lay RX5 TX5 3 ∈ lw_tbl := tb_3 (List.mem_of_getElem? (i := 60) rfl)
set_option maxRecDepth 20000 in
theorem ty_5_4 : u_lay RX5 TX5 4 ∈ lw_tbl := tb_3 (List.mem_of_getElem? (i := 62) rfl)
set_option maxRecDepth 20000 in
theorem ty_5_5 : u_lay RX5 TX5 5 ∈ lw_tbl := tb_3 (List.mem_of_getElem? (i := 64) rfl)
set_option maxRecDepth 20000 in
theorem ty_5_6 : u_lay RX5 TX5 6 ∈ lw_tbl := tb_3 (List.mem_of_getElem? (i := 66) rfl)
set_option maxRecDepth 20000 in
theorem ty_5_7 : u_lay RX5 TX5 7 ∈ lw_tbl := tb_3 (List.mem_of_getElem? (i := 68) rfl)
set_option maxRecDepth 20000 in
theorem ty_5_8 : u_lay RX5 TX5 8 ∈ lw_tbl := tb_3 (List.mem_of_getElem? (i := 70) rfl)
set_option maxRecDepth 20000 in
theorem ty_5_9 : u_lay RX5 TX5 9 ∈ lw_tbl := tb_3 (List.mem_of_getElem? (i := 72) rfl)
set_option maxRecDepth 20000 in
theorem ty_5_10 : u_lay RX5 TX5 10 ∈ lw_tbl := tb_3 (List.mem_of_getElem? (i := 74) rfl)
set_option maxRecDepth 20000 in
theorem ty_5_11 : u_lay RX5 TX5 11 ∈ lw_tbl := tb_3 (List.mem_of_getElem? (i := 76) rfl)
set_option maxRecDepth 20000 in
theorem ty_5_12 : u_lay RX5 TX5 12 ∈ lw_tbl := tb_3 (List.mem_of_getElem? (i := 78) rfl)
set_option maxRecDepth 20000 in
theorem ty_5_13 : u_lay RX5 TX5 13 ∈ lw_tbl := tb_3 (List.mem_of_getElem? (i := 80) rfl)
set_option maxRecDepth 20000 in
theorem ty_5_14 : u_lay RX5 TX5 14 ∈ lw_tbl := tb_3 (List.mem_of_getElem? (i := 82) rfl)
set_option maxRecDepth 20000 in
theorem ty_5_15 : u_lay RX5 TX5 15 ∈ lw_tbl := tb_3 (List.mem_of_getElem? (i := 84) rfl)
set_option maxRecDepth 20000 in
theorem ty_5_16 : u_lay RX5 TX5 16 ∈ lw_tbl := tb_3 (List.mem_of_getElem? (i := 86) rfl)
set_option maxRecDepth 20000 in
theorem ty_5_17 : u_lay RX5 TX5 17 ∈ lw_tbl := tb_3 (List.mem_of_getElem? (i := 88) rfl)
set_option maxRecDepth 20000 in
theorem ty_5_18 : u_lay RX5 TX5 18 ∈ lw_tbl := tb_3 (List.mem_of_getElem? (i := 90) rfl)
set_option maxRecDepth 20000 in
theorem ty_5_19 : u_lay RX5 TX5 19 ∈ lw_tbl := tb_3 (List.mem_of_getElem? (i := 92) rfl)
set_option maxRecDepth 20000 in
theorem ty_5_20 : u_lay RX5 TX5 20 ∈ lw_tbl := tb_3 (List.mem_of_getElem? (i := 94) rfl)
set_option maxRecDepth 20000 in
theorem ty_5_21 : u_lay RX5 TX5 21 ∈ lw_tbl := tb_3 (List.mem_of_getElem? (i := 96) rfl)
set_option maxRecDepth 20000 in
theorem ty_5_22 : u_lay RX5 TX5 22 ∈ lw_tbl := tb_3 (List.mem_of_getElem? (i := 98) rfl)
set_option maxRecDepth 20000 in
theorem ty_5_23 : u_lay RX5 TX5 23 ∈ lw_tbl := tb_3 (List.mem_of_getElem? (i := 100) rfl)
set_option maxRecDepth 20000 in
theorem ty_5_24 : u_lay RX5 TX5 24 ∈ lw_tbl := tb_3 (List.mem_of_getElem? (i := 102) rfl)
theorem inX5 : ∀ w ∈ wsX50, w ∈ lw_tbl := by
  show ∀ w ∈ [u_lay RX5 TX5 0, u_lay RX5 TX5 1, u_lay RX5 TX5 2, u_lay RX5 TX5 3, u_lay RX5 TX5 4, u_lay RX5 TX5 5, u_lay RX5 TX5 6, u_lay RX5 TX5 7, u_lay RX5 TX5 8, u_lay RX5 TX5 9, u_lay RX5 TX5 10, u_lay RX5 TX5 11, u_lay RX5 TX5 12, u_lay RX5 TX5 13, u_lay RX5 TX5 14, u_lay RX5 TX5 15, u_lay RX5 TX5 16, u_lay RX5 TX5 17, u_lay RX5 TX5 18, u_lay RX5 TX5 19, u_lay RX5 TX5 20, u_lay RX5 TX5 21, u_lay RX5 TX5 22, u_lay RX5 TX5 23, u_lay RX5 TX5 24], w ∈ lw_tbl
  exact List.forall_mem_cons.mpr ⟨ty_5_0, List.forall_mem_cons.mpr ⟨ty_5_1, List.forall_mem_cons.mpr ⟨ty_5_2, List.forall_mem_cons.mpr ⟨ty_5_3, List.forall_mem_cons.mpr ⟨ty_5_4, List.forall_mem_cons.mpr ⟨ty_5_5, List.forall_mem_cons.mpr ⟨ty_5_6, List.forall_mem_cons.mpr ⟨ty_5_7, List.forall_mem_cons.mpr ⟨ty_5_8, List.forall_mem_cons.mpr ⟨ty_5_9, List.forall_mem_cons.mpr ⟨ty_5_10, List.forall_mem_cons.mpr ⟨ty_5_11, List.forall_mem_cons.mpr ⟨ty_5_12, List.forall_mem_cons.mpr ⟨ty_5_13, List.forall_mem_cons.mpr ⟨ty_5_14, List.forall_mem_cons.mpr ⟨ty_5_15, List.forall_mem_cons.mpr ⟨ty_5_16, List.forall_mem_cons.mpr ⟨ty_5_17, List.forall_mem_cons.mpr ⟨ty_5_18, List.forall_mem_cons.mpr ⟨ty_5_19, List.forall_mem_cons.mpr ⟨ty_5_20, List.forall_mem_cons.mpr ⟨ty_5_21, List.forall_mem_cons.mpr ⟨ty_5_22, List.forall_mem_cons.mpr ⟨ty_5_23, List.forall_mem_cons.mpr ⟨ty_5_24, fun _ h => absurd h List.not_mem_nil⟩⟩⟩⟩⟩⟩⟩⟩⟩⟩⟩⟩⟩⟩⟩⟩⟩⟩⟩⟩⟩⟩⟩⟩⟩
theorem wsL_law_in : ∀ w ∈ wsL_law, w ∈ lw_tbl := by
  intro w h
  simp only [wsL_law, List.mem_append] at h
  have H1 : ∀ r ∈ [wsL_law_r1, wsL_law_r2, wsL_law_r3, wsL_law_r4, wsL_law_r5, wsL_law_r6, wsL_law_r7, wsL_law_r8, wsL_law_r9, wsL_law_r10, wsL_law_r11, wsL_law_r12, wsL_law_r13, wsL_law_r14, wsL_law_r15, wsL_law_r16, wsL_law_r17, wsL_law_r18, wsL_law_r19, wsL_law_r20, wsL_law_r21, wsL_law_r22, wsL_law_r23, wsL_law_r24, wsL_law_r25, wsL_law_r26, wsL_law_r27, wsL_law_r28, wsX00, wsX10, wsX20, wsX30, wsX40, wsX50], ∀ w ∈ r, w ∈ lw_tbl := List.forall_mem_cons.mpr ⟨tr_1, List.forall_mem_cons.mpr ⟨tr_2, List.forall_mem_cons.mpr ⟨tr_3, List.forall_mem_cons.mpr ⟨tr_4, List.forall_mem_cons.mpr ⟨tr_5, List.forall_mem_cons.mpr ⟨tr_6, List.forall_mem_cons.mpr ⟨tr_7, List.forall_mem_cons.mpr ⟨tr_8, List.forall_mem_cons.mpr ⟨tr_9, List.forall_mem_cons.mpr ⟨tr_10, List.forall_mem_cons.mpr ⟨tr_11, List.forall_mem_cons.mpr ⟨tr_12, List.forall_mem_cons.mpr ⟨tr_13, List.forall_mem_cons.mpr ⟨tr_14, List.forall_mem_cons.mpr ⟨tr_15, List.forall_mem_cons.mpr ⟨tr_16, List.forall_mem_cons.mpr ⟨tr_17, List.forall_mem_cons.mpr ⟨tr_18, List.forall_mem_cons.mpr ⟨tr_19, List.forall_mem_cons.mpr ⟨tr_20, List.forall_mem_cons.mpr ⟨tr_21, List.forall_mem_cons.mpr ⟨tr_22, List.forall_mem_cons.mpr ⟨tr_23, List.forall_mem_cons.mpr ⟨tr_24, List.forall_mem_cons.mpr ⟨tr_25, List.forall_mem_cons.mpr ⟨tr_26, List.forall_mem_cons.mpr ⟨tr_27, List.forall_mem_cons.mpr ⟨tr_28, List.forall_mem_cons.mpr ⟨inX0, List.forall_mem_cons.mpr ⟨inX1, List.forall_mem_cons.mpr ⟨inX2, List.forall_mem_cons.mpr ⟨inX3, List.forall_mem_cons.mpr ⟨inX4, List.forall_mem_cons.mpr ⟨inX5, fun _ h => absurd h List.not_mem_nil⟩⟩⟩⟩⟩⟩⟩⟩⟩⟩⟩⟩⟩⟩⟩⟩⟩⟩⟩⟩⟩⟩⟩⟩⟩⟩⟩⟩⟩⟩⟩⟩⟩⟩
  have H2 : ∃ r ∈ [wsL_law_r1, wsL_law_r2, wsL_law_r3, wsL_law_r4, wsL_law_r5, wsL_law_r6, wsL_law_r7, wsL_law_r8, wsL_law_r9, wsL_law_r10, wsL_law_r11, wsL_law_r12, wsL_law_r13, wsL_law_r14, wsL_law_r15, wsL_law_r16, wsL_law_r17, wsL_law_r18, wsL_law_r19, wsL_law_r20, wsL_law_r21, wsL_law_r22, wsL_law_r23, wsL_law_r24, wsL_law_r25, wsL_law_r26, wsL_law_r27, wsL_law_r28, wsX00, wsX10, wsX20, wsX30, wsX40, wsX50], w ∈ r := by
    simp only [List.mem_cons, exists_eq_or_imp, List.not_mem_nil, false_and, exists_false, or_false]
    simp only [or_assoc] at h ⊢
    grind
  obtain ⟨r, h1, h2⟩ := H2
  exact H1 r h1 w h2
theorem wsL_good : wsL_law.all goodWord = true := by decide +kernel
theorem gd_law (y : MethodName) (cc : ByteArray) (n : Nat) (ret : Option FieldType) (h : Cond.code y cc n ret ∈ wsL_law) : GoodIn wsL_law (Cond.code y cc n ret :: wsL_law) := by
  intro w hw
  have h1 : w ∈ wsL_law := by
    rcases List.mem_cons.mp hw with q | q
    · rw [q]; exact h
    · exact q
  exact ⟨h1, good_of_word (List.all_eq_true.mp wsL_good w h1)⟩
theorem inr_1 : ∀ w ∈ wsL_law_r1, w ∈ wsL_law := by
  intro w h
  simp only [wsL_law, List.mem_append, h, true_or, or_true]
theorem inr_2 : ∀ w ∈ wsL_law_r2, w ∈ wsL_law := by
  intro w h
  simp only [wsL_law, List.mem_append, h, true_or, or_true]
theorem inr_3 : ∀ w ∈ wsL_law_r3, w ∈ wsL_law := by
  intro w h
  simp only [wsL_law, List.mem_append, h, true_or, or_true]
theorem inr_4 : ∀ w ∈ wsL_law_r4, w ∈ wsL_law := by
  intro w h
  simp only [wsL_law, List.mem_append, h, true_or, or_true]
theorem inr_5 : ∀ w ∈ wsL_law_r5, w ∈ wsL_law := by
  intro w h
  simp only [wsL_law, List.mem_append, h, true_or, or_true]
theorem inr_6 : ∀ w ∈ wsL_law_r6, w ∈ wsL_law := by
  intro w h
  simp only [wsL_law, List.mem_append, h, true_or, or_true]
theorem inr_7 : ∀ w ∈ wsL_law_r7, w ∈ wsL_law := by
  intro w h
  simp only [wsL_law, List.mem_append, h, true_or, or_true]
theorem inr_8 : ∀ w ∈ wsL_law_r8, w ∈ wsL_law := by
  intro w h
  simp only [wsL_law, List.mem_append, h, true_or, or_true]
theorem inr_9 : ∀ w ∈ wsL_law_r9, w ∈ wsL_law := by
  intro w h
  simp only [wsL_law, List.mem_append, h, true_or, or_true]
theorem inr_10 : ∀ w ∈ wsL_law_r10, w ∈ wsL_law := by
  intro w h
  simp only [wsL_law, List.mem_append, h, true_or, or_true]
theorem inr_11 : ∀ w ∈ wsL_law_r11, w ∈ wsL_law := by
  intro w h
  simp only [wsL_law, List.mem_append, h, true_or, or_true]
theorem inr_12 : ∀ w ∈ wsL_law_r12, w ∈ wsL_law := by
  intro w h
  simp only [wsL_law, List.mem_append, h, true_or, or_true]
theorem inr_13 : ∀ w ∈ wsL_law_r13, w ∈ wsL_law := by
  intro w h
  simp only [wsL_law, List.mem_append, h, true_or, or_true]
theorem inr_14 : ∀ w ∈ wsL_law_r14, w ∈ wsL_law := by
  intro w h
  simp only [wsL_law, List.mem_append, h, true_or, or_true]
theorem inr_15 : ∀ w ∈ wsL_law_r15, w ∈ wsL_law := by
  intro w h
  simp only [wsL_law, List.mem_append, h, true_or, or_true]
theorem inr_16 : ∀ w ∈ wsL_law_r16, w ∈ wsL_law := by
  intro w h
  simp only [wsL_law, List.mem_append, h, true_or, or_true]
theorem inr_17 : ∀ w ∈ wsL_law_r17, w ∈ wsL_law := by
  intro w h
  simp only [wsL_law, List.mem_append, h, true_or, or_true]
theorem inr_18 : ∀ w ∈ wsL_law_r18, w ∈ wsL_law := by
  intro w h
  simp only [wsL_law, List.mem_append, h, true_or, or_true]
theorem inr_19 : ∀ w ∈ wsL_law_r19, w ∈ wsL_law := by
  intro w h
  simp only [wsL_law, List.mem_append, h, true_or, or_true]
theorem inr_20 : ∀ w ∈ wsL_law_r20, w ∈ wsL_law := by
  intro w h
  simp only [wsL_law, List.mem_append, h, true_or, or_true]
theorem inr_21 : ∀ w ∈ wsL_law_r21, w ∈ wsL_law := by
  intro w h
  simp only [wsL_law, List.mem_append, h, true_or, or_true]
theorem inr_22 : ∀ w ∈ wsL_law_r22, w ∈ wsL_law := by
  intro w h
  simp only [wsL_law, List.mem_append, h, true_or, or_true]
theorem inr_23 : ∀ w ∈ wsL_law_r23, w ∈ wsL_law := by
  intro w h
  simp only [wsL_law, List.mem_append, h, true_or, or_true]
theorem inr_24 : ∀ w ∈ wsL_law_r24, w ∈ wsL_law := by
  intro w h
  simp only [wsL_law, List.mem_append, h, true_or, or_true]
theorem inr_25 : ∀ w ∈ wsL_law_r25, w ∈ wsL_law := by
  intro w h
  simp only [wsL_law, List.mem_append, h, true_or, or_true]
theorem inr_26 : ∀ w ∈ wsL_law_r26, w ∈ wsL_law := by
  intro w h
  simp only [wsL_law, List.mem_append, h, true_or, or_true]
theorem inr_27 : ∀ w ∈ wsL_law_r27, w ∈ wsL_law := by
  intro w h
  simp only [wsL_law, List.mem_append, h, true_or, or_true]
theorem inr_28 : ∀ w ∈ wsL_law_r28, w ∈ wsL_law := by
  intro w h
  simp only [wsL_law, List.mem_append, h, true_or, or_true]
theorem kw_1_0 : Cond.classLink RL 7 RX4 ∈ wsL_law := inr_1 _ (List.mem_of_getElem? (i := 0) rfl)
theorem kw_1_1 : Cond.instantiable RX4 8 ∈ wsL_law := inr_1 _ (List.mem_of_getElem? (i := 1) rfl)
theorem kw_1_2 : Cond.initialized RX4 ∈ wsL_law := inr_1 _ (List.mem_of_getElem? (i := 2) rfl)
theorem kw_1_3 : Cond.classLink RL 10 RX5 ∈ wsL_law := inr_1 _ (List.mem_of_getElem? (i := 3) rfl)
theorem kw_1_4 : Cond.instantiable RX5 25 ∈ wsL_law := inr_1 _ (List.mem_of_getElem? (i := 4) rfl)
theorem kw_1_5 : Cond.initialized RX5 ∈ wsL_law := inr_1 _ (List.mem_of_getElem? (i := 5) rfl)
theorem kw_1_6 : Cond.constantLong RL 79 (4294967295) ∈ wsL_law := inr_1 _ (List.mem_of_getElem? (i := 6) rfl)
theorem kw_1_7 : Cond.methodLink RL 9 yX4_init ∈ wsL_law := inr_1 _ (List.mem_of_getElem? (i := 7) rfl)
theorem kw_1_8 : Cond.instanceMethod yX4_init ∈ wsL_law := inr_1 _ (List.mem_of_getElem? (i := 8) rfl)
theorem kw_1_9 : Cond.code yX4_init cX4_init 2 none ∈ wsL_law := inr_1 _ (List.mem_of_getElem? (i := 9) rfl)
theorem kw_1_10 : Cond.methodLink RX4 3 objectInit ∈ wsL_law := inr_1 _ (List.mem_of_getElem? (i := 10) rfl)
theorem kw_1_11 : Cond.instanceMethod objectInit ∈ wsL_law := inr_1 _ (List.mem_of_getElem? (i := 11) rfl)
theorem kw_1_12 : Cond.code objectInit ⟨#[0xb1]⟩ 1 none ∈ wsL_law := inr_1 _ (List.mem_of_getElem? (i := 12) rfl)
theorem kw_1_13 : Cond.classLink RX4 9 RX2 ∈ wsL_law := inr_1 _ (List.mem_of_getElem? (i := 13) rfl)
theorem kw_1_14 : Cond.instantiable RX2 3 ∈ wsL_law := inr_1 _ (List.mem_of_getElem? (i := 14) rfl)
theorem kw_1_15 : Cond.initialized RX2 ∈ wsL_law := inr_1 _ (List.mem_of_getElem? (i := 15) rfl)
theorem kw_1_16 : Cond.fieldLink RX4 12 "ArrayMaker" "shape" "LArrayMaker$Shape;" ∈ wsL_law := inr_1 _ (List.mem_of_getElem? (i := 16) rfl)
theorem kw_1_17 : Cond.classLink RX4 16 RX0 ∈ wsL_law := inr_1 _ (List.mem_of_getElem? (i := 17) rfl)
theorem kw_1_18 : Cond.instantiable RX0 5 ∈ wsL_law := inr_1 _ (List.mem_of_getElem? (i := 18) rfl)
theorem kw_1_19 : Cond.initialized RX0 ∈ wsL_law := inr_1 _ (List.mem_of_getElem? (i := 19) rfl)
theorem kw_1_20 : Cond.fieldLink RX4 19 "ArrayMaker" "list" "LArrayMaker$Lines;" ∈ wsL_law := inr_1 _ (List.mem_of_getElem? (i := 20) rfl)
theorem kw_1_21 : Cond.classLink RX4 23 RX3 ∈ wsL_law := inr_1 _ (List.mem_of_getElem? (i := 21) rfl)
theorem kw_1_22 : Cond.instantiable RX3 6 ∈ wsL_law := inr_1 _ (List.mem_of_getElem? (i := 22) rfl)
theorem kw_1_23 : Cond.initialized RX3 ∈ wsL_law := inr_1 _ (List.mem_of_getElem? (i := 23) rfl)
theorem kw_2_0 : Cond.fieldLink RX4 26 "ArrayMaker" "store" "LArrayMaker$Store;" ∈ wsL_law := inr_2 _ (List.mem_of_getElem? (i := 0) rfl)
theorem kw_2_1 : Cond.classLink RX4 30 RX1 ∈ wsL_law := inr_2 _ (List.mem_of_getElem? (i := 1) rfl)
theorem kw_2_2 : Cond.fieldLink RX4 32 "ArrayMaker" "arrays" "[LArrayMaker$MadeArray;" ∈ wsL_law := inr_2 _ (List.mem_of_getElem? (i := 2) rfl)
theorem kw_2_3 : Cond.arrayClass .int ∈ wsL_law := inr_2 _ (List.mem_of_getElem? (i := 3) rfl)
theorem kw_2_4 : Cond.fieldLink RX4 36 "ArrayMaker" "sources" "[I" ∈ wsL_law := inr_2 _ (List.mem_of_getElem? (i := 4) rfl)
theorem kw_2_5 : Cond.fieldLink RX4 40 "ArrayMaker" "made" "I" ∈ wsL_law := inr_2 _ (List.mem_of_getElem? (i := 5) rfl)
theorem kw_2_6 : Cond.fieldLink RX4 44 "ArrayMaker" "code" "I" ∈ wsL_law := inr_2 _ (List.mem_of_getElem? (i := 6) rfl)
theorem kw_2_7 : Cond.fieldLink RX4 47 "ArrayMaker" "which" "I" ∈ wsL_law := inr_2 _ (List.mem_of_getElem? (i := 7) rfl)
theorem kw_2_8 : Cond.instantiable RX1 4 ∈ wsL_law := inr_2 _ (List.mem_of_getElem? (i := 8) rfl)
theorem kw_2_9 : Cond.initialized RX1 ∈ wsL_law := inr_2 _ (List.mem_of_getElem? (i := 9) rfl)
theorem kw_2_10 : Cond.instanceMethod yX2_init ∈ wsL_law := inr_2 _ (List.mem_of_getElem? (i := 10) rfl)
theorem kw_2_11 : Cond.code yX2_init cX2_init 1 none ∈ wsL_law := inr_2 _ (List.mem_of_getElem? (i := 11) rfl)
theorem kw_2_12 : Cond.methodLink RX2 3 objectInit ∈ wsL_law := inr_2 _ (List.mem_of_getElem? (i := 12) rfl)
theorem kw_2_13 : Cond.fieldLink RX2 9 "ArrayMaker$Shape" "low" "[I" ∈ wsL_law := inr_2 _ (List.mem_of_getElem? (i := 13) rfl)
theorem kw_2_14 : Cond.fieldLink RX2 15 "ArrayMaker$Shape" "high" "[I" ∈ wsL_law := inr_2 _ (List.mem_of_getElem? (i := 14) rfl)
theorem kw_2_15 : Cond.instanceMethod yX0_init ∈ wsL_law := inr_2 _ (List.mem_of_getElem? (i := 15) rfl)
theorem kw_2_16 : Cond.code yX0_init cX0_init 1 none ∈ wsL_law := inr_2 _ (List.mem_of_getElem? (i := 16) rfl)
theorem kw_2_17 : Cond.methodLink RX0 3 objectInit ∈ wsL_law := inr_2 _ (List.mem_of_getElem? (i := 17) rfl)
theorem kw_2_18 : Cond.fieldLink RX0 9 "ArrayMaker$Lines" "i" "[I" ∈ wsL_law := inr_2 _ (List.mem_of_getElem? (i := 18) rfl)
theorem kw_2_19 : Cond.fieldLink RX0 15 "ArrayMaker$Lines" "j" "[I" ∈ wsL_law := inr_2 _ (List.mem_of_getElem? (i := 19) rfl)
theorem kw_2_20 : Cond.fieldLink RX0 18 "ArrayMaker$Lines" "k" "[I" ∈ wsL_law := inr_2 _ (List.mem_of_getElem? (i := 20) rfl)
theorem kw_2_21 : Cond.arrayClass .long ∈ wsL_law := inr_2 _ (List.mem_of_getElem? (i := 21) rfl)
theorem kw_2_22 : Cond.fieldLink RX0 21 "ArrayMaker$Lines" "v" "[J" ∈ wsL_law := inr_2 _ (List.mem_of_getElem? (i := 22) rfl)
theorem kw_2_23 : Cond.instanceMethod yX3_init ∈ wsL_law := inr_2 _ (List.mem_of_getElem? (i := 23) rfl)
theorem kw_3_0 : Cond.code yX3_init cX3_init 1 none ∈ wsL_law := inr_3 _ (List.mem_of_getElem? (i := 0) rfl)
theorem kw_3_1 : Cond.methodLink RX3 3 objectInit ∈ wsL_law := inr_3 _ (List.mem_of_getElem? (i := 1) rfl)
theorem kw_3_2 : Cond.fieldLink RX3 9 "ArrayMaker$Store" "numbers" "[J" ∈ wsL_law := inr_3 _ (List.mem_of_getElem? (i := 2) rfl)
theorem kw_3_3 : Cond.arrayClass .boolean ∈ wsL_law := inr_3 _ (List.mem_of_getElem? (i := 3) rfl)
theorem kw_3_4 : Cond.fieldLink RX3 15 "ArrayMaker$Store" "filled" "[Z" ∈ wsL_law := inr_3 _ (List.mem_of_getElem? (i := 4) rfl)
theorem kw_3_5 : Cond.fieldLink RX3 19 "ArrayMaker$Store" "starts" "[I" ∈ wsL_law := inr_3 _ (List.mem_of_getElem? (i := 5) rfl)
theorem kw_3_6 : Cond.fieldLink RX3 23 "ArrayMaker$Store" "lengths" "[I" ∈ wsL_law := inr_3 _ (List.mem_of_getElem? (i := 6) rfl)
theorem kw_3_7 : Cond.instanceMethod yX1_init ∈ wsL_law := inr_3 _ (List.mem_of_getElem? (i := 7) rfl)
theorem kw_3_8 : Cond.code yX1_init cX1_init 1 none ∈ wsL_law := inr_3 _ (List.mem_of_getElem? (i := 8) rfl)
theorem kw_3_9 : Cond.methodLink RX1 3 objectInit ∈ wsL_law := inr_3 _ (List.mem_of_getElem? (i := 9) rfl)
theorem kw_3_10 : Cond.classLink RX1 9 RX2 ∈ wsL_law := inr_3 _ (List.mem_of_getElem? (i := 10) rfl)
theorem kw_3_11 : Cond.fieldLink RX1 12 "ArrayMaker$MadeArray" "shape" "LArrayMaker$Shape;" ∈ wsL_law := inr_3 _ (List.mem_of_getElem? (i := 11) rfl)
theorem kw_3_12 : Cond.fieldLink RX1 18 "ArrayMaker$MadeArray" "row" "I" ∈ wsL_law := inr_3 _ (List.mem_of_getElem? (i := 12) rfl)
theorem kw_3_13 : Cond.fieldLink RX1 22 "ArrayMaker$MadeArray" "rows" "[I" ∈ wsL_law := inr_3 _ (List.mem_of_getElem? (i := 13) rfl)
theorem kw_3_14 : Cond.methodLink RL 12 yX5_init ∈ wsL_law := inr_3 _ (List.mem_of_getElem? (i := 14) rfl)
theorem kw_3_15 : Cond.instanceMethod yX5_init ∈ wsL_law := inr_3 _ (List.mem_of_getElem? (i := 15) rfl)
theorem kw_3_16 : Cond.code yX5_init cX5_init 1 none ∈ wsL_law := inr_3 _ (List.mem_of_getElem? (i := 16) rfl)
theorem kw_3_17 : Cond.methodLink RX5 1 objectInit ∈ wsL_law := inr_3 _ (List.mem_of_getElem? (i := 17) rfl)
theorem kw_3_18 : Cond.fieldLink RX5 9 "ArrayMakerModel" "which" "I" ∈ wsL_law := inr_3 _ (List.mem_of_getElem? (i := 18) rfl)
theorem kw_3_19 : Cond.fieldLink RX5 13 "ArrayMakerModel" "low" "[I" ∈ wsL_law := inr_3 _ (List.mem_of_getElem? (i := 19) rfl)
theorem kw_3_20 : Cond.fieldLink RX5 17 "ArrayMakerModel" "high" "[I" ∈ wsL_law := inr_3 _ (List.mem_of_getElem? (i := 20) rfl)
theorem kw_3_21 : Cond.fieldLink RX5 20 "ArrayMakerModel" "kinds" "[I" ∈ wsL_law := inr_3 _ (List.mem_of_getElem? (i := 21) rfl)
theorem kw_3_22 : Cond.fieldLink RX5 23 "ArrayMakerModel" "ranks" "[I" ∈ wsL_law := inr_3 _ (List.mem_of_getElem? (i := 22) rfl)
theorem kw_3_23 : Cond.fieldLink RX5 26 "ArrayMakerModel" "lows" "[I" ∈ wsL_law := inr_3 _ (List.mem_of_getElem? (i := 23) rfl)
theorem kw_4_0 : Cond.fieldLink RX5 29 "ArrayMakerModel" "highs" "[I" ∈ wsL_law := inr_4 _ (List.mem_of_getElem? (i := 0) rfl)
theorem kw_4_1 : Cond.fieldLink RX5 32 "ArrayMakerModel" "rowOf" "[I" ∈ wsL_law := inr_4 _ (List.mem_of_getElem? (i := 1) rfl)
theorem kw_4_2 : Cond.fieldLink RX5 35 "ArrayMakerModel" "rowAt" "[I" ∈ wsL_law := inr_4 _ (List.mem_of_getElem? (i := 2) rfl)
theorem kw_4_3 : Cond.fieldLink RX5 38 "ArrayMakerModel" "rowSize" "[I" ∈ wsL_law := inr_4 _ (List.mem_of_getElem? (i := 3) rfl)
theorem kw_4_4 : Cond.constant RX5 41 (300000) ∈ wsL_law := inr_4 _ (List.mem_of_getElem? (i := 4) rfl)
theorem kw_4_5 : Cond.fieldLink RX5 42 "ArrayMakerModel" "pool" "[J" ∈ wsL_law := inr_4 _ (List.mem_of_getElem? (i := 5) rfl)
theorem kw_4_6 : Cond.fieldLink RX5 46 "ArrayMakerModel" "hasBox" "[Z" ∈ wsL_law := inr_4 _ (List.mem_of_getElem? (i := 6) rfl)
theorem kw_4_7 : Cond.fieldLink RX5 50 "ArrayMakerModel" "slot" "[I" ∈ wsL_law := inr_4 _ (List.mem_of_getElem? (i := 7) rfl)
theorem kw_4_8 : Cond.fieldLink RX5 53 "ArrayMakerModel" "lineI" "[I" ∈ wsL_law := inr_4 _ (List.mem_of_getElem? (i := 8) rfl)
theorem kw_4_9 : Cond.fieldLink RX5 56 "ArrayMakerModel" "lineJ" "[I" ∈ wsL_law := inr_4 _ (List.mem_of_getElem? (i := 9) rfl)
theorem kw_4_10 : Cond.fieldLink RX5 59 "ArrayMakerModel" "lineK" "[I" ∈ wsL_law := inr_4 _ (List.mem_of_getElem? (i := 10) rfl)
theorem kw_4_11 : Cond.fieldLink RX5 62 "ArrayMakerModel" "lineV" "[J" ∈ wsL_law := inr_4 _ (List.mem_of_getElem? (i := 11) rfl)
theorem kw_4_12 : Cond.methodLink RL 13 yX4_code ∈ wsL_law := inr_4 _ (List.mem_of_getElem? (i := 12) rfl)
theorem kw_4_13 : Cond.instanceMethod yX4_code ∈ wsL_law := inr_4 _ (List.mem_of_getElem? (i := 13) rfl)
theorem kw_4_14 : Cond.selects RX4 yX4_code yX4_code ∈ wsL_law := inr_4 _ (List.mem_of_getElem? (i := 14) rfl)
theorem kw_4_15 : Cond.code yX4_code cX4_code 1 (some .int) ∈ wsL_law := inr_4 _ (List.mem_of_getElem? (i := 15) rfl)
theorem kw_4_16 : Cond.methodLink RL 17 yX5_code ∈ wsL_law := inr_4 _ (List.mem_of_getElem? (i := 16) rfl)
theorem kw_4_17 : Cond.instanceMethod yX5_code ∈ wsL_law := inr_4 _ (List.mem_of_getElem? (i := 17) rfl)
theorem kw_4_18 : Cond.selects RX5 yX5_code yX5_code ∈ wsL_law := inr_4 _ (List.mem_of_getElem? (i := 18) rfl)
theorem kw_4_19 : Cond.code yX5_code cX5_code 1 (some .int) ∈ wsL_law := inr_4 _ (List.mem_of_getElem? (i := 19) rfl)
theorem kw_4_20 : Cond.fieldLink RX5 65 "ArrayMakerModel" "code" "I" ∈ wsL_law := inr_4 _ (List.mem_of_getElem? (i := 20) rfl)
theorem kw_4_21 : Cond.methodLink RL 18 yX4_which ∈ wsL_law := inr_4 _ (List.mem_of_getElem? (i := 21) rfl)
theorem kw_4_22 : Cond.instanceMethod yX4_which ∈ wsL_law := inr_4 _ (List.mem_of_getElem? (i := 22) rfl)
theorem kw_4_23 : Cond.selects RX4 yX4_which yX4_which ∈ wsL_law := inr_4 _ (List.mem_of_getElem? (i := 23) rfl)
theorem kw_5_0 : Cond.code yX4_which cX4_which 1 (some .int) ∈ wsL_law := inr_5 _ (List.mem_of_getElem? (i := 0) rfl)
theorem kw_5_1 : Cond.methodLink RL 21 yX5_which ∈ wsL_law := inr_5 _ (List.mem_of_getElem? (i := 1) rfl)
theorem kw_5_2 : Cond.instanceMethod yX5_which ∈ wsL_law := inr_5 _ (List.mem_of_getElem? (i := 2) rfl)
theorem kw_5_3 : Cond.selects RX5 yX5_which yX5_which ∈ wsL_law := inr_5 _ (List.mem_of_getElem? (i := 3) rfl)
theorem kw_5_4 : Cond.code yX5_which cX5_which 1 (some .int) ∈ wsL_law := inr_5 _ (List.mem_of_getElem? (i := 4) rfl)
theorem kw_5_5 : Cond.methodLink RL 22 yX4_range ∈ wsL_law := inr_5 _ (List.mem_of_getElem? (i := 5) rfl)
theorem kw_5_6 : Cond.instanceMethod yX4_range ∈ wsL_law := inr_5 _ (List.mem_of_getElem? (i := 6) rfl)
theorem kw_5_7 : Cond.selects RX4 yX4_range yX4_range ∈ wsL_law := inr_5 _ (List.mem_of_getElem? (i := 7) rfl)
theorem kw_5_8 : Cond.code yX4_range cX4_range 3 (some .int) ∈ wsL_law := inr_5 _ (List.mem_of_getElem? (i := 8) rfl)
theorem kw_5_9 : Cond.fieldLink RX4 51 "ArrayMaker$Shape" "count" "I" ∈ wsL_law := inr_5 _ (List.mem_of_getElem? (i := 9) rfl)
theorem kw_5_10 : Cond.methodLink RX4 54 yX4_stop ∈ wsL_law := inr_5 _ (List.mem_of_getElem? (i := 10) rfl)
theorem kw_5_11 : Cond.instanceMethod yX4_stop ∈ wsL_law := inr_5 _ (List.mem_of_getElem? (i := 11) rfl)
theorem kw_5_12 : Cond.selects RX4 yX4_stop yX4_stop ∈ wsL_law := inr_5 _ (List.mem_of_getElem? (i := 12) rfl)
theorem kw_5_13 : Cond.code yX4_stop cX4_stop 2 (some .int) ∈ wsL_law := inr_5 _ (List.mem_of_getElem? (i := 13) rfl)
theorem kw_5_14 : Cond.methodLink RX4 205 yX4_tell ∈ wsL_law := inr_5 _ (List.mem_of_getElem? (i := 14) rfl)
theorem kw_5_15 : Cond.instanceMethod yX4_tell ∈ wsL_law := inr_5 _ (List.mem_of_getElem? (i := 15) rfl)
theorem kw_5_16 : Cond.selects RX4 yX4_tell yX4_tell ∈ wsL_law := inr_5 _ (List.mem_of_getElem? (i := 16) rfl)
theorem kw_5_17 : Cond.code yX4_tell cX4_tell 3 (some .int) ∈ wsL_law := inr_5 _ (List.mem_of_getElem? (i := 17) rfl)
theorem kw_5_18 : Cond.methodLink RX4 58 yX2_add ∈ wsL_law := inr_5 _ (List.mem_of_getElem? (i := 18) rfl)
theorem kw_5_19 : Cond.instanceMethod yX2_add ∈ wsL_law := inr_5 _ (List.mem_of_getElem? (i := 19) rfl)
theorem kw_5_20 : Cond.selects RX2 yX2_add yX2_add ∈ wsL_law := inr_5 _ (List.mem_of_getElem? (i := 20) rfl)
theorem kw_5_21 : Cond.code yX2_add cX2_add 3 none ∈ wsL_law := inr_5 _ (List.mem_of_getElem? (i := 21) rfl)
theorem kw_5_22 : Cond.fieldLink RX2 18 "ArrayMaker$Shape" "count" "I" ∈ wsL_law := inr_5 _ (List.mem_of_getElem? (i := 22) rfl)
theorem kw_5_23 : Cond.methodLink RX4 62 yX4_done ∈ wsL_law := inr_5 _ (List.mem_of_getElem? (i := 23) rfl)
theorem kw_6_0 : Cond.instanceMethod yX4_done ∈ wsL_law := inr_6 _ (List.mem_of_getElem? (i := 0) rfl)
theorem kw_6_1 : Cond.selects RX4 yX4_done yX4_done ∈ wsL_law := inr_6 _ (List.mem_of_getElem? (i := 1) rfl)
theorem kw_6_2 : Cond.code yX4_done cX4_done 2 (some .int) ∈ wsL_law := inr_6 _ (List.mem_of_getElem? (i := 2) rfl)
theorem kw_6_3 : Cond.methodLink RL 26 yX5_range ∈ wsL_law := inr_6 _ (List.mem_of_getElem? (i := 3) rfl)
theorem kw_6_4 : Cond.instanceMethod yX5_range ∈ wsL_law := inr_6 _ (List.mem_of_getElem? (i := 4) rfl)
theorem kw_6_5 : Cond.selects RX5 yX5_range yX5_range ∈ wsL_law := inr_6 _ (List.mem_of_getElem? (i := 5) rfl)
theorem kw_6_6 : Cond.code yX5_range cX5_range 3 (some .int) ∈ wsL_law := inr_6 _ (List.mem_of_getElem? (i := 6) rfl)
theorem kw_6_7 : Cond.fieldLink RX5 72 "ArrayMakerModel" "dimensions" "I" ∈ wsL_law := inr_6 _ (List.mem_of_getElem? (i := 7) rfl)
theorem kw_6_8 : Cond.methodLink RX5 68 yX5_no ∈ wsL_law := inr_6 _ (List.mem_of_getElem? (i := 8) rfl)
theorem kw_6_9 : Cond.instanceMethod yX5_no ∈ wsL_law := inr_6 _ (List.mem_of_getElem? (i := 9) rfl)
theorem kw_6_10 : Cond.selects RX5 yX5_no yX5_no ∈ wsL_law := inr_6 _ (List.mem_of_getElem? (i := 10) rfl)
theorem kw_6_11 : Cond.code yX5_no cX5_no 2 (some .int) ∈ wsL_law := inr_6 _ (List.mem_of_getElem? (i := 11) rfl)
theorem kw_6_12 : Cond.methodLink RX5 75 yX5_yes ∈ wsL_law := inr_6 _ (List.mem_of_getElem? (i := 12) rfl)
theorem kw_6_13 : Cond.instanceMethod yX5_yes ∈ wsL_law := inr_6 _ (List.mem_of_getElem? (i := 13) rfl)
theorem kw_6_14 : Cond.selects RX5 yX5_yes yX5_yes ∈ wsL_law := inr_6 _ (List.mem_of_getElem? (i := 14) rfl)
theorem kw_6_15 : Cond.code yX5_yes cX5_yes 2 (some .int) ∈ wsL_law := inr_6 _ (List.mem_of_getElem? (i := 15) rfl)
theorem kw_6_16 : Cond.methodLink RL 27 yX4_shapeless ∈ wsL_law := inr_6 _ (List.mem_of_getElem? (i := 16) rfl)
theorem kw_6_17 : Cond.instanceMethod yX4_shapeless ∈ wsL_law := inr_6 _ (List.mem_of_getElem? (i := 17) rfl)
theorem kw_6_18 : Cond.selects RX4 yX4_shapeless yX4_shapeless ∈ wsL_law := inr_6 _ (List.mem_of_getElem? (i := 18) rfl)
theorem kw_6_19 : Cond.code yX4_shapeless cX4_shapeless 2 (some .int) ∈ wsL_law := inr_6 _ (List.mem_of_getElem? (i := 19) rfl)
theorem kw_6_20 : Cond.methodLink RL 30 yX5_shapeless ∈ wsL_law := inr_6 _ (List.mem_of_getElem? (i := 20) rfl)
theorem kw_6_21 : Cond.instanceMethod yX5_shapeless ∈ wsL_law := inr_6 _ (List.mem_of_getElem? (i := 21) rfl)
theorem kw_6_22 : Cond.selects RX5 yX5_shapeless yX5_shapeless ∈ wsL_law := inr_6 _ (List.mem_of_getElem? (i := 22) rfl)
theorem kw_6_23 : Cond.code yX5_shapeless cX5_shapeless 2 (some .int) ∈ wsL_law := inr_6 _ (List.mem_of_getElem? (i := 23) rfl)
theorem kw_7_0 : Cond.methodLink RL 31 yX4_make ∈ wsL_law := inr_7 _ (List.mem_of_getElem? (i := 0) rfl)
theorem kw_7_1 : Cond.instanceMethod yX4_make ∈ wsL_law := inr_7 _ (List.mem_of_getElem? (i := 1) rfl)
theorem kw_7_2 : Cond.selects RX4 yX4_make yX4_make ∈ wsL_law := inr_7 _ (List.mem_of_getElem? (i := 2) rfl)
theorem kw_7_3 : Cond.code yX4_make cX4_make 4 (some .int) ∈ wsL_law := inr_7 _ (List.mem_of_getElem? (i := 3) rfl)
theorem kw_7_4 : Cond.constant RX4 65 (-2000000001) ∈ wsL_law := inr_7 _ (List.mem_of_getElem? (i := 4) rfl)
theorem kw_7_5 : Cond.methodLink RX4 66 yX4_whyNotMade ∈ wsL_law := inr_7 _ (List.mem_of_getElem? (i := 5) rfl)
theorem kw_7_6 : Cond.instanceMethod yX4_whyNotMade ∈ wsL_law := inr_7 _ (List.mem_of_getElem? (i := 6) rfl)
theorem kw_7_7 : Cond.selects RX4 yX4_whyNotMade yX4_whyNotMade ∈ wsL_law := inr_7 _ (List.mem_of_getElem? (i := 7) rfl)
theorem kw_7_8 : Cond.code yX4_whyNotMade cX4_whyNotMade 4 (some .int) ∈ wsL_law := inr_7 _ (List.mem_of_getElem? (i := 8) rfl)
theorem kw_7_9 : Cond.constantLong RX4 238 (500) ∈ wsL_law := inr_7 _ (List.mem_of_getElem? (i := 9) rfl)
theorem kw_7_10 : Cond.methodLink RX4 96 yX2_items ∈ wsL_law := inr_7 _ (List.mem_of_getElem? (i := 10) rfl)
theorem kw_7_11 : Cond.instanceMethod yX2_items ∈ wsL_law := inr_7 _ (List.mem_of_getElem? (i := 11) rfl)
theorem kw_7_12 : Cond.selects RX2 yX2_items yX2_items ∈ wsL_law := inr_7 _ (List.mem_of_getElem? (i := 12) rfl)
theorem kw_7_13 : Cond.code yX2_items cX2_items 4 (some .int) ∈ wsL_law := inr_7 _ (List.mem_of_getElem? (i := 13) rfl)
theorem kw_7_14 : Cond.constantLong RX2 32 (501) ∈ wsL_law := inr_7 _ (List.mem_of_getElem? (i := 14) rfl)
theorem kw_7_15 : Cond.methodLink RX2 34 Lib.MathLoose.min_long.x ∈ wsL_law := inr_7 _ (List.mem_of_getElem? (i := 15) rfl)
theorem kw_7_16 : Cond.static Lib.MathLoose.min_long.x ∈ wsL_law := inr_7 _ (List.mem_of_getElem? (i := 16) rfl)
theorem kw_7_17 : Cond.initialized "java/lang/Math" ∈ wsL_law := inr_7 _ (List.mem_of_getElem? (i := 17) rfl)
theorem kw_7_18 : Cond.code Lib.MathLoose.min_long.x Lib.MathLoose.min_long.code 4 (some .long) ∈ wsL_law := inr_7 _ (List.mem_of_getElem? (i := 18) rfl)
theorem kw_7_19 : Cond.methodLink RX2 37 yX2_length ∈ wsL_law := inr_7 _ (List.mem_of_getElem? (i := 19) rfl)
theorem kw_7_20 : Cond.instanceMethod yX2_length ∈ wsL_law := inr_7 _ (List.mem_of_getElem? (i := 20) rfl)
theorem kw_7_21 : Cond.selects RX2 yX2_length yX2_length ∈ wsL_law := inr_7 _ (List.mem_of_getElem? (i := 21) rfl)
theorem kw_7_22 : Cond.code yX2_length cX2_length 2 (some .long) ∈ wsL_law := inr_7 _ (List.mem_of_getElem? (i := 22) rfl)
theorem kw_7_23 : Cond.methodLink RX2 26 Lib.MathLoose.max_long.x ∈ wsL_law := inr_7 _ (List.mem_of_getElem? (i := 23) rfl)
theorem kw_8_0 : Cond.static Lib.MathLoose.max_long.x ∈ wsL_law := inr_8 _ (List.mem_of_getElem? (i := 0) rfl)
theorem kw_8_1 : Cond.code Lib.MathLoose.max_long.x Lib.MathLoose.max_long.code 4 (some .long) ∈ wsL_law := inr_8 _ (List.mem_of_getElem? (i := 1) rfl)
theorem kw_8_2 : Cond.methodLink RX4 235 yX2_length ∈ wsL_law := inr_8 _ (List.mem_of_getElem? (i := 2) rfl)
theorem kw_8_3 : Cond.methodLink RX4 80 yX4_hasRoom ∈ wsL_law := inr_8 _ (List.mem_of_getElem? (i := 3) rfl)
theorem kw_8_4 : Cond.instanceMethod yX4_hasRoom ∈ wsL_law := inr_8 _ (List.mem_of_getElem? (i := 4) rfl)
theorem kw_8_5 : Cond.selects RX4 yX4_hasRoom yX4_hasRoom ∈ wsL_law := inr_8 _ (List.mem_of_getElem? (i := 5) rfl)
theorem kw_8_6 : Cond.code yX4_hasRoom cX4_hasRoom 3 (some .boolean) ∈ wsL_law := inr_8 _ (List.mem_of_getElem? (i := 6) rfl)
theorem kw_8_7 : Cond.methodLink RX4 147 yX3_reserve ∈ wsL_law := inr_8 _ (List.mem_of_getElem? (i := 7) rfl)
theorem kw_8_8 : Cond.instanceMethod yX3_reserve ∈ wsL_law := inr_8 _ (List.mem_of_getElem? (i := 8) rfl)
theorem kw_8_9 : Cond.selects RX3 yX3_reserve yX3_reserve ∈ wsL_law := inr_8 _ (List.mem_of_getElem? (i := 9) rfl)
theorem kw_8_10 : Cond.code yX3_reserve cX3_reserve 3 (some .boolean) ∈ wsL_law := inr_8 _ (List.mem_of_getElem? (i := 10) rfl)
theorem kw_8_11 : Cond.fieldLink RX3 26 "ArrayMaker$Store" "rowCount" "I" ∈ wsL_law := inr_8 _ (List.mem_of_getElem? (i := 11) rfl)
theorem kw_8_12 : Cond.constant RX3 30 (63200) ∈ wsL_law := inr_8 _ (List.mem_of_getElem? (i := 12) rfl)
theorem kw_8_13 : Cond.fieldLink RX3 31 "ArrayMaker$Store" "cellCount" "I" ∈ wsL_law := inr_8 _ (List.mem_of_getElem? (i := 13) rfl)
theorem kw_8_14 : Cond.methodLink RX3 34 yX3_growRows ∈ wsL_law := inr_8 _ (List.mem_of_getElem? (i := 14) rfl)
theorem kw_8_15 : Cond.instanceMethod yX3_growRows ∈ wsL_law := inr_8 _ (List.mem_of_getElem? (i := 15) rfl)
theorem kw_8_16 : Cond.selects RX3 yX3_growRows yX3_growRows ∈ wsL_law := inr_8 _ (List.mem_of_getElem? (i := 16) rfl)
theorem kw_8_17 : Cond.code yX3_growRows cX3_growRows 3 none ∈ wsL_law := inr_8 _ (List.mem_of_getElem? (i := 17) rfl)
theorem kw_8_18 : Cond.methodLink RX3 41 Lib.Math.max.name ∈ wsL_law := inr_8 _ (List.mem_of_getElem? (i := 18) rfl)
theorem kw_8_19 : Cond.static Lib.Math.max.name ∈ wsL_law := inr_8 _ (List.mem_of_getElem? (i := 19) rfl)
theorem kw_8_20 : Cond.code Lib.Math.max.name Lib.Math.max.code 2 (some .int) ∈ wsL_law := inr_8 _ (List.mem_of_getElem? (i := 20) rfl)
theorem kw_8_21 : Cond.methodLink RX3 47 yJ7_copyOf_59c91 ∈ wsL_law := inr_8 _ (List.mem_of_getElem? (i := 21) rfl)
theorem kw_8_22 : Cond.static yJ7_copyOf_59c91 ∈ wsL_law := inr_8 _ (List.mem_of_getElem? (i := 22) rfl)
theorem kw_8_23 : Cond.initialized RJ7 ∈ wsL_law := inr_8 _ (List.mem_of_getElem? (i := 23) rfl)
theorem kw_9_0 : Cond.code yJ7_copyOf_59c91 cJ7_copyOf_59c91 3 (some (.array .int)) ∈ wsL_law := inr_9 _ (List.mem_of_getElem? (i := 0) rfl)
theorem kw_9_1 : Cond.methodLink RJ7 316 ⟨"[I", "clone", "()Ljava/lang/Object;"⟩ ∈ wsL_law := inr_9 _ (List.mem_of_getElem? (i := 1) rfl)
theorem kw_9_2 : Cond.sameMethod "[I" "java/lang/Object" "clone" "()Ljava/lang/Object;" ∈ wsL_law := inr_9 _ (List.mem_of_getElem? (i := 2) rfl)
theorem kw_9_3 : Cond.native ⟨"java/lang/Object", "clone", "()Ljava/lang/Object;"⟩ ∈ wsL_law := inr_9 _ (List.mem_of_getElem? (i := 3) rfl)
theorem kw_9_4 : Cond.instanceMethod ⟨"java/lang/Object", "clone", "()Ljava/lang/Object;"⟩ ∈ wsL_law := inr_9 _ (List.mem_of_getElem? (i := 4) rfl)
theorem kw_9_5 : Cond.selects "[I" ⟨"[I", "clone", "()Ljava/lang/Object;"⟩ ⟨"java/lang/Object", "clone", "()Ljava/lang/Object;"⟩ ∈ wsL_law := inr_9 _ (List.mem_of_getElem? (i := 5) rfl)
theorem kw_9_6 : Cond.classLink RJ7 317 "[I" ∈ wsL_law := inr_9 _ (List.mem_of_getElem? (i := 6) rfl)
theorem kw_9_7 : Cond.methodLink RJ7 304 Lib.Math.min.name ∈ wsL_law := inr_9 _ (List.mem_of_getElem? (i := 7) rfl)
theorem kw_9_8 : Cond.static Lib.Math.min.name ∈ wsL_law := inr_9 _ (List.mem_of_getElem? (i := 8) rfl)
theorem kw_9_9 : Cond.code Lib.Math.min.name Lib.Math.min.code 2 (some .int) ∈ wsL_law := inr_9 _ (List.mem_of_getElem? (i := 9) rfl)
theorem kw_9_10 : Cond.methodLink RJ7 150 arraycopyName ∈ wsL_law := inr_9 _ (List.mem_of_getElem? (i := 10) rfl)
theorem kw_9_11 : Cond.native arraycopyName ∈ wsL_law := inr_9 _ (List.mem_of_getElem? (i := 11) rfl)
theorem kw_9_12 : Cond.static arraycopyName ∈ wsL_law := inr_9 _ (List.mem_of_getElem? (i := 12) rfl)
theorem kw_9_13 : Cond.initialized "java/lang/System" ∈ wsL_law := inr_9 _ (List.mem_of_getElem? (i := 13) rfl)
theorem kw_9_14 : Cond.methodLink RX3 38 yX3_growCells ∈ wsL_law := inr_9 _ (List.mem_of_getElem? (i := 14) rfl)
theorem kw_9_15 : Cond.instanceMethod yX3_growCells ∈ wsL_law := inr_9 _ (List.mem_of_getElem? (i := 15) rfl)
theorem kw_9_16 : Cond.selects RX3 yX3_growCells yX3_growCells ∈ wsL_law := inr_9 _ (List.mem_of_getElem? (i := 16) rfl)
theorem kw_9_17 : Cond.code yX3_growCells cX3_growCells 3 none ∈ wsL_law := inr_9 _ (List.mem_of_getElem? (i := 17) rfl)
theorem kw_9_18 : Cond.methodLink RX3 53 yJ7_copyOf_c38d5 ∈ wsL_law := inr_9 _ (List.mem_of_getElem? (i := 18) rfl)
theorem kw_9_19 : Cond.static yJ7_copyOf_c38d5 ∈ wsL_law := inr_9 _ (List.mem_of_getElem? (i := 19) rfl)
theorem kw_9_20 : Cond.code yJ7_copyOf_c38d5 cJ7_copyOf_c38d5 3 (some (.array .long)) ∈ wsL_law := inr_9 _ (List.mem_of_getElem? (i := 20) rfl)
theorem kw_9_21 : Cond.methodLink RJ7 319 ⟨"[J", "clone", "()Ljava/lang/Object;"⟩ ∈ wsL_law := inr_9 _ (List.mem_of_getElem? (i := 21) rfl)
theorem kw_9_22 : Cond.sameMethod "[J" "java/lang/Object" "clone" "()Ljava/lang/Object;" ∈ wsL_law := inr_9 _ (List.mem_of_getElem? (i := 22) rfl)
theorem kw_9_23 : Cond.selects "[J" ⟨"[J", "clone", "()Ljava/lang/Object;"⟩ ⟨"java/lang/Object", "clone", "()Ljava/lang/Object;"⟩ ∈ wsL_law := inr_9 _ (List.mem_of_getElem? (i := 23) rfl)
theorem kw_10_0 : Cond.classLink RJ7 320 "[J" ∈ wsL_law := inr_10 _ (List.mem_of_getElem? (i := 0) rfl)
theorem kw_10_1 : Cond.methodLink RX3 56 yX3_grown ∈ wsL_law := inr_10 _ (List.mem_of_getElem? (i := 1) rfl)
theorem kw_10_2 : Cond.static yX3_grown ∈ wsL_law := inr_10 _ (List.mem_of_getElem? (i := 2) rfl)
theorem kw_10_3 : Cond.code yX3_grown cX3_grown 4 (some (.array .boolean)) ∈ wsL_law := inr_10 _ (List.mem_of_getElem? (i := 3) rfl)
theorem kw_10_4 : Cond.methodLink RX4 69 yX4_nextArrayIn ∈ wsL_law := inr_10 _ (List.mem_of_getElem? (i := 4) rfl)
theorem kw_10_5 : Cond.instanceMethod yX4_nextArrayIn ∈ wsL_law := inr_10 _ (List.mem_of_getElem? (i := 5) rfl)
theorem kw_10_6 : Cond.selects RX4 yX4_nextArrayIn yX4_nextArrayIn ∈ wsL_law := inr_10 _ (List.mem_of_getElem? (i := 6) rfl)
theorem kw_10_7 : Cond.code yX4_nextArrayIn cX4_nextArrayIn 4 (some (.object "ArrayMaker$MadeArray")) ∈ wsL_law := inr_10 _ (List.mem_of_getElem? (i := 7) rfl)
theorem kw_10_8 : Cond.fieldLink RX4 88 "ArrayMaker$MadeArray" "shape" "LArrayMaker$Shape;" ∈ wsL_law := inr_10 _ (List.mem_of_getElem? (i := 8) rfl)
theorem kw_10_9 : Cond.methodLink RX4 84 yX4_nextArray ∈ wsL_law := inr_10 _ (List.mem_of_getElem? (i := 9) rfl)
theorem kw_10_10 : Cond.instanceMethod yX4_nextArray ∈ wsL_law := inr_10 _ (List.mem_of_getElem? (i := 10) rfl)
theorem kw_10_11 : Cond.selects RX4 yX4_nextArray yX4_nextArray ∈ wsL_law := inr_10 _ (List.mem_of_getElem? (i := 11) rfl)
theorem kw_10_12 : Cond.code yX4_nextArray cX4_nextArray 3 (some (.object "ArrayMaker$MadeArray")) ∈ wsL_law := inr_10 _ (List.mem_of_getElem? (i := 12) rfl)
theorem kw_10_13 : Cond.fieldLink RX4 106 "ArrayMaker$MadeArray" "kind" "I" ∈ wsL_law := inr_10 _ (List.mem_of_getElem? (i := 13) rfl)
theorem kw_10_14 : Cond.fieldLink RX4 100 "ArrayMaker$MadeArray" "row" "I" ∈ wsL_law := inr_10 _ (List.mem_of_getElem? (i := 14) rfl)
theorem kw_10_15 : Cond.methodLink RX4 240 yX2_addAll ∈ wsL_law := inr_10 _ (List.mem_of_getElem? (i := 15) rfl)
theorem kw_10_16 : Cond.instanceMethod yX2_addAll ∈ wsL_law := inr_10 _ (List.mem_of_getElem? (i := 16) rfl)
theorem kw_10_17 : Cond.selects RX2 yX2_addAll yX2_addAll ∈ wsL_law := inr_10 _ (List.mem_of_getElem? (i := 17) rfl)
theorem kw_10_18 : Cond.code yX2_addAll cX2_addAll 3 none ∈ wsL_law := inr_10 _ (List.mem_of_getElem? (i := 18) rfl)
theorem kw_10_19 : Cond.methodLink RX2 22 yX2_add ∈ wsL_law := inr_10 _ (List.mem_of_getElem? (i := 19) rfl)
theorem kw_10_20 : Cond.methodLink RX4 73 yX4_addTableRows ∈ wsL_law := inr_10 _ (List.mem_of_getElem? (i := 20) rfl)
theorem kw_10_21 : Cond.instanceMethod yX4_addTableRows ∈ wsL_law := inr_10 _ (List.mem_of_getElem? (i := 21) rfl)
theorem kw_10_22 : Cond.selects RX4 yX4_addTableRows yX4_addTableRows ∈ wsL_law := inr_10 _ (List.mem_of_getElem? (i := 22) rfl)
theorem kw_10_23 : Cond.code yX4_addTableRows cX4_addTableRows 5 none ∈ wsL_law := inr_10 _ (List.mem_of_getElem? (i := 23) rfl)
theorem kw_11_0 : Cond.fieldLink RX4 133 "ArrayMaker$MadeArray" "rows" "[I" ∈ wsL_law := inr_11 _ (List.mem_of_getElem? (i := 0) rfl)
theorem kw_11_1 : Cond.methodLink RX4 130 yX1_rowCount ∈ wsL_law := inr_11 _ (List.mem_of_getElem? (i := 1) rfl)
theorem kw_11_2 : Cond.instanceMethod yX1_rowCount ∈ wsL_law := inr_11 _ (List.mem_of_getElem? (i := 2) rfl)
theorem kw_11_3 : Cond.selects RX1 yX1_rowCount yX1_rowCount ∈ wsL_law := inr_11 _ (List.mem_of_getElem? (i := 3) rfl)
theorem kw_11_4 : Cond.code yX1_rowCount cX1_rowCount 1 (some .int) ∈ wsL_law := inr_11 _ (List.mem_of_getElem? (i := 4) rfl)
theorem kw_11_5 : Cond.methodLink RX1 26 yX2_length ∈ wsL_law := inr_11 _ (List.mem_of_getElem? (i := 5) rfl)
theorem kw_11_6 : Cond.methodLink RX4 154 yX3_addRow ∈ wsL_law := inr_11 _ (List.mem_of_getElem? (i := 6) rfl)
theorem kw_11_7 : Cond.instanceMethod yX3_addRow ∈ wsL_law := inr_11 _ (List.mem_of_getElem? (i := 7) rfl)
theorem kw_11_8 : Cond.selects RX3 yX3_addRow yX3_addRow ∈ wsL_law := inr_11 _ (List.mem_of_getElem? (i := 8) rfl)
theorem kw_11_9 : Cond.code yX3_addRow cX3_addRow 5 (some .int) ∈ wsL_law := inr_11 _ (List.mem_of_getElem? (i := 9) rfl)
theorem kw_11_10 : Cond.methodLink RX4 77 yX4_addOwnRow ∈ wsL_law := inr_11 _ (List.mem_of_getElem? (i := 10) rfl)
theorem kw_11_11 : Cond.instanceMethod yX4_addOwnRow ∈ wsL_law := inr_11 _ (List.mem_of_getElem? (i := 11) rfl)
theorem kw_11_12 : Cond.selects RX4 yX4_addOwnRow yX4_addOwnRow ∈ wsL_law := inr_11 _ (List.mem_of_getElem? (i := 12) rfl)
theorem kw_11_13 : Cond.code yX4_addOwnRow cX4_addOwnRow 2 none ∈ wsL_law := inr_11 _ (List.mem_of_getElem? (i := 13) rfl)
theorem kw_11_14 : Cond.methodLink RL 35 yX5_make ∈ wsL_law := inr_11 _ (List.mem_of_getElem? (i := 14) rfl)
theorem kw_11_15 : Cond.instanceMethod yX5_make ∈ wsL_law := inr_11 _ (List.mem_of_getElem? (i := 15) rfl)
theorem kw_11_16 : Cond.selects RX5 yX5_make yX5_make ∈ wsL_law := inr_11 _ (List.mem_of_getElem? (i := 16) rfl)
theorem kw_11_17 : Cond.code yX5_make cX5_make 4 (some .int) ∈ wsL_law := inr_11 _ (List.mem_of_getElem? (i := 17) rfl)
theorem kw_11_18 : Cond.constantLong RX5 114 (4) ∈ wsL_law := inr_11 _ (List.mem_of_getElem? (i := 18) rfl)
theorem kw_11_19 : Cond.constant RX5 116 (-2000000001) ∈ wsL_law := inr_11 _ (List.mem_of_getElem? (i := 19) rfl)
theorem kw_11_20 : Cond.constantLong RX5 82 (500) ∈ wsL_law := inr_11 _ (List.mem_of_getElem? (i := 20) rfl)
theorem kw_11_21 : Cond.fieldLink RX5 98 "ArrayMakerModel" "arrays" "I" ∈ wsL_law := inr_11 _ (List.mem_of_getElem? (i := 21) rfl)
theorem kw_11_22 : Cond.methodLink RX5 101 yX5_within ∈ wsL_law := inr_11 _ (List.mem_of_getElem? (i := 22) rfl)
theorem kw_11_23 : Cond.static yX5_within ∈ wsL_law := inr_11 _ (List.mem_of_getElem? (i := 23) rfl)
theorem kw_12_0 : Cond.code yX5_within cX5_within 6 (some .boolean) ∈ wsL_law := inr_12 _ (List.mem_of_getElem? (i := 0) rfl)
theorem kw_12_1 : Cond.methodLink RX5 117 yX5_shapeItems ∈ wsL_law := inr_12 _ (List.mem_of_getElem? (i := 1) rfl)
theorem kw_12_2 : Cond.instanceMethod yX5_shapeItems ∈ wsL_law := inr_12 _ (List.mem_of_getElem? (i := 2) rfl)
theorem kw_12_3 : Cond.selects RX5 yX5_shapeItems yX5_shapeItems ∈ wsL_law := inr_12 _ (List.mem_of_getElem? (i := 3) rfl)
theorem kw_12_4 : Cond.code yX5_shapeItems cX5_shapeItems 7 (some .int) ∈ wsL_law := inr_12 _ (List.mem_of_getElem? (i := 4) rfl)
theorem kw_12_5 : Cond.constantLong RX5 84 (501) ∈ wsL_law := inr_12 _ (List.mem_of_getElem? (i := 5) rfl)
theorem kw_12_6 : Cond.methodLink RX5 78 yX5_length ∈ wsL_law := inr_12 _ (List.mem_of_getElem? (i := 6) rfl)
theorem kw_12_7 : Cond.static yX5_length ∈ wsL_law := inr_12 _ (List.mem_of_getElem? (i := 7) rfl)
theorem kw_12_8 : Cond.code yX5_length cX5_length 4 (some .long) ∈ wsL_law := inr_12 _ (List.mem_of_getElem? (i := 8) rfl)
theorem kw_12_9 : Cond.methodLink RX5 121 yX5_newArray ∈ wsL_law := inr_12 _ (List.mem_of_getElem? (i := 9) rfl)
theorem kw_12_10 : Cond.instanceMethod yX5_newArray ∈ wsL_law := inr_12 _ (List.mem_of_getElem? (i := 10) rfl)
theorem kw_12_11 : Cond.selects RX5 yX5_newArray yX5_newArray ∈ wsL_law := inr_12 _ (List.mem_of_getElem? (i := 11) rfl)
theorem kw_12_12 : Cond.code yX5_newArray cX5_newArray 4 (some .int) ∈ wsL_law := inr_12 _ (List.mem_of_getElem? (i := 12) rfl)
theorem kw_12_13 : Cond.methodLink RX5 125 yX5_newTable ∈ wsL_law := inr_12 _ (List.mem_of_getElem? (i := 13) rfl)
theorem kw_12_14 : Cond.instanceMethod yX5_newTable ∈ wsL_law := inr_12 _ (List.mem_of_getElem? (i := 14) rfl)
theorem kw_12_15 : Cond.selects RX5 yX5_newTable yX5_newTable ∈ wsL_law := inr_12 _ (List.mem_of_getElem? (i := 15) rfl)
theorem kw_12_16 : Cond.code yX5_newTable cX5_newTable 5 none ∈ wsL_law := inr_12 _ (List.mem_of_getElem? (i := 16) rfl)
theorem kw_12_17 : Cond.fieldLink RX5 105 "ArrayMakerModel" "slots" "I" ∈ wsL_law := inr_12 _ (List.mem_of_getElem? (i := 17) rfl)
theorem kw_12_18 : Cond.methodLink RX5 108 yX5_lengthOf ∈ wsL_law := inr_12 _ (List.mem_of_getElem? (i := 18) rfl)
theorem kw_12_19 : Cond.instanceMethod yX5_lengthOf ∈ wsL_law := inr_12 _ (List.mem_of_getElem? (i := 19) rfl)
theorem kw_12_20 : Cond.selects RX5 yX5_lengthOf yX5_lengthOf ∈ wsL_law := inr_12 _ (List.mem_of_getElem? (i := 20) rfl)
theorem kw_12_21 : Cond.code yX5_lengthOf cX5_lengthOf 3 (some .long) ∈ wsL_law := inr_12 _ (List.mem_of_getElem? (i := 21) rfl)
theorem kw_12_22 : Cond.methodLink RX5 111 yX5_newRow ∈ wsL_law := inr_12 _ (List.mem_of_getElem? (i := 22) rfl)
theorem kw_12_23 : Cond.instanceMethod yX5_newRow ∈ wsL_law := inr_12 _ (List.mem_of_getElem? (i := 23) rfl)
theorem kw_13_0 : Cond.selects RX5 yX5_newRow yX5_newRow ∈ wsL_law := inr_13 _ (List.mem_of_getElem? (i := 0) rfl)
theorem kw_13_1 : Cond.code yX5_newRow cX5_newRow 3 (some .int) ∈ wsL_law := inr_13 _ (List.mem_of_getElem? (i := 1) rfl)
theorem kw_13_2 : Cond.fieldLink RX5 86 "ArrayMakerModel" "rows" "I" ∈ wsL_law := inr_13 _ (List.mem_of_getElem? (i := 2) rfl)
theorem kw_13_3 : Cond.fieldLink RX5 89 "ArrayMakerModel" "pooled" "I" ∈ wsL_law := inr_13 _ (List.mem_of_getElem? (i := 3) rfl)
theorem kw_13_4 : Cond.methodLink RL 36 yX4_raw ∈ wsL_law := inr_13 _ (List.mem_of_getElem? (i := 4) rfl)
theorem kw_13_5 : Cond.instanceMethod yX4_raw ∈ wsL_law := inr_13 _ (List.mem_of_getElem? (i := 5) rfl)
theorem kw_13_6 : Cond.selects RX4 yX4_raw yX4_raw ∈ wsL_law := inr_13 _ (List.mem_of_getElem? (i := 6) rfl)
theorem kw_13_7 : Cond.code yX4_raw cX4_raw 4 (some .int) ∈ wsL_law := inr_13 _ (List.mem_of_getElem? (i := 7) rfl)
theorem kw_13_8 : Cond.methodLink RL 39 yX5_raw ∈ wsL_law := inr_13 _ (List.mem_of_getElem? (i := 8) rfl)
theorem kw_13_9 : Cond.instanceMethod yX5_raw ∈ wsL_law := inr_13 _ (List.mem_of_getElem? (i := 9) rfl)
theorem kw_13_10 : Cond.selects RX5 yX5_raw yX5_raw ∈ wsL_law := inr_13 _ (List.mem_of_getElem? (i := 10) rfl)
theorem kw_13_11 : Cond.code yX5_raw cX5_raw 3 (some .int) ∈ wsL_law := inr_13 _ (List.mem_of_getElem? (i := 11) rfl)
theorem kw_13_12 : Cond.constantLong RX5 129 (3) ∈ wsL_law := inr_13 _ (List.mem_of_getElem? (i := 12) rfl)
theorem kw_13_13 : Cond.methodLink RL 40 yX4_see ∈ wsL_law := inr_13 _ (List.mem_of_getElem? (i := 13) rfl)
theorem kw_13_14 : Cond.instanceMethod yX4_see ∈ wsL_law := inr_13 _ (List.mem_of_getElem? (i := 14) rfl)
theorem kw_13_15 : Cond.selects RX4 yX4_see yX4_see ∈ wsL_law := inr_13 _ (List.mem_of_getElem? (i := 15) rfl)
theorem kw_13_16 : Cond.code yX4_see cX4_see 4 (some .int) ∈ wsL_law := inr_13 _ (List.mem_of_getElem? (i := 16) rfl)
theorem kw_13_17 : Cond.methodLink RX4 89 yX4_arrayOf ∈ wsL_law := inr_13 _ (List.mem_of_getElem? (i := 17) rfl)
theorem kw_13_18 : Cond.instanceMethod yX4_arrayOf ∈ wsL_law := inr_13 _ (List.mem_of_getElem? (i := 18) rfl)
theorem kw_13_19 : Cond.selects RX4 yX4_arrayOf yX4_arrayOf ∈ wsL_law := inr_13 _ (List.mem_of_getElem? (i := 19) rfl)
theorem kw_13_20 : Cond.code yX4_arrayOf cX4_arrayOf 2 (some (.object "ArrayMaker$MadeArray")) ∈ wsL_law := inr_13 _ (List.mem_of_getElem? (i := 20) rfl)
theorem kw_13_21 : Cond.methodLink RX4 92 yX4_whyNoRow ∈ wsL_law := inr_13 _ (List.mem_of_getElem? (i := 21) rfl)
theorem kw_13_22 : Cond.instanceMethod yX4_whyNoRow ∈ wsL_law := inr_13 _ (List.mem_of_getElem? (i := 22) rfl)
theorem kw_13_23 : Cond.selects RX4 yX4_whyNoRow yX4_whyNoRow ∈ wsL_law := inr_13 _ (List.mem_of_getElem? (i := 23) rfl)
theorem kw_14_0 : Cond.code yX4_whyNoRow cX4_whyNoRow 2 (some .int) ∈ wsL_law := inr_14 _ (List.mem_of_getElem? (i := 0) rfl)
theorem kw_14_1 : Cond.methodLink RX4 103 yX3_lengthOf ∈ wsL_law := inr_14 _ (List.mem_of_getElem? (i := 1) rfl)
theorem kw_14_2 : Cond.instanceMethod yX3_lengthOf ∈ wsL_law := inr_14 _ (List.mem_of_getElem? (i := 2) rfl)
theorem kw_14_3 : Cond.selects RX3 yX3_lengthOf yX3_lengthOf ∈ wsL_law := inr_14 _ (List.mem_of_getElem? (i := 3) rfl)
theorem kw_14_4 : Cond.code yX3_lengthOf cX3_lengthOf 2 (some .int) ∈ wsL_law := inr_14 _ (List.mem_of_getElem? (i := 4) rfl)
theorem kw_14_5 : Cond.methodLink RL 43 yX5_see ∈ wsL_law := inr_14 _ (List.mem_of_getElem? (i := 5) rfl)
theorem kw_14_6 : Cond.instanceMethod yX5_see ∈ wsL_law := inr_14 _ (List.mem_of_getElem? (i := 6) rfl)
theorem kw_14_7 : Cond.selects RX5 yX5_see yX5_see ∈ wsL_law := inr_14 _ (List.mem_of_getElem? (i := 7) rfl)
theorem kw_14_8 : Cond.code yX5_see cX5_see 4 (some .int) ∈ wsL_law := inr_14 _ (List.mem_of_getElem? (i := 8) rfl)
theorem kw_14_9 : Cond.methodLink RX5 135 yX5_wants ∈ wsL_law := inr_14 _ (List.mem_of_getElem? (i := 9) rfl)
theorem kw_14_10 : Cond.instanceMethod yX5_wants ∈ wsL_law := inr_14 _ (List.mem_of_getElem? (i := 10) rfl)
theorem kw_14_11 : Cond.selects RX5 yX5_wants yX5_wants ∈ wsL_law := inr_14 _ (List.mem_of_getElem? (i := 11) rfl)
theorem kw_14_12 : Cond.code yX5_wants cX5_wants 2 (some .int) ∈ wsL_law := inr_14 _ (List.mem_of_getElem? (i := 12) rfl)
theorem kw_14_13 : Cond.methodLink RX5 131 yX5_isArray ∈ wsL_law := inr_14 _ (List.mem_of_getElem? (i := 13) rfl)
theorem kw_14_14 : Cond.instanceMethod yX5_isArray ∈ wsL_law := inr_14 _ (List.mem_of_getElem? (i := 14) rfl)
theorem kw_14_15 : Cond.selects RX5 yX5_isArray yX5_isArray ∈ wsL_law := inr_14 _ (List.mem_of_getElem? (i := 15) rfl)
theorem kw_14_16 : Cond.code yX5_isArray cX5_isArray 2 (some .boolean) ∈ wsL_law := inr_14 _ (List.mem_of_getElem? (i := 16) rfl)
theorem kw_14_17 : Cond.methodLink RL 44 yX4_turn ∈ wsL_law := inr_14 _ (List.mem_of_getElem? (i := 17) rfl)
theorem kw_14_18 : Cond.instanceMethod yX4_turn ∈ wsL_law := inr_14 _ (List.mem_of_getElem? (i := 18) rfl)
theorem kw_14_19 : Cond.selects RX4 yX4_turn yX4_turn ∈ wsL_law := inr_14 _ (List.mem_of_getElem? (i := 19) rfl)
theorem kw_14_20 : Cond.code yX4_turn cX4_turn 5 (some .int) ∈ wsL_law := inr_14 _ (List.mem_of_getElem? (i := 20) rfl)
theorem kw_14_21 : Cond.methodLink RX4 109 yX4_findTurned ∈ wsL_law := inr_14 _ (List.mem_of_getElem? (i := 21) rfl)
theorem kw_14_22 : Cond.instanceMethod yX4_findTurned ∈ wsL_law := inr_14 _ (List.mem_of_getElem? (i := 22) rfl)
theorem kw_14_23 : Cond.selects RX4 yX4_findTurned yX4_findTurned ∈ wsL_law := inr_14 _ (List.mem_of_getElem? (i := 23) rfl)
theorem kw_15_0 : Cond.code yX4_findTurned cX4_findTurned 10 none ∈ wsL_law := inr_15 _ (List.mem_of_getElem? (i := 0) rfl)
theorem kw_15_1 : Cond.methodLink RX4 127 yX3_startOf ∈ wsL_law := inr_15 _ (List.mem_of_getElem? (i := 1) rfl)
theorem kw_15_2 : Cond.instanceMethod yX3_startOf ∈ wsL_law := inr_15 _ (List.mem_of_getElem? (i := 2) rfl)
theorem kw_15_3 : Cond.selects RX3 yX3_startOf yX3_startOf ∈ wsL_law := inr_15 _ (List.mem_of_getElem? (i := 3) rfl)
theorem kw_15_4 : Cond.code yX3_startOf cX3_startOf 2 (some .int) ∈ wsL_law := inr_15 _ (List.mem_of_getElem? (i := 4) rfl)
theorem kw_15_5 : Cond.methodLink RX4 112 yX2_swapFirstTwo ∈ wsL_law := inr_15 _ (List.mem_of_getElem? (i := 5) rfl)
theorem kw_15_6 : Cond.instanceMethod yX2_swapFirstTwo ∈ wsL_law := inr_15 _ (List.mem_of_getElem? (i := 6) rfl)
theorem kw_15_7 : Cond.selects RX2 yX2_swapFirstTwo yX2_swapFirstTwo ∈ wsL_law := inr_15 _ (List.mem_of_getElem? (i := 7) rfl)
theorem kw_15_8 : Cond.code yX2_swapFirstTwo cX2_swapFirstTwo 3 none ∈ wsL_law := inr_15 _ (List.mem_of_getElem? (i := 8) rfl)
theorem kw_15_9 : Cond.methodLink RX4 115 yX4_copySources ∈ wsL_law := inr_15 _ (List.mem_of_getElem? (i := 9) rfl)
theorem kw_15_10 : Cond.instanceMethod yX4_copySources ∈ wsL_law := inr_15 _ (List.mem_of_getElem? (i := 10) rfl)
theorem kw_15_11 : Cond.selects RX4 yX4_copySources yX4_copySources ∈ wsL_law := inr_15 _ (List.mem_of_getElem? (i := 11) rfl)
theorem kw_15_12 : Cond.code yX4_copySources cX4_copySources 4 none ∈ wsL_law := inr_15 _ (List.mem_of_getElem? (i := 12) rfl)
theorem kw_15_13 : Cond.methodLink RX4 136 yX3_copyCells ∈ wsL_law := inr_15 _ (List.mem_of_getElem? (i := 13) rfl)
theorem kw_15_14 : Cond.instanceMethod yX3_copyCells ∈ wsL_law := inr_15 _ (List.mem_of_getElem? (i := 14) rfl)
theorem kw_15_15 : Cond.selects RX3 yX3_copyCells yX3_copyCells ∈ wsL_law := inr_15 _ (List.mem_of_getElem? (i := 15) rfl)
theorem kw_15_16 : Cond.code yX3_copyCells cX3_copyCells 5 none ∈ wsL_law := inr_15 _ (List.mem_of_getElem? (i := 16) rfl)
theorem kw_15_17 : Cond.methodLink RL 47 yX5_turn ∈ wsL_law := inr_15 _ (List.mem_of_getElem? (i := 17) rfl)
theorem kw_15_18 : Cond.instanceMethod yX5_turn ∈ wsL_law := inr_15 _ (List.mem_of_getElem? (i := 18) rfl)
theorem kw_15_19 : Cond.selects RX5 yX5_turn yX5_turn ∈ wsL_law := inr_15 _ (List.mem_of_getElem? (i := 19) rfl)
theorem kw_15_20 : Cond.code yX5_turn cX5_turn 12 (some .int) ∈ wsL_law := inr_15 _ (List.mem_of_getElem? (i := 20) rfl)
theorem kw_15_21 : Cond.methodLink RX5 138 yX5_copy ∈ wsL_law := inr_15 _ (List.mem_of_getElem? (i := 21) rfl)
theorem kw_15_22 : Cond.instanceMethod yX5_copy ∈ wsL_law := inr_15 _ (List.mem_of_getElem? (i := 22) rfl)
theorem kw_15_23 : Cond.selects RX5 yX5_copy yX5_copy ∈ wsL_law := inr_15 _ (List.mem_of_getElem? (i := 23) rfl)
theorem kw_16_0 : Cond.code yX5_copy cX5_copy 3 none ∈ wsL_law := inr_16 _ (List.mem_of_getElem? (i := 0) rfl)
theorem kw_16_1 : Cond.methodLink RL 48 yX4_cut ∈ wsL_law := inr_16 _ (List.mem_of_getElem? (i := 1) rfl)
theorem kw_16_2 : Cond.instanceMethod yX4_cut ∈ wsL_law := inr_16 _ (List.mem_of_getElem? (i := 2) rfl)
theorem kw_16_3 : Cond.selects RX4 yX4_cut yX4_cut ∈ wsL_law := inr_16 _ (List.mem_of_getElem? (i := 3) rfl)
theorem kw_16_4 : Cond.code yX4_cut cX4_cut 7 (some .int) ∈ wsL_law := inr_16 _ (List.mem_of_getElem? (i := 4) rfl)
theorem kw_16_5 : Cond.methodLink RX4 118 yX4_findCut ∈ wsL_law := inr_16 _ (List.mem_of_getElem? (i := 5) rfl)
theorem kw_16_6 : Cond.instanceMethod yX4_findCut ∈ wsL_law := inr_16 _ (List.mem_of_getElem? (i := 6) rfl)
theorem kw_16_7 : Cond.selects RX4 yX4_findCut yX4_findCut ∈ wsL_law := inr_16 _ (List.mem_of_getElem? (i := 7) rfl)
theorem kw_16_8 : Cond.code yX4_findCut cX4_findCut 11 (some .int) ∈ wsL_law := inr_16 _ (List.mem_of_getElem? (i := 8) rfl)
theorem kw_16_9 : Cond.fieldLink RX4 219 "ArrayMaker$Shape" "low" "[I" ∈ wsL_law := inr_16 _ (List.mem_of_getElem? (i := 9) rfl)
theorem kw_16_10 : Cond.methodLink RX4 244 yX2_firstBeyond ∈ wsL_law := inr_16 _ (List.mem_of_getElem? (i := 10) rfl)
theorem kw_16_11 : Cond.instanceMethod yX2_firstBeyond ∈ wsL_law := inr_16 _ (List.mem_of_getElem? (i := 11) rfl)
theorem kw_16_12 : Cond.selects RX2 yX2_firstBeyond yX2_firstBeyond ∈ wsL_law := inr_16 _ (List.mem_of_getElem? (i := 12) rfl)
theorem kw_16_13 : Cond.code yX2_firstBeyond cX2_firstBeyond 5 (some .int) ∈ wsL_law := inr_16 _ (List.mem_of_getElem? (i := 13) rfl)
theorem kw_16_14 : Cond.methodLink RX2 41 yX2_indexOf ∈ wsL_law := inr_16 _ (List.mem_of_getElem? (i := 14) rfl)
theorem kw_16_15 : Cond.static yX2_indexOf ∈ wsL_law := inr_16 _ (List.mem_of_getElem? (i := 15) rfl)
theorem kw_16_16 : Cond.code yX2_indexOf cX2_indexOf 4 (some .int) ∈ wsL_law := inr_16 _ (List.mem_of_getElem? (i := 16) rfl)
theorem kw_16_17 : Cond.methodLink RX2 45 yX2_holds ∈ wsL_law := inr_16 _ (List.mem_of_getElem? (i := 17) rfl)
theorem kw_16_18 : Cond.instanceMethod yX2_holds ∈ wsL_law := inr_16 _ (List.mem_of_getElem? (i := 18) rfl)
theorem kw_16_19 : Cond.selects RX2 yX2_holds yX2_holds ∈ wsL_law := inr_16 _ (List.mem_of_getElem? (i := 19) rfl)
theorem kw_16_20 : Cond.code yX2_holds cX2_holds 3 (some .boolean) ∈ wsL_law := inr_16 _ (List.mem_of_getElem? (i := 20) rfl)
theorem kw_16_21 : Cond.methodLink RX4 248 yX2_place ∈ wsL_law := inr_16 _ (List.mem_of_getElem? (i := 21) rfl)
theorem kw_16_22 : Cond.instanceMethod yX2_place ∈ wsL_law := inr_16 _ (List.mem_of_getElem? (i := 22) rfl)
theorem kw_16_23 : Cond.selects RX2 yX2_place yX2_place ∈ wsL_law := inr_16 _ (List.mem_of_getElem? (i := 23) rfl)
theorem kw_17_0 : Cond.code yX2_place cX2_place 6 (some .int) ∈ wsL_law := inr_17 _ (List.mem_of_getElem? (i := 0) rfl)
theorem kw_17_1 : Cond.methodLink RX2 49 yX2_offset ∈ wsL_law := inr_17 _ (List.mem_of_getElem? (i := 1) rfl)
theorem kw_17_2 : Cond.instanceMethod yX2_offset ∈ wsL_law := inr_17 _ (List.mem_of_getElem? (i := 2) rfl)
theorem kw_17_3 : Cond.selects RX2 yX2_offset yX2_offset ∈ wsL_law := inr_17 _ (List.mem_of_getElem? (i := 3) rfl)
theorem kw_17_4 : Cond.code yX2_offset cX2_offset 3 (some .int) ∈ wsL_law := inr_17 _ (List.mem_of_getElem? (i := 4) rfl)
theorem kw_17_5 : Cond.methodLink RX4 121 yX4_stopBeyond ∈ wsL_law := inr_17 _ (List.mem_of_getElem? (i := 5) rfl)
theorem kw_17_6 : Cond.instanceMethod yX4_stopBeyond ∈ wsL_law := inr_17 _ (List.mem_of_getElem? (i := 6) rfl)
theorem kw_17_7 : Cond.selects RX4 yX4_stopBeyond yX4_stopBeyond ∈ wsL_law := inr_17 _ (List.mem_of_getElem? (i := 7) rfl)
theorem kw_17_8 : Cond.code yX4_stopBeyond cX4_stopBeyond 2 (some .int) ∈ wsL_law := inr_17 _ (List.mem_of_getElem? (i := 8) rfl)
theorem kw_17_9 : Cond.methodLink RL 51 yX5_cut ∈ wsL_law := inr_17 _ (List.mem_of_getElem? (i := 9) rfl)
theorem kw_17_10 : Cond.instanceMethod yX5_cut ∈ wsL_law := inr_17 _ (List.mem_of_getElem? (i := 10) rfl)
theorem kw_17_11 : Cond.selects RX5 yX5_cut yX5_cut ∈ wsL_law := inr_17 _ (List.mem_of_getElem? (i := 11) rfl)
theorem kw_17_12 : Cond.code yX5_cut cX5_cut 9 (some .int) ∈ wsL_law := inr_17 _ (List.mem_of_getElem? (i := 12) rfl)
theorem kw_17_13 : Cond.fieldLink RX5 142 "ArrayMakerModel" "beyond" "I" ∈ wsL_law := inr_17 _ (List.mem_of_getElem? (i := 13) rfl)
theorem kw_17_14 : Cond.methodLink RX5 145 yX5_index ∈ wsL_law := inr_17 _ (List.mem_of_getElem? (i := 14) rfl)
theorem kw_17_15 : Cond.static yX5_index ∈ wsL_law := inr_17 _ (List.mem_of_getElem? (i := 15) rfl)
theorem kw_17_16 : Cond.code yX5_index cX5_index 2 (some .int) ∈ wsL_law := inr_17 _ (List.mem_of_getElem? (i := 16) rfl)
theorem kw_17_17 : Cond.methodLink RX5 148 yX5_placeOf ∈ wsL_law := inr_17 _ (List.mem_of_getElem? (i := 17) rfl)
theorem kw_17_18 : Cond.instanceMethod yX5_placeOf ∈ wsL_law := inr_17 _ (List.mem_of_getElem? (i := 18) rfl)
theorem kw_17_19 : Cond.selects RX5 yX5_placeOf yX5_placeOf ∈ wsL_law := inr_17 _ (List.mem_of_getElem? (i := 19) rfl)
theorem kw_17_20 : Cond.code yX5_placeOf cX5_placeOf 9 (some .int) ∈ wsL_law := inr_17 _ (List.mem_of_getElem? (i := 20) rfl)
theorem kw_17_21 : Cond.methodLink RX5 152 yX5_noItem ∈ wsL_law := inr_17 _ (List.mem_of_getElem? (i := 21) rfl)
theorem kw_17_22 : Cond.instanceMethod yX5_noItem ∈ wsL_law := inr_17 _ (List.mem_of_getElem? (i := 22) rfl)
theorem kw_17_23 : Cond.selects RX5 yX5_noItem yX5_noItem ∈ wsL_law := inr_17 _ (List.mem_of_getElem? (i := 23) rfl)
theorem kw_18_0 : Cond.code yX5_noItem cX5_noItem 2 (some .int) ∈ wsL_law := inr_18 _ (List.mem_of_getElem? (i := 0) rfl)
theorem kw_18_1 : Cond.methodLink RL 52 yX4_deep ∈ wsL_law := inr_18 _ (List.mem_of_getElem? (i := 1) rfl)
theorem kw_18_2 : Cond.instanceMethod yX4_deep ∈ wsL_law := inr_18 _ (List.mem_of_getElem? (i := 2) rfl)
theorem kw_18_3 : Cond.selects RX4 yX4_deep yX4_deep ∈ wsL_law := inr_18 _ (List.mem_of_getElem? (i := 3) rfl)
theorem kw_18_4 : Cond.code yX4_deep cX4_deep 8 (some .int) ∈ wsL_law := inr_18 _ (List.mem_of_getElem? (i := 4) rfl)
theorem kw_18_5 : Cond.methodLink RX4 124 yX4_whyNotDeep ∈ wsL_law := inr_18 _ (List.mem_of_getElem? (i := 5) rfl)
theorem kw_18_6 : Cond.instanceMethod yX4_whyNotDeep ∈ wsL_law := inr_18 _ (List.mem_of_getElem? (i := 6) rfl)
theorem kw_18_7 : Cond.selects RX4 yX4_whyNotDeep yX4_whyNotDeep ∈ wsL_law := inr_18 _ (List.mem_of_getElem? (i := 7) rfl)
theorem kw_18_8 : Cond.code yX4_whyNotDeep cX4_whyNotDeep 3 (some .int) ∈ wsL_law := inr_18 _ (List.mem_of_getElem? (i := 8) rfl)
theorem kw_18_9 : Cond.methodLink RL 55 yX5_deep ∈ wsL_law := inr_18 _ (List.mem_of_getElem? (i := 9) rfl)
theorem kw_18_10 : Cond.instanceMethod yX5_deep ∈ wsL_law := inr_18 _ (List.mem_of_getElem? (i := 10) rfl)
theorem kw_18_11 : Cond.selects RX5 yX5_deep yX5_deep ∈ wsL_law := inr_18 _ (List.mem_of_getElem? (i := 11) rfl)
theorem kw_18_12 : Cond.code yX5_deep cX5_deep 6 (some .int) ∈ wsL_law := inr_18 _ (List.mem_of_getElem? (i := 12) rfl)
theorem kw_18_13 : Cond.methodLink RL 56 yX4_flat ∈ wsL_law := inr_18 _ (List.mem_of_getElem? (i := 13) rfl)
theorem kw_18_14 : Cond.instanceMethod yX4_flat ∈ wsL_law := inr_18 _ (List.mem_of_getElem? (i := 14) rfl)
theorem kw_18_15 : Cond.selects RX4 yX4_flat yX4_flat ∈ wsL_law := inr_18 _ (List.mem_of_getElem? (i := 15) rfl)
theorem kw_18_16 : Cond.code yX4_flat cX4_flat 8 (some .int) ∈ wsL_law := inr_18 _ (List.mem_of_getElem? (i := 16) rfl)
theorem kw_18_17 : Cond.methodLink RX4 140 yX4_whyNotFlat ∈ wsL_law := inr_18 _ (List.mem_of_getElem? (i := 17) rfl)
theorem kw_18_18 : Cond.instanceMethod yX4_whyNotFlat ∈ wsL_law := inr_18 _ (List.mem_of_getElem? (i := 18) rfl)
theorem kw_18_19 : Cond.selects RX4 yX4_whyNotFlat yX4_whyNotFlat ∈ wsL_law := inr_18 _ (List.mem_of_getElem? (i := 19) rfl)
theorem kw_18_20 : Cond.code yX4_whyNotFlat cX4_whyNotFlat 6 (some .int) ∈ wsL_law := inr_18 _ (List.mem_of_getElem? (i := 20) rfl)
theorem kw_18_21 : Cond.methodLink RL 59 yX5_flat ∈ wsL_law := inr_18 _ (List.mem_of_getElem? (i := 21) rfl)
theorem kw_18_22 : Cond.instanceMethod yX5_flat ∈ wsL_law := inr_18 _ (List.mem_of_getElem? (i := 22) rfl)
theorem kw_18_23 : Cond.selects RX5 yX5_flat yX5_flat ∈ wsL_law := inr_18 _ (List.mem_of_getElem? (i := 23) rfl)
theorem kw_19_0 : Cond.code yX5_flat cX5_flat 9 (some .int) ∈ wsL_law := inr_19 _ (List.mem_of_getElem? (i := 0) rfl)
theorem kw_19_1 : Cond.methodLink RX5 155 yX5_tableRows ∈ wsL_law := inr_19 _ (List.mem_of_getElem? (i := 1) rfl)
theorem kw_19_2 : Cond.instanceMethod yX5_tableRows ∈ wsL_law := inr_19 _ (List.mem_of_getElem? (i := 2) rfl)
theorem kw_19_3 : Cond.selects RX5 yX5_tableRows yX5_tableRows ∈ wsL_law := inr_19 _ (List.mem_of_getElem? (i := 3) rfl)
theorem kw_19_4 : Cond.code yX5_tableRows cX5_tableRows 2 (some .int) ∈ wsL_law := inr_19 _ (List.mem_of_getElem? (i := 4) rfl)
theorem kw_19_5 : Cond.methodLink RL 60 yX4_ragged ∈ wsL_law := inr_19 _ (List.mem_of_getElem? (i := 5) rfl)
theorem kw_19_6 : Cond.instanceMethod yX4_ragged ∈ wsL_law := inr_19 _ (List.mem_of_getElem? (i := 6) rfl)
theorem kw_19_7 : Cond.selects RX4 yX4_ragged yX4_ragged ∈ wsL_law := inr_19 _ (List.mem_of_getElem? (i := 7) rfl)
theorem kw_19_8 : Cond.code yX4_ragged cX4_ragged 6 (some .int) ∈ wsL_law := inr_19 _ (List.mem_of_getElem? (i := 8) rfl)
theorem kw_19_9 : Cond.methodLink RX4 143 yX4_whyNoTableRow ∈ wsL_law := inr_19 _ (List.mem_of_getElem? (i := 9) rfl)
theorem kw_19_10 : Cond.instanceMethod yX4_whyNoTableRow ∈ wsL_law := inr_19 _ (List.mem_of_getElem? (i := 10) rfl)
theorem kw_19_11 : Cond.selects RX4 yX4_whyNoTableRow yX4_whyNoTableRow ∈ wsL_law := inr_19 _ (List.mem_of_getElem? (i := 11) rfl)
theorem kw_19_12 : Cond.code yX4_whyNoTableRow cX4_whyNoTableRow 3 (some .int) ∈ wsL_law := inr_19 _ (List.mem_of_getElem? (i := 12) rfl)
theorem kw_19_13 : Cond.methodLink RX4 158 yX2_holds ∈ wsL_law := inr_19 _ (List.mem_of_getElem? (i := 13) rfl)
theorem kw_19_14 : Cond.methodLink RX4 150 yX2_offset ∈ wsL_law := inr_19 _ (List.mem_of_getElem? (i := 14) rfl)
theorem kw_19_15 : Cond.methodLink RL 64 yX5_ragged ∈ wsL_law := inr_19 _ (List.mem_of_getElem? (i := 15) rfl)
theorem kw_19_16 : Cond.instanceMethod yX5_ragged ∈ wsL_law := inr_19 _ (List.mem_of_getElem? (i := 16) rfl)
theorem kw_19_17 : Cond.selects RX5 yX5_ragged yX5_ragged ∈ wsL_law := inr_19 _ (List.mem_of_getElem? (i := 17) rfl)
theorem kw_19_18 : Cond.code yX5_ragged cX5_ragged 5 (some .int) ∈ wsL_law := inr_19 _ (List.mem_of_getElem? (i := 18) rfl)
theorem kw_19_19 : Cond.methodLink RX5 158 yX5_wantsRow ∈ wsL_law := inr_19 _ (List.mem_of_getElem? (i := 19) rfl)
theorem kw_19_20 : Cond.instanceMethod yX5_wantsRow ∈ wsL_law := inr_19 _ (List.mem_of_getElem? (i := 20) rfl)
theorem kw_19_21 : Cond.selects RX5 yX5_wantsRow yX5_wantsRow ∈ wsL_law := inr_19 _ (List.mem_of_getElem? (i := 21) rfl)
theorem kw_19_22 : Cond.code yX5_wantsRow cX5_wantsRow 3 (some .int) ∈ wsL_law := inr_19 _ (List.mem_of_getElem? (i := 22) rfl)
theorem kw_19_23 : Cond.methodLink RX5 161 yX5_slotOf ∈ wsL_law := inr_19 _ (List.mem_of_getElem? (i := 23) rfl)
theorem kw_20_0 : Cond.instanceMethod yX5_slotOf ∈ wsL_law := inr_20 _ (List.mem_of_getElem? (i := 0) rfl)
theorem kw_20_1 : Cond.selects RX5 yX5_slotOf yX5_slotOf ∈ wsL_law := inr_20 _ (List.mem_of_getElem? (i := 1) rfl)
theorem kw_20_2 : Cond.code yX5_slotOf cX5_slotOf 3 (some .int) ∈ wsL_law := inr_20 _ (List.mem_of_getElem? (i := 2) rfl)
theorem kw_20_3 : Cond.methodLink RL 65 yX4_without ∈ wsL_law := inr_20 _ (List.mem_of_getElem? (i := 3) rfl)
theorem kw_20_4 : Cond.instanceMethod yX4_without ∈ wsL_law := inr_20 _ (List.mem_of_getElem? (i := 4) rfl)
theorem kw_20_5 : Cond.selects RX4 yX4_without yX4_without ∈ wsL_law := inr_20 _ (List.mem_of_getElem? (i := 5) rfl)
theorem kw_20_6 : Cond.code yX4_without cX4_without 5 (some .int) ∈ wsL_law := inr_20 _ (List.mem_of_getElem? (i := 6) rfl)
theorem kw_20_7 : Cond.methodLink RL 68 yX5_without ∈ wsL_law := inr_20 _ (List.mem_of_getElem? (i := 7) rfl)
theorem kw_20_8 : Cond.instanceMethod yX5_without ∈ wsL_law := inr_20 _ (List.mem_of_getElem? (i := 8) rfl)
theorem kw_20_9 : Cond.selects RX5 yX5_without yX5_without ∈ wsL_law := inr_20 _ (List.mem_of_getElem? (i := 9) rfl)
theorem kw_20_10 : Cond.code yX5_without cX5_without 4 (some .int) ∈ wsL_law := inr_20 _ (List.mem_of_getElem? (i := 10) rfl)
theorem kw_20_11 : Cond.methodLink RL 69 yX4_tie ∈ wsL_law := inr_20 _ (List.mem_of_getElem? (i := 11) rfl)
theorem kw_20_12 : Cond.instanceMethod yX4_tie ∈ wsL_law := inr_20 _ (List.mem_of_getElem? (i := 12) rfl)
theorem kw_20_13 : Cond.selects RX4 yX4_tie yX4_tie ∈ wsL_law := inr_20 _ (List.mem_of_getElem? (i := 13) rfl)
theorem kw_20_14 : Cond.code yX4_tie cX4_tie 7 (some .int) ∈ wsL_law := inr_20 _ (List.mem_of_getElem? (i := 14) rfl)
theorem kw_20_15 : Cond.methodLink RL 73 yX5_tie ∈ wsL_law := inr_20 _ (List.mem_of_getElem? (i := 15) rfl)
theorem kw_20_16 : Cond.instanceMethod yX5_tie ∈ wsL_law := inr_20 _ (List.mem_of_getElem? (i := 16) rfl)
theorem kw_20_17 : Cond.selects RX5 yX5_tie yX5_tie ∈ wsL_law := inr_20 _ (List.mem_of_getElem? (i := 17) rfl)
theorem kw_20_18 : Cond.code yX5_tie cX5_tie 5 (some .int) ∈ wsL_law := inr_20 _ (List.mem_of_getElem? (i := 18) rfl)
theorem kw_20_19 : Cond.methodLink RL 74 yX4_get ∈ wsL_law := inr_20 _ (List.mem_of_getElem? (i := 19) rfl)
theorem kw_20_20 : Cond.instanceMethod yX4_get ∈ wsL_law := inr_20 _ (List.mem_of_getElem? (i := 20) rfl)
theorem kw_20_21 : Cond.selects RX4 yX4_get yX4_get ∈ wsL_law := inr_20 _ (List.mem_of_getElem? (i := 21) rfl)
theorem kw_20_22 : Cond.code yX4_get cX4_get 6 (some .long) ∈ wsL_law := inr_20 _ (List.mem_of_getElem? (i := 22) rfl)
theorem kw_20_23 : Cond.fieldLink RX4 165 "ArrayMaker$Store" "filled" "[Z" ∈ wsL_law := inr_20 _ (List.mem_of_getElem? (i := 23) rfl)
theorem kw_21_0 : Cond.fieldLink RX4 169 "ArrayMaker$Store" "numbers" "[J" ∈ wsL_law := inr_21 _ (List.mem_of_getElem? (i := 0) rfl)
theorem kw_21_1 : Cond.methodLink RX4 161 yX4_cellOf ∈ wsL_law := inr_21 _ (List.mem_of_getElem? (i := 1) rfl)
theorem kw_21_2 : Cond.instanceMethod yX4_cellOf ∈ wsL_law := inr_21 _ (List.mem_of_getElem? (i := 2) rfl)
theorem kw_21_3 : Cond.selects RX4 yX4_cellOf yX4_cellOf ∈ wsL_law := inr_21 _ (List.mem_of_getElem? (i := 3) rfl)
theorem kw_21_4 : Cond.code yX4_cellOf cX4_cellOf 6 (some .int) ∈ wsL_law := inr_21 _ (List.mem_of_getElem? (i := 4) rfl)
theorem kw_21_5 : Cond.methodLink RX4 251 yX4_tableCellOf ∈ wsL_law := inr_21 _ (List.mem_of_getElem? (i := 5) rfl)
theorem kw_21_6 : Cond.instanceMethod yX4_tableCellOf ∈ wsL_law := inr_21 _ (List.mem_of_getElem? (i := 6) rfl)
theorem kw_21_7 : Cond.selects RX4 yX4_tableCellOf yX4_tableCellOf ∈ wsL_law := inr_21 _ (List.mem_of_getElem? (i := 7) rfl)
theorem kw_21_8 : Cond.code yX4_tableCellOf cX4_tableCellOf 7 (some .int) ∈ wsL_law := inr_21 _ (List.mem_of_getElem? (i := 8) rfl)
theorem kw_21_9 : Cond.methodLink RL 78 yX5_get ∈ wsL_law := inr_21 _ (List.mem_of_getElem? (i := 9) rfl)
theorem kw_21_10 : Cond.instanceMethod yX5_get ∈ wsL_law := inr_21 _ (List.mem_of_getElem? (i := 10) rfl)
theorem kw_21_11 : Cond.selects RX5 yX5_get yX5_get ∈ wsL_law := inr_21 _ (List.mem_of_getElem? (i := 11) rfl)
theorem kw_21_12 : Cond.code yX5_get cX5_get 6 (some .long) ∈ wsL_law := inr_21 _ (List.mem_of_getElem? (i := 12) rfl)
theorem kw_21_13 : Cond.methodLink RX5 164 yX5_find ∈ wsL_law := inr_21 _ (List.mem_of_getElem? (i := 13) rfl)
theorem kw_21_14 : Cond.instanceMethod yX5_find ∈ wsL_law := inr_21 _ (List.mem_of_getElem? (i := 14) rfl)
theorem kw_21_15 : Cond.selects RX5 yX5_find yX5_find ∈ wsL_law := inr_21 _ (List.mem_of_getElem? (i := 15) rfl)
theorem kw_21_16 : Cond.code yX5_find cX5_find 9 (some .int) ∈ wsL_law := inr_21 _ (List.mem_of_getElem? (i := 16) rfl)
theorem kw_21_17 : Cond.methodLink RL 81 yX4_put ∈ wsL_law := inr_21 _ (List.mem_of_getElem? (i := 17) rfl)
theorem kw_21_18 : Cond.instanceMethod yX4_put ∈ wsL_law := inr_21 _ (List.mem_of_getElem? (i := 18) rfl)
theorem kw_21_19 : Cond.selects RX4 yX4_put yX4_put ∈ wsL_law := inr_21 _ (List.mem_of_getElem? (i := 19) rfl)
theorem kw_21_20 : Cond.code yX4_put cX4_put 9 (some .int) ∈ wsL_law := inr_21 _ (List.mem_of_getElem? (i := 20) rfl)
theorem kw_21_21 : Cond.methodLink RX4 173 yX4_fitted ∈ wsL_law := inr_21 _ (List.mem_of_getElem? (i := 21) rfl)
theorem kw_21_22 : Cond.static yX4_fitted ∈ wsL_law := inr_21 _ (List.mem_of_getElem? (i := 22) rfl)
theorem kw_21_23 : Cond.code yX4_fitted cX4_fitted 3 (some .long) ∈ wsL_law := inr_21 _ (List.mem_of_getElem? (i := 23) rfl)
theorem kw_22_0 : Cond.methodLink RX4 177 yX3_fill ∈ wsL_law := inr_22 _ (List.mem_of_getElem? (i := 0) rfl)
theorem kw_22_1 : Cond.instanceMethod yX3_fill ∈ wsL_law := inr_22 _ (List.mem_of_getElem? (i := 1) rfl)
theorem kw_22_2 : Cond.selects RX3 yX3_fill yX3_fill ∈ wsL_law := inr_22 _ (List.mem_of_getElem? (i := 2) rfl)
theorem kw_22_3 : Cond.code yX3_fill cX3_fill 4 none ∈ wsL_law := inr_22 _ (List.mem_of_getElem? (i := 3) rfl)
theorem kw_22_4 : Cond.methodLink RL 85 yX5_put ∈ wsL_law := inr_22 _ (List.mem_of_getElem? (i := 4) rfl)
theorem kw_22_5 : Cond.instanceMethod yX5_put ∈ wsL_law := inr_22 _ (List.mem_of_getElem? (i := 5) rfl)
theorem kw_22_6 : Cond.selects RX5 yX5_put yX5_put ∈ wsL_law := inr_22 _ (List.mem_of_getElem? (i := 6) rfl)
theorem kw_22_7 : Cond.code yX5_put cX5_put 8 (some .int) ∈ wsL_law := inr_22 _ (List.mem_of_getElem? (i := 7) rfl)
theorem kw_22_8 : Cond.methodLink RX5 171 yX5_lay ∈ wsL_law := inr_22 _ (List.mem_of_getElem? (i := 8) rfl)
theorem kw_22_9 : Cond.instanceMethod yX5_lay ∈ wsL_law := inr_22 _ (List.mem_of_getElem? (i := 9) rfl)
theorem kw_22_10 : Cond.selects RX5 yX5_lay yX5_lay ∈ wsL_law := inr_22 _ (List.mem_of_getElem? (i := 10) rfl)
theorem kw_22_11 : Cond.code yX5_lay cX5_lay 5 none ∈ wsL_law := inr_22 _ (List.mem_of_getElem? (i := 11) rfl)
theorem kw_22_12 : Cond.methodLink RX5 167 yX5_as ∈ wsL_law := inr_22 _ (List.mem_of_getElem? (i := 12) rfl)
theorem kw_22_13 : Cond.static yX5_as ∈ wsL_law := inr_22 _ (List.mem_of_getElem? (i := 13) rfl)
theorem kw_22_14 : Cond.code yX5_as cX5_as 5 (some .long) ∈ wsL_law := inr_22 _ (List.mem_of_getElem? (i := 14) rfl)
theorem kw_22_15 : Cond.constantLong RX5 92 (255) ∈ wsL_law := inr_22 _ (List.mem_of_getElem? (i := 15) rfl)
theorem kw_22_16 : Cond.constantLong RX5 94 (127) ∈ wsL_law := inr_22 _ (List.mem_of_getElem? (i := 16) rfl)
theorem kw_22_17 : Cond.constantLong RX5 96 (256) ∈ wsL_law := inr_22 _ (List.mem_of_getElem? (i := 17) rfl)
theorem kw_22_18 : Cond.methodLink RL 86 yX4_empty ∈ wsL_law := inr_22 _ (List.mem_of_getElem? (i := 18) rfl)
theorem kw_22_19 : Cond.instanceMethod yX4_empty ∈ wsL_law := inr_22 _ (List.mem_of_getElem? (i := 19) rfl)
theorem kw_22_20 : Cond.selects RX4 yX4_empty yX4_empty ∈ wsL_law := inr_22 _ (List.mem_of_getElem? (i := 20) rfl)
theorem kw_22_21 : Cond.code yX4_empty cX4_empty 7 (some .int) ∈ wsL_law := inr_22 _ (List.mem_of_getElem? (i := 21) rfl)
theorem kw_22_22 : Cond.methodLink RX4 181 yX3_drain ∈ wsL_law := inr_22 _ (List.mem_of_getElem? (i := 22) rfl)
theorem kw_22_23 : Cond.instanceMethod yX3_drain ∈ wsL_law := inr_22 _ (List.mem_of_getElem? (i := 23) rfl)
theorem kw_23_0 : Cond.selects RX3 yX3_drain yX3_drain ∈ wsL_law := inr_23 _ (List.mem_of_getElem? (i := 0) rfl)
theorem kw_23_1 : Cond.code yX3_drain cX3_drain 2 none ∈ wsL_law := inr_23 _ (List.mem_of_getElem? (i := 1) rfl)
theorem kw_23_2 : Cond.methodLink RL 89 yX5_empty ∈ wsL_law := inr_23 _ (List.mem_of_getElem? (i := 2) rfl)
theorem kw_23_3 : Cond.instanceMethod yX5_empty ∈ wsL_law := inr_23 _ (List.mem_of_getElem? (i := 3) rfl)
theorem kw_23_4 : Cond.selects RX5 yX5_empty yX5_empty ∈ wsL_law := inr_23 _ (List.mem_of_getElem? (i := 4) rfl)
theorem kw_23_5 : Cond.code yX5_empty cX5_empty 6 (some .int) ∈ wsL_law := inr_23 _ (List.mem_of_getElem? (i := 5) rfl)
theorem kw_23_6 : Cond.methodLink RL 90 yX4_pair ∈ wsL_law := inr_23 _ (List.mem_of_getElem? (i := 6) rfl)
theorem kw_23_7 : Cond.instanceMethod yX4_pair ∈ wsL_law := inr_23 _ (List.mem_of_getElem? (i := 7) rfl)
theorem kw_23_8 : Cond.selects RX4 yX4_pair yX4_pair ∈ wsL_law := inr_23 _ (List.mem_of_getElem? (i := 8) rfl)
theorem kw_23_9 : Cond.code yX4_pair cX4_pair 6 (some .int) ∈ wsL_law := inr_23 _ (List.mem_of_getElem? (i := 9) rfl)
theorem kw_23_10 : Cond.fieldLink RX4 185 "ArrayMaker$Lines" "count" "I" ∈ wsL_law := inr_23 _ (List.mem_of_getElem? (i := 10) rfl)
theorem kw_23_11 : Cond.methodLink RX4 186 yX0_add ∈ wsL_law := inr_23 _ (List.mem_of_getElem? (i := 11) rfl)
theorem kw_23_12 : Cond.instanceMethod yX0_add ∈ wsL_law := inr_23 _ (List.mem_of_getElem? (i := 12) rfl)
theorem kw_23_13 : Cond.selects RX0 yX0_add yX0_add ∈ wsL_law := inr_23 _ (List.mem_of_getElem? (i := 13) rfl)
theorem kw_23_14 : Cond.code yX0_add cX0_add 6 none ∈ wsL_law := inr_23 _ (List.mem_of_getElem? (i := 14) rfl)
theorem kw_23_15 : Cond.fieldLink RX0 25 "ArrayMaker$Lines" "count" "I" ∈ wsL_law := inr_23 _ (List.mem_of_getElem? (i := 15) rfl)
theorem kw_23_16 : Cond.methodLink RL 94 yX5_pair ∈ wsL_law := inr_23 _ (List.mem_of_getElem? (i := 16) rfl)
theorem kw_23_17 : Cond.instanceMethod yX5_pair ∈ wsL_law := inr_23 _ (List.mem_of_getElem? (i := 17) rfl)
theorem kw_23_18 : Cond.selects RX5 yX5_pair yX5_pair ∈ wsL_law := inr_23 _ (List.mem_of_getElem? (i := 18) rfl)
theorem kw_23_19 : Cond.code yX5_pair cX5_pair 6 (some .int) ∈ wsL_law := inr_23 _ (List.mem_of_getElem? (i := 19) rfl)
theorem kw_23_20 : Cond.fieldLink RX5 175 "ArrayMakerModel" "lines" "I" ∈ wsL_law := inr_23 _ (List.mem_of_getElem? (i := 20) rfl)
theorem kw_23_21 : Cond.methodLink RL 95 yX4_gather ∈ wsL_law := inr_23 _ (List.mem_of_getElem? (i := 21) rfl)
theorem kw_23_22 : Cond.instanceMethod yX4_gather ∈ wsL_law := inr_23 _ (List.mem_of_getElem? (i := 22) rfl)
theorem kw_23_23 : Cond.selects RX4 yX4_gather yX4_gather ∈ wsL_law := inr_23 _ (List.mem_of_getElem? (i := 23) rfl)
theorem kw_24_0 : Cond.code yX4_gather cX4_gather 7 (some .int) ∈ wsL_law := inr_24 _ (List.mem_of_getElem? (i := 0) rfl)
theorem kw_24_1 : Cond.fieldLink RX4 189 "ArrayMaker$Lines" "i" "[I" ∈ wsL_law := inr_24 _ (List.mem_of_getElem? (i := 1) rfl)
theorem kw_24_2 : Cond.fieldLink RX4 192 "ArrayMaker$Lines" "j" "[I" ∈ wsL_law := inr_24 _ (List.mem_of_getElem? (i := 2) rfl)
theorem kw_24_3 : Cond.fieldLink RX4 195 "ArrayMaker$Lines" "k" "[I" ∈ wsL_law := inr_24 _ (List.mem_of_getElem? (i := 3) rfl)
theorem kw_24_4 : Cond.fieldLink RX4 198 "ArrayMaker$Lines" "v" "[J" ∈ wsL_law := inr_24 _ (List.mem_of_getElem? (i := 4) rfl)
theorem kw_24_5 : Cond.methodLink RX4 201 yX4_joinCell ∈ wsL_law := inr_24 _ (List.mem_of_getElem? (i := 5) rfl)
theorem kw_24_6 : Cond.instanceMethod yX4_joinCell ∈ wsL_law := inr_24 _ (List.mem_of_getElem? (i := 6) rfl)
theorem kw_24_7 : Cond.selects RX4 yX4_joinCell yX4_joinCell ∈ wsL_law := inr_24 _ (List.mem_of_getElem? (i := 7) rfl)
theorem kw_24_8 : Cond.code yX4_joinCell cX4_joinCell 6 (some .boolean) ∈ wsL_law := inr_24 _ (List.mem_of_getElem? (i := 8) rfl)
theorem kw_24_9 : Cond.methodLink RX4 255 yX4_joined ∈ wsL_law := inr_24 _ (List.mem_of_getElem? (i := 9) rfl)
theorem kw_24_10 : Cond.static yX4_joined ∈ wsL_law := inr_24 _ (List.mem_of_getElem? (i := 10) rfl)
theorem kw_24_11 : Cond.code yX4_joined cX4_joined 5 (some .long) ∈ wsL_law := inr_24 _ (List.mem_of_getElem? (i := 11) rfl)
theorem kw_24_12 : Cond.methodLink RX4 259 Lib.MathLoose.max_long.x ∈ wsL_law := inr_24 _ (List.mem_of_getElem? (i := 12) rfl)
theorem kw_24_13 : Cond.methodLink RX4 265 Lib.MathLoose.min_long.x ∈ wsL_law := inr_24 _ (List.mem_of_getElem? (i := 13) rfl)
theorem kw_24_14 : Cond.methodLink RL 98 yX5_gather ∈ wsL_law := inr_24 _ (List.mem_of_getElem? (i := 14) rfl)
theorem kw_24_15 : Cond.instanceMethod yX5_gather ∈ wsL_law := inr_24 _ (List.mem_of_getElem? (i := 15) rfl)
theorem kw_24_16 : Cond.selects RX5 yX5_gather yX5_gather ∈ wsL_law := inr_24 _ (List.mem_of_getElem? (i := 16) rfl)
theorem kw_24_17 : Cond.code yX5_gather cX5_gather 6 (some .int) ∈ wsL_law := inr_24 _ (List.mem_of_getElem? (i := 17) rfl)
theorem kw_24_18 : Cond.constantLong RX5 180 (5) ∈ wsL_law := inr_24 _ (List.mem_of_getElem? (i := 18) rfl)
theorem kw_24_19 : Cond.methodLink RX5 182 yX5_joins ∈ wsL_law := inr_24 _ (List.mem_of_getElem? (i := 19) rfl)
theorem kw_24_20 : Cond.instanceMethod yX5_joins ∈ wsL_law := inr_24 _ (List.mem_of_getElem? (i := 20) rfl)
theorem kw_24_21 : Cond.selects RX5 yX5_joins yX5_joins ∈ wsL_law := inr_24 _ (List.mem_of_getElem? (i := 21) rfl)
theorem kw_24_22 : Cond.code yX5_joins cX5_joins 10 (some .boolean) ∈ wsL_law := inr_24 _ (List.mem_of_getElem? (i := 22) rfl)
theorem kw_24_23 : Cond.constantLong RX5 178 (-1) ∈ wsL_law := inr_24 _ (List.mem_of_getElem? (i := 23) rfl)
theorem kw_25_0 : Cond.methodLink RL 99 yX4_join ∈ wsL_law := inr_25 _ (List.mem_of_getElem? (i := 0) rfl)
theorem kw_25_1 : Cond.instanceMethod yX4_join ∈ wsL_law := inr_25 _ (List.mem_of_getElem? (i := 1) rfl)
theorem kw_25_2 : Cond.selects RX4 yX4_join yX4_join ∈ wsL_law := inr_25 _ (List.mem_of_getElem? (i := 2) rfl)
theorem kw_25_3 : Cond.code yX4_join cX4_join 11 (some .int) ∈ wsL_law := inr_25 _ (List.mem_of_getElem? (i := 3) rfl)
theorem kw_25_4 : Cond.methodLink RX4 208 yX4_whyNotJoined ∈ wsL_law := inr_25 _ (List.mem_of_getElem? (i := 4) rfl)
theorem kw_25_5 : Cond.instanceMethod yX4_whyNotJoined ∈ wsL_law := inr_25 _ (List.mem_of_getElem? (i := 5) rfl)
theorem kw_25_6 : Cond.selects RX4 yX4_whyNotJoined yX4_whyNotJoined ∈ wsL_law := inr_25 _ (List.mem_of_getElem? (i := 6) rfl)
theorem kw_25_7 : Cond.code yX4_whyNotJoined cX4_whyNotJoined 3 (some .int) ∈ wsL_law := inr_25 _ (List.mem_of_getElem? (i := 7) rfl)
theorem kw_25_8 : Cond.methodLink RL 102 yX5_join ∈ wsL_law := inr_25 _ (List.mem_of_getElem? (i := 8) rfl)
theorem kw_25_9 : Cond.instanceMethod yX5_join ∈ wsL_law := inr_25 _ (List.mem_of_getElem? (i := 9) rfl)
theorem kw_25_10 : Cond.selects RX5 yX5_join yX5_join ∈ wsL_law := inr_25 _ (List.mem_of_getElem? (i := 10) rfl)
theorem kw_25_11 : Cond.code yX5_join cX5_join 8 (some .int) ∈ wsL_law := inr_25 _ (List.mem_of_getElem? (i := 11) rfl)
theorem kw_25_12 : Cond.methodLink RL 103 yX4_sum ∈ wsL_law := inr_25 _ (List.mem_of_getElem? (i := 12) rfl)
theorem kw_25_13 : Cond.instanceMethod yX4_sum ∈ wsL_law := inr_25 _ (List.mem_of_getElem? (i := 13) rfl)
theorem kw_25_14 : Cond.selects RX4 yX4_sum yX4_sum ∈ wsL_law := inr_25 _ (List.mem_of_getElem? (i := 14) rfl)
theorem kw_25_15 : Cond.code yX4_sum cX4_sum 6 (some .long) ∈ wsL_law := inr_25 _ (List.mem_of_getElem? (i := 15) rfl)
theorem kw_25_16 : Cond.methodLink RX4 212 yX3_totalOf ∈ wsL_law := inr_25 _ (List.mem_of_getElem? (i := 16) rfl)
theorem kw_25_17 : Cond.instanceMethod yX3_totalOf ∈ wsL_law := inr_25 _ (List.mem_of_getElem? (i := 17) rfl)
theorem kw_25_18 : Cond.selects RX3 yX3_totalOf yX3_totalOf ∈ wsL_law := inr_25 _ (List.mem_of_getElem? (i := 18) rfl)
theorem kw_25_19 : Cond.code yX3_totalOf cX3_totalOf 5 (some .long) ∈ wsL_law := inr_25 _ (List.mem_of_getElem? (i := 19) rfl)
theorem kw_25_20 : Cond.methodLink RX3 60 yX3_lengthOf ∈ wsL_law := inr_25 _ (List.mem_of_getElem? (i := 20) rfl)
theorem kw_25_21 : Cond.methodLink RX3 64 yX3_startOf ∈ wsL_law := inr_25 _ (List.mem_of_getElem? (i := 21) rfl)
theorem kw_25_22 : Cond.methodLink RL 107 yX5_sum ∈ wsL_law := inr_25 _ (List.mem_of_getElem? (i := 22) rfl)
theorem kw_25_23 : Cond.instanceMethod yX5_sum ∈ wsL_law := inr_25 _ (List.mem_of_getElem? (i := 23) rfl)
theorem kw_26_0 : Cond.selects RX5 yX5_sum yX5_sum ∈ wsL_law := inr_26 _ (List.mem_of_getElem? (i := 0) rfl)
theorem kw_26_1 : Cond.code yX5_sum cX5_sum 6 (some .long) ∈ wsL_law := inr_26 _ (List.mem_of_getElem? (i := 1) rfl)
theorem kw_26_2 : Cond.methodLink RX5 186 yX5_sumOf ∈ wsL_law := inr_26 _ (List.mem_of_getElem? (i := 2) rfl)
theorem kw_26_3 : Cond.instanceMethod yX5_sumOf ∈ wsL_law := inr_26 _ (List.mem_of_getElem? (i := 3) rfl)
theorem kw_26_4 : Cond.selects RX5 yX5_sumOf yX5_sumOf ∈ wsL_law := inr_26 _ (List.mem_of_getElem? (i := 4) rfl)
theorem kw_26_5 : Cond.code yX5_sumOf cX5_sumOf 5 (some .long) ∈ wsL_law := inr_26 _ (List.mem_of_getElem? (i := 5) rfl)
theorem kw_26_6 : Cond.methodLink RL 108 yX4_mean ∈ wsL_law := inr_26 _ (List.mem_of_getElem? (i := 6) rfl)
theorem kw_26_7 : Cond.instanceMethod yX4_mean ∈ wsL_law := inr_26 _ (List.mem_of_getElem? (i := 7) rfl)
theorem kw_26_8 : Cond.selects RX4 yX4_mean yX4_mean ∈ wsL_law := inr_26 _ (List.mem_of_getElem? (i := 8) rfl)
theorem kw_26_9 : Cond.code yX4_mean cX4_mean 4 (some .long) ∈ wsL_law := inr_26 _ (List.mem_of_getElem? (i := 9) rfl)
theorem kw_26_10 : Cond.methodLink RL 111 yX5_mean ∈ wsL_law := inr_26 _ (List.mem_of_getElem? (i := 10) rfl)
theorem kw_26_11 : Cond.instanceMethod yX5_mean ∈ wsL_law := inr_26 _ (List.mem_of_getElem? (i := 11) rfl)
theorem kw_26_12 : Cond.selects RX5 yX5_mean yX5_mean ∈ wsL_law := inr_26 _ (List.mem_of_getElem? (i := 12) rfl)
theorem kw_26_13 : Cond.code yX5_mean cX5_mean 3 (some .long) ∈ wsL_law := inr_26 _ (List.mem_of_getElem? (i := 13) rfl)
theorem kw_26_14 : Cond.methodLink RL 112 yX4_about ∈ wsL_law := inr_26 _ (List.mem_of_getElem? (i := 14) rfl)
theorem kw_26_15 : Cond.instanceMethod yX4_about ∈ wsL_law := inr_26 _ (List.mem_of_getElem? (i := 15) rfl)
theorem kw_26_16 : Cond.selects RX4 yX4_about yX4_about ∈ wsL_law := inr_26 _ (List.mem_of_getElem? (i := 16) rfl)
theorem kw_26_17 : Cond.code yX4_about cX4_about 6 (some .int) ∈ wsL_law := inr_26 _ (List.mem_of_getElem? (i := 17) rfl)
theorem kw_26_18 : Cond.fieldLink RX4 222 "ArrayMaker$Shape" "high" "[I" ∈ wsL_law := inr_26 _ (List.mem_of_getElem? (i := 18) rfl)
theorem kw_26_19 : Cond.methodLink RX4 216 yX4_itemsOf ∈ wsL_law := inr_26 _ (List.mem_of_getElem? (i := 19) rfl)
theorem kw_26_20 : Cond.instanceMethod yX4_itemsOf ∈ wsL_law := inr_26 _ (List.mem_of_getElem? (i := 20) rfl)
theorem kw_26_21 : Cond.selects RX4 yX4_itemsOf yX4_itemsOf ∈ wsL_law := inr_26 _ (List.mem_of_getElem? (i := 21) rfl)
theorem kw_26_22 : Cond.code yX4_itemsOf cX4_itemsOf 4 (some .int) ∈ wsL_law := inr_26 _ (List.mem_of_getElem? (i := 22) rfl)
theorem kw_26_23 : Cond.methodLink RL 115 yX5_about ∈ wsL_law := inr_26 _ (List.mem_of_getElem? (i := 23) rfl)
theorem kw_27_0 : Cond.instanceMethod yX5_about ∈ wsL_law := inr_27 _ (List.mem_of_getElem? (i := 0) rfl)
theorem kw_27_1 : Cond.selects RX5 yX5_about yX5_about ∈ wsL_law := inr_27 _ (List.mem_of_getElem? (i := 1) rfl)
theorem kw_27_2 : Cond.code yX5_about cX5_about 6 (some .int) ∈ wsL_law := inr_27 _ (List.mem_of_getElem? (i := 2) rfl)
theorem kw_27_3 : Cond.constantLong RX5 190 (8) ∈ wsL_law := inr_27 _ (List.mem_of_getElem? (i := 3) rfl)
theorem kw_27_4 : Cond.methodLink RL 116 yX4_same ∈ wsL_law := inr_27 _ (List.mem_of_getElem? (i := 4) rfl)
theorem kw_27_5 : Cond.instanceMethod yX4_same ∈ wsL_law := inr_27 _ (List.mem_of_getElem? (i := 5) rfl)
theorem kw_27_6 : Cond.selects RX4 yX4_same yX4_same ∈ wsL_law := inr_27 _ (List.mem_of_getElem? (i := 6) rfl)
theorem kw_27_7 : Cond.code yX4_same cX4_same 5 (some .int) ∈ wsL_law := inr_27 _ (List.mem_of_getElem? (i := 7) rfl)
theorem kw_27_8 : Cond.methodLink RX4 225 yX4_haveSameRows ∈ wsL_law := inr_27 _ (List.mem_of_getElem? (i := 8) rfl)
theorem kw_27_9 : Cond.static yX4_haveSameRows ∈ wsL_law := inr_27 _ (List.mem_of_getElem? (i := 9) rfl)
theorem kw_27_10 : Cond.code yX4_haveSameRows cX4_haveSameRows 3 (some .boolean) ∈ wsL_law := inr_27 _ (List.mem_of_getElem? (i := 10) rfl)
theorem kw_27_11 : Cond.methodLink RL 119 yX5_same ∈ wsL_law := inr_27 _ (List.mem_of_getElem? (i := 11) rfl)
theorem kw_27_12 : Cond.instanceMethod yX5_same ∈ wsL_law := inr_27 _ (List.mem_of_getElem? (i := 12) rfl)
theorem kw_27_13 : Cond.selects RX5 yX5_same yX5_same ∈ wsL_law := inr_27 _ (List.mem_of_getElem? (i := 13) rfl)
theorem kw_27_14 : Cond.code yX5_same cX5_same 5 (some .int) ∈ wsL_law := inr_27 _ (List.mem_of_getElem? (i := 14) rfl)
theorem kw_27_15 : Cond.methodLink RL 120 yX4_compare ∈ wsL_law := inr_27 _ (List.mem_of_getElem? (i := 15) rfl)
theorem kw_27_16 : Cond.instanceMethod yX4_compare ∈ wsL_law := inr_27 _ (List.mem_of_getElem? (i := 16) rfl)
theorem kw_27_17 : Cond.selects RX4 yX4_compare yX4_compare ∈ wsL_law := inr_27 _ (List.mem_of_getElem? (i := 17) rfl)
theorem kw_27_18 : Cond.code yX4_compare cX4_compare 5 (some .int) ∈ wsL_law := inr_27 _ (List.mem_of_getElem? (i := 18) rfl)
theorem kw_27_19 : Cond.methodLink RX4 229 yX3_orderOf ∈ wsL_law := inr_27 _ (List.mem_of_getElem? (i := 19) rfl)
theorem kw_27_20 : Cond.instanceMethod yX3_orderOf ∈ wsL_law := inr_27 _ (List.mem_of_getElem? (i := 20) rfl)
theorem kw_27_21 : Cond.selects RX3 yX3_orderOf yX3_orderOf ∈ wsL_law := inr_27 _ (List.mem_of_getElem? (i := 21) rfl)
theorem kw_27_22 : Cond.code yX3_orderOf cX3_orderOf 6 (some .int) ∈ wsL_law := inr_27 _ (List.mem_of_getElem? (i := 22) rfl)
theorem kw_27_23 : Cond.methodLink RX3 67 Lib.Math.min.name ∈ wsL_law := inr_27 _ (List.mem_of_getElem? (i := 23) rfl)
theorem kw_28_0 : Cond.methodLink RX3 70 yJ13_compare_74951 ∈ wsL_law := inr_28 _ (List.mem_of_getElem? (i := 0) rfl)
theorem kw_28_1 : Cond.static yJ13_compare_74951 ∈ wsL_law := inr_28 _ (List.mem_of_getElem? (i := 1) rfl)
theorem kw_28_2 : Cond.initialized RJ13 ∈ wsL_law := inr_28 _ (List.mem_of_getElem? (i := 2) rfl)
theorem kw_28_3 : Cond.code yJ13_compare_74951 cJ13_compare_74951 4 (some .int) ∈ wsL_law := inr_28 _ (List.mem_of_getElem? (i := 3) rfl)
theorem kw_28_4 : Cond.methodLink RX3 76 yJ6_compare_7cf53 ∈ wsL_law := inr_28 _ (List.mem_of_getElem? (i := 4) rfl)
theorem kw_28_5 : Cond.static yJ6_compare_7cf53 ∈ wsL_law := inr_28 _ (List.mem_of_getElem? (i := 5) rfl)
theorem kw_28_6 : Cond.initialized RJ6 ∈ wsL_law := inr_28 _ (List.mem_of_getElem? (i := 6) rfl)
theorem kw_28_7 : Cond.code yJ6_compare_7cf53 cJ6_compare_7cf53 2 (some .int) ∈ wsL_law := inr_28 _ (List.mem_of_getElem? (i := 7) rfl)
theorem kw_28_8 : Cond.methodLink RL 123 yX5_compare ∈ wsL_law := inr_28 _ (List.mem_of_getElem? (i := 8) rfl)
theorem kw_28_9 : Cond.instanceMethod yX5_compare ∈ wsL_law := inr_28 _ (List.mem_of_getElem? (i := 9) rfl)
theorem kw_28_10 : Cond.selects RX5 yX5_compare yX5_compare ∈ wsL_law := inr_28 _ (List.mem_of_getElem? (i := 10) rfl)
theorem kw_28_11 : Cond.code yX5_compare cX5_compare 10 (some .int) ∈ wsL_law := inr_28 _ (List.mem_of_getElem? (i := 11) rfl)
theorem kw_28_12 : Cond.methodLink RL 124 yX4_clear ∈ wsL_law := inr_28 _ (List.mem_of_getElem? (i := 12) rfl)
theorem kw_28_13 : Cond.instanceMethod yX4_clear ∈ wsL_law := inr_28 _ (List.mem_of_getElem? (i := 13) rfl)
theorem kw_28_14 : Cond.selects RX4 yX4_clear yX4_clear ∈ wsL_law := inr_28 _ (List.mem_of_getElem? (i := 14) rfl)
theorem kw_28_15 : Cond.code yX4_clear cX4_clear 2 (some .int) ∈ wsL_law := inr_28 _ (List.mem_of_getElem? (i := 15) rfl)
theorem kw_28_16 : Cond.methodLink RX4 232 yX3_forget ∈ wsL_law := inr_28 _ (List.mem_of_getElem? (i := 16) rfl)
theorem kw_28_17 : Cond.instanceMethod yX3_forget ∈ wsL_law := inr_28 _ (List.mem_of_getElem? (i := 17) rfl)
theorem kw_28_18 : Cond.selects RX3 yX3_forget yX3_forget ∈ wsL_law := inr_28 _ (List.mem_of_getElem? (i := 18) rfl)
theorem kw_28_19 : Cond.code yX3_forget cX3_forget 1 none ∈ wsL_law := inr_28 _ (List.mem_of_getElem? (i := 19) rfl)
theorem kw_28_20 : Cond.methodLink RL 127 yX5_clear ∈ wsL_law := inr_28 _ (List.mem_of_getElem? (i := 20) rfl)
theorem kw_28_21 : Cond.instanceMethod yX5_clear ∈ wsL_law := inr_28 _ (List.mem_of_getElem? (i := 21) rfl)
theorem kw_28_22 : Cond.selects RX5 yX5_clear yX5_clear ∈ wsL_law := inr_28 _ (List.mem_of_getElem? (i := 22) rfl)
theorem kw_28_23 : Cond.code yX5_clear cX5_clear 2 (some .int) ∈ wsL_law := inr_28 _ (List.mem_of_getElem? (i := 23) rfl)
