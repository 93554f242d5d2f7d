set_option maxRecDepth 16384 in
theorem wf_N_7 : Cond.fieldLink "LossFreeTools$Note" 7 "LossFreeTools$Note" "x" "I" ∈ ax_tb := tx_1 (i := 102) rfl rfl
set_option maxRecDepth 16384 in
theorem wf_N_13 : Cond.fieldLink "LossFreeTools$Note" 13 "LossFreeTools$Note" "y" "I" ∈ ax_tb := tx_1 (i := 105) rfl rfl
set_option maxRecDepth 16384 in
theorem wf_N_16 : Cond.fieldLink "LossFreeTools$Note" 16 "LossFreeTools$Note" "value" "I" ∈ ax_tb := tx_1 (i := 108) rfl rfl
set_option maxRecDepth 16384 in
theorem wf_P_25 : Cond.fieldLink "LossFreeTools$Picture" 25 "LossFreeTools$Picture" "width" "I" ∈ ax_tb := tx_1 (i := 126) rfl rfl
set_option maxRecDepth 16384 in
theorem wf_P_29 : Cond.fieldLink "LossFreeTools$Picture" 29 "LossFreeTools$Picture" "height" "I" ∈ ax_tb := tx_1 (i := 128) rfl rfl
set_option maxRecDepth 16384 in
theorem wf_P_32 : Cond.fieldLink "LossFreeTools$Picture" 32 "LossFreeTools$Picture" "tileCount" "I" ∈ ax_tb := tx_1 (i := 122) rfl rfl
set_option maxRecDepth 16384 in
theorem wf_P_35 : Cond.fieldLink "LossFreeTools$Picture" 35 "LossFreeTools$Picture" "noteCount" "I" ∈ ax_tb := tx_1 (i := 124) rfl rfl
set_option maxRecDepth 16384 in
theorem wf_T_15 : Cond.fieldLink "LossFreeTools$Tile" 15 "LossFreeTools$Tile" "x" "I" ∈ ax_tb := tx_1 (i := 69) rfl rfl
set_option maxRecDepth 16384 in
theorem wf_T_22 : Cond.fieldLink "LossFreeTools$Tile" 22 "LossFreeTools$Tile" "w" "I" ∈ ax_tb := tx_1 (i := 73) rfl rfl
set_option maxRecDepth 16384 in
theorem wf_T_19 : Cond.fieldLink "LossFreeTools$Tile" 19 "LossFreeTools$Tile" "y" "I" ∈ ax_tb := tx_1 (i := 71) rfl rfl
set_option maxRecDepth 16384 in
theorem wf_T_25 : Cond.fieldLink "LossFreeTools$Tile" 25 "LossFreeTools$Tile" "h" "I" ∈ ax_tb := tx_1 (i := 75) rfl rfl
set_option maxRecDepth 16384 in
theorem wf_T_28 : Cond.fieldLink "LossFreeTools$Tile" 28 "LossFreeTools$Tile" "way" "I" ∈ ax_tb := tx_1 (i := 77) rfl rfl
set_option maxRecDepth 16384 in
theorem wf_T_31 : Cond.fieldLink "LossFreeTools$Tile" 31 "LossFreeTools$Tile" "byteCount" "I" ∈ ax_tb := tx_1 (i := 67) rfl rfl
set_option maxRecDepth 16384 in
theorem wf_P_11 : Cond.fieldLink "LossFreeTools$Picture" 11 "LossFreeTools$Picture" "tiles" "[LLossFreeTools$Tile;" ∈ ax_tb := tx_1 (i := 118) rfl rfl
set_option maxRecDepth 16384 in
theorem wf_P_20 : Cond.fieldLink "LossFreeTools$Picture" 20 "LossFreeTools$Picture" "notes" "[LLossFreeTools$Note;" ∈ ax_tb := tx_1 (i := 120) rfl rfl
set_option maxRecDepth 16384 in
theorem wf_S_19 : Cond.fieldLink "LossFreeTools$Stream" 19 "LossFreeTools$Stream" "place" "I" ∈ ax_tb := tx_1 (i := 42) rfl rfl
set_option maxRecDepth 16384 in
theorem wf_S_9 : Cond.fieldLink "LossFreeTools$Stream" 9 "LossFreeTools$Stream" "bytes" "[I" ∈ ax_tb := tx_1 (i := 38) rfl rfl
set_option maxRecDepth 16384 in
theorem wf_S_15 : Cond.fieldLink "LossFreeTools$Stream" 15 "LossFreeTools$Stream" "length" "I" ∈ ax_tb := tx_1 (i := 40) rfl rfl
set_option maxRecDepth 16384 in
theorem wl_S_22 : Cond.methodLink "LossFreeTools$Stream" 22 Lib.Math.max.name ∈ ax_tb := tx_1 (i := 188) rfl rfl
set_option maxRecDepth 16384 in
theorem wt_math_max : Cond.static Lib.Math.max.name ∈ ax_tb := tx_1 (i := 30) rfl rfl
set_option maxRecDepth 16384 in
theorem wn_java_lang_Math : Cond.initialized "java/lang/Math" ∈ ax_tb := tx_1 (i := 2) rfl rfl
set_option maxRecDepth 16384 in
theorem wc_math_max : Cond.code Lib.Math.max.name Lib.Math.max.code 2 (some .int) ∈ ax_tb := tx_1 (i := 31) rfl rfl
set_option maxRecDepth 16384 in
theorem wk_S_32 : Cond.constant "LossFreeTools$Stream" 32 65521 ∈ ax_tb := tx_1 (i := 221) rfl rfl
set_option maxRecDepth 16384 in
theorem wf_T_9 : Cond.fieldLink "LossFreeTools$Tile" 9 "LossFreeTools$Tile" "bytes" "[I" ∈ ax_tb := tx_1 (i := 65) rfl rfl
set_option maxRecDepth 16384 in
theorem wl_K_263 : Cond.methodLink "LossFreeTools" 263 Lib.Math.min.name ∈ ax_tb := tx_1 (i := 26) rfl rfl
set_option maxRecDepth 16384 in
theorem wt_math_min : Cond.static Lib.Math.min.name ∈ ax_tb := tx_1 (i := 27) rfl rfl
set_option maxRecDepth 16384 in
theorem wc_math_min : Cond.code Lib.Math.min.name Lib.Math.min.code 2 (some .int) ∈ ax_tb := tx_1 (i := 28) rfl rfl
set_option maxRecDepth 16384 in
theorem wl_K_268 : Cond.methodLink "LossFreeTools" 268 Lib.Math.max.name ∈ ax_tb := tx_1 (i := 29) rfl rfl
set_option maxRecDepth 16384 in
theorem wf_K_36 : Cond.fieldLink "LossFreeTools" 36 "LossFreeTools" "here" "LLossFreeTools$Picture;" ∈ ax_tb := tx_1 (i := 147) rfl rfl
set_option maxRecDepth 16384 in
theorem wf_K_40 : Cond.fieldLink "LossFreeTools" 40 "LossFreeTools" "other" "LLossFreeTools$Picture;" ∈ ax_tb := tx_1 (i := 148) rfl rfl
set_option maxRecDepth 16384 in
theorem wf_K_43 : Cond.fieldLink "LossFreeTools" 43 "LossFreeTools" "wayDone" "I" ∈ ax_tb := tx_1 (i := 149) rfl rfl
set_option maxRecDepth 16384 in
theorem wf_K_46 : Cond.fieldLink "LossFreeTools" 46 "LossFreeTools" "refused" "Z" ∈ ax_tb := tx_1 (i := 150) rfl rfl
set_option maxRecDepth 16384 in
theorem wf_K_69 : Cond.fieldLink "LossFreeTools" 69 "LossFreeTools$Picture" "tileCount" "I" ∈ ax_tb := tx_1 (i := 123) rfl rfl
set_option maxRecDepth 16384 in
theorem wf_K_243 : Cond.fieldLink "LossFreeTools" 243 "LossFreeTools$Picture" "width" "I" ∈ ax_tb := tx_1 (i := 127) rfl rfl
set_option maxRecDepth 16384 in
theorem wf_K_246 : Cond.fieldLink "LossFreeTools" 246 "LossFreeTools$Picture" "height" "I" ∈ ax_tb := tx_1 (i := 129) rfl rfl
set_option maxRecDepth 16384 in
theorem wf_K_115 : Cond.fieldLink "LossFreeTools" 115 "LossFreeTools$Picture" "noteCount" "I" ∈ ax_tb := tx_1 (i := 125) rfl rfl
set_option maxRecDepth 16384 in
theorem wf_K_23 : Cond.fieldLink "LossFreeTools" 23 "LossFreeTools" "stream" "LLossFreeTools$Stream;" ∈ ax_tb := tx_1 (i := 145) rfl rfl
set_option maxRecDepth 16384 in
theorem wf_K_239 : Cond.fieldLink "LossFreeTools" 239 "LossFreeTools$Stream" "length" "I" ∈ ax_tb := tx_1 (i := 41) rfl rfl
set_option maxRecDepth 16384 in
theorem wc_T_overlaps : Cond.code y_T_overlaps b_T_overlaps 5 (some .boolean) ∈ ax_tb := tx_2 (i := 87) rfl rfl
set_option maxRecDepth 16384 in
theorem wn_LossFreeTools_Tile : Cond.initialized "LossFreeTools$Tile" ∈ ax_tb := tx_1 (i := 5) rfl rfl
set_option maxRecDepth 16384 in
theorem wl_P_38 : Cond.methodLink "LossFreeTools$Picture" 38 y_T_overlaps ∈ ax_tb := tx_2 (i := 84) rfl rfl
set_option maxRecDepth 16384 in
theorem wi_T_overlaps : Cond.instanceMethod y_T_overlaps ∈ ax_tb := tx_2 (i := 85) rfl rfl
set_option maxRecDepth 16384 in
theorem ws_T_overlaps : Cond.selects "LossFreeTools$Tile" y_T_overlaps y_T_overlaps ∈ ax_tb := tx_2 (i := 86) rfl rfl
set_option maxRecDepth 16384 in
theorem wc_T_startAnew : Cond.code y_T_startAnew b_T_startAnew 5 none ∈ ax_tb := tx_2 (i := 127) rfl rfl
set_option maxRecDepth 16384 in
theorem wl_P_42 : Cond.methodLink "LossFreeTools$Picture" 42 y_T_startAnew ∈ ax_tb := tx_2 (i := 124) rfl rfl
set_option maxRecDepth 16384 in
theorem wi_T_startAnew : Cond.instanceMethod y_T_startAnew ∈ ax_tb := tx_2 (i := 125) rfl rfl
set_option maxRecDepth 16384 in
theorem ws_T_startAnew : Cond.selects "LossFreeTools$Tile" y_T_startAnew y_T_startAnew ∈ ax_tb := tx_2 (i := 126) rfl rfl
set_option maxRecDepth 16384 in
theorem wc_N_startAnew : Cond.code y_N_startAnew b_N_startAnew 4 none ∈ ax_tb := tx_2 (i := 185) rfl rfl
set_option maxRecDepth 16384 in
theorem wn_LossFreeTools_Note : Cond.initialized "LossFreeTools$Note" ∈ ax_tb := tx_1 (i := 6) rfl rfl
set_option maxRecDepth 16384 in
theorem wl_P_46 : Cond.methodLink "LossFreeTools$Picture" 46 y_N_startAnew ∈ ax_tb := tx_2 (i := 182) rfl rfl
set_option maxRecDepth 16384 in
theorem wi_N_startAnew : Cond.instanceMethod y_N_startAnew ∈ ax_tb := tx_2 (i := 183) rfl rfl
set_option maxRecDepth 16384 in
theorem ws_N_startAnew : Cond.selects "LossFreeTools$Note" y_N_startAnew y_N_startAnew ∈ ax_tb := tx_2 (i := 184) rfl rfl
set_option maxRecDepth 16384 in
theorem wc_T_crosses : Cond.code y_T_crosses b_T_crosses 5 (some .boolean) ∈ ax_tb := tx_2 (i := 208) rfl rfl
set_option maxRecDepth 16384 in
theorem wl_P_49 : Cond.methodLink "LossFreeTools$Picture" 49 y_T_crosses ∈ ax_tb := tx_2 (i := 205) rfl rfl
set_option maxRecDepth 16384 in
theorem wi_T_crosses : Cond.instanceMethod y_T_crosses ∈ ax_tb := tx_2 (i := 206) rfl rfl
set_option maxRecDepth 16384 in
theorem ws_T_crosses : Cond.selects "LossFreeTools$Tile" y_T_crosses y_T_crosses ∈ ax_tb := tx_2 (i := 207) rfl rfl
set_option maxRecDepth 16384 in
theorem wc_T_isWithin : Cond.code y_T_isWithin b_T_isWithin 5 (some .boolean) ∈ ax_tb := tx_2 (i := 220) rfl rfl
set_option maxRecDepth 16384 in
theorem wl_P_70 : Cond.methodLink "LossFreeTools$Picture" 70 y_T_isWithin ∈ ax_tb := tx_2 (i := 217) rfl rfl
set_option maxRecDepth 16384 in
theorem wi_T_isWithin : Cond.instanceMethod y_T_isWithin ∈ ax_tb := tx_2 (i := 218) rfl rfl
set_option maxRecDepth 16384 in
theorem ws_T_isWithin : Cond.selects "LossFreeTools$Tile" y_T_isWithin y_T_isWithin ∈ ax_tb := tx_2 (i := 219) rfl rfl
set_option maxRecDepth 16384 in
theorem wc_N_isWithin : Cond.code y_N_isWithin b_N_isWithin 5 (some .boolean) ∈ ax_tb := tx_2 (i := 228) rfl rfl
set_option maxRecDepth 16384 in
theorem wl_P_73 : Cond.methodLink "LossFreeTools$Picture" 73 y_N_isWithin ∈ ax_tb := tx_2 (i := 225) rfl rfl
set_option maxRecDepth 16384 in
theorem wi_N_isWithin : Cond.instanceMethod y_N_isWithin ∈ ax_tb := tx_2 (i := 226) rfl rfl
set_option maxRecDepth 16384 in
theorem ws_N_isWithin : Cond.selects "LossFreeTools$Note" y_N_isWithin y_N_isWithin ∈ ax_tb := tx_2 (i := 227) rfl rfl
set_option maxRecDepth 16384 in
theorem wc_T_moveBy : Cond.code y_T_moveBy b_T_moveBy 3 none ∈ ax_tb := tx_2 (i := 236) rfl rfl
set_option maxRecDepth 16384 in
theorem wl_P_74 : Cond.methodLink "LossFreeTools$Picture" 74 y_T_moveBy ∈ ax_tb := tx_2 (i := 233) rfl rfl
set_option maxRecDepth 16384 in
theorem wi_T_moveBy : Cond.instanceMethod y_T_moveBy ∈ ax_tb := tx_2 (i := 234) rfl rfl
set_option maxRecDepth 16384 in
theorem ws_T_moveBy : Cond.selects "LossFreeTools$Tile" y_T_moveBy y_T_moveBy ∈ ax_tb := tx_2 (i := 235) rfl rfl
set_option maxRecDepth 16384 in
theorem wc_N_moveBy : Cond.code y_N_moveBy b_N_moveBy 3 none ∈ ax_tb := tx_3 (i := 0) rfl rfl
set_option maxRecDepth 16384 in
theorem wl_P_75 : Cond.methodLink "LossFreeTools$Picture" 75 y_N_moveBy ∈ ax_tb := tx_2 (i := 237) rfl rfl
set_option maxRecDepth 16384 in
theorem wi_N_moveBy : Cond.instanceMethod y_N_moveBy ∈ ax_tb := tx_2 (i := 238) rfl rfl
set_option maxRecDepth 16384 in
theorem ws_N_moveBy : Cond.selects "LossFreeTools$Note" y_N_moveBy y_N_moveBy ∈ ax_tb := tx_2 (i := 239) rfl rfl
set_option maxRecDepth 16384 in
theorem wc_T_mirrorIn : Cond.code y_T_mirrorIn b_T_mirrorIn 2 none ∈ ax_tb := tx_3 (i := 44) rfl rfl
set_option maxRecDepth 16384 in
theorem wl_P_97 : Cond.methodLink "LossFreeTools$Picture" 97 y_T_mirrorIn ∈ ax_tb := tx_3 (i := 41) rfl rfl
set_option maxRecDepth 16384 in
theorem wi_T_mirrorIn : Cond.instanceMethod y_T_mirrorIn ∈ ax_tb := tx_3 (i := 42) rfl rfl
set_option maxRecDepth 16384 in
theorem ws_T_mirrorIn : Cond.selects "LossFreeTools$Tile" y_T_mirrorIn y_T_mirrorIn ∈ ax_tb := tx_3 (i := 43) rfl rfl
set_option maxRecDepth 16384 in
theorem wc_N_mirrorIn : Cond.code y_N_mirrorIn b_N_mirrorIn 2 none ∈ ax_tb := tx_3 (i := 48) rfl rfl
set_option maxRecDepth 16384 in
theorem wl_P_101 : Cond.methodLink "LossFreeTools$Picture" 101 y_N_mirrorIn ∈ ax_tb := tx_3 (i := 45) rfl rfl
set_option maxRecDepth 16384 in
theorem wi_N_mirrorIn : Cond.instanceMethod y_N_mirrorIn ∈ ax_tb := tx_3 (i := 46) rfl rfl
set_option maxRecDepth 16384 in
theorem ws_N_mirrorIn : Cond.selects "LossFreeTools$Note" y_N_mirrorIn y_N_mirrorIn ∈ ax_tb := tx_3 (i := 47) rfl rfl
set_option maxRecDepth 16384 in
theorem wc_T_quarterIn : Cond.code y_T_quarterIn b_T_quarterIn 4 none ∈ ax_tb := tx_3 (i := 59) rfl rfl
set_option maxRecDepth 16384 in
theorem wl_P_102 : Cond.methodLink "LossFreeTools$Picture" 102 y_T_quarterIn ∈ ax_tb := tx_3 (i := 56) rfl rfl
set_option maxRecDepth 16384 in
theorem wi_T_quarterIn : Cond.instanceMethod y_T_quarterIn ∈ ax_tb := tx_3 (i := 57) rfl rfl
set_option maxRecDepth 16384 in
theorem ws_T_quarterIn : Cond.selects "LossFreeTools$Tile" y_T_quarterIn y_T_quarterIn ∈ ax_tb := tx_3 (i := 58) rfl rfl
set_option maxRecDepth 16384 in
theorem wc_N_quarterIn : Cond.code y_N_quarterIn b_N_quarterIn 3 none ∈ ax_tb := tx_3 (i := 63) rfl rfl
set_option maxRecDepth 16384 in
theorem wl_P_105 : Cond.methodLink "LossFreeTools$Picture" 105 y_N_quarterIn ∈ ax_tb := tx_3 (i := 60) rfl rfl
set_option maxRecDepth 16384 in
theorem wi_N_quarterIn : Cond.instanceMethod y_N_quarterIn ∈ ax_tb := tx_3 (i := 61) rfl rfl
set_option maxRecDepth 16384 in
theorem ws_N_quarterIn : Cond.selects "LossFreeTools$Note" y_N_quarterIn y_N_quarterIn ∈ ax_tb := tx_3 (i := 62) rfl rfl
set_option maxRecDepth 16384 in
theorem wc_K_mirrors : Cond.code y_K_mirrors b_K_mirrors 1 (some .boolean) ∈ ax_tb := tx_3 (i := 36) rfl rfl
set_option maxRecDepth 16384 in
theorem wn_LossFreeTools : Cond.initialized "LossFreeTools" ∈ ax_tb := tx_1 (i := 1) rfl rfl
set_option maxRecDepth 16384 in
theorem wl_K_271 : Cond.methodLink "LossFreeTools" 271 y_K_mirrors ∈ ax_tb := tx_3 (i := 67) rfl rfl
set_option maxRecDepth 16384 in
theorem wt_K_mirrors : Cond.static y_K_mirrors ∈ ax_tb := tx_3 (i := 35) rfl rfl
set_option maxRecDepth 16384 in
theorem wc_K_quarters : Cond.code y_K_quarters b_K_quarters 1 (some .int) ∈ ax_tb := tx_3 (i := 51) rfl rfl
set_option maxRecDepth 16384 in
theorem wl_K_274 : Cond.methodLink "LossFreeTools" 274 y_K_quarters ∈ ax_tb := tx_3 (i := 68) rfl rfl
set_option maxRecDepth 16384 in
theorem wt_K_quarters : Cond.static y_K_quarters ∈ ax_tb := tx_3 (i := 50) rfl rfl
set_option maxRecDepth 16384 in
theorem wc_P_sizeAlong : Cond.code y_P_sizeAlong b_P_sizeAlong 2 (some .int) ∈ ax_tb := tx_3 (i := 20) rfl rfl
set_option maxRecDepth 16384 in
theorem wn_LossFreeTools_Picture : Cond.initialized "LossFreeTools$Picture" ∈ ax_tb := tx_1 (i := 4) rfl rfl
set_option maxRecDepth 16384 in
theorem wl_P_53 : Cond.methodLink "LossFreeTools$Picture" 53 y_P_sizeAlong ∈ ax_tb := tx_3 (i := 17) rfl rfl
set_option maxRecDepth 16384 in
theorem wi_P_sizeAlong : Cond.instanceMethod y_P_sizeAlong ∈ ax_tb := tx_3 (i := 18) rfl rfl
set_option maxRecDepth 16384 in
theorem ws_P_sizeAlong : Cond.selects "LossFreeTools$Picture" y_P_sizeAlong y_P_sizeAlong ∈ ax_tb := tx_3 (i := 19) rfl rfl
set_option maxRecDepth 16384 in
theorem wc_T_partComesBefore : Cond.code y_T_partComesBefore b_T_partComesBefore 2 (some .boolean) ∈ ax_tb := tx_1 (i := 201) rfl rfl
set_option maxRecDepth 16384 in
theorem wl_P_106 : Cond.methodLink "LossFreeTools$Picture" 106 y_T_partComesBefore ∈ ax_tb := tx_1 (i := 198) rfl rfl
set_option maxRecDepth 16384 in
theorem wi_T_partComesBefore : Cond.instanceMethod y_T_partComesBefore ∈ ax_tb := tx_1 (i := 199) rfl rfl
set_option maxRecDepth 16384 in
theorem ws_T_partComesBefore : Cond.selects "LossFreeTools$Tile" y_T_partComesBefore y_T_partComesBefore ∈ ax_tb := tx_1 (i := 200) rfl rfl
set_option maxRecDepth 16384 in
theorem wc_T_partLength : Cond.code y_T_partLength b_T_partLength 1 (some .int) ∈ ax_tb := tx_1 (i := 205) rfl rfl
set_option maxRecDepth 16384 in
theorem wl_P_110 : Cond.methodLink "LossFreeTools$Picture" 110 y_T_partLength ∈ ax_tb := tx_1 (i := 202) rfl rfl
set_option maxRecDepth 16384 in
theorem wi_T_partLength : Cond.instanceMethod y_T_partLength ∈ ax_tb := tx_1 (i := 203) rfl rfl
set_option maxRecDepth 16384 in
theorem ws_T_partLength : Cond.selects "LossFreeTools$Tile" y_T_partLength y_T_partLength ∈ ax_tb := tx_1 (i := 204) rfl rfl
set_option maxRecDepth 16384 in
theorem wc_S_putByte : Cond.code y_S_putByte b_S_putByte 2 none ∈ ax_tb := tx_1 (i := 187) rfl rfl
set_option maxRecDepth 16384 in
theorem wn_LossFreeTools_Stream : Cond.initialized "LossFreeTools$Stream" ∈ ax_tb := tx_1 (i := 3) rfl rfl
set_option maxRecDepth 16384 in
theorem wl_S_28 : Cond.methodLink "LossFreeTools$Stream" 28 y_S_putByte ∈ ax_tb := tx_1 (i := 193) rfl rfl
set_option maxRecDepth 16384 in
theorem wi_S_putByte : Cond.instanceMethod y_S_putByte ∈ ax_tb := tx_1 (i := 185) rfl rfl
set_option maxRecDepth 16384 in
theorem ws_S_putByte : Cond.selects "LossFreeTools$Stream" y_S_putByte y_S_putByte ∈ ax_tb := tx_1 (i := 186) rfl rfl
set_option maxRecDepth 16384 in
theorem wf_K_13 : Cond.fieldLink "LossFreeTools" 13 "LossFreeTools" "firstWidth" "I" ∈ ax_tb := tx_1 (i := 143) rfl rfl
set_option maxRecDepth 16384 in
theorem wf_K_17 : Cond.fieldLink "LossFreeTools" 17 "LossFreeTools" "firstHeight" "I" ∈ ax_tb := tx_1 (i := 144) rfl rfl
set_option maxRecDepth 16384 in
theorem wc_P_startAnew : Cond.code y_P_startAnew b_P_startAnew 3 none ∈ ax_tb := tx_1 (i := 233) rfl rfl
set_option maxRecDepth 16384 in
theorem wl_K_249 : Cond.methodLink "LossFreeTools" 249 y_P_startAnew ∈ ax_tb := tx_1 (i := 230) rfl rfl
set_option maxRecDepth 16384 in
theorem wi_P_startAnew : Cond.instanceMethod y_P_startAnew ∈ ax_tb := tx_1 (i := 231) rfl rfl
set_option maxRecDepth 16384 in
theorem ws_P_startAnew : Cond.selects "LossFreeTools$Picture" y_P_startAnew y_P_startAnew ∈ ax_tb := tx_1 (i := 232) rfl rfl
set_option maxRecDepth 16384 in
theorem wc_S_empty : Cond.code y_S_empty b_S_empty 1 none ∈ ax_tb := tx_1 (i := 179) rfl rfl
set_option maxRecDepth 16384 in
theorem wl_K_222 : Cond.methodLink "LossFreeTools" 222 y_S_empty ∈ ax_tb := tx_1 (i := 176) rfl rfl
set_option maxRecDepth 16384 in
theorem wi_S_empty : Cond.instanceMethod y_S_empty ∈ ax_tb := tx_1 (i := 177) rfl rfl
set_option maxRecDepth 16384 in
theorem ws_S_empty : Cond.selects "LossFreeTools$Stream" y_S_empty y_S_empty ∈ ax_tb := tx_1 (i := 178) rfl rfl
set_option maxRecDepth 16384 in
theorem wc_P_borderFits : Cond.code y_P_borderFits b_P_borderFits 4 (some .boolean) ∈ ax_tb := tx_2 (i := 204) rfl rfl
set_option maxRecDepth 16384 in
theorem wl_P_57 : Cond.methodLink "LossFreeTools$Picture" 57 y_P_borderFits ∈ ax_tb := tx_3 (i := 21) rfl rfl
set_option maxRecDepth 16384 in
theorem wi_P_borderFits : Cond.instanceMethod y_P_borderFits ∈ ax_tb := tx_2 (i := 202) rfl rfl
set_option maxRecDepth 16384 in
theorem ws_P_borderFits : Cond.selects "LossFreeTools$Picture" y_P_borderFits y_P_borderFits ∈ ax_tb := tx_2 (i := 203) rfl rfl
set_option maxRecDepth 16384 in
theorem wc_P_keepTilesWithin : Cond.code y_P_keepTilesWithin b_P_keepTilesWithin 8 none ∈ ax_tb := tx_2 (i := 216) rfl rfl
set_option maxRecDepth 16384 in
theorem wl_P_60 : Cond.methodLink "LossFreeTools$Picture" 60 y_P_keepTilesWithin ∈ ax_tb := tx_2 (i := 213) rfl rfl
set_option maxRecDepth 16384 in
theorem wi_P_keepTilesWithin : Cond.instanceMethod y_P_keepTilesWithin ∈ ax_tb := tx_2 (i := 214) rfl rfl
set_option maxRecDepth 16384 in
theorem ws_P_keepTilesWithin : Cond.selects "LossFreeTools$Picture" y_P_keepTilesWithin y_P_keepTilesWithin ∈ ax_tb := tx_2 (i := 215) rfl rfl
set_option maxRecDepth 16384 in
theorem wc_P_keepNotesWithin : Cond.code y_P_keepNotesWithin b_P_keepNotesWithin 8 none ∈ ax_tb := tx_2 (i := 224) rfl rfl
set_option maxRecDepth 16384 in
theorem wl_P_63 : Cond.methodLink "LossFreeTools$Picture" 63 y_P_keepNotesWithin ∈ ax_tb := tx_2 (i := 221) rfl rfl
set_option maxRecDepth 16384 in
theorem wi_P_keepNotesWithin : Cond.instanceMethod y_P_keepNotesWithin ∈ ax_tb := tx_2 (i := 222) rfl rfl
set_option maxRecDepth 16384 in
theorem ws_P_keepNotesWithin : Cond.selects "LossFreeTools$Picture" y_P_keepNotesWithin y_P_keepNotesWithin ∈ ax_tb := tx_2 (i := 223) rfl rfl
set_option maxRecDepth 16384 in
theorem wc_P_moveBy : Cond.code y_P_moveBy b_P_moveBy 4 none ∈ ax_tb := tx_2 (i := 232) rfl rfl
set_option maxRecDepth 16384 in
theorem wl_P_66 : Cond.methodLink "LossFreeTools$Picture" 66 y_P_moveBy ∈ ax_tb := tx_2 (i := 229) rfl rfl
set_option maxRecDepth 16384 in
theorem wi_P_moveBy : Cond.instanceMethod y_P_moveBy ∈ ax_tb := tx_2 (i := 230) rfl rfl
set_option maxRecDepth 16384 in
theorem ws_P_moveBy : Cond.selects "LossFreeTools$Picture" y_P_moveBy y_P_moveBy ∈ ax_tb := tx_2 (i := 231) rfl rfl
set_option maxRecDepth 16384 in
theorem wc_P_mirror : Cond.code y_P_mirror b_P_mirror 2 none ∈ ax_tb := tx_3 (i := 40) rfl rfl
set_option maxRecDepth 16384 in
theorem wl_P_80 : Cond.methodLink "LossFreeTools$Picture" 80 y_P_mirror ∈ ax_tb := tx_3 (i := 37) rfl rfl
set_option maxRecDepth 16384 in
theorem wi_P_mirror : Cond.instanceMethod y_P_mirror ∈ ax_tb := tx_3 (i := 38) rfl rfl
set_option maxRecDepth 16384 in
theorem ws_P_mirror : Cond.selects "LossFreeTools$Picture" y_P_mirror y_P_mirror ∈ ax_tb := tx_3 (i := 39) rfl rfl
set_option maxRecDepth 16384 in
theorem wc_P_turnQuarter : Cond.code y_P_turnQuarter b_P_turnQuarter 2 none ∈ ax_tb := tx_3 (i := 55) rfl rfl
set_option maxRecDepth 16384 in
theorem wl_P_87 : Cond.methodLink "LossFreeTools$Picture" 87 y_P_turnQuarter ∈ ax_tb := tx_3 (i := 52) rfl rfl
set_option maxRecDepth 16384 in
theorem wi_P_turnQuarter : Cond.instanceMethod y_P_turnQuarter ∈ ax_tb := tx_3 (i := 53) rfl rfl
set_option maxRecDepth 16384 in
theorem ws_P_turnQuarter : Cond.selects "LossFreeTools$Picture" y_P_turnQuarter y_P_turnQuarter ∈ ax_tb := tx_3 (i := 54) rfl rfl
set_option maxRecDepth 16384 in
theorem wf_P_90 : Cond.fieldLink "LossFreeTools$Picture" 90 "LossFreeTools$Tile" "way" "I" ∈ ax_tb := tx_1 (i := 79) rfl rfl
set_option maxRecDepth 16384 in
theorem wc_K_together : Cond.code y_K_together b_K_together 4 (some .int) ∈ ax_tb := tx_3 (i := 66) rfl rfl
set_option maxRecDepth 16384 in
theorem wt_K_together : Cond.static y_K_together ∈ ax_tb := tx_3 (i := 65) rfl rfl
set_option maxRecDepth 16384 in
theorem wl_P_114 : Cond.methodLink "LossFreeTools$Picture" 114 y_S_putByte ∈ ax_tb := tx_1 (i := 184) rfl rfl
set_option maxRecDepth 16384 in
theorem wc_S_putNumber : Cond.code y_S_putNumber b_S_putNumber 2 none ∈ ax_tb := tx_1 (i := 192) rfl rfl
set_option maxRecDepth 16384 in
theorem wl_P_119 : Cond.methodLink "LossFreeTools$Picture" 119 y_S_putNumber ∈ ax_tb := tx_1 (i := 189) rfl rfl
set_option maxRecDepth 16384 in
theorem wi_S_putNumber : Cond.instanceMethod y_S_putNumber ∈ ax_tb := tx_1 (i := 190) rfl rfl
set_option maxRecDepth 16384 in
theorem ws_S_putNumber : Cond.selects "LossFreeTools$Stream" y_S_putNumber y_S_putNumber ∈ ax_tb := tx_1 (i := 191) rfl rfl
set_option maxRecDepth 16384 in
theorem wc_P_placeOfPart : Cond.code y_P_placeOfPart b_P_placeOfPart 4 (some .int) ∈ ax_tb := tx_1 (i := 197) rfl rfl
set_option maxRecDepth 16384 in
theorem wl_P_122 : Cond.methodLink "LossFreeTools$Picture" 122 y_P_placeOfPart ∈ ax_tb := tx_1 (i := 194) rfl rfl
set_option maxRecDepth 16384 in
theorem wi_P_placeOfPart : Cond.instanceMethod y_P_placeOfPart ∈ ax_tb := tx_1 (i := 195) rfl rfl
set_option maxRecDepth 16384 in
theorem ws_P_placeOfPart : Cond.selects "LossFreeTools$Picture" y_P_placeOfPart y_P_placeOfPart ∈ ax_tb := tx_1 (i := 196) rfl rfl
set_option maxRecDepth 16384 in
theorem wf_P_126 : Cond.fieldLink "LossFreeTools$Picture" 126 "LossFreeTools$Note" "x" "I" ∈ ax_tb := tx_1 (i := 104) rfl rfl
set_option maxRecDepth 16384 in
theorem wf_P_129 : Cond.fieldLink "LossFreeTools$Picture" 129 "LossFreeTools$Note" "y" "I" ∈ ax_tb := tx_1 (i := 107) rfl rfl
set_option maxRecDepth 16384 in
theorem wf_P_132 : Cond.fieldLink "LossFreeTools$Picture" 132 "LossFreeTools$Note" "value" "I" ∈ ax_tb := tx_1 (i := 110) rfl rfl
set_option maxRecDepth 16384 in
theorem wc_T_liesOnItsSide : Cond.code y_T_liesOnItsSide b_T_liesOnItsSide 1 (some .boolean) ∈ ax_tb := tx_3 (i := 114) rfl rfl
set_option maxRecDepth 16384 in
theorem wl_T_38 : Cond.methodLink "LossFreeTools$Tile" 38 y_T_liesOnItsSide ∈ ax_tb := tx_3 (i := 111) rfl rfl
set_option maxRecDepth 16384 in
theorem wi_T_liesOnItsSide : Cond.instanceMethod y_T_liesOnItsSide ∈ ax_tb := tx_3 (i := 112) rfl rfl
set_option maxRecDepth 16384 in
theorem ws_T_liesOnItsSide : Cond.selects "LossFreeTools$Tile" y_T_liesOnItsSide y_T_liesOnItsSide ∈ ax_tb := tx_3 (i := 113) rfl rfl
set_option maxRecDepth 16384 in
theorem wf_T_46 : Cond.fieldLink "LossFreeTools$Tile" 46 "LossFreeTools$Stream" "place" "I" ∈ ax_tb := tx_1 (i := 43) rfl rfl
set_option maxRecDepth 16384 in
theorem wl_T_51 : Cond.methodLink "LossFreeTools$Tile" 51 y_S_putNumber ∈ ax_tb := tx_1 (i := 215) rfl rfl
set_option maxRecDepth 16384 in
theorem wl_T_55 : Cond.methodLink "LossFreeTools$Tile" 55 y_S_putByte ∈ ax_tb := tx_1 (i := 216) rfl rfl
set_option maxRecDepth 16384 in
theorem wc_S_sumFrom : Cond.code y_S_sumFrom b_S_sumFrom 4 (some .int) ∈ ax_tb := tx_1 (i := 220) rfl rfl
set_option maxRecDepth 16384 in
theorem wl_T_58 : Cond.methodLink "LossFreeTools$Tile" 58 y_S_sumFrom ∈ ax_tb := tx_1 (i := 217) rfl rfl
set_option maxRecDepth 16384 in
theorem wi_S_sumFrom : Cond.instanceMethod y_S_sumFrom ∈ ax_tb := tx_1 (i := 218) rfl rfl
set_option maxRecDepth 16384 in
theorem ws_S_sumFrom : Cond.selects "LossFreeTools$Stream" y_S_sumFrom y_S_sumFrom ∈ ax_tb := tx_1 (i := 219) rfl rfl
set_option maxRecDepth 16384 in
theorem wc_K_isUpright : Cond.code y_K_isUpright b_K_isUpright 1 (some .boolean) ∈ ax_tb := tx_2 (i := 200) rfl rfl
set_option maxRecDepth 16384 in
theorem wl_K_140 : Cond.methodLink "LossFreeTools" 140 y_K_isUpright ∈ ax_tb := tx_2 (i := 198) rfl rfl
set_option maxRecDepth 16384 in
theorem wt_K_isUpright : Cond.static y_K_isUpright ∈ ax_tb := tx_2 (i := 199) rfl rfl
set_option maxRecDepth 16384 in
theorem wf_K_27 : Cond.fieldLink "LossFreeTools" 27 "LossFreeTools" "askedBorders" "[I" ∈ ax_tb := tx_1 (i := 146) rfl rfl
set_option maxRecDepth 16384 in
theorem wl_K_252 : Cond.methodLink "LossFreeTools" 252 y_P_borderFits ∈ ax_tb := tx_2 (i := 201) rfl rfl
set_option maxRecDepth 16384 in
theorem wl_K_157 : Cond.methodLink "LossFreeTools" 157 y_P_sizeAlong ∈ ax_tb := tx_3 (i := 77) rfl rfl
set_option maxRecDepth 16384 in
theorem wc_P_moveAlong : Cond.code y_P_moveAlong b_P_moveAlong 3 none ∈ ax_tb := tx_3 (i := 91) rfl rfl
set_option maxRecDepth 16384 in
theorem wl_K_256 : Cond.methodLink "LossFreeTools" 256 y_P_moveAlong ∈ ax_tb := tx_3 (i := 88) rfl rfl
set_option maxRecDepth 16384 in
theorem wi_P_moveAlong : Cond.instanceMethod y_P_moveAlong ∈ ax_tb := tx_3 (i := 89) rfl rfl
set_option maxRecDepth 16384 in
theorem ws_P_moveAlong : Cond.selects "LossFreeTools$Picture" y_P_moveAlong y_P_moveAlong ∈ ax_tb := tx_3 (i := 90) rfl rfl
set_option maxRecDepth 16384 in
theorem wc_P_growAlong : Cond.code y_P_growAlong b_P_growAlong 3 none ∈ ax_tb := tx_3 (i := 95) rfl rfl
set_option maxRecDepth 16384 in
theorem wl_K_260 : Cond.methodLink "LossFreeTools" 260 y_P_growAlong ∈ ax_tb := tx_3 (i := 92) rfl rfl
set_option maxRecDepth 16384 in
theorem wi_P_growAlong : Cond.instanceMethod y_P_growAlong ∈ ax_tb := tx_3 (i := 93) rfl rfl
set_option maxRecDepth 16384 in
theorem ws_P_growAlong : Cond.selects "LossFreeTools$Picture" y_P_growAlong y_P_growAlong ∈ ax_tb := tx_3 (i := 94) rfl rfl
set_option maxRecDepth 16384 in
theorem wc_P_putHead : Cond.code y_P_putHead b_P_putHead 3 none ∈ ax_tb := tx_1 (i := 183) rfl rfl
set_option maxRecDepth 16384 in
theorem wl_K_225 : Cond.methodLink "LossFreeTools" 225 y_P_putHead ∈ ax_tb := tx_1 (i := 180) rfl rfl
set_option maxRecDepth 16384 in
theorem wi_P_putHead : Cond.instanceMethod y_P_putHead ∈ ax_tb := tx_1 (i := 181) rfl rfl
set_option maxRecDepth 16384 in
theorem ws_P_putHead : Cond.selects "LossFreeTools$Picture" y_P_putHead y_P_putHead ∈ ax_tb := tx_1 (i := 182) rfl rfl
set_option maxRecDepth 16384 in
theorem wf_K_95 : Cond.fieldLink "LossFreeTools" 95 "LossFreeTools$Picture" "tiles" "[LLossFreeTools$Tile;" ∈ ax_tb := tx_1 (i := 119) rfl rfl
set_option maxRecDepth 16384 in
theorem wl_K_229 : Cond.methodLink "LossFreeTools" 229 y_P_placeOfPart ∈ ax_tb := tx_1 (i := 206) rfl rfl
set_option maxRecDepth 16384 in
theorem wc_S_goTo : Cond.code y_S_goTo b_S_goTo 2 none ∈ ax_tb := tx_1 (i := 210) rfl rfl
set_option maxRecDepth 16384 in
theorem wl_K_233 : Cond.methodLink "LossFreeTools" 233 y_S_goTo ∈ ax_tb := tx_1 (i := 207) rfl rfl
set_option maxRecDepth 16384 in
theorem wi_S_goTo : Cond.instanceMethod y_S_goTo ∈ ax_tb := tx_1 (i := 208) rfl rfl
set_option maxRecDepth 16384 in
theorem ws_S_goTo : Cond.selects "LossFreeTools$Stream" y_S_goTo y_S_goTo ∈ ax_tb := tx_1 (i := 209) rfl rfl
set_option maxRecDepth 16384 in
theorem wc_T_putPart : Cond.code y_T_putPart b_T_putPart 4 none ∈ ax_tb := tx_1 (i := 214) rfl rfl
set_option maxRecDepth 16384 in
theorem wl_K_236 : Cond.methodLink "LossFreeTools" 236 y_T_putPart ∈ ax_tb := tx_1 (i := 211) rfl rfl
set_option maxRecDepth 16384 in
theorem wi_T_putPart : Cond.instanceMethod y_T_putPart ∈ ax_tb := tx_1 (i := 212) rfl rfl
set_option maxRecDepth 16384 in
theorem ws_T_putPart : Cond.selects "LossFreeTools$Tile" y_T_putPart y_T_putPart ∈ ax_tb := tx_1 (i := 213) rfl rfl
set_option maxRecDepth 16384 in
theorem wc_P_holdsRectangle : Cond.code y_P_holdsRectangle b_P_holdsRectangle 5 (some .boolean) ∈ ax_tb := tx_2 (i := 10) rfl rfl
set_option maxRecDepth 16384 in
theorem wl_K_50 : Cond.methodLink "LossFreeTools" 50 y_P_holdsRectangle ∈ ax_tb := tx_2 (i := 7) rfl rfl
set_option maxRecDepth 16384 in
theorem wi_P_holdsRectangle : Cond.instanceMethod y_P_holdsRectangle ∈ ax_tb := tx_2 (i := 8) rfl rfl
set_option maxRecDepth 16384 in
theorem ws_P_holdsRectangle : Cond.selects "LossFreeTools$Picture" y_P_holdsRectangle y_P_holdsRectangle ∈ ax_tb := tx_2 (i := 9) rfl rfl
set_option maxRecDepth 16384 in
theorem wc_P_overlapsTile : Cond.code y_P_overlapsTile b_P_overlapsTile 6 (some .boolean) ∈ ax_tb := tx_2 (i := 83) rfl rfl
set_option maxRecDepth 16384 in
theorem wl_K_61 : Cond.methodLink "LossFreeTools" 61 y_P_overlapsTile ∈ ax_tb := tx_2 (i := 80) rfl rfl
set_option maxRecDepth 16384 in
theorem wi_P_overlapsTile : Cond.instanceMethod y_P_overlapsTile ∈ ax_tb := tx_2 (i := 81) rfl rfl
set_option maxRecDepth 16384 in
theorem ws_P_overlapsTile : Cond.selects "LossFreeTools$Picture" y_P_overlapsTile y_P_overlapsTile ∈ ax_tb := tx_2 (i := 82) rfl rfl
set_option maxRecDepth 16384 in
theorem wc_P_addTile : Cond.code y_P_addTile b_P_addTile 5 (some .int) ∈ ax_tb := tx_2 (i := 123) rfl rfl
set_option maxRecDepth 16384 in
theorem wl_K_77 : Cond.methodLink "LossFreeTools" 77 y_P_addTile ∈ ax_tb := tx_2 (i := 120) rfl rfl
set_option maxRecDepth 16384 in
theorem wi_P_addTile : Cond.instanceMethod y_P_addTile ∈ ax_tb := tx_2 (i := 121) rfl rfl
set_option maxRecDepth 16384 in
theorem ws_P_addTile : Cond.selects "LossFreeTools$Picture" y_P_addTile y_P_addTile ∈ ax_tb := tx_2 (i := 122) rfl rfl
set_option maxRecDepth 16384 in
theorem wq_K_72 : Cond.classLink "LossFreeTools" 72 "java/lang/UnsupportedOperationException" ∈ ax_tb := tx_2 (i := 104) rfl rfl
set_option maxRecDepth 16384 in
theorem wn_java_lang_UnsupportedOperationException : Cond.initialized "java/lang/UnsupportedOperationException" ∈ ax_tb := tx_1 (i := 13) rfl rfl
set_option maxRecDepth 16384 in
theorem wq_K_64 : Cond.classLink "LossFreeTools" 64 "java/lang/IllegalStateException" ∈ ax_tb := tx_2 (i := 88) rfl rfl
set_option maxRecDepth 16384 in
theorem wn_java_lang_IllegalStateException : Cond.initialized "java/lang/IllegalStateException" ∈ ax_tb := tx_1 (i := 12) rfl rfl
set_option maxRecDepth 16384 in
theorem wq_K_54 : Cond.classLink "LossFreeTools" 54 "java/lang/IllegalArgumentException" ∈ ax_tb := tx_2 (i := 11) rfl rfl
set_option maxRecDepth 16384 in
theorem wn_java_lang_IllegalArgumentException : Cond.initialized "java/lang/IllegalArgumentException" ∈ ax_tb := tx_1 (i := 11) rfl rfl
set_option maxRecDepth 16384 in
theorem wc_P_hasTile : Cond.code y_P_hasTile b_P_hasTile 2 (some .boolean) ∈ ax_tb := tx_2 (i := 139) rfl rfl
set_option maxRecDepth 16384 in
theorem wl_K_81 : Cond.methodLink "LossFreeTools" 81 y_P_hasTile ∈ ax_tb := tx_2 (i := 136) rfl rfl
set_option maxRecDepth 16384 in
theorem wi_P_hasTile : Cond.instanceMethod y_P_hasTile ∈ ax_tb := tx_2 (i := 137) rfl rfl
set_option maxRecDepth 16384 in
theorem ws_P_hasTile : Cond.selects "LossFreeTools$Picture" y_P_hasTile y_P_hasTile ∈ ax_tb := tx_2 (i := 138) rfl rfl
set_option maxRecDepth 16384 in
theorem wc_K_isByte : Cond.code y_K_isByte b_K_isByte 1 (some .boolean) ∈ ax_tb := tx_2 (i := 158) rfl rfl
set_option maxRecDepth 16384 in
theorem wl_K_90 : Cond.methodLink "LossFreeTools" 90 y_K_isByte ∈ ax_tb := tx_2 (i := 156) rfl rfl
set_option maxRecDepth 16384 in
theorem wt_K_isByte : Cond.static y_K_isByte ∈ ax_tb := tx_2 (i := 157) rfl rfl
set_option maxRecDepth 16384 in
theorem wf_K_99 : Cond.fieldLink "LossFreeTools" 99 "LossFreeTools$Tile" "byteCount" "I" ∈ ax_tb := tx_1 (i := 68) rfl rfl
set_option maxRecDepth 16384 in
theorem wc_T_addByte : Cond.code y_T_addByte b_T_addByte 2 (some .int) ∈ ax_tb := tx_2 (i := 164) rfl rfl
set_option maxRecDepth 16384 in
theorem wl_K_106 : Cond.methodLink "LossFreeTools" 106 y_T_addByte ∈ ax_tb := tx_2 (i := 161) rfl rfl
set_option maxRecDepth 16384 in
theorem wi_T_addByte : Cond.instanceMethod y_T_addByte ∈ ax_tb := tx_2 (i := 162) rfl rfl
set_option maxRecDepth 16384 in
theorem ws_T_addByte : Cond.selects "LossFreeTools$Tile" y_T_addByte y_T_addByte ∈ ax_tb := tx_2 (i := 163) rfl rfl
set_option maxRecDepth 16384 in
theorem wq_K_85 : Cond.classLink "LossFreeTools" 85 "java/lang/IndexOutOfBoundsException" ∈ ax_tb := tx_2 (i := 140) rfl rfl
set_option maxRecDepth 16384 in
theorem wn_java_lang_IndexOutOfBoundsException : Cond.initialized "java/lang/IndexOutOfBoundsException" ∈ ax_tb := tx_1 (i := 14) rfl rfl
set_option maxRecDepth 16384 in
theorem wc_P_hasSample : Cond.code y_P_hasSample b_P_hasSample 3 (some .boolean) ∈ ax_tb := tx_2 (i := 175) rfl rfl
set_option maxRecDepth 16384 in
theorem wl_K_109 : Cond.methodLink "LossFreeTools" 109 y_P_hasSample ∈ ax_tb := tx_2 (i := 172) rfl rfl
set_option maxRecDepth 16384 in
theorem wi_P_hasSample : Cond.instanceMethod y_P_hasSample ∈ ax_tb := tx_2 (i := 173) rfl rfl
set_option maxRecDepth 16384 in
theorem ws_P_hasSample : Cond.selects "LossFreeTools$Picture" y_P_hasSample y_P_hasSample ∈ ax_tb := tx_2 (i := 174) rfl rfl
set_option maxRecDepth 16384 in
theorem wc_P_addNote : Cond.code y_P_addNote b_P_addNote 4 (some .int) ∈ ax_tb := tx_2 (i := 181) rfl rfl
set_option maxRecDepth 16384 in
theorem wl_K_120 : Cond.methodLink "LossFreeTools" 120 y_P_addNote ∈ ax_tb := tx_2 (i := 178) rfl rfl
set_option maxRecDepth 16384 in
theorem wi_P_addNote : Cond.instanceMethod y_P_addNote ∈ ax_tb := tx_2 (i := 179) rfl rfl
set_option maxRecDepth 16384 in
theorem ws_P_addNote : Cond.selects "LossFreeTools$Picture" y_P_addNote y_P_addNote ∈ ax_tb := tx_2 (i := 180) rfl rfl
set_option maxRecDepth 16384 in
theorem wc_K_allAskedFit : Cond.code y_K_allAskedFit b_K_allAskedFit 2 (some .boolean) ∈ ax_tb := tx_2 (i := 197) rfl rfl
set_option maxRecDepth 16384 in
theorem wl_K_126 : Cond.methodLink "LossFreeTools" 126 y_K_allAskedFit ∈ ax_tb := tx_2 (i := 194) rfl rfl
set_option maxRecDepth 16384 in
theorem wi_K_allAskedFit : Cond.instanceMethod y_K_allAskedFit ∈ ax_tb := tx_2 (i := 196) rfl rfl
theorem ws_K_allAskedFit : Cond.selects "LossFreeTools" y_K_allAskedFit y_K_allAskedFit ∈ ax_tb := ax_tb_in (i := 1) (by decide +kernel) (by decide +kernel)
set_option maxRecDepth 16384 in
theorem wc_P_cutTo : Cond.code y_P_cutTo b_P_cutTo 5 (some .int) ∈ ax_tb := tx_2 (i := 212) rfl rfl
set_option maxRecDepth 16384 in
theorem wl_K_130 : Cond.methodLink "LossFreeTools" 130 y_P_cutTo ∈ ax_tb := tx_2 (i := 209) rfl rfl
set_option maxRecDepth 16384 in
theorem wi_P_cutTo : Cond.instanceMethod y_P_cutTo ∈ ax_tb := tx_2 (i := 210) rfl rfl
set_option maxRecDepth 16384 in
theorem ws_P_cutTo : Cond.selects "LossFreeTools$Picture" y_P_cutTo y_P_cutTo ∈ ax_tb := tx_2 (i := 211) rfl rfl
set_option maxRecDepth 16384 in
theorem wc_K_isSide : Cond.code y_K_isSide b_K_isSide 1 (some .boolean) ∈ ax_tb := tx_3 (i := 10) rfl rfl
set_option maxRecDepth 16384 in
theorem wl_K_133 : Cond.methodLink "LossFreeTools" 133 y_K_isSide ∈ ax_tb := tx_3 (i := 8) rfl rfl
set_option maxRecDepth 16384 in
theorem wt_K_isSide : Cond.static y_K_isSide ∈ ax_tb := tx_3 (i := 9) rfl rfl
set_option maxRecDepth 16384 in
theorem wc_P_nearestFit : Cond.code y_P_nearestFit b_P_nearestFit 7 (some .int) ∈ ax_tb := tx_3 (i := 16) rfl rfl
set_option maxRecDepth 16384 in
theorem wl_K_143 : Cond.methodLink "LossFreeTools" 143 y_P_nearestFit ∈ ax_tb := tx_3 (i := 13) rfl rfl
set_option maxRecDepth 16384 in
theorem wi_P_nearestFit : Cond.instanceMethod y_P_nearestFit ∈ ax_tb := tx_3 (i := 14) rfl rfl
set_option maxRecDepth 16384 in
theorem ws_P_nearestFit : Cond.selects "LossFreeTools$Picture" y_P_nearestFit y_P_nearestFit ∈ ax_tb := tx_3 (i := 15) rfl rfl
set_option maxRecDepth 16384 in
theorem wc_P_showBy : Cond.code y_P_showBy b_P_showBy 3 none ∈ ax_tb := tx_3 (i := 33) rfl rfl
set_option maxRecDepth 16384 in
theorem wl_K_149 : Cond.methodLink "LossFreeTools" 149 y_P_showBy ∈ ax_tb := tx_3 (i := 30) rfl rfl
set_option maxRecDepth 16384 in
theorem wi_P_showBy : Cond.instanceMethod y_P_showBy ∈ ax_tb := tx_3 (i := 31) rfl rfl
set_option maxRecDepth 16384 in
theorem ws_P_showBy : Cond.selects "LossFreeTools$Picture" y_P_showBy y_P_showBy ∈ ax_tb := tx_3 (i := 32) rfl rfl
set_option maxRecDepth 16384 in
theorem wl_K_153 : Cond.methodLink "LossFreeTools" 153 y_K_together ∈ ax_tb := tx_3 (i := 69) rfl rfl
set_option maxRecDepth 16384 in
theorem wc_P_hasRoomFor : Cond.code y_P_hasRoomFor b_P_hasRoomFor 3 (some .boolean) ∈ ax_tb := tx_3 (i := 82) rfl rfl
set_option maxRecDepth 16384 in
theorem wl_K_163 : Cond.methodLink "LossFreeTools" 163 y_P_hasRoomFor ∈ ax_tb := tx_3 (i := 79) rfl rfl
set_option maxRecDepth 16384 in
theorem wi_P_hasRoomFor : Cond.instanceMethod y_P_hasRoomFor ∈ ax_tb := tx_3 (i := 80) rfl rfl
set_option maxRecDepth 16384 in
theorem ws_P_hasRoomFor : Cond.selects "LossFreeTools$Picture" y_P_hasRoomFor y_P_hasRoomFor ∈ ax_tb := tx_3 (i := 81) rfl rfl
set_option maxRecDepth 16384 in
theorem wc_K_makePlaceAt : Cond.code y_K_makePlaceAt b_K_makePlaceAt 5 none ∈ ax_tb := tx_3 (i := 87) rfl rfl
set_option maxRecDepth 16384 in
theorem wl_K_169 : Cond.methodLink "LossFreeTools" 169 y_K_makePlaceAt ∈ ax_tb := tx_3 (i := 84) rfl rfl
set_option maxRecDepth 16384 in
theorem wi_K_makePlaceAt : Cond.instanceMethod y_K_makePlaceAt ∈ ax_tb := tx_3 (i := 86) rfl rfl
theorem ws_K_makePlaceAt : Cond.selects "LossFreeTools" y_K_makePlaceAt y_K_makePlaceAt ∈ ax_tb := ax_tb_in (i := 2) (by decide +kernel) (by decide +kernel)
set_option maxRecDepth 16384 in
theorem wc_P_takeOver : Cond.code y_P_takeOver b_P_takeOver 4 none ∈ ax_tb := tx_3 (i := 99) rfl rfl
set_option maxRecDepth 16384 in
theorem wl_K_172 : Cond.methodLink "LossFreeTools" 172 y_P_takeOver ∈ ax_tb := tx_3 (i := 96) rfl rfl
set_option maxRecDepth 16384 in
theorem wi_P_takeOver : Cond.instanceMethod y_P_takeOver ∈ ax_tb := tx_3 (i := 97) rfl rfl
set_option maxRecDepth 16384 in
theorem ws_P_takeOver : Cond.selects "LossFreeTools$Picture" y_P_takeOver y_P_takeOver ∈ ax_tb := tx_3 (i := 98) rfl rfl
set_option maxRecDepth 16384 in
theorem wf_K_176 : Cond.fieldLink "LossFreeTools" 176 "LossFreeTools$Tile" "x" "I" ∈ ax_tb := tx_1 (i := 70) rfl rfl
set_option maxRecDepth 16384 in
theorem wf_K_179 : Cond.fieldLink "LossFreeTools" 179 "LossFreeTools$Tile" "y" "I" ∈ ax_tb := tx_1 (i := 72) rfl rfl
set_option maxRecDepth 16384 in
theorem wf_K_182 : Cond.fieldLink "LossFreeTools" 182 "LossFreeTools$Tile" "w" "I" ∈ ax_tb := tx_1 (i := 74) rfl rfl
set_option maxRecDepth 16384 in
theorem wf_K_185 : Cond.fieldLink "LossFreeTools" 185 "LossFreeTools$Tile" "h" "I" ∈ ax_tb := tx_1 (i := 76) rfl rfl
set_option maxRecDepth 16384 in
theorem wf_K_188 : Cond.fieldLink "LossFreeTools" 188 "LossFreeTools$Tile" "way" "I" ∈ ax_tb := tx_1 (i := 78) rfl rfl
set_option maxRecDepth 16384 in
theorem wc_T_ownWidth : Cond.code y_T_ownWidth b_T_ownWidth 1 (some .int) ∈ ax_tb := tx_3 (i := 110) rfl rfl
set_option maxRecDepth 16384 in
theorem wl_K_191 : Cond.methodLink "LossFreeTools" 191 y_T_ownWidth ∈ ax_tb := tx_3 (i := 107) rfl rfl
set_option maxRecDepth 16384 in
theorem wi_T_ownWidth : Cond.instanceMethod y_T_ownWidth ∈ ax_tb := tx_3 (i := 108) rfl rfl
set_option maxRecDepth 16384 in
theorem ws_T_ownWidth : Cond.selects "LossFreeTools$Tile" y_T_ownWidth y_T_ownWidth ∈ ax_tb := tx_3 (i := 109) rfl rfl
set_option maxRecDepth 16384 in
theorem wc_T_ownHeight : Cond.code y_T_ownHeight b_T_ownHeight 1 (some .int) ∈ ax_tb := tx_3 (i := 119) rfl rfl
set_option maxRecDepth 16384 in
theorem wl_K_195 : Cond.methodLink "LossFreeTools" 195 y_T_ownHeight ∈ ax_tb := tx_3 (i := 116) rfl rfl
set_option maxRecDepth 16384 in
theorem wi_T_ownHeight : Cond.instanceMethod y_T_ownHeight ∈ ax_tb := tx_3 (i := 117) rfl rfl
set_option maxRecDepth 16384 in
theorem ws_T_ownHeight : Cond.selects "LossFreeTools$Tile" y_T_ownHeight y_T_ownHeight ∈ ax_tb := tx_3 (i := 118) rfl rfl
set_option maxRecDepth 16384 in
theorem wf_K_200 : Cond.fieldLink "LossFreeTools" 200 "LossFreeTools$Tile" "bytes" "[I" ∈ ax_tb := tx_1 (i := 66) rfl rfl
set_option maxRecDepth 16384 in
theorem wc_P_tileOver : Cond.code y_P_tileOver b_P_tileOver 4 (some .int) ∈ ax_tb := tx_3 (i := 138) rfl rfl
set_option maxRecDepth 16384 in
theorem wl_K_203 : Cond.methodLink "LossFreeTools" 203 y_P_tileOver ∈ ax_tb := tx_3 (i := 135) rfl rfl
set_option maxRecDepth 16384 in
theorem wi_P_tileOver : Cond.instanceMethod y_P_tileOver ∈ ax_tb := tx_3 (i := 136) rfl rfl
set_option maxRecDepth 16384 in
theorem ws_P_tileOver : Cond.selects "LossFreeTools$Picture" y_P_tileOver y_P_tileOver ∈ ax_tb := tx_3 (i := 137) rfl rfl
set_option maxRecDepth 16384 in
theorem wc_T_ownSample : Cond.code y_T_ownSample b_T_ownSample 10 (some .int) ∈ ax_tb := tx_3 (i := 142) rfl rfl
set_option maxRecDepth 16384 in
theorem wl_K_206 : Cond.methodLink "LossFreeTools" 206 y_T_ownSample ∈ ax_tb := tx_3 (i := 139) rfl rfl
set_option maxRecDepth 16384 in
theorem wi_T_ownSample : Cond.instanceMethod y_T_ownSample ∈ ax_tb := tx_3 (i := 140) rfl rfl
set_option maxRecDepth 16384 in
theorem ws_T_ownSample : Cond.selects "LossFreeTools$Tile" y_T_ownSample y_T_ownSample ∈ ax_tb := tx_3 (i := 141) rfl rfl
set_option maxRecDepth 16384 in
theorem wf_K_211 : Cond.fieldLink "LossFreeTools" 211 "LossFreeTools$Picture" "notes" "[LLossFreeTools$Note;" ∈ ax_tb := tx_1 (i := 121) rfl rfl
set_option maxRecDepth 16384 in
theorem wf_K_215 : Cond.fieldLink "LossFreeTools" 215 "LossFreeTools$Note" "x" "I" ∈ ax_tb := tx_1 (i := 103) rfl rfl
set_option maxRecDepth 16384 in
theorem wf_K_218 : Cond.fieldLink "LossFreeTools" 218 "LossFreeTools$Note" "y" "I" ∈ ax_tb := tx_1 (i := 106) rfl rfl
set_option maxRecDepth 16384 in
theorem wf_K_219 : Cond.fieldLink "LossFreeTools" 219 "LossFreeTools$Note" "value" "I" ∈ ax_tb := tx_1 (i := 109) rfl rfl
set_option maxRecDepth 16384 in
theorem wf_K_242 : Cond.fieldLink "LossFreeTools" 242 "LossFreeTools$Stream" "bytes" "[I" ∈ ax_tb := tx_1 (i := 39) rfl rfl
set_option maxRecDepth 16384 in
theorem wf_M_68 : Cond.fieldLink "LossFreeToolsModel" 68 "LossFreeToolsModel" "code" "I" ∈ ax_tb := tx_3 (i := 176) rfl rfl
set_option maxRecDepth 16384 in
theorem wf_M_71 : Cond.fieldLink "LossFreeToolsModel" 71 "LossFreeToolsModel" "now" "I" ∈ ax_tb := tx_3 (i := 179) rfl rfl
set_option maxRecDepth 16384 in
theorem wf_M_74 : Cond.fieldLink "LossFreeToolsModel" 74 "LossFreeToolsModel" "since" "I" ∈ ax_tb := tx_3 (i := 194) rfl rfl
set_option maxRecDepth 16384 in
theorem wf_M_77 : Cond.fieldLink "LossFreeToolsModel" 77 "LossFreeToolsModel" "refused" "Z" ∈ ax_tb := tx_3 (i := 195) rfl rfl
set_option maxRecDepth 16384 in
theorem wf_M_81 : Cond.fieldLink "LossFreeToolsModel" 81 "LossFreeToolsModel" "streamMany" "I" ∈ ax_tb := tx_3 (i := 198) rfl rfl
set_option maxRecDepth 16384 in
theorem wf_M_7 : Cond.fieldLink "LossFreeToolsModel" 7 "LossFreeToolsModel" "wide" "[I" ∈ ax_tb := tx_3 (i := 180) rfl rfl
set_option maxRecDepth 16384 in
theorem wf_M_58 : Cond.fieldLink "LossFreeToolsModel" 58 "LossFreeToolsModel" "firstWide" "I" ∈ ax_tb := tx_3 (i := 177) rfl rfl
set_option maxRecDepth 16384 in
theorem wf_M_13 : Cond.fieldLink "LossFreeToolsModel" 13 "LossFreeToolsModel" "high" "[I" ∈ ax_tb := tx_3 (i := 181) rfl rfl
set_option maxRecDepth 16384 in
theorem wf_M_62 : Cond.fieldLink "LossFreeToolsModel" 62 "LossFreeToolsModel" "firstHigh" "I" ∈ ax_tb := tx_3 (i := 178) rfl rfl
set_option maxRecDepth 16384 in
theorem wf_M_16 : Cond.fieldLink "LossFreeToolsModel" 16 "LossFreeToolsModel" "tiles" "[I" ∈ ax_tb := tx_3 (i := 182) rfl rfl
set_option maxRecDepth 16384 in
theorem wf_M_19 : Cond.fieldLink "LossFreeToolsModel" 19 "LossFreeToolsModel" "notes" "[I" ∈ ax_tb := tx_3 (i := 183) rfl rfl
set_option maxRecDepth 16384 in
theorem wf_M_22 : Cond.fieldLink "LossFreeToolsModel" 22 "LossFreeToolsModel" "xs" "[I" ∈ ax_tb := tx_3 (i := 184) rfl rfl
set_option maxRecDepth 16384 in
theorem wf_M_25 : Cond.fieldLink "LossFreeToolsModel" 25 "LossFreeToolsModel" "ys" "[I" ∈ ax_tb := tx_3 (i := 185) rfl rfl
set_option maxRecDepth 16384 in
theorem wf_M_28 : Cond.fieldLink "LossFreeToolsModel" 28 "LossFreeToolsModel" "ws" "[I" ∈ ax_tb := tx_3 (i := 186) rfl rfl
set_option maxRecDepth 16384 in
theorem wf_M_31 : Cond.fieldLink "LossFreeToolsModel" 31 "LossFreeToolsModel" "hs" "[I" ∈ ax_tb := tx_3 (i := 187) rfl rfl
set_option maxRecDepth 16384 in
theorem wf_M_34 : Cond.fieldLink "LossFreeToolsModel" 34 "LossFreeToolsModel" "ways" "[I" ∈ ax_tb := tx_3 (i := 188) rfl rfl
set_option maxRecDepth 16384 in
theorem wf_M_37 : Cond.fieldLink "LossFreeToolsModel" 37 "LossFreeToolsModel" "sizes" "[I" ∈ ax_tb := tx_3 (i := 189) rfl rfl
set_option maxRecDepth 16384 in
theorem wf_M_40 : Cond.fieldLink "LossFreeToolsModel" 40 "LossFreeToolsModel" "bytes" "[I" ∈ ax_tb := tx_3 (i := 190) rfl rfl
set_option maxRecDepth 16384 in
theorem wf_M_43 : Cond.fieldLink "LossFreeToolsModel" 43 "LossFreeToolsModel" "noteXs" "[I" ∈ ax_tb := tx_3 (i := 191) rfl rfl
set_option maxRecDepth 16384 in
theorem wf_M_46 : Cond.fieldLink "LossFreeToolsModel" 46 "LossFreeToolsModel" "noteYs" "[I" ∈ ax_tb := tx_3 (i := 192) rfl rfl
set_option maxRecDepth 16384 in
theorem wf_M_49 : Cond.fieldLink "LossFreeToolsModel" 49 "LossFreeToolsModel" "noteBytes" "[I" ∈ ax_tb := tx_3 (i := 193) rfl rfl
set_option maxRecDepth 16384 in
theorem wf_M_55 : Cond.fieldLink "LossFreeToolsModel" 55 "LossFreeToolsModel" "stream" "[I" ∈ ax_tb := tx_3 (i := 197) rfl rfl
set_option maxRecDepth 16384 in
theorem wc_M_in : Cond.code y_M_in b_M_in 3 (some .boolean) ∈ ax_tb := tx_4 (i := 17) rfl rfl
set_option maxRecDepth 16384 in
theorem wn_LossFreeToolsModel : Cond.initialized "LossFreeToolsModel" ∈ ax_tb := tx_1 (i := 7) rfl rfl
set_option maxRecDepth 16384 in
theorem wl_M_84 : Cond.methodLink "LossFreeToolsModel" 84 y_M_in ∈ ax_tb := tx_4 (i := 15) rfl rfl
set_option maxRecDepth 16384 in
theorem wt_M_in : Cond.static y_M_in ∈ ax_tb := tx_4 (i := 16) rfl rfl
set_option maxRecDepth 16384 in
theorem wc_M_lies : Cond.code y_M_lies b_M_lies 5 (some .boolean) ∈ ax_tb := tx_4 (i := 21) rfl rfl
set_option maxRecDepth 16384 in
theorem wl_M_88 : Cond.methodLink "LossFreeToolsModel" 88 y_M_lies ∈ ax_tb := tx_4 (i := 18) rfl rfl
set_option maxRecDepth 16384 in
theorem wi_M_lies : Cond.instanceMethod y_M_lies ∈ ax_tb := tx_4 (i := 20) rfl rfl
theorem ws_M_lies : Cond.selects "LossFreeToolsModel" y_M_lies y_M_lies ∈ ax_tb := ax_tb_in (i := 3) (by decide +kernel) (by decide +kernel)
set_option maxRecDepth 16384 in
theorem wc_M_tileAt : Cond.code y_M_tileAt b_M_tileAt 2 (some .int) ∈ ax_tb := tx_4 (i := 25) rfl rfl
set_option maxRecDepth 16384 in
theorem wl_M_92 : Cond.methodLink "LossFreeToolsModel" 92 y_M_tileAt ∈ ax_tb := tx_4 (i := 22) rfl rfl
set_option maxRecDepth 16384 in
theorem wi_M_tileAt : Cond.instanceMethod y_M_tileAt ∈ ax_tb := tx_4 (i := 24) rfl rfl
theorem ws_M_tileAt : Cond.selects "LossFreeToolsModel" y_M_tileAt y_M_tileAt ∈ ax_tb := ax_tb_in (i := 4) (by decide +kernel) (by decide +kernel)
set_option maxRecDepth 16384 in
theorem wf_M_52 : Cond.fieldLink "LossFreeToolsModel" 52 "LossFreeToolsModel" "nears" "[I" ∈ ax_tb := tx_3 (i := 196) rfl rfl
set_option maxRecDepth 16384 in
theorem wc_M_isTurned : Cond.code y_M_isTurned b_M_isTurned 1 (some .boolean) ∈ ax_tb := tx_4 (i := 75) rfl rfl
set_option maxRecDepth 16384 in
theorem wl_M_123 : Cond.methodLink "LossFreeToolsModel" 123 y_M_isTurned ∈ ax_tb := tx_4 (i := 73) rfl rfl
set_option maxRecDepth 16384 in
theorem wt_M_isTurned : Cond.static y_M_isTurned ∈ ax_tb := tx_4 (i := 74) rfl rfl
set_option maxRecDepth 16384 in
theorem wc_M_comes : Cond.code y_M_comes b_M_comes 12 (some .int) ∈ ax_tb := tx_4 (i := 72) rfl rfl
set_option maxRecDepth 16384 in
theorem wl_M_119 : Cond.methodLink "LossFreeToolsModel" 119 y_M_comes ∈ ax_tb := tx_4 (i := 70) rfl rfl
set_option maxRecDepth 16384 in
theorem wt_M_comes : Cond.static y_M_comes ∈ ax_tb := tx_4 (i := 71) rfl rfl
set_option maxRecDepth 16384 in
theorem wc_M_move : Cond.code y_M_move b_M_move 4 none ∈ ax_tb := tx_4 (i := 57) rfl rfl
set_option maxRecDepth 16384 in
theorem wl_M_112 : Cond.methodLink "LossFreeToolsModel" 112 y_M_move ∈ ax_tb := tx_4 (i := 54) rfl rfl
set_option maxRecDepth 16384 in
theorem wi_M_move : Cond.instanceMethod y_M_move ∈ ax_tb := tx_4 (i := 56) rfl rfl
theorem ws_M_move : Cond.selects "LossFreeToolsModel" y_M_move y_M_move ∈ ax_tb := ax_tb_in (i := 9) (by decide +kernel) (by decide +kernel)
set_option maxRecDepth 16384 in
theorem wc_M_moveNote : Cond.code y_M_moveNote b_M_moveNote 3 none ∈ ax_tb := tx_4 (i := 61) rfl rfl
set_option maxRecDepth 16384 in
theorem wl_M_116 : Cond.methodLink "LossFreeToolsModel" 116 y_M_moveNote ∈ ax_tb := tx_4 (i := 58) rfl rfl
set_option maxRecDepth 16384 in
theorem wi_M_moveNote : Cond.instanceMethod y_M_moveNote ∈ ax_tb := tx_4 (i := 60) rfl rfl
theorem ws_M_moveNote : Cond.selects "LossFreeToolsModel" y_M_moveNote y_M_moveNote ∈ ax_tb := ax_tb_in (i := 10) (by decide +kernel) (by decide +kernel)
set_option maxRecDepth 16384 in
theorem wc_M_tell : Cond.code y_M_tell b_M_tell 2 none ∈ ax_tb := tx_4 (i := 128) rfl rfl
set_option maxRecDepth 16384 in
theorem wl_M_133 : Cond.methodLink "LossFreeToolsModel" 133 y_M_tell ∈ ax_tb := tx_4 (i := 125) rfl rfl
set_option maxRecDepth 16384 in
theorem wi_M_tell : Cond.instanceMethod y_M_tell ∈ ax_tb := tx_4 (i := 127) rfl rfl
theorem ws_M_tell : Cond.selects "LossFreeToolsModel" y_M_tell y_M_tell ∈ ax_tb := ax_tb_in (i := 13) (by decide +kernel) (by decide +kernel)
set_option maxRecDepth 16384 in
theorem wc_M_isBefore : Cond.code y_M_isBefore b_M_isBefore 3 (some .boolean) ∈ ax_tb := tx_4 (i := 117) rfl rfl
set_option maxRecDepth 16384 in
theorem wl_M_137 : Cond.methodLink "LossFreeToolsModel" 137 y_M_isBefore ∈ ax_tb := tx_4 (i := 114) rfl rfl
set_option maxRecDepth 16384 in
theorem wi_M_isBefore : Cond.instanceMethod y_M_isBefore ∈ ax_tb := tx_4 (i := 116) rfl rfl
theorem ws_M_isBefore : Cond.selects "LossFreeToolsModel" y_M_isBefore y_M_isBefore ∈ ax_tb := ax_tb_in (i := 12) (by decide +kernel) (by decide +kernel)
set_option maxRecDepth 16384 in
theorem wc_M_partSize : Cond.code y_M_partSize b_M_partSize 1 (some .int) ∈ ax_tb := tx_4 (i := 120) rfl rfl
set_option maxRecDepth 16384 in
theorem wl_M_140 : Cond.methodLink "LossFreeToolsModel" 140 y_M_partSize ∈ ax_tb := tx_4 (i := 118) rfl rfl
set_option maxRecDepth 16384 in
theorem wt_M_partSize : Cond.static y_M_partSize ∈ ax_tb := tx_4 (i := 119) rfl rfl
set_option maxRecDepth 16384 in
theorem wc_M_isTile : Cond.code y_M_isTile b_M_isTile 2 (some .boolean) ∈ ax_tb := tx_4 (i := 33) rfl rfl
set_option maxRecDepth 16384 in
theorem wl_M_96 : Cond.methodLink "LossFreeToolsModel" 96 y_M_isTile ∈ ax_tb := tx_4 (i := 30) rfl rfl
set_option maxRecDepth 16384 in
theorem wi_M_isTile : Cond.instanceMethod y_M_isTile ∈ ax_tb := tx_4 (i := 32) rfl rfl
theorem ws_M_isTile : Cond.selects "LossFreeToolsModel" y_M_isTile y_M_isTile ∈ ax_tb := ax_tb_in (i := 5) (by decide +kernel) (by decide +kernel)
set_option maxRecDepth 16384 in
theorem wc_M_isSample : Cond.code y_M_isSample b_M_isSample 3 (some .boolean) ∈ ax_tb := tx_4 (i := 41) rfl rfl
set_option maxRecDepth 16384 in
theorem wl_M_100 : Cond.methodLink "LossFreeToolsModel" 100 y_M_isSample ∈ ax_tb := tx_4 (i := 38) rfl rfl
set_option maxRecDepth 16384 in
theorem wi_M_isSample : Cond.instanceMethod y_M_isSample ∈ ax_tb := tx_4 (i := 40) rfl rfl
theorem ws_M_isSample : Cond.selects "LossFreeToolsModel" y_M_isSample y_M_isSample ∈ ax_tb := ax_tb_in (i := 6) (by decide +kernel) (by decide +kernel)
set_option maxRecDepth 16384 in
theorem wc_M_fits : Cond.code y_M_fits b_M_fits 8 (some .boolean) ∈ ax_tb := tx_4 (i := 49) rfl rfl
set_option maxRecDepth 16384 in
theorem wl_M_104 : Cond.methodLink "LossFreeToolsModel" 104 y_M_fits ∈ ax_tb := tx_4 (i := 46) rfl rfl
set_option maxRecDepth 16384 in
theorem wi_M_fits : Cond.instanceMethod y_M_fits ∈ ax_tb := tx_4 (i := 48) rfl rfl
theorem ws_M_fits : Cond.selects "LossFreeToolsModel" y_M_fits y_M_fits ∈ ax_tb := ax_tb_in (i := 7) (by decide +kernel) (by decide +kernel)
set_option maxRecDepth 16384 in
theorem wc_M_both : Cond.code y_M_both b_M_both 8 (some .int) ∈ ax_tb := tx_4 (i := 78) rfl rfl
set_option maxRecDepth 16384 in
theorem wl_M_126 : Cond.methodLink "LossFreeToolsModel" 126 y_M_both ∈ ax_tb := tx_4 (i := 76) rfl rfl
set_option maxRecDepth 16384 in
theorem wt_M_both : Cond.static y_M_both ∈ ax_tb := tx_4 (i := 77) rfl rfl
set_option maxRecDepth 16384 in
theorem wc_M_ownOf : Cond.code y_M_ownOf b_M_ownOf 7 (some .int) ∈ ax_tb := tx_4 (i := 101) rfl rfl
set_option maxRecDepth 16384 in
theorem wl_M_130 : Cond.methodLink "LossFreeToolsModel" 130 y_M_ownOf ∈ ax_tb := tx_4 (i := 99) rfl rfl
set_option maxRecDepth 16384 in
theorem wt_M_ownOf : Cond.static y_M_ownOf ∈ ax_tb := tx_4 (i := 100) rfl rfl
set_option maxRecDepth 16384 in
theorem wc_M_pointerOf : Cond.code y_M_pointerOf b_M_pointerOf 4 (some .int) ∈ ax_tb := tx_4 (i := 113) rfl rfl
set_option maxRecDepth 16384 in
theorem wl_M_143 : Cond.methodLink "LossFreeToolsModel" 143 y_M_pointerOf ∈ ax_tb := tx_4 (i := 110) rfl rfl
set_option maxRecDepth 16384 in
theorem wi_M_pointerOf : Cond.instanceMethod y_M_pointerOf ∈ ax_tb := tx_4 (i := 112) rfl rfl
theorem ws_M_pointerOf : Cond.selects "LossFreeToolsModel" y_M_pointerOf y_M_pointerOf ∈ ax_tb := ax_tb_in (i := 11) (by decide +kernel) (by decide +kernel)
set_option maxRecDepth 16384 in
theorem wc_M_tellTwo : Cond.code y_M_tellTwo b_M_tellTwo 2 none ∈ ax_tb := tx_4 (i := 132) rfl rfl
set_option maxRecDepth 16384 in
theorem wl_M_146 : Cond.methodLink "LossFreeToolsModel" 146 y_M_tellTwo ∈ ax_tb := tx_4 (i := 129) rfl rfl
set_option maxRecDepth 16384 in
theorem wi_M_tellTwo : Cond.instanceMethod y_M_tellTwo ∈ ax_tb := tx_4 (i := 131) rfl rfl
theorem ws_M_tellTwo : Cond.selects "LossFreeToolsModel" y_M_tellTwo y_M_tellTwo ∈ ax_tb := ax_tb_in (i := 14) (by decide +kernel) (by decide +kernel)
set_option maxRecDepth 16384 in
theorem wk_M_149 : Cond.constant "LossFreeToolsModel" 149 65521 ∈ ax_tb := tx_4 (i := 137) rfl rfl
set_option maxRecDepth 16384 in
theorem wc_M_nearest : Cond.code y_M_nearest b_M_nearest 8 (some .int) ∈ ax_tb := tx_4 (i := 53) rfl rfl
set_option maxRecDepth 16384 in
theorem wl_M_108 : Cond.methodLink "LossFreeToolsModel" 108 y_M_nearest ∈ ax_tb := tx_4 (i := 50) rfl rfl
set_option maxRecDepth 16384 in
theorem wi_M_nearest : Cond.instanceMethod y_M_nearest ∈ ax_tb := tx_4 (i := 52) rfl rfl
theorem ws_M_nearest : Cond.selects "LossFreeToolsModel" y_M_nearest y_M_nearest ∈ ax_tb := ax_tb_in (i := 8) (by decide +kernel) (by decide +kernel)
set_option maxRecDepth 16384 in
theorem wc_M_tellPart : Cond.code y_M_tellPart b_M_tellPart 5 none ∈ ax_tb := tx_4 (i := 136) rfl rfl
set_option maxRecDepth 16384 in
theorem wl_M_150 : Cond.methodLink "LossFreeToolsModel" 150 y_M_tellPart ∈ ax_tb := tx_4 (i := 133) rfl rfl
set_option maxRecDepth 16384 in
theorem wi_M_tellPart : Cond.instanceMethod y_M_tellPart ∈ ax_tb := tx_4 (i := 135) rfl rfl
theorem ws_M_tellPart : Cond.selects "LossFreeToolsModel" y_M_tellPart y_M_tellPart ∈ ax_tb := ax_tb_in (i := 15) (by decide +kernel) (by decide +kernel)
theorem ta_K_76 : ∀ w ∈ Bundle.ownAtoms "LossFreeTools" 76 "java/lang/UnsupportedOperationException" ["java/lang/RuntimeException", "java/lang/Exception"], w ∈ ax_tb ∨ w ∈ ax_nw ∨ w ∈ ax_t4 := by decide +kernel
theorem ta_K_68 : ∀ w ∈ Bundle.ownAtoms "LossFreeTools" 68 "java/lang/IllegalStateException" ["java/lang/RuntimeException", "java/lang/Exception"], w ∈ ax_tb ∨ w ∈ ax_nw ∨ w ∈ ax_t4 := by decide +kernel
theorem ta_K_58 : ∀ w ∈ Bundle.ownAtoms "LossFreeTools" 58 "java/lang/IllegalArgumentException" ["java/lang/RuntimeException", "java/lang/Exception"], w ∈ ax_tb ∨ w ∈ ax_nw ∨ w ∈ ax_t4 := by decide +kernel
theorem ta_K_89 : ∀ w ∈ Bundle.ownAtoms "LossFreeTools" 89 "java/lang/IndexOutOfBoundsException" ["java/lang/RuntimeException", "java/lang/Exception"], w ∈ ax_tb ∨ w ∈ ax_nw ∨ w ∈ ax_t4 := by decide +kernel
theorem fl_N_7 : ax_fl "LossFreeTools$Note" 7 0 0 .int false := ⟨_, rfl, by decide, wf_N_7, by decide +kernel, rfl⟩
theorem fl_N_13 : ax_fl "LossFreeTools$Note" 13 0 1 .int false := ⟨_, rfl, by decide, wf_N_13, by decide +kernel, rfl⟩
theorem fl_N_16 : ax_fl "LossFreeTools$Note" 16 0 2 .int false := ⟨_, rfl, by decide, wf_N_16, by decide +kernel, rfl⟩
theorem fl_P_25 : ax_fl "LossFreeTools$Picture" 25 1 4 .int false := ⟨_, rfl, by decide, wf_P_25, by decide +kernel, rfl⟩
theorem fl_P_29 : ax_fl "LossFreeTools$Picture" 29 1 5 .int false := ⟨_, rfl, by decide, wf_P_29, by decide +kernel, rfl⟩
theorem fl_P_32 : ax_fl "LossFreeTools$Picture" 32 1 2 .int false := ⟨_, rfl, by decide, wf_P_32, by decide +kernel, rfl⟩
theorem fl_P_35 : ax_fl "LossFreeTools$Picture" 35 1 3 .int false := ⟨_, rfl, by decide, wf_P_35, by decide +kernel, rfl⟩
theorem fl_T_15 : ax_fl "LossFreeTools$Tile" 15 3 2 .int false := ⟨_, rfl, by decide, wf_T_15, by decide +kernel, rfl⟩
theorem fl_T_22 : ax_fl "LossFreeTools$Tile" 22 3 4 .int false := ⟨_, rfl, by decide, wf_T_22, by decide +kernel, rfl⟩
theorem fl_T_19 : ax_fl "LossFreeTools$Tile" 19 3 3 .int false := ⟨_, rfl, by decide, wf_T_19, by decide +kernel, rfl⟩
theorem fl_T_25 : ax_fl "LossFreeTools$Tile" 25 3 5 .int false := ⟨_, rfl, by decide, wf_T_25, by decide +kernel, rfl⟩
theorem fl_T_28 : ax_fl "LossFreeTools$Tile" 28 3 6 .int false := ⟨_, rfl, by decide, wf_T_28, by decide +kernel, rfl⟩
theorem fl_T_31 : ax_fl "LossFreeTools$Tile" 31 3 1 .int false := ⟨_, rfl, by decide, wf_T_31, by decide +kernel, rfl⟩
theorem fl_P_11 : ax_fl "LossFreeTools$Picture" 11 1 0 (.array (.object "LossFreeTools$Tile")) true := ⟨_, rfl, by decide, wf_P_11, by decide +kernel, rfl⟩
theorem fl_P_20 : ax_fl "LossFreeTools$Picture" 20 1 1 (.array (.object "LossFreeTools$Note")) true := ⟨_, rfl, by decide, wf_P_20, by decide +kernel, rfl⟩
theorem fl_S_19 : ax_fl "LossFreeTools$Stream" 19 2 2 .int false := ⟨_, rfl, by decide, wf_S_19, by decide +kernel, rfl⟩
theorem fl_S_9 : ax_fl "LossFreeTools$Stream" 9 2 0 (.array .int) true := ⟨_, rfl, by decide, wf_S_9, by decide +kernel, rfl⟩
theorem fl_S_15 : ax_fl "LossFreeTools$Stream" 15 2 1 .int false := ⟨_, rfl, by decide, wf_S_15, by decide +kernel, rfl⟩
theorem fl_T_9 : ax_fl "LossFreeTools$Tile" 9 3 0 (.array .int) true := ⟨_, rfl, by decide, wf_T_9, by decide +kernel, rfl⟩
theorem fl_K_36 : ax_fl "LossFreeTools" 36 4 4 (.object "LossFreeTools$Picture") false := ⟨_, rfl, by decide, wf_K_36, by decide +kernel, rfl⟩
theorem fl_K_40 : ax_fl "LossFreeTools" 40 4 5 (.object "LossFreeTools$Picture") false := ⟨_, rfl, by decide, wf_K_40, by decide +kernel, rfl⟩
theorem fl_K_43 : ax_fl "LossFreeTools" 43 4 6 .int false := ⟨_, rfl, by decide, wf_K_43, by decide +kernel, rfl⟩
theorem fl_K_46 : ax_fl "LossFreeTools" 46 4 7 .boolean false := ⟨_, rfl, by decide, wf_K_46, by decide +kernel, rfl⟩
theorem fl_K_69 : ax_fl "LossFreeTools" 69 1 2 .int false := ⟨_, rfl, by decide, wf_K_69, by decide +kernel, rfl⟩
theorem fl_K_243 : ax_fl "LossFreeTools" 243 1 4 .int false := ⟨_, rfl, by decide, wf_K_243, by decide +kernel, rfl⟩
theorem fl_K_246 : ax_fl "LossFreeTools" 246 1 5 .int false := ⟨_, rfl, by decide, wf_K_246, by decide +kernel, rfl⟩
theorem fl_K_115 : ax_fl "LossFreeTools" 115 1 3 .int false := ⟨_, rfl, by decide, wf_K_115, by decide +kernel, rfl⟩
theorem fl_K_23 : ax_fl "LossFreeTools" 23 4 2 (.object "LossFreeTools$Stream") true := ⟨_, rfl, by decide, wf_K_23, by decide +kernel, rfl⟩
theorem fl_K_239 : ax_fl "LossFreeTools" 239 2 1 .int false := ⟨_, rfl, by decide, wf_K_239, by decide +kernel, rfl⟩
theorem mt_T_overlaps : ax_mt y_T_overlaps b_T_overlaps 5 (some .boolean) 4 := ⟨wc_T_overlaps, wn_LossFreeTools_Tile, by decide +kernel, by decide +kernel, by decide +kernel⟩
theorem mt_T_startAnew : ax_mt y_T_startAnew b_T_startAnew 5 none 4 := ⟨wc_T_startAnew, wn_LossFreeTools_Tile, by decide +kernel, by decide +kernel, by decide +kernel⟩
theorem mt_N_startAnew : ax_mt y_N_startAnew b_N_startAnew 4 none 3 := ⟨wc_N_startAnew, wn_LossFreeTools_Note, by decide +kernel, by decide +kernel, by decide +kernel⟩
theorem mt_T_crosses : ax_mt y_T_crosses b_T_crosses 5 (some .boolean) 2 := ⟨wc_T_crosses, wn_LossFreeTools_Tile, by decide +kernel, by decide +kernel, by decide +kernel⟩
theorem mt_T_isWithin : ax_mt y_T_isWithin b_T_isWithin 5 (some .boolean) 4 := ⟨wc_T_isWithin, wn_LossFreeTools_Tile, by decide +kernel, by decide +kernel, by decide +kernel⟩
theorem mt_N_isWithin : ax_mt y_N_isWithin b_N_isWithin 5 (some .boolean) 4 := ⟨wc_N_isWithin, wn_LossFreeTools_Note, by decide +kernel, by decide +kernel, by decide +kernel⟩
theorem mt_T_moveBy : ax_mt y_T_moveBy b_T_moveBy 3 none 2 := ⟨wc_T_moveBy, wn_LossFreeTools_Tile, by decide +kernel, by decide +kernel, by decide +kernel⟩
theorem mt_N_moveBy : ax_mt y_N_moveBy b_N_moveBy 3 none 2 := ⟨wc_N_moveBy, wn_LossFreeTools_Note, by decide +kernel, by decide +kernel, by decide +kernel⟩
theorem mt_T_mirrorIn : ax_mt y_T_mirrorIn b_T_mirrorIn 2 none 1 := ⟨wc_T_mirrorIn, wn_LossFreeTools_Tile, by decide +kernel, by decide +kernel, by decide +kernel⟩
theorem mt_N_mirrorIn : ax_mt y_N_mirrorIn b_N_mirrorIn 2 none 1 := ⟨wc_N_mirrorIn, wn_LossFreeTools_Note, by decide +kernel, by decide +kernel, by decide +kernel⟩
theorem mt_T_quarterIn : ax_mt y_T_quarterIn b_T_quarterIn 4 none 1 := ⟨wc_T_quarterIn, wn_LossFreeTools_Tile, by decide +kernel, by decide +kernel, by decide +kernel⟩
theorem mt_N_quarterIn : ax_mt y_N_quarterIn b_N_quarterIn 3 none 1 := ⟨wc_N_quarterIn, wn_LossFreeTools_Note, by decide +kernel, by decide +kernel, by decide +kernel⟩
theorem mt_K_mirrors : ax_mt y_K_mirrors b_K_mirrors 1 (some .boolean) 1 := ⟨wc_K_mirrors, wn_LossFreeTools, by decide +kernel, by decide +kernel, by decide +kernel⟩
theorem mt_K_quarters : ax_mt y_K_quarters b_K_quarters 1 (some .int) 1 := ⟨wc_K_quarters, wn_LossFreeTools, by decide +kernel, by decide +kernel, by decide +kernel⟩
theorem mt_P_sizeAlong : ax_mt y_P_sizeAlong b_P_sizeAlong 2 (some .int) 1 := ⟨wc_P_sizeAlong, wn_LossFreeTools_Picture, by decide +kernel, by decide +kernel, by decide +kernel⟩
theorem mt_T_partComesBefore : ax_mt y_T_partComesBefore b_T_partComesBefore 2 (some .boolean) 1 := ⟨wc_T_partComesBefore, wn_LossFreeTools_Tile, by decide +kernel, by decide +kernel, by decide +kernel⟩
theorem mt_T_partLength : ax_mt y_T_partLength b_T_partLength 1 (some .int) 0 := ⟨wc_T_partLength, wn_LossFreeTools_Tile, by decide +kernel, by decide +kernel, by decide +kernel⟩
theorem mt_S_putByte : ax_mt y_S_putByte b_S_putByte 2 none 1 := ⟨wc_S_putByte, wn_LossFreeTools_Stream, by decide +kernel, by decide +kernel, by decide +kernel⟩
theorem fl_K_13 : ax_fl "LossFreeTools" 13 4 0 .int true := ⟨_, rfl, by decide, wf_K_13, by decide +kernel, rfl⟩
theorem fl_K_17 : ax_fl "LossFreeTools" 17 4 1 .int true := ⟨_, rfl, by decide, wf_K_17, by decide +kernel, rfl⟩
theorem mt_P_startAnew : ax_mt y_P_startAnew b_P_startAnew 3 none 2 := ⟨wc_P_startAnew, wn_LossFreeTools_Picture, by decide +kernel, by decide +kernel, by decide +kernel⟩
theorem mt_S_empty : ax_mt y_S_empty b_S_empty 1 none 0 := ⟨wc_S_empty, wn_LossFreeTools_Stream, by decide +kernel, by decide +kernel, by decide +kernel⟩
theorem mt_P_borderFits : ax_mt y_P_borderFits b_P_borderFits 4 (some .boolean) 2 := ⟨wc_P_borderFits, wn_LossFreeTools_Picture, by decide +kernel, by decide +kernel, by decide +kernel⟩
theorem mt_P_keepTilesWithin : ax_mt y_P_keepTilesWithin b_P_keepTilesWithin 8 none 4 := ⟨wc_P_keepTilesWithin, wn_LossFreeTools_Picture, by decide +kernel, by decide +kernel, by decide +kernel⟩
theorem mt_P_keepNotesWithin : ax_mt y_P_keepNotesWithin b_P_keepNotesWithin 8 none 4 := ⟨wc_P_keepNotesWithin, wn_LossFreeTools_Picture, by decide +kernel, by decide +kernel, by decide +kernel⟩
theorem mt_P_moveBy : ax_mt y_P_moveBy b_P_moveBy 4 none 2 := ⟨wc_P_moveBy, wn_LossFreeTools_Picture, by decide +kernel, by decide +kernel, by decide +kernel⟩
theorem mt_P_mirror : ax_mt y_P_mirror b_P_mirror 2 none 0 := ⟨wc_P_mirror, wn_LossFreeTools_Picture, by decide +kernel, by decide +kernel, by decide +kernel⟩
theorem mt_P_turnQuarter : ax_mt y_P_turnQuarter b_P_turnQuarter 2 none 0 := ⟨wc_P_turnQuarter, wn_LossFreeTools_Picture, by decide +kernel, by decide +kernel, by decide +kernel⟩
theorem fl_P_90 : ax_fl "LossFreeTools$Picture" 90 3 6 .int false := ⟨_, rfl, by decide, wf_P_90, by decide +kernel, rfl⟩
theorem mt_K_together : ax_mt y_K_together b_K_together 4 (some .int) 2 := ⟨wc_K_together, wn_LossFreeTools, by decide +kernel, by decide +kernel, by decide +kernel⟩
theorem mt_S_putNumber : ax_mt y_S_putNumber b_S_putNumber 2 none 1 := ⟨wc_S_putNumber, wn_LossFreeTools_Stream, by decide +kernel, by decide +kernel, by decide +kernel⟩
theorem mt_P_placeOfPart : ax_mt y_P_placeOfPart b_P_placeOfPart 4 (some .int) 1 := ⟨wc_P_placeOfPart, wn_LossFreeTools_Picture, by decide +kernel, by decide +kernel, by decide +kernel⟩
theorem fl_P_126 : ax_fl "LossFreeTools$Picture" 126 0 0 .int false := ⟨_, rfl, by decide, wf_P_126, by decide +kernel, rfl⟩
theorem fl_P_129 : ax_fl "LossFreeTools$Picture" 129 0 1 .int false := ⟨_, rfl, by decide, wf_P_129, by decide +kernel, rfl⟩
theorem fl_P_132 : ax_fl "LossFreeTools$Picture" 132 0 2 .int false := ⟨_, rfl, by decide, wf_P_132, by decide +kernel, rfl⟩
theorem mt_T_liesOnItsSide : ax_mt y_T_liesOnItsSide b_T_liesOnItsSide 1 (some .boolean) 0 := ⟨wc_T_liesOnItsSide, wn_LossFreeTools_Tile, by decide +kernel, by decide +kernel, by decide +kernel⟩
theorem fl_T_46 : ax_fl "LossFreeTools$Tile" 46 2 2 .int false := ⟨_, rfl, by decide, wf_T_46, by decide +kernel, rfl⟩
theorem mt_S_sumFrom : ax_mt y_S_sumFrom b_S_sumFrom 4 (some .int) 1 := ⟨wc_S_sumFrom, wn_LossFreeTools_Stream, by decide +kernel, by decide +kernel, by decide +kernel⟩
theorem mt_K_isUpright : ax_mt y_K_isUpright b_K_isUpright 1 (some .boolean) 1 := ⟨wc_K_isUpright, wn_LossFreeTools, by decide +kernel, by decide +kernel, by decide +kernel⟩
theorem fl_K_27 : ax_fl "LossFreeTools" 27 4 3 (.array .int) true := ⟨_, rfl, by decide, wf_K_27, by decide +kernel, rfl⟩
theorem mt_P_moveAlong : ax_mt y_P_moveAlong b_P_moveAlong 3 none 2 := ⟨wc_P_moveAlong, wn_LossFreeTools_Picture, by decide +kernel, by decide +kernel, by decide +kernel⟩
theorem mt_P_growAlong : ax_mt y_P_growAlong b_P_growAlong 3 none 2 := ⟨wc_P_growAlong, wn_LossFreeTools_Picture, by decide +kernel, by decide +kernel, by decide +kernel⟩
theorem mt_P_putHead : ax_mt y_P_putHead b_P_putHead 3 none 1 := ⟨wc_P_putHead, wn_LossFreeTools_Picture, by decide +kernel, by decide +kernel, by decide +kernel⟩
theorem fl_K_95 : ax_fl "LossFreeTools" 95 1 0 (.array (.object "LossFreeTools$Tile")) true := ⟨_, rfl, by decide, wf_K_95, by decide +kernel, rfl⟩
theorem mt_S_goTo : ax_mt y_S_goTo b_S_goTo 2 none 1 := ⟨wc_S_goTo, wn_LossFreeTools_Stream, by decide +kernel, by decide +kernel, by decide +kernel⟩
theorem mt_T_putPart : ax_mt y_T_putPart b_T_putPart 4 none 1 := ⟨wc_T_putPart, wn_LossFreeTools_Tile, by decide +kernel, by decide +kernel, by decide +kernel⟩
theorem mt_P_holdsRectangle : ax_mt y_P_holdsRectangle b_P_holdsRectangle 5 (some .boolean) 4 := ⟨wc_P_holdsRectangle, wn_LossFreeTools_Picture, by decide +kernel, by decide +kernel, by decide +kernel⟩
theorem mt_P_overlapsTile : ax_mt y_P_overlapsTile b_P_overlapsTile 6 (some .boolean) 4 := ⟨wc_P_overlapsTile, wn_LossFreeTools_Picture, by decide +kernel, by decide +kernel, by decide +kernel⟩
theorem mt_P_addTile : ax_mt y_P_addTile b_P_addTile 5 (some .int) 4 := ⟨wc_P_addTile, wn_LossFreeTools_Picture, by decide +kernel, by decide +kernel, by decide +kernel⟩
theorem th_K_74_76 : ax_thr "LossFreeTools" 72 74 76 "java/lang/UnsupportedOperationException" "no room for a tile more" := ⟨by decide +kernel, wq_K_72, wn_java_lang_UnsupportedOperationException, by decide +kernel, ta_K_76⟩
theorem th_K_66_68 : ax_thr "LossFreeTools" 64 66 68 "java/lang/IllegalStateException" "another tile has a sample in common" := ⟨by decide +kernel, wq_K_64, wn_java_lang_IllegalStateException, by decide +kernel, ta_K_68⟩
theorem th_K_56_58 : ax_thr "LossFreeTools" 54 56 58 "java/lang/IllegalArgumentException" "not a tile of the picture" := ⟨by decide +kernel, wq_K_54, wn_java_lang_IllegalArgumentException, by decide +kernel, ta_K_58⟩
theorem mt_P_hasTile : ax_mt y_P_hasTile b_P_hasTile 2 (some .boolean) 1 := ⟨wc_P_hasTile, wn_LossFreeTools_Picture, by decide +kernel, by decide +kernel, by decide +kernel⟩
theorem mt_K_isByte : ax_mt y_K_isByte b_K_isByte 1 (some .boolean) 1 := ⟨wc_K_isByte, wn_LossFreeTools, by decide +kernel, by decide +kernel, by decide +kernel⟩
theorem fl_K_99 : ax_fl "LossFreeTools" 99 3 1 .int false := ⟨_, rfl, by decide, wf_K_99, by decide +kernel, rfl⟩
theorem mt_T_addByte : ax_mt y_T_addByte b_T_addByte 2 (some .int) 1 := ⟨wc_T_addByte, wn_LossFreeTools_Tile, by decide +kernel, by decide +kernel, by decide +kernel⟩
theorem th_K_104_76 : ax_thr "LossFreeTools" 72 104 76 "java/lang/UnsupportedOperationException" "no room for a byte more" := ⟨by decide +kernel, wq_K_72, wn_java_lang_UnsupportedOperationException, by decide +kernel, ta_K_76⟩
theorem th_K_93_58 : ax_thr "LossFreeTools" 54 93 58 "java/lang/IllegalArgumentException" "not a byte" := ⟨by decide +kernel, wq_K_54, wn_java_lang_IllegalArgumentException, by decide +kernel, ta_K_58⟩
theorem th_K_87_89 : ax_thr "LossFreeTools" 85 87 89 "java/lang/IndexOutOfBoundsException" "no such tile" := ⟨by decide +kernel, wq_K_85, wn_java_lang_IndexOutOfBoundsException, by decide +kernel, ta_K_89⟩
theorem mt_P_hasSample : ax_mt y_P_hasSample b_P_hasSample 3 (some .boolean) 2 := ⟨wc_P_hasSample, wn_LossFreeTools_Picture, by decide +kernel, by decide +kernel, by decide +kernel⟩
theorem mt_P_addNote : ax_mt y_P_addNote b_P_addNote 4 (some .int) 3 := ⟨wc_P_addNote, wn_LossFreeTools_Picture, by decide +kernel, by decide +kernel, by decide +kernel⟩
theorem th_K_118_76 : ax_thr "LossFreeTools" 72 118 76 "java/lang/UnsupportedOperationException" "no room for a note more" := ⟨by decide +kernel, wq_K_72, wn_java_lang_UnsupportedOperationException, by decide +kernel, ta_K_76⟩
theorem th_K_113_89 : ax_thr "LossFreeTools" 85 113 89 "java/lang/IndexOutOfBoundsException" "no such sample" := ⟨by decide +kernel, wq_K_85, wn_java_lang_IndexOutOfBoundsException, by decide +kernel, ta_K_89⟩
theorem mt_K_allAskedFit : ax_mt y_K_allAskedFit b_K_allAskedFit 2 (some .boolean) 0 := ⟨wc_K_allAskedFit, wn_LossFreeTools, by decide +kernel, by decide +kernel, by decide +kernel⟩
theorem th_K_124_58 : ax_thr "LossFreeTools" 54 124 58 "java/lang/IllegalArgumentException" "not a rectangle of the picture" := ⟨by decide +kernel, wq_K_54, wn_java_lang_IllegalArgumentException, by decide +kernel, ta_K_58⟩
theorem mt_P_cutTo : ax_mt y_P_cutTo b_P_cutTo 5 (some .int) 4 := ⟨wc_P_cutTo, wn_LossFreeTools_Picture, by decide +kernel, by decide +kernel, by decide +kernel⟩
theorem mt_K_isSide : ax_mt y_K_isSide b_K_isSide 1 (some .boolean) 1 := ⟨wc_K_isSide, wn_LossFreeTools, by decide +kernel, by decide +kernel, by decide +kernel⟩
theorem mt_P_nearestFit : ax_mt y_P_nearestFit b_P_nearestFit 7 (some .int) 2 := ⟨wc_P_nearestFit, wn_LossFreeTools_Picture, by decide +kernel, by decide +kernel, by decide +kernel⟩
theorem th_K_138_68 : ax_thr "LossFreeTools" 64 138 68 "java/lang/IllegalStateException" "no refused crop of the picture as it is" := ⟨by decide +kernel, wq_K_64, wn_java_lang_IllegalStateException, by decide +kernel, ta_K_68⟩
theorem th_K_136_89 : ax_thr "LossFreeTools" 85 136 89 "java/lang/IndexOutOfBoundsException" "no such side" := ⟨by decide +kernel, wq_K_85, wn_java_lang_IndexOutOfBoundsException, by decide +kernel, ta_K_89⟩
theorem mt_P_showBy : ax_mt y_P_showBy b_P_showBy 3 none 1 := ⟨wc_P_showBy, wn_LossFreeTools_Picture, by decide +kernel, by decide +kernel, by decide +kernel⟩
theorem th_K_147_58 : ax_thr "LossFreeTools" 54 147 58 "java/lang/IllegalArgumentException" "no such way" := ⟨by decide +kernel, wq_K_54, wn_java_lang_IllegalArgumentException, by decide +kernel, ta_K_58⟩
theorem mt_P_hasRoomFor : ax_mt y_P_hasRoomFor b_P_hasRoomFor 3 (some .boolean) 2 := ⟨wc_P_hasRoomFor, wn_LossFreeTools_Picture, by decide +kernel, by decide +kernel, by decide +kernel⟩
theorem mt_K_makePlaceAt : ax_mt y_K_makePlaceAt b_K_makePlaceAt 5 none 1 := ⟨wc_K_makePlaceAt, wn_LossFreeTools, by decide +kernel, by decide +kernel, by decide +kernel⟩
theorem mt_P_takeOver : ax_mt y_P_takeOver b_P_takeOver 4 none 1 := ⟨wc_P_takeOver, wn_LossFreeTools_Picture, by decide +kernel, by decide +kernel, by decide +kernel⟩
theorem th_K_167_76 : ax_thr "LossFreeTools" 72 167 76 "java/lang/UnsupportedOperationException" "no room for both pictures in one" := ⟨by decide +kernel, wq_K_72, wn_java_lang_UnsupportedOperationException, by decide +kernel, ta_K_76⟩
theorem th_K_161_68 : ax_thr "LossFreeTools" 64 161 68 "java/lang/IllegalStateException" "the sides that meet are not alike" := ⟨by decide +kernel, wq_K_64, wn_java_lang_IllegalStateException, by decide +kernel, ta_K_68⟩
theorem fl_K_176 : ax_fl "LossFreeTools" 176 3 2 .int false := ⟨_, rfl, by decide, wf_K_176, by decide +kernel, rfl⟩
theorem fl_K_179 : ax_fl "LossFreeTools" 179 3 3 .int false := ⟨_, rfl, by decide, wf_K_179, by decide +kernel, rfl⟩
theorem fl_K_182 : ax_fl "LossFreeTools" 182 3 4 .int false := ⟨_, rfl, by decide, wf_K_182, by decide +kernel, rfl⟩
theorem fl_K_185 : ax_fl "LossFreeTools" 185 3 5 .int false := ⟨_, rfl, by decide, wf_K_185, by decide +kernel, rfl⟩
theorem fl_K_188 : ax_fl "LossFreeTools" 188 3 6 .int false := ⟨_, rfl, by decide, wf_K_188, by decide +kernel, rfl⟩
theorem mt_T_ownWidth : ax_mt y_T_ownWidth b_T_ownWidth 1 (some .int) 0 := ⟨wc_T_ownWidth, wn_LossFreeTools_Tile, by decide +kernel, by decide +kernel, by decide +kernel⟩
theorem mt_T_ownHeight : ax_mt y_T_ownHeight b_T_ownHeight 1 (some .int) 0 := ⟨wc_T_ownHeight, wn_LossFreeTools_Tile, by decide +kernel, by decide +kernel, by decide +kernel⟩
theorem fl_K_200 : ax_fl "LossFreeTools" 200 3 0 (.array .int) true := ⟨_, rfl, by decide, wf_K_200, by decide +kernel, rfl⟩
theorem th_K_198_89 : ax_thr "LossFreeTools" 85 198 89 "java/lang/IndexOutOfBoundsException" "no such byte" := ⟨by decide +kernel, wq_K_85, wn_java_lang_IndexOutOfBoundsException, by decide +kernel, ta_K_89⟩
theorem mt_P_tileOver : ax_mt y_P_tileOver b_P_tileOver 4 (some .int) 2 := ⟨wc_P_tileOver, wn_LossFreeTools_Picture, by decide +kernel, by decide +kernel, by decide +kernel⟩
theorem mt_T_ownSample : ax_mt y_T_ownSample b_T_ownSample 10 (some .int) 2 := ⟨wc_T_ownSample, wn_LossFreeTools_Tile, by decide +kernel, by decide +kernel, by decide +kernel⟩
theorem fl_K_211 : ax_fl "LossFreeTools" 211 1 1 (.array (.object "LossFreeTools$Note")) true := ⟨_, rfl, by decide, wf_K_211, by decide +kernel, rfl⟩
theorem fl_K_215 : ax_fl "LossFreeTools" 215 0 0 .int false := ⟨_, rfl, by decide, wf_K_215, by decide +kernel, rfl⟩
theorem fl_K_218 : ax_fl "LossFreeTools" 218 0 1 .int false := ⟨_, rfl, by decide, wf_K_218, by decide +kernel, rfl⟩
theorem fl_K_219 : ax_fl "LossFreeTools" 219 0 2 .int false := ⟨_, rfl, by decide, wf_K_219, by decide +kernel, rfl⟩
theorem th_K_209_89 : ax_thr "LossFreeTools" 85 209 89 "java/lang/IndexOutOfBoundsException" "no such note" := ⟨by decide +kernel, wq_K_85, wn_java_lang_IndexOutOfBoundsException, by decide +kernel, ta_K_89⟩
theorem fl_K_242 : ax_fl "LossFreeTools" 242 2 0 (.array .int) true := ⟨_, rfl, by decide, wf_K_242, by decide +kernel, rfl⟩
theorem fl_M_68 : ax_fl "LossFreeToolsModel" 68 5 0 .int false := ⟨_, rfl, by decide, wf_M_68, by decide +kernel, rfl⟩
theorem fl_M_71 : ax_fl "LossFreeToolsModel" 71 5 3 .int false := ⟨_, rfl, by decide, wf_M_71, by decide +kernel, rfl⟩
theorem fl_M_74 : ax_fl "LossFreeToolsModel" 74 5 18 .int false := ⟨_, rfl, by decide, wf_M_74, by decide +kernel, rfl⟩
theorem fl_M_77 : ax_fl "LossFreeToolsModel" 77 5 19 .boolean false := ⟨_, rfl, by decide, wf_M_77, by decide +kernel, rfl⟩
theorem fl_M_81 : ax_fl "LossFreeToolsModel" 81 5 22 .int false := ⟨_, rfl, by decide, wf_M_81, by decide +kernel, rfl⟩
theorem fl_M_7 : ax_fl "LossFreeToolsModel" 7 5 4 (.array .int) true := ⟨_, rfl, by decide, wf_M_7, by decide +kernel, rfl⟩
theorem fl_M_58 : ax_fl "LossFreeToolsModel" 58 5 1 .int true := ⟨_, rfl, by decide, wf_M_58, by decide +kernel, rfl⟩
theorem fl_M_13 : ax_fl "LossFreeToolsModel" 13 5 5 (.array .int) true := ⟨_, rfl, by decide, wf_M_13, by decide +kernel, rfl⟩
theorem fl_M_62 : ax_fl "LossFreeToolsModel" 62 5 2 .int true := ⟨_, rfl, by decide, wf_M_62, by decide +kernel, rfl⟩
theorem fl_M_16 : ax_fl "LossFreeToolsModel" 16 5 6 (.array .int) true := ⟨_, rfl, by decide, wf_M_16, by decide +kernel, rfl⟩
theorem fl_M_19 : ax_fl "LossFreeToolsModel" 19 5 7 (.array .int) true := ⟨_, rfl, by decide, wf_M_19, by decide +kernel, rfl⟩
theorem fl_M_22 : ax_fl "LossFreeToolsModel" 22 5 8 (.array .int) true := ⟨_, rfl, by decide, wf_M_22, by decide +kernel, rfl⟩
theorem fl_M_25 : ax_fl "LossFreeToolsModel" 25 5 9 (.array .int) true := ⟨_, rfl, by decide, wf_M_25, by decide +kernel, rfl⟩
theorem fl_M_28 : ax_fl "LossFreeToolsModel" 28 5 10 (.array .int) true := ⟨_, rfl, by decide, wf_M_28, by decide +kernel, rfl⟩
theorem fl_M_31 : ax_fl "LossFreeToolsModel" 31 5 11 (.array .int) true := ⟨_, rfl, by decide, wf_M_31, by decide +kernel, rfl⟩
theorem fl_M_34 : ax_fl "LossFreeToolsModel" 34 5 12 (.array .int) true := ⟨_, rfl, by decide, wf_M_34, by decide +kernel, rfl⟩
theorem fl_M_37 : ax_fl "LossFreeToolsModel" 37 5 13 (.array .int) true := ⟨_, rfl, by decide, wf_M_37, by decide +kernel, rfl⟩
theorem fl_M_40 : ax_fl "LossFreeToolsModel" 40 5 14 (.array .int) true := ⟨_, rfl, by decide, wf_M_40, by decide +kernel, rfl⟩
theorem fl_M_43 : ax_fl "LossFreeToolsModel" 43 5 15 (.array .int) true := ⟨_, rfl, by decide, wf_M_43, by decide +kernel, rfl⟩
theorem fl_M_46 : ax_fl "LossFreeToolsModel" 46 5 16 (.array .int) true := ⟨_, rfl, by decide, wf_M_46, by decide +kernel, rfl⟩
theorem fl_M_49 : ax_fl "LossFreeToolsModel" 49 5 17 (.array .int) true := ⟨_, rfl, by decide, wf_M_49, by decide +kernel, rfl⟩
theorem fl_M_55 : ax_fl "LossFreeToolsModel" 55 5 21 (.array .int) true := ⟨_, rfl, by decide, wf_M_55, by decide +kernel, rfl⟩
theorem mt_M_in : ax_mt y_M_in b_M_in 3 (some .boolean) 3 := ⟨wc_M_in, wn_LossFreeToolsModel, by decide +kernel, by decide +kernel, by decide +kernel⟩
theorem mt_M_lies : ax_mt y_M_lies b_M_lies 5 (some .boolean) 4 := ⟨wc_M_lies, wn_LossFreeToolsModel, by decide +kernel, by decide +kernel, by decide +kernel⟩
theorem mt_M_tileAt : ax_mt y_M_tileAt b_M_tileAt 2 (some .int) 1 := ⟨wc_M_tileAt, wn_LossFreeToolsModel, by decide +kernel, by decide +kernel, by decide +kernel⟩
theorem fl_M_52 : ax_fl "LossFreeToolsModel" 52 5 20 (.array .int) true := ⟨_, rfl, by decide, wf_M_52, by decide +kernel, rfl⟩
theorem mt_M_isTurned : ax_mt y_M_isTurned b_M_isTurned 1 (some .boolean) 1 := ⟨wc_M_isTurned, wn_LossFreeToolsModel, by decide +kernel, by decide +kernel, by decide +kernel⟩
theorem mt_M_comes : ax_mt y_M_comes b_M_comes 12 (some .int) 5 := ⟨wc_M_comes, wn_LossFreeToolsModel, by decide +kernel, by decide +kernel, by decide +kernel⟩
theorem mt_M_move : ax_mt y_M_move b_M_move 4 none 2 := ⟨wc_M_move, wn_LossFreeToolsModel, by decide +kernel, by decide +kernel, by decide +kernel⟩
theorem mt_M_moveNote : ax_mt y_M_moveNote b_M_moveNote 3 none 2 := ⟨wc_M_moveNote, wn_LossFreeToolsModel, by decide +kernel, by decide +kernel, by decide +kernel⟩
theorem mt_M_tell : ax_mt y_M_tell b_M_tell 2 none 1 := ⟨wc_M_tell, wn_LossFreeToolsModel, by decide +kernel, by decide +kernel, by decide +kernel⟩
theorem mt_M_isBefore : ax_mt y_M_isBefore b_M_isBefore 3 (some .boolean) 2 := ⟨wc_M_isBefore, wn_LossFreeToolsModel, by decide +kernel, by decide +kernel, by decide +kernel⟩
theorem mt_M_partSize : ax_mt y_M_partSize b_M_partSize 1 (some .int) 1 := ⟨wc_M_partSize, wn_LossFreeToolsModel, by decide +kernel, by decide +kernel, by decide +kernel⟩
theorem mt_M_isTile : ax_mt y_M_isTile b_M_isTile 2 (some .boolean) 1 := ⟨wc_M_isTile, wn_LossFreeToolsModel, by decide +kernel, by decide +kernel, by decide +kernel⟩
theorem mt_M_isSample : ax_mt y_M_isSample b_M_isSample 3 (some .boolean) 2 := ⟨wc_M_isSample, wn_LossFreeToolsModel, by decide +kernel, by decide +kernel, by decide +kernel⟩
theorem mt_M_fits : ax_mt y_M_fits b_M_fits 8 (some .boolean) 2 := ⟨wc_M_fits, wn_LossFreeToolsModel, by decide +kernel, by decide +kernel, by decide +kernel⟩
theorem mt_M_both : ax_mt y_M_both b_M_both 8 (some .int) 2 := ⟨wc_M_both, wn_LossFreeToolsModel, by decide +kernel, by decide +kernel, by decide +kernel⟩
theorem mt_M_ownOf : ax_mt y_M_ownOf b_M_ownOf 7 (some .int) 5 := ⟨wc_M_ownOf, wn_LossFreeToolsModel, by decide +kernel, by decide +kernel, by decide +kernel⟩
theorem mt_M_pointerOf : ax_mt y_M_pointerOf b_M_pointerOf 4 (some .int) 1 := ⟨wc_M_pointerOf, wn_LossFreeToolsModel, by decide +kernel, by decide +kernel, by decide +kernel⟩
theorem mt_M_tellTwo : ax_mt y_M_tellTwo b_M_tellTwo 2 none 1 := ⟨wc_M_tellTwo, wn_LossFreeToolsModel, by decide +kernel, by decide +kernel, by decide +kernel⟩
theorem mt_M_nearest : ax_mt y_M_nearest b_M_nearest 8 (some .int) 2 := ⟨wc_M_nearest, wn_LossFreeToolsModel, by decide +kernel, by decide +kernel, by decide +kernel⟩
theorem mt_M_tellPart : ax_mt y_M_tellPart b_M_tellPart 5 none 1 := ⟨wc_M_tellPart, wn_LossFreeToolsModel, by decide +kernel, by decide +kernel, by decide +kernel⟩
theorem dc_K_mirrors_0 : decode b_K_mirrors 0 = .ok (.iload_n 0, 1) := by decide +kernel
theorem dc_K_mirrors_1 : decode b_K_mirrors 1 = .ok (.iconst 4, 1) := by decide +kernel
theorem dc_K_mirrors_2 : decode b_K_mirrors 2 = .ok (.if_icmp .lt 7, 3) := by decide +kernel
theorem dc_K_mirrors_9 : decode b_K_mirrors 9 = .ok (.iconst 0, 1) := by decide +kernel
theorem dc_K_mirrors_10 : decode b_K_mirrors 10 = .ok (.ireturn, 1) := by decide +kernel
theorem dc_K_mirrors_5 : decode b_K_mirrors 5 = .ok (.iconst 1, 1) := by decide +kernel
theorem dc_K_mirrors_6 : decode b_K_mirrors 6 = .ok (.goto 4, 3) := by decide +kernel
theorem dc_K_quarters_0 : decode b_K_quarters 0 = .ok (.iload_n 0, 1) := by decide +kernel
theorem dc_K_quarters_1 : decode b_K_quarters 1 = .ok (.iconst 3, 1) := by decide +kernel
theorem dc_K_quarters_2 : decode b_K_quarters 2 = .ok (.iand, 1) := by decide +kernel
theorem dc_K_quarters_3 : decode b_K_quarters 3 = .ok (.ireturn, 1) := by decide +kernel
theorem dc_K_nearestFirstSize_0 : decode b_K_nearestFirstSize 0 = .ok (.iconst 1, 1) := by decide +kernel
theorem dc_K_nearestFirstSize_1 : decode b_K_nearestFirstSize 1 = .ok (.sipush 200, 3) := by decide +kernel
theorem dc_K_nearestFirstSize_4 : decode b_K_nearestFirstSize 4 = .ok (.iload_n 0, 1) := by decide +kernel
theorem dc_K_nearestFirstSize_5 : decode b_K_nearestFirstSize 5 = .ok (.invokestatic 263, 3) := by decide +kernel
theorem dc_K_nearestFirstSize_8 : decode b_K_nearestFirstSize 8 = .ok (.invokestatic 268, 3) := by decide +kernel
theorem dc_K_nearestFirstSize_11 : decode b_K_nearestFirstSize 11 = .ok (.ireturn, 1) := by decide +kernel
theorem dc_K_isByte_0 : decode b_K_isByte 0 = .ok (.iload_n 0, 1) := by decide +kernel
theorem dc_K_isByte_1 : decode b_K_isByte 1 = .ok (.ifCond .lt 14, 3) := by decide +kernel
theorem dc_K_isByte_15 : decode b_K_isByte 15 = .ok (.iconst 0, 1) := by decide +kernel
theorem dc_K_isByte_16 : decode b_K_isByte 16 = .ok (.ireturn, 1) := by decide +kernel
theorem dc_K_isByte_4 : decode b_K_isByte 4 = .ok (.iload_n 0, 1) := by decide +kernel
theorem dc_K_isByte_5 : decode b_K_isByte 5 = .ok (.sipush 255, 3) := by decide +kernel
theorem dc_K_isByte_8 : decode b_K_isByte 8 = .ok (.if_icmp .gt 7, 3) := by decide +kernel
theorem dc_K_isByte_11 : decode b_K_isByte 11 = .ok (.iconst 1, 1) := by decide +kernel
theorem dc_K_isByte_12 : decode b_K_isByte 12 = .ok (.goto 4, 3) := by decide +kernel
theorem dc_K_isUpright_0 : decode b_K_isUpright 0 = .ok (.iload_n 0, 1) := by decide +kernel
theorem dc_K_isUpright_1 : decode b_K_isUpright 1 = .ok (.ifCond .eq 8, 3) := by decide +kernel
theorem dc_K_isUpright_4 : decode b_K_isUpright 4 = .ok (.iload_n 0, 1) := by decide +kernel
theorem dc_K_isUpright_5 : decode b_K_isUpright 5 = .ok (.iconst 2, 1) := by decide +kernel
theorem dc_K_isUpright_6 : decode b_K_isUpright 6 = .ok (.if_icmp .ne 7, 3) := by decide +kernel
theorem dc_K_isUpright_13 : decode b_K_isUpright 13 = .ok (.iconst 0, 1) := by decide +kernel
theorem dc_K_isUpright_14 : decode b_K_isUpright 14 = .ok (.ireturn, 1) := by decide +kernel
theorem dc_K_isUpright_9 : decode b_K_isUpright 9 = .ok (.iconst 1, 1) := by decide +kernel
theorem dc_K_isUpright_10 : decode b_K_isUpright 10 = .ok (.goto 4, 3) := by decide +kernel
theorem dc_K_isSide_0 : decode b_K_isSide 0 = .ok (.iload_n 0, 1) := by decide +kernel
theorem dc_K_isSide_1 : decode b_K_isSide 1 = .ok (.ifCond .lt 12, 3) := by decide +kernel
theorem dc_K_isSide_13 : decode b_K_isSide 13 = .ok (.iconst 0, 1) := by decide +kernel
theorem dc_K_isSide_14 : decode b_K_isSide 14 = .ok (.ireturn, 1) := by decide +kernel
theorem dc_K_isSide_4 : decode b_K_isSide 4 = .ok (.iload_n 0, 1) := by decide +kernel
theorem dc_K_isSide_5 : decode b_K_isSide 5 = .ok (.iconst 4, 1) := by decide +kernel
theorem dc_K_isSide_6 : decode b_K_isSide 6 = .ok (.if_icmp .ge 7, 3) := by decide +kernel
theorem dc_K_isSide_9 : decode b_K_isSide 9 = .ok (.iconst 1, 1) := by decide +kernel
theorem dc_K_isSide_10 : decode b_K_isSide 10 = .ok (.goto 4, 3) := by decide +kernel
theorem dc_K_swap_0 : decode b_K_swap 0 = .ok (.aload_n 0, 1) := by decide +kernel
theorem dc_K_swap_1 : decode b_K_swap 1 = .ok (.getfield 36, 3) := by decide +kernel
theorem dc_K_swap_4 : decode b_K_swap 4 = .ok (.astore_n 1, 1) := by decide +kernel
theorem dc_K_swap_5 : decode b_K_swap 5 = .ok (.aload_n 0, 1) := by decide +kernel
theorem dc_K_swap_6 : decode b_K_swap 6 = .ok (.aload_n 0, 1) := by decide +kernel
theorem dc_K_swap_7 : decode b_K_swap 7 = .ok (.getfield 40, 3) := by decide +kernel
theorem dc_K_swap_10 : decode b_K_swap 10 = .ok (.putfield 36, 3) := by decide +kernel
theorem dc_K_swap_13 : decode b_K_swap 13 = .ok (.aload_n 0, 1) := by decide +kernel
theorem dc_K_swap_14 : decode b_K_swap 14 = .ok (.aload_n 1, 1) := by decide +kernel
theorem dc_K_swap_15 : decode b_K_swap 15 = .ok (.putfield 40, 3) := by decide +kernel
theorem dc_K_swap_18 : decode b_K_swap 18 = .ok (.aload_n 0, 1) := by decide +kernel
theorem dc_K_swap_19 : decode b_K_swap 19 = .ok (.iconst 0, 1) := by decide +kernel
theorem dc_K_swap_20 : decode b_K_swap 20 = .ok (.putfield 43, 3) := by decide +kernel
theorem dc_K_swap_23 : decode b_K_swap 23 = .ok (.aload_n 0, 1) := by decide +kernel
theorem dc_K_swap_24 : decode b_K_swap 24 = .ok (.iconst 0, 1) := by decide +kernel
theorem dc_K_swap_25 : decode b_K_swap 25 = .ok (.putfield 46, 3) := by decide +kernel
theorem dc_K_swap_28 : decode b_K_swap 28 = .ok (.aload_n 0, 1) := by decide +kernel
theorem dc_K_swap_29 : decode b_K_swap 29 = .ok (.getfield 36, 3) := by decide +kernel
theorem dc_K_swap_32 : decode b_K_swap 32 = .ok (.getfield 69, 3) := by decide +kernel
theorem dc_K_swap_35 : decode b_K_swap 35 = .ok (.ireturn, 1) := by decide +kernel
theorem dc_K_told_0 : decode b_K_told 0 = .ok (.iload_n 1, 1) := by decide +kernel
theorem dc_K_told_1 : decode b_K_told 1 = .ok (.tableswitch 123 0 8 #[51, 59, 67, 75, 83, 91, 99, 107, 115], 51) := by decide +kernel
def dw_K_told_52 : ByteArray := .mk #[0x2a, 0xb4, 0x00, 0x24, 0xb4, 0x00, 0xf3, 0xac, 0x2a, 0xb4, 0x00, 0x24, 0xb4, 0x00, 0xf6, 0xac, 0x2a, 0xb4, 0x00, 0x24, 0xb4, 0x00, 0x45, 0xac, 0x2a, 0xb4, 0x00, 0x24, 0xb4, 0x00, 0x73, 0xac]
theorem da_K_told_52 : dkA b_K_told dw_K_told_52 52 := by unfold dkA; decide +kernel
theorem dc_K_told_52 : decode b_K_told 52 = .ok (.aload_n 0, 1) := dk_row (s := 52) da_K_told_52 0 (by decide +kernel)
theorem dc_K_told_53 : decode b_K_told 53 = .ok (.getfield 36, 3) := dk_row (s := 52) da_K_told_52 1 (by decide +kernel)
theorem dc_K_told_56 : decode b_K_told 56 = .ok (.getfield 243, 3) := dk_row (s := 52) da_K_told_52 4 (by decide +kernel)
theorem dc_K_told_59 : decode b_K_told 59 = .ok (.ireturn, 1) := dk_row (s := 52) da_K_told_52 7 (by decide +kernel)
theorem dc_K_told_60 : decode b_K_told 60 = .ok (.aload_n 0, 1) := dk_row (s := 52) da_K_told_52 8 (by decide +kernel)
theorem dc_K_told_61 : decode b_K_told 61 = .ok (.getfield 36, 3) := dk_row (s := 52) da_K_told_52 9 (by decide +kernel)
theorem dc_K_told_64 : decode b_K_told 64 = .ok (.getfield 246, 3) := dk_row (s := 52) da_K_told_52 12 (by decide +kernel)
theorem dc_K_told_67 : decode b_K_told 67 = .ok (.ireturn, 1) := dk_row (s := 52) da_K_told_52 15 (by decide +kernel)
theorem dc_K_told_68 : decode b_K_told 68 = .ok (.aload_n 0, 1) := dk_row (s := 52) da_K_told_52 16 (by decide +kernel)
theorem dc_K_told_69 : decode b_K_told 69 = .ok (.getfield 36, 3) := dk_row (s := 52) da_K_told_52 17 (by decide +kernel)
theorem dc_K_told_72 : decode b_K_told 72 = .ok (.getfield 69, 3) := dk_row (s := 52) da_K_told_52 20 (by decide +kernel)
theorem dc_K_told_75 : decode b_K_told 75 = .ok (.ireturn, 1) := dk_row (s := 52) da_K_told_52 23 (by decide +kernel)
theorem dc_K_told_76 : decode b_K_told 76 = .ok (.aload_n 0, 1) := dk_row (s := 52) da_K_told_52 24 (by decide +kernel)
theorem dc_K_told_77 : decode b_K_told 77 = .ok (.getfield 36, 3) := dk_row (s := 52) da_K_told_52 25 (by decide +kernel)
theorem dc_K_told_80 : decode b_K_told 80 = .ok (.getfield 115, 3) := dk_row (s := 52) da_K_told_52 28 (by decide +kernel)
theorem dc_K_told_83 : decode b_K_told 83 = .ok (.ireturn, 1) := dk_row (s := 52) da_K_told_52 31 (by decide +kernel)
def dw_K_told_84 : ByteArray := .mk #[0x2a, 0xb4, 0x00, 0x17, 0xb4, 0x00, 0xef, 0xac, 0x2a, 0xb4, 0x00, 0x28, 0xb4, 0x00, 0xf3, 0xac, 0x2a, 0xb4, 0x00, 0x28, 0xb4, 0x00, 0xf6, 0xac, 0x2a, 0xb4, 0x00, 0x28, 0xb4, 0x00, 0x45, 0xac]
theorem da_K_told_84 : dkA b_K_told dw_K_told_84 84 := by unfold dkA; decide +kernel
theorem dc_K_told_84 : decode b_K_told 84 = .ok (.aload_n 0, 1) := dk_row (s := 84) da_K_told_84 0 (by decide +kernel)
theorem dc_K_told_85 : decode b_K_told 85 = .ok (.getfield 23, 3) := dk_row (s := 84) da_K_told_84 1 (by decide +kernel)
theorem dc_K_told_88 : decode b_K_told 88 = .ok (.getfield 239, 3) := dk_row (s := 84) da_K_told_84 4 (by decide +kernel)
theorem dc_K_told_91 : decode b_K_told 91 = .ok (.ireturn, 1) := dk_row (s := 84) da_K_told_84 7 (by decide +kernel)
theorem dc_K_told_92 : decode b_K_told 92 = .ok (.aload_n 0, 1) := dk_row (s := 84) da_K_told_84 8 (by decide +kernel)
theorem dc_K_told_93 : decode b_K_told 93 = .ok (.getfield 40, 3) := dk_row (s := 84) da_K_told_84 9 (by decide +kernel)
theorem dc_K_told_96 : decode b_K_told 96 = .ok (.getfield 243, 3) := dk_row (s := 84) da_K_told_84 12 (by decide +kernel)
theorem dc_K_told_99 : decode b_K_told 99 = .ok (.ireturn, 1) := dk_row (s := 84) da_K_told_84 15 (by decide +kernel)
theorem dc_K_told_100 : decode b_K_told 100 = .ok (.aload_n 0, 1) := dk_row (s := 84) da_K_told_84 16 (by decide +kernel)
theorem dc_K_told_101 : decode b_K_told 101 = .ok (.getfield 40, 3) := dk_row (s := 84) da_K_told_84 17 (by decide +kernel)
theorem dc_K_told_104 : decode b_K_told 104 = .ok (.getfield 246, 3) := dk_row (s := 84) da_K_told_84 20 (by decide +kernel)
theorem dc_K_told_107 : decode b_K_told 107 = .ok (.ireturn, 1) := dk_row (s := 84) da_K_told_84 23 (by decide +kernel)
theorem dc_K_told_108 : decode b_K_told 108 = .ok (.aload_n 0, 1) := dk_row (s := 84) da_K_told_84 24 (by decide +kernel)
theorem dc_K_told_109 : decode b_K_told 109 = .ok (.getfield 40, 3) := dk_row (s := 84) da_K_told_84 25 (by decide +kernel)
theorem dc_K_told_112 : decode b_K_told 112 = .ok (.getfield 69, 3) := dk_row (s := 84) da_K_told_84 28 (by decide +kernel)
theorem dc_K_told_115 : decode b_K_told 115 = .ok (.ireturn, 1) := dk_row (s := 84) da_K_told_84 31 (by decide +kernel)
def dw_K_told_116 : ByteArray := .mk #[0x2a, 0xb4, 0x00, 0x28, 0xb4, 0x00, 0x73, 0xac, 0x02, 0xac]
theorem da_K_told_116 : dkA b_K_told dw_K_told_116 116 := by unfold dkA; decide +kernel
theorem dc_K_told_116 : decode b_K_told 116 = .ok (.aload_n 0, 1) := dk_row (s := 116) da_K_told_116 0 (by decide +kernel)
theorem dc_K_told_117 : decode b_K_told 117 = .ok (.getfield 40, 3) := dk_row (s := 116) da_K_told_116 1 (by decide +kernel)
theorem dc_K_told_120 : decode b_K_told 120 = .ok (.getfield 115, 3) := dk_row (s := 116) da_K_told_116 4 (by decide +kernel)
theorem dc_K_told_123 : decode b_K_told 123 = .ok (.ireturn, 1) := dk_row (s := 116) da_K_told_116 7 (by decide +kernel)
theorem dc_K_told_124 : decode b_K_told 124 = .ok (.iconst (-1), 1) := dk_row (s := 116) da_K_told_116 8 (by decide +kernel)
theorem dc_K_told_125 : decode b_K_told 125 = .ok (.ireturn, 1) := dk_row (s := 116) da_K_told_116 9 (by decide +kernel)
theorem dc_K_together_0 : decode b_K_together 0 = .ok (.iload_n 1, 1) := by decide +kernel
theorem dc_K_together_1 : decode b_K_together 1 = .ok (.invokestatic 271, 3) := by decide +kernel
theorem dc_K_together_4 : decode b_K_together 4 = .ok (.ifCond .eq 15, 3) := by decide +kernel
theorem dc_K_together_19 : decode b_K_together 19 = .ok (.iload_n 1, 1) := by decide +kernel
theorem dc_K_together_20 : decode b_K_together 20 = .ok (.invokestatic 274, 3) := by decide +kernel
theorem dc_K_together_23 : decode b_K_together 23 = .ok (.iload_n 0, 1) := by decide +kernel
theorem dc_K_together_24 : decode b_K_together 24 = .ok (.invokestatic 274, 3) := by decide +kernel
theorem dc_K_together_27 : decode b_K_together 27 = .ok (.iadd, 1) := by decide +kernel
theorem dc_K_together_7 : decode b_K_together 7 = .ok (.iload_n 1, 1) := by decide +kernel
theorem dc_K_together_8 : decode b_K_together 8 = .ok (.invokestatic 274, 3) := by decide +kernel
theorem dc_K_together_11 : decode b_K_together 11 = .ok (.iload_n 0, 1) := by decide +kernel
theorem dc_K_together_12 : decode b_K_together 12 = .ok (.invokestatic 274, 3) := by decide +kernel
theorem dc_K_together_15 : decode b_K_together 15 = .ok (.isub, 1) := by decide +kernel
theorem dc_K_together_16 : decode b_K_together 16 = .ok (.goto 12, 3) := by decide +kernel
theorem dc_K_together_28 : decode b_K_together 28 = .ok (.istore_n 2, 1) := by decide +kernel
theorem dc_K_together_29 : decode b_K_together 29 = .ok (.iload_n 0, 1) := by decide +kernel
theorem dc_K_together_30 : decode b_K_together 30 = .ok (.invokestatic 271, 3) := by decide +kernel
theorem dc_K_together_33 : decode b_K_together 33 = .ok (.iload_n 1, 1) := by decide +kernel
theorem dc_K_together_34 : decode b_K_together 34 = .ok (.invokestatic 271, 3) := by decide +kernel
theorem dc_K_together_37 : decode b_K_together 37 = .ok (.if_icmp .eq 7, 3) := by decide +kernel
theorem dc_K_together_44 : decode b_K_together 44 = .ok (.iconst 0, 1) := by decide +kernel
theorem dc_K_together_40 : decode b_K_together 40 = .ok (.iconst 4, 1) := by decide +kernel
theorem dc_K_together_41 : decode b_K_together 41 = .ok (.goto 4, 3) := by decide +kernel
theorem dc_K_together_45 : decode b_K_together 45 = .ok (.istore_n 3, 1) := by decide +kernel
theorem dc_K_together_46 : decode b_K_together 46 = .ok (.iload_n 3, 1) := by decide +kernel
theorem dc_K_together_47 : decode b_K_together 47 = .ok (.iload_n 2, 1) := by decide +kernel
theorem dc_K_together_48 : decode b_K_together 48 = .ok (.invokestatic 274, 3) := by decide +kernel
theorem dc_K_together_51 : decode b_K_together 51 = .ok (.iadd, 1) := by decide +kernel
theorem dc_K_together_52 : decode b_K_together 52 = .ok (.ireturn, 1) := by decide +kernel
theorem dc_K_clear_0 : decode b_K_clear 0 = .ok (.aload_n 0, 1) := by decide +kernel
theorem dc_K_clear_1 : decode b_K_clear 1 = .ok (.getfield 36, 3) := by decide +kernel
theorem dc_K_clear_4 : decode b_K_clear 4 = .ok (.aload_n 0, 1) := by decide +kernel
theorem dc_K_clear_5 : decode b_K_clear 5 = .ok (.getfield 13, 3) := by decide +kernel
theorem dc_K_clear_8 : decode b_K_clear 8 = .ok (.aload_n 0, 1) := by decide +kernel
theorem dc_K_clear_9 : decode b_K_clear 9 = .ok (.getfield 17, 3) := by decide +kernel
theorem dc_K_clear_12 : decode b_K_clear 12 = .ok (.invokevirtual 249, 3) := by decide +kernel
theorem dc_K_clear_15 : decode b_K_clear 15 = .ok (.aload_n 0, 1) := by decide +kernel
theorem dc_K_clear_16 : decode b_K_clear 16 = .ok (.getfield 40, 3) := by decide +kernel
theorem dc_K_clear_19 : decode b_K_clear 19 = .ok (.aload_n 0, 1) := by decide +kernel
theorem dc_K_clear_20 : decode b_K_clear 20 = .ok (.getfield 13, 3) := by decide +kernel
theorem dc_K_clear_23 : decode b_K_clear 23 = .ok (.aload_n 0, 1) := by decide +kernel
theorem dc_K_clear_24 : decode b_K_clear 24 = .ok (.getfield 17, 3) := by decide +kernel
theorem dc_K_clear_27 : decode b_K_clear 27 = .ok (.invokevirtual 249, 3) := by decide +kernel
theorem dc_K_clear_30 : decode b_K_clear 30 = .ok (.aload_n 0, 1) := by decide +kernel
theorem dc_K_clear_31 : decode b_K_clear 31 = .ok (.getfield 23, 3) := by decide +kernel
theorem dc_K_clear_34 : decode b_K_clear 34 = .ok (.invokevirtual 222, 3) := by decide +kernel
theorem dc_K_clear_37 : decode b_K_clear 37 = .ok (.aload_n 0, 1) := by decide +kernel
theorem dc_K_clear_38 : decode b_K_clear 38 = .ok (.iconst 0, 1) := by decide +kernel
theorem dc_K_clear_39 : decode b_K_clear 39 = .ok (.putfield 43, 3) := by decide +kernel
theorem dc_K_clear_42 : decode b_K_clear 42 = .ok (.aload_n 0, 1) := by decide +kernel
theorem dc_K_clear_43 : decode b_K_clear 43 = .ok (.iconst 0, 1) := by decide +kernel
theorem dc_K_clear_44 : decode b_K_clear 44 = .ok (.putfield 46, 3) := by decide +kernel
theorem dc_K_clear_47 : decode b_K_clear 47 = .ok (.return_, 1) := by decide +kernel
theorem dc_K_allAskedFit_0 : decode b_K_allAskedFit 0 = .ok (.iconst 0, 1) := by decide +kernel
theorem dc_K_allAskedFit_1 : decode b_K_allAskedFit 1 = .ok (.istore_n 1, 1) := by decide +kernel
theorem dc_K_allAskedFit_2 : decode b_K_allAskedFit 2 = .ok (.iload_n 1, 1) := by decide +kernel
theorem dc_K_allAskedFit_3 : decode b_K_allAskedFit 3 = .ok (.iconst 4, 1) := by decide +kernel
theorem dc_K_allAskedFit_4 : decode b_K_allAskedFit 4 = .ok (.if_icmp .ge 31, 3) := by decide +kernel
theorem dc_K_allAskedFit_35 : decode b_K_allAskedFit 35 = .ok (.iconst 1, 1) := by decide +kernel
theorem dc_K_allAskedFit_36 : decode b_K_allAskedFit 36 = .ok (.ireturn, 1) := by decide +kernel
theorem dc_K_allAskedFit_7 : decode b_K_allAskedFit 7 = .ok (.aload_n 0, 1) := by decide +kernel
theorem dc_K_allAskedFit_8 : decode b_K_allAskedFit 8 = .ok (.getfield 36, 3) := by decide +kernel
theorem dc_K_allAskedFit_11 : decode b_K_allAskedFit 11 = .ok (.iload_n 1, 1) := by decide +kernel
theorem dc_K_allAskedFit_12 : decode b_K_allAskedFit 12 = .ok (.invokestatic 140, 3) := by decide +kernel
theorem dc_K_allAskedFit_15 : decode b_K_allAskedFit 15 = .ok (.aload_n 0, 1) := by decide +kernel
theorem dc_K_allAskedFit_16 : decode b_K_allAskedFit 16 = .ok (.getfield 27, 3) := by decide +kernel
theorem dc_K_allAskedFit_19 : decode b_K_allAskedFit 19 = .ok (.iload_n 1, 1) := by decide +kernel
theorem dc_K_allAskedFit_20 : decode b_K_allAskedFit 20 = .ok (.iaload, 1) := by decide +kernel
theorem dc_K_allAskedFit_21 : decode b_K_allAskedFit 21 = .ok (.invokevirtual 252, 3) := by decide +kernel
theorem dc_K_allAskedFit_24 : decode b_K_allAskedFit 24 = .ok (.ifCond .ne 5, 3) := by decide +kernel
theorem dc_K_allAskedFit_29 : decode b_K_allAskedFit 29 = .ok (.iinc 1 1, 3) := by decide +kernel
theorem dc_K_allAskedFit_32 : decode b_K_allAskedFit 32 = .ok (.goto (-30), 3) := by decide +kernel
theorem dc_K_allAskedFit_27 : decode b_K_allAskedFit 27 = .ok (.iconst 0, 1) := by decide +kernel
theorem dc_K_allAskedFit_28 : decode b_K_allAskedFit 28 = .ok (.ireturn, 1) := by decide +kernel
theorem dc_K_makePlaceAt_0 : decode b_K_makePlaceAt 0 = .ok (.iload_n 1, 1) := by decide +kernel
theorem dc_K_makePlaceAt_1 : decode b_K_makePlaceAt 1 = .ok (.invokestatic 140, 3) := by decide +kernel
theorem dc_K_makePlaceAt_4 : decode b_K_makePlaceAt 4 = .ok (.istore_n 2, 1) := by decide +kernel
theorem dc_K_makePlaceAt_5 : decode b_K_makePlaceAt 5 = .ok (.aload_n 0, 1) := by decide +kernel
theorem dc_K_makePlaceAt_6 : decode b_K_makePlaceAt 6 = .ok (.getfield 36, 3) := by decide +kernel
theorem dc_K_makePlaceAt_9 : decode b_K_makePlaceAt 9 = .ok (.iload_n 2, 1) := by decide +kernel
theorem dc_K_makePlaceAt_10 : decode b_K_makePlaceAt 10 = .ok (.invokevirtual 157, 3) := by decide +kernel
theorem dc_K_makePlaceAt_13 : decode b_K_makePlaceAt 13 = .ok (.istore_n 3, 1) := by decide +kernel
theorem dc_K_makePlaceAt_14 : decode b_K_makePlaceAt 14 = .ok (.aload_n 0, 1) := by decide +kernel
theorem dc_K_makePlaceAt_15 : decode b_K_makePlaceAt 15 = .ok (.getfield 40, 3) := by decide +kernel
theorem dc_K_makePlaceAt_18 : decode b_K_makePlaceAt 18 = .ok (.iload_n 2, 1) := by decide +kernel
theorem dc_K_makePlaceAt_19 : decode b_K_makePlaceAt 19 = .ok (.invokevirtual 157, 3) := by decide +kernel
theorem dc_K_makePlaceAt_22 : decode b_K_makePlaceAt 22 = .ok (.istore 4, 2) := by decide +kernel
theorem dc_K_makePlaceAt_24 : decode b_K_makePlaceAt 24 = .ok (.iload_n 1, 1) := by decide +kernel
theorem dc_K_makePlaceAt_25 : decode b_K_makePlaceAt 25 = .ok (.ifCond .eq 8, 3) := by decide +kernel
theorem dc_K_makePlaceAt_28 : decode b_K_makePlaceAt 28 = .ok (.iload_n 1, 1) := by decide +kernel
theorem dc_K_makePlaceAt_29 : decode b_K_makePlaceAt 29 = .ok (.iconst 1, 1) := by decide +kernel
theorem dc_K_makePlaceAt_30 : decode b_K_makePlaceAt 30 = .ok (.if_icmp .ne 16, 3) := by decide +kernel
theorem dc_K_makePlaceAt_46 : decode b_K_makePlaceAt 46 = .ok (.aload_n 0, 1) := by decide +kernel
theorem dc_K_makePlaceAt_47 : decode b_K_makePlaceAt 47 = .ok (.getfield 40, 3) := by decide +kernel
theorem dc_K_makePlaceAt_50 : decode b_K_makePlaceAt 50 = .ok (.iload_n 2, 1) := by decide +kernel
theorem dc_K_makePlaceAt_51 : decode b_K_makePlaceAt 51 = .ok (.iload_n 3, 1) := by decide +kernel
theorem dc_K_makePlaceAt_52 : decode b_K_makePlaceAt 52 = .ok (.invokevirtual 256, 3) := by decide +kernel
theorem dc_K_makePlaceAt_55 : decode b_K_makePlaceAt 55 = .ok (.aload_n 0, 1) := by decide +kernel
theorem dc_K_makePlaceAt_56 : decode b_K_makePlaceAt 56 = .ok (.getfield 36, 3) := by decide +kernel
theorem dc_K_makePlaceAt_59 : decode b_K_makePlaceAt 59 = .ok (.iload_n 2, 1) := by decide +kernel
theorem dc_K_makePlaceAt_60 : decode b_K_makePlaceAt 60 = .ok (.iload 4, 2) := by decide +kernel
theorem dc_K_makePlaceAt_62 : decode b_K_makePlaceAt 62 = .ok (.invokevirtual 260, 3) := by decide +kernel
theorem dc_K_makePlaceAt_65 : decode b_K_makePlaceAt 65 = .ok (.return_, 1) := by decide +kernel
theorem dc_K_makePlaceAt_33 : decode b_K_makePlaceAt 33 = .ok (.aload_n 0, 1) := by decide +kernel
theorem dc_K_makePlaceAt_34 : decode b_K_makePlaceAt 34 = .ok (.getfield 36, 3) := by decide +kernel
theorem dc_K_makePlaceAt_37 : decode b_K_makePlaceAt 37 = .ok (.iload_n 2, 1) := by decide +kernel
theorem dc_K_makePlaceAt_38 : decode b_K_makePlaceAt 38 = .ok (.iload 4, 2) := by decide +kernel
theorem dc_K_makePlaceAt_40 : decode b_K_makePlaceAt 40 = .ok (.invokevirtual 256, 3) := by decide +kernel
theorem dc_K_makePlaceAt_43 : decode b_K_makePlaceAt 43 = .ok (.goto 12, 3) := by decide +kernel
theorem dc_K_write_0 : decode b_K_write 0 = .ok (.aload_n 0, 1) := by decide +kernel
theorem dc_K_write_1 : decode b_K_write 1 = .ok (.getfield 23, 3) := by decide +kernel
theorem dc_K_write_4 : decode b_K_write 4 = .ok (.invokevirtual 222, 3) := by decide +kernel
theorem dc_K_write_7 : decode b_K_write 7 = .ok (.aload_n 0, 1) := by decide +kernel
theorem dc_K_write_8 : decode b_K_write 8 = .ok (.getfield 36, 3) := by decide +kernel
theorem dc_K_write_11 : decode b_K_write 11 = .ok (.aload_n 0, 1) := by decide +kernel
theorem dc_K_write_12 : decode b_K_write 12 = .ok (.getfield 23, 3) := by decide +kernel
theorem dc_K_write_15 : decode b_K_write 15 = .ok (.invokevirtual 225, 3) := by decide +kernel
theorem dc_K_write_18 : decode b_K_write 18 = .ok (.iconst 0, 1) := by decide +kernel
theorem dc_K_write_19 : decode b_K_write 19 = .ok (.istore_n 1, 1) := by decide +kernel
theorem dc_K_write_20 : decode b_K_write 20 = .ok (.iload_n 1, 1) := by decide +kernel
theorem dc_K_write_21 : decode b_K_write 21 = .ok (.aload_n 0, 1) := by decide +kernel
theorem dc_K_write_22 : decode b_K_write 22 = .ok (.getfield 36, 3) := by decide +kernel
theorem dc_K_write_25 : decode b_K_write 25 = .ok (.getfield 69, 3) := by decide +kernel
theorem dc_K_write_28 : decode b_K_write 28 = .ok (.if_icmp .ge 42, 3) := by decide +kernel
theorem dc_K_write_70 : decode b_K_write 70 = .ok (.aload_n 0, 1) := by decide +kernel
theorem dc_K_write_71 : decode b_K_write 71 = .ok (.getfield 23, 3) := by decide +kernel
theorem dc_K_write_74 : decode b_K_write 74 = .ok (.getfield 239, 3) := by decide +kernel
theorem dc_K_write_77 : decode b_K_write 77 = .ok (.ireturn, 1) := by decide +kernel
theorem dc_K_write_31 : decode b_K_write 31 = .ok (.aload_n 0, 1) := by decide +kernel
theorem dc_K_write_32 : decode b_K_write 32 = .ok (.getfield 36, 3) := by decide +kernel
theorem dc_K_write_35 : decode b_K_write 35 = .ok (.getfield 95, 3) := by decide +kernel
theorem dc_K_write_38 : decode b_K_write 38 = .ok (.iload_n 1, 1) := by decide +kernel
theorem dc_K_write_39 : decode b_K_write 39 = .ok (.aaload, 1) := by decide +kernel
theorem dc_K_write_40 : decode b_K_write 40 = .ok (.astore_n 2, 1) := by decide +kernel
theorem dc_K_write_41 : decode b_K_write 41 = .ok (.aload_n 0, 1) := by decide +kernel
theorem dc_K_write_42 : decode b_K_write 42 = .ok (.getfield 23, 3) := by decide +kernel
theorem dc_K_write_45 : decode b_K_write 45 = .ok (.aload_n 0, 1) := by decide +kernel
theorem dc_K_write_46 : decode b_K_write 46 = .ok (.getfield 36, 3) := by decide +kernel
theorem dc_K_write_49 : decode b_K_write 49 = .ok (.aload_n 2, 1) := by decide +kernel
theorem dc_K_write_50 : decode b_K_write 50 = .ok (.invokevirtual 229, 3) := by decide +kernel
theorem dc_K_write_53 : decode b_K_write 53 = .ok (.invokevirtual 233, 3) := by decide +kernel
theorem dc_K_write_56 : decode b_K_write 56 = .ok (.aload_n 2, 1) := by decide +kernel
theorem dc_K_write_57 : decode b_K_write 57 = .ok (.aload_n 0, 1) := by decide +kernel
theorem dc_K_write_58 : decode b_K_write 58 = .ok (.getfield 23, 3) := by decide +kernel
theorem dc_K_write_61 : decode b_K_write 61 = .ok (.invokevirtual 236, 3) := by decide +kernel
theorem dc_K_write_64 : decode b_K_write 64 = .ok (.iinc 1 1, 3) := by decide +kernel
theorem dc_K_write_67 : decode b_K_write 67 = .ok (.goto (-47), 3) := by decide +kernel
def dw_K_tile_0 : ByteArray := .mk #[0x1d, 0x10, 0x40, 0xa3, 0x00, 0x19, 0x15, 0x04, 0x10, 0x40, 0xa3, 0x00, 0x12, 0x2a, 0xb4, 0x00, 0x24, 0x1b, 0x1c, 0x1d, 0x15, 0x04, 0xb6, 0x00, 0x32, 0x9a, 0x00, 0x0d]
theorem da_K_tile_0 : dkA b_K_tile dw_K_tile_0 0 := by unfold dkA; decide +kernel
theorem dc_K_tile_0 : decode b_K_tile 0 = .ok (.iload_n 3, 1) := dk_row (s := 0) da_K_tile_0 0 (by decide +kernel)
theorem dc_K_tile_1 : decode b_K_tile 1 = .ok (.bipush 64, 2) := dk_row (s := 0) da_K_tile_0 1 (by decide +kernel)
theorem dc_K_tile_3 : decode b_K_tile 3 = .ok (.if_icmp .gt 25, 3) := dk_row (s := 0) da_K_tile_0 3 (by decide +kernel)
theorem dc_K_tile_6 : decode b_K_tile 6 = .ok (.iload 4, 2) := dk_row (s := 0) da_K_tile_0 6 (by decide +kernel)
theorem dc_K_tile_8 : decode b_K_tile 8 = .ok (.bipush 64, 2) := dk_row (s := 0) da_K_tile_0 8 (by decide +kernel)
theorem dc_K_tile_10 : decode b_K_tile 10 = .ok (.if_icmp .gt 18, 3) := dk_row (s := 0) da_K_tile_0 10 (by decide +kernel)
theorem dc_K_tile_13 : decode b_K_tile 13 = .ok (.aload_n 0, 1) := dk_row (s := 0) da_K_tile_0 13 (by decide +kernel)
theorem dc_K_tile_14 : decode b_K_tile 14 = .ok (.getfield 36, 3) := dk_row (s := 0) da_K_tile_0 14 (by decide +kernel)
theorem dc_K_tile_17 : decode b_K_tile 17 = .ok (.iload_n 1, 1) := dk_row (s := 0) da_K_tile_0 17 (by decide +kernel)
theorem dc_K_tile_18 : decode b_K_tile 18 = .ok (.iload_n 2, 1) := dk_row (s := 0) da_K_tile_0 18 (by decide +kernel)
theorem dc_K_tile_19 : decode b_K_tile 19 = .ok (.iload_n 3, 1) := dk_row (s := 0) da_K_tile_0 19 (by decide +kernel)
theorem dc_K_tile_20 : decode b_K_tile 20 = .ok (.iload 4, 2) := dk_row (s := 0) da_K_tile_0 20 (by decide +kernel)
theorem dc_K_tile_22 : decode b_K_tile 22 = .ok (.invokevirtual 50, 3) := dk_row (s := 0) da_K_tile_0 22 (by decide +kernel)
theorem dc_K_tile_25 : decode b_K_tile 25 = .ok (.ifCond .ne 13, 3) := dk_row (s := 0) da_K_tile_0 25 (by decide +kernel)
def dw_K_tile_38 : ByteArray := .mk #[0x2a, 0xb4, 0x00, 0x24, 0x1b, 0x1c, 0x1d, 0x15, 0x04, 0xb6, 0x00, 0x3d, 0x99, 0x00, 0x0d, 0xbb, 0x00, 0x40, 0x59, 0x12, 0x42, 0xb7, 0x00, 0x44, 0xbf, 0x2a, 0xb4, 0x00, 0x24, 0xb4, 0x00, 0x45]
theorem da_K_tile_38 : dkA b_K_tile dw_K_tile_38 38 := by unfold dkA; decide +kernel
theorem dc_K_tile_38 : decode b_K_tile 38 = .ok (.aload_n 0, 1) := dk_row (s := 38) da_K_tile_38 0 (by decide +kernel)
theorem dc_K_tile_39 : decode b_K_tile 39 = .ok (.getfield 36, 3) := dk_row (s := 38) da_K_tile_38 1 (by decide +kernel)
theorem dc_K_tile_42 : decode b_K_tile 42 = .ok (.iload_n 1, 1) := dk_row (s := 38) da_K_tile_38 4 (by decide +kernel)
theorem dc_K_tile_43 : decode b_K_tile 43 = .ok (.iload_n 2, 1) := dk_row (s := 38) da_K_tile_38 5 (by decide +kernel)
theorem dc_K_tile_44 : decode b_K_tile 44 = .ok (.iload_n 3, 1) := dk_row (s := 38) da_K_tile_38 6 (by decide +kernel)
theorem dc_K_tile_45 : decode b_K_tile 45 = .ok (.iload 4, 2) := dk_row (s := 38) da_K_tile_38 7 (by decide +kernel)
theorem dc_K_tile_47 : decode b_K_tile 47 = .ok (.invokevirtual 61, 3) := dk_row (s := 38) da_K_tile_38 9 (by decide +kernel)
theorem dc_K_tile_50 : decode b_K_tile 50 = .ok (.ifCond .eq 13, 3) := dk_row (s := 38) da_K_tile_38 12 (by decide +kernel)
theorem dc_K_tile_63 : decode b_K_tile 63 = .ok (.aload_n 0, 1) := dk_row (s := 38) da_K_tile_38 25 (by decide +kernel)
theorem dc_K_tile_64 : decode b_K_tile 64 = .ok (.getfield 36, 3) := dk_row (s := 38) da_K_tile_38 26 (by decide +kernel)
theorem dc_K_tile_67 : decode b_K_tile 67 = .ok (.getfield 69, 3) := dk_row (s := 38) da_K_tile_38 29 (by decide +kernel)
def dw_K_tile_70 : ByteArray := .mk #[0x10, 0x28, 0xa1, 0x00, 0x0d, 0xbb, 0x00, 0x48, 0x59, 0x12, 0x4a, 0xb7, 0x00, 0x4c, 0xbf, 0x2a, 0x03, 0xb5, 0x00, 0x2e, 0x2a, 0xb4, 0x00, 0x24, 0x1b, 0x1c, 0x1d, 0x15, 0x04, 0xb6, 0x00, 0x4d]
theorem da_K_tile_70 : dkA b_K_tile dw_K_tile_70 70 := by unfold dkA; decide +kernel
theorem dc_K_tile_70 : decode b_K_tile 70 = .ok (.bipush 40, 2) := dk_row (s := 70) da_K_tile_70 0 (by decide +kernel)
theorem dc_K_tile_72 : decode b_K_tile 72 = .ok (.if_icmp .lt 13, 3) := dk_row (s := 70) da_K_tile_70 2 (by decide +kernel)
theorem dc_K_tile_85 : decode b_K_tile 85 = .ok (.aload_n 0, 1) := dk_row (s := 70) da_K_tile_70 15 (by decide +kernel)
theorem dc_K_tile_86 : decode b_K_tile 86 = .ok (.iconst 0, 1) := dk_row (s := 70) da_K_tile_70 16 (by decide +kernel)
theorem dc_K_tile_87 : decode b_K_tile 87 = .ok (.putfield 46, 3) := dk_row (s := 70) da_K_tile_70 17 (by decide +kernel)
theorem dc_K_tile_90 : decode b_K_tile 90 = .ok (.aload_n 0, 1) := dk_row (s := 70) da_K_tile_70 20 (by decide +kernel)
theorem dc_K_tile_91 : decode b_K_tile 91 = .ok (.getfield 36, 3) := dk_row (s := 70) da_K_tile_70 21 (by decide +kernel)
theorem dc_K_tile_94 : decode b_K_tile 94 = .ok (.iload_n 1, 1) := dk_row (s := 70) da_K_tile_70 24 (by decide +kernel)
theorem dc_K_tile_95 : decode b_K_tile 95 = .ok (.iload_n 2, 1) := dk_row (s := 70) da_K_tile_70 25 (by decide +kernel)
theorem dc_K_tile_96 : decode b_K_tile 96 = .ok (.iload_n 3, 1) := dk_row (s := 70) da_K_tile_70 26 (by decide +kernel)
theorem dc_K_tile_97 : decode b_K_tile 97 = .ok (.iload 4, 2) := dk_row (s := 70) da_K_tile_70 27 (by decide +kernel)
theorem dc_K_tile_99 : decode b_K_tile 99 = .ok (.invokevirtual 77, 3) := dk_row (s := 70) da_K_tile_70 29 (by decide +kernel)
theorem dc_K_tile_102 : decode b_K_tile 102 = .ok (.ireturn, 1) := by decide +kernel
def dw_K_tile_75 : ByteArray := .mk #[0xbb, 0x00, 0x48, 0x59, 0x12, 0x4a, 0xb7, 0x00, 0x4c, 0xbf]
theorem da_K_tile_75 : dkA b_K_tile dw_K_tile_75 75 := by unfold dkA; decide +kernel
theorem dc_K_tile_75 : decode b_K_tile 75 = .ok (.new 72, 3) := dk_row (s := 75) da_K_tile_75 0 (by decide +kernel)
theorem dc_K_tile_78 : decode b_K_tile 78 = .ok (.dup, 1) := dk_row (s := 75) da_K_tile_75 3 (by decide +kernel)
theorem dc_K_tile_79 : decode b_K_tile 79 = .ok (.ldc 74, 2) := dk_row (s := 75) da_K_tile_75 4 (by decide +kernel)
theorem dc_K_tile_81 : decode b_K_tile 81 = .ok (.invokespecial 76, 3) := dk_row (s := 75) da_K_tile_75 6 (by decide +kernel)
theorem dc_K_tile_84 : decode b_K_tile 84 = .ok (.athrow, 1) := dk_row (s := 75) da_K_tile_75 9 (by decide +kernel)
def dw_K_tile_53 : ByteArray := .mk #[0xbb, 0x00, 0x40, 0x59, 0x12, 0x42, 0xb7, 0x00, 0x44, 0xbf]
theorem da_K_tile_53 : dkA b_K_tile dw_K_tile_53 53 := by unfold dkA; decide +kernel
theorem dc_K_tile_53 : decode b_K_tile 53 = .ok (.new 64, 3) := dk_row (s := 53) da_K_tile_53 0 (by decide +kernel)
theorem dc_K_tile_56 : decode b_K_tile 56 = .ok (.dup, 1) := dk_row (s := 53) da_K_tile_53 3 (by decide +kernel)
theorem dc_K_tile_57 : decode b_K_tile 57 = .ok (.ldc 66, 2) := dk_row (s := 53) da_K_tile_53 4 (by decide +kernel)
theorem dc_K_tile_59 : decode b_K_tile 59 = .ok (.invokespecial 68, 3) := dk_row (s := 53) da_K_tile_53 6 (by decide +kernel)
theorem dc_K_tile_62 : decode b_K_tile 62 = .ok (.athrow, 1) := dk_row (s := 53) da_K_tile_53 9 (by decide +kernel)
def dw_K_tile_28 : ByteArray := .mk #[0xbb, 0x00, 0x36, 0x59, 0x12, 0x38, 0xb7, 0x00, 0x3a, 0xbf]
theorem da_K_tile_28 : dkA b_K_tile dw_K_tile_28 28 := by unfold dkA; decide +kernel
theorem dc_K_tile_28 : decode b_K_tile 28 = .ok (.new 54, 3) := dk_row (s := 28) da_K_tile_28 0 (by decide +kernel)
theorem dc_K_tile_31 : decode b_K_tile 31 = .ok (.dup, 1) := dk_row (s := 28) da_K_tile_28 3 (by decide +kernel)
theorem dc_K_tile_32 : decode b_K_tile 32 = .ok (.ldc 56, 2) := dk_row (s := 28) da_K_tile_28 4 (by decide +kernel)
theorem dc_K_tile_34 : decode b_K_tile 34 = .ok (.invokespecial 58, 3) := dk_row (s := 28) da_K_tile_28 6 (by decide +kernel)
theorem dc_K_tile_37 : decode b_K_tile 37 = .ok (.athrow, 1) := dk_row (s := 28) da_K_tile_28 9 (by decide +kernel)
theorem dc_K_byteOf_0 : decode b_K_byteOf 0 = .ok (.aload_n 0, 1) := by decide +kernel
theorem dc_K_byteOf_1 : decode b_K_byteOf 1 = .ok (.getfield 36, 3) := by decide +kernel
theorem dc_K_byteOf_4 : decode b_K_byteOf 4 = .ok (.iload_n 1, 1) := by decide +kernel
theorem dc_K_byteOf_5 : decode b_K_byteOf 5 = .ok (.invokevirtual 81, 3) := by decide +kernel
theorem dc_K_byteOf_8 : decode b_K_byteOf 8 = .ok (.ifCond .ne 13, 3) := by decide +kernel
theorem dc_K_byteOf_21 : decode b_K_byteOf 21 = .ok (.iload_n 2, 1) := by decide +kernel
theorem dc_K_byteOf_22 : decode b_K_byteOf 22 = .ok (.invokestatic 90, 3) := by decide +kernel
theorem dc_K_byteOf_25 : decode b_K_byteOf 25 = .ok (.ifCond .ne 13, 3) := by decide +kernel
theorem dc_K_byteOf_38 : decode b_K_byteOf 38 = .ok (.aload_n 0, 1) := by decide +kernel
theorem dc_K_byteOf_39 : decode b_K_byteOf 39 = .ok (.getfield 36, 3) := by decide +kernel
theorem dc_K_byteOf_42 : decode b_K_byteOf 42 = .ok (.getfield 95, 3) := by decide +kernel
theorem dc_K_byteOf_45 : decode b_K_byteOf 45 = .ok (.iload_n 1, 1) := by decide +kernel
theorem dc_K_byteOf_46 : decode b_K_byteOf 46 = .ok (.aaload, 1) := by decide +kernel
theorem dc_K_byteOf_47 : decode b_K_byteOf 47 = .ok (.astore_n 3, 1) := by decide +kernel
theorem dc_K_byteOf_48 : decode b_K_byteOf 48 = .ok (.aload_n 3, 1) := by decide +kernel
theorem dc_K_byteOf_49 : decode b_K_byteOf 49 = .ok (.getfield 99, 3) := by decide +kernel
theorem dc_K_byteOf_52 : decode b_K_byteOf 52 = .ok (.bipush 12, 2) := by decide +kernel
theorem dc_K_byteOf_54 : decode b_K_byteOf 54 = .ok (.if_icmp .lt 13, 3) := by decide +kernel
theorem dc_K_byteOf_67 : decode b_K_byteOf 67 = .ok (.aload_n 3, 1) := by decide +kernel
theorem dc_K_byteOf_68 : decode b_K_byteOf 68 = .ok (.iload_n 2, 1) := by decide +kernel
theorem dc_K_byteOf_69 : decode b_K_byteOf 69 = .ok (.invokevirtual 106, 3) := by decide +kernel
theorem dc_K_byteOf_72 : decode b_K_byteOf 72 = .ok (.ireturn, 1) := by decide +kernel
theorem dc_K_byteOf_57 : decode b_K_byteOf 57 = .ok (.new 72, 3) := by decide +kernel
theorem dc_K_byteOf_60 : decode b_K_byteOf 60 = .ok (.dup, 1) := by decide +kernel
theorem dc_K_byteOf_61 : decode b_K_byteOf 61 = .ok (.ldc 104, 2) := by decide +kernel
theorem dc_K_byteOf_63 : decode b_K_byteOf 63 = .ok (.invokespecial 76, 3) := by decide +kernel
theorem dc_K_byteOf_66 : decode b_K_byteOf 66 = .ok (.athrow, 1) := by decide +kernel
theorem dc_K_byteOf_28 : decode b_K_byteOf 28 = .ok (.new 54, 3) := by decide +kernel
theorem dc_K_byteOf_31 : decode b_K_byteOf 31 = .ok (.dup, 1) := by decide +kernel
theorem dc_K_byteOf_32 : decode b_K_byteOf 32 = .ok (.ldc 93, 2) := by decide +kernel
theorem dc_K_byteOf_34 : decode b_K_byteOf 34 = .ok (.invokespecial 58, 3) := by decide +kernel
theorem dc_K_byteOf_37 : decode b_K_byteOf 37 = .ok (.athrow, 1) := by decide +kernel
theorem dc_K_byteOf_11 : decode b_K_byteOf 11 = .ok (.new 85, 3) := by decide +kernel
theorem dc_K_byteOf_14 : decode b_K_byteOf 14 = .ok (.dup, 1) := by decide +kernel
theorem dc_K_byteOf_15 : decode b_K_byteOf 15 = .ok (.ldc 87, 2) := by decide +kernel
theorem dc_K_byteOf_17 : decode b_K_byteOf 17 = .ok (.invokespecial 89, 3) := by decide +kernel
theorem dc_K_byteOf_20 : decode b_K_byteOf 20 = .ok (.athrow, 1) := by decide +kernel
theorem dc_K_note_0 : decode b_K_note 0 = .ok (.aload_n 0, 1) := by decide +kernel
theorem dc_K_note_1 : decode b_K_note 1 = .ok (.getfield 36, 3) := by decide +kernel
theorem dc_K_note_4 : decode b_K_note 4 = .ok (.iload_n 1, 1) := by decide +kernel
theorem dc_K_note_5 : decode b_K_note 5 = .ok (.iload_n 2, 1) := by decide +kernel
theorem dc_K_note_6 : decode b_K_note 6 = .ok (.invokevirtual 109, 3) := by decide +kernel
theorem dc_K_note_9 : decode b_K_note 9 = .ok (.ifCond .ne 13, 3) := by decide +kernel
theorem dc_K_note_22 : decode b_K_note 22 = .ok (.iload_n 3, 1) := by decide +kernel
theorem dc_K_note_23 : decode b_K_note 23 = .ok (.invokestatic 90, 3) := by decide +kernel
theorem dc_K_note_26 : decode b_K_note 26 = .ok (.ifCond .ne 13, 3) := by decide +kernel
theorem dc_K_note_39 : decode b_K_note 39 = .ok (.aload_n 0, 1) := by decide +kernel
theorem dc_K_note_40 : decode b_K_note 40 = .ok (.getfield 36, 3) := by decide +kernel
theorem dc_K_note_43 : decode b_K_note 43 = .ok (.getfield 115, 3) := by decide +kernel
theorem dc_K_note_46 : decode b_K_note 46 = .ok (.bipush 20, 2) := by decide +kernel
theorem dc_K_note_48 : decode b_K_note 48 = .ok (.if_icmp .lt 13, 3) := by decide +kernel
theorem dc_K_note_61 : decode b_K_note 61 = .ok (.aload_n 0, 1) := by decide +kernel
theorem dc_K_note_62 : decode b_K_note 62 = .ok (.getfield 36, 3) := by decide +kernel
theorem dc_K_note_65 : decode b_K_note 65 = .ok (.iload_n 1, 1) := by decide +kernel
theorem dc_K_note_66 : decode b_K_note 66 = .ok (.iload_n 2, 1) := by decide +kernel
theorem dc_K_note_67 : decode b_K_note 67 = .ok (.iload_n 3, 1) := by decide +kernel
theorem dc_K_note_68 : decode b_K_note 68 = .ok (.invokevirtual 120, 3) := by decide +kernel
theorem dc_K_note_71 : decode b_K_note 71 = .ok (.ireturn, 1) := by decide +kernel
theorem dc_K_note_51 : decode b_K_note 51 = .ok (.new 72, 3) := by decide +kernel
theorem dc_K_note_54 : decode b_K_note 54 = .ok (.dup, 1) := by decide +kernel
theorem dc_K_note_55 : decode b_K_note 55 = .ok (.ldc 118, 2) := by decide +kernel
theorem dc_K_note_57 : decode b_K_note 57 = .ok (.invokespecial 76, 3) := by decide +kernel
theorem dc_K_note_60 : decode b_K_note 60 = .ok (.athrow, 1) := by decide +kernel
theorem dc_K_note_29 : decode b_K_note 29 = .ok (.new 54, 3) := by decide +kernel
theorem dc_K_note_32 : decode b_K_note 32 = .ok (.dup, 1) := by decide +kernel
theorem dc_K_note_33 : decode b_K_note 33 = .ok (.ldc 93, 2) := by decide +kernel
theorem dc_K_note_35 : decode b_K_note 35 = .ok (.invokespecial 58, 3) := by decide +kernel
theorem dc_K_note_38 : decode b_K_note 38 = .ok (.athrow, 1) := by decide +kernel
theorem dc_K_note_12 : decode b_K_note 12 = .ok (.new 85, 3) := by decide +kernel
theorem dc_K_note_15 : decode b_K_note 15 = .ok (.dup, 1) := by decide +kernel
theorem dc_K_note_16 : decode b_K_note 16 = .ok (.ldc 113, 2) := by decide +kernel
theorem dc_K_note_18 : decode b_K_note 18 = .ok (.invokespecial 89, 3) := by decide +kernel
theorem dc_K_note_21 : decode b_K_note 21 = .ok (.athrow, 1) := by decide +kernel
def dw_K_crop_0 : ByteArray := .mk #[0x2a, 0x03, 0xb5, 0x00, 0x2e, 0x2a, 0xb4, 0x00, 0x24, 0x1b, 0x1c, 0x1d, 0x15, 0x04, 0xb6, 0x00, 0x32, 0x9a, 0x00, 0x0d, 0xbb, 0x00, 0x36, 0x59, 0x12, 0x7c, 0xb7, 0x00, 0x3a, 0xbf, 0x2a]
theorem da_K_crop_0 : dkA b_K_crop dw_K_crop_0 0 := by unfold dkA; decide +kernel
theorem dc_K_crop_0 : decode b_K_crop 0 = .ok (.aload_n 0, 1) := dk_row (s := 0) da_K_crop_0 0 (by decide +kernel)
theorem dc_K_crop_1 : decode b_K_crop 1 = .ok (.iconst 0, 1) := dk_row (s := 0) da_K_crop_0 1 (by decide +kernel)
theorem dc_K_crop_2 : decode b_K_crop 2 = .ok (.putfield 46, 3) := dk_row (s := 0) da_K_crop_0 2 (by decide +kernel)
theorem dc_K_crop_5 : decode b_K_crop 5 = .ok (.aload_n 0, 1) := dk_row (s := 0) da_K_crop_0 5 (by decide +kernel)
theorem dc_K_crop_6 : decode b_K_crop 6 = .ok (.getfield 36, 3) := dk_row (s := 0) da_K_crop_0 6 (by decide +kernel)
theorem dc_K_crop_9 : decode b_K_crop 9 = .ok (.iload_n 1, 1) := dk_row (s := 0) da_K_crop_0 9 (by decide +kernel)
theorem dc_K_crop_10 : decode b_K_crop 10 = .ok (.iload_n 2, 1) := dk_row (s := 0) da_K_crop_0 10 (by decide +kernel)
theorem dc_K_crop_11 : decode b_K_crop 11 = .ok (.iload_n 3, 1) := dk_row (s := 0) da_K_crop_0 11 (by decide +kernel)
theorem dc_K_crop_12 : decode b_K_crop 12 = .ok (.iload 4, 2) := dk_row (s := 0) da_K_crop_0 12 (by decide +kernel)
theorem dc_K_crop_14 : decode b_K_crop 14 = .ok (.invokevirtual 50, 3) := dk_row (s := 0) da_K_crop_0 14 (by decide +kernel)
theorem dc_K_crop_17 : decode b_K_crop 17 = .ok (.ifCond .ne 13, 3) := dk_row (s := 0) da_K_crop_0 17 (by decide +kernel)
theorem dc_K_crop_30 : decode b_K_crop 30 = .ok (.aload_n 0, 1) := dk_row (s := 0) da_K_crop_0 30 (by decide +kernel)
def dw_K_crop_31 : ByteArray := .mk #[0xb4, 0x00, 0x1b, 0x03, 0x1b, 0x4f, 0x2a, 0xb4, 0x00, 0x1b, 0x04, 0x1c, 0x4f, 0x2a, 0xb4, 0x00, 0x1b, 0x05, 0x1b, 0x1d, 0x60, 0x4f, 0x2a, 0xb4, 0x00, 0x1b, 0x06, 0x1c, 0x15, 0x04, 0x60, 0x4f]
theorem da_K_crop_31 : dkA b_K_crop dw_K_crop_31 31 := by unfold dkA; decide +kernel
theorem dc_K_crop_31 : decode b_K_crop 31 = .ok (.getfield 27, 3) := dk_row (s := 31) da_K_crop_31 0 (by decide +kernel)
theorem dc_K_crop_34 : decode b_K_crop 34 = .ok (.iconst 0, 1) := dk_row (s := 31) da_K_crop_31 3 (by decide +kernel)
theorem dc_K_crop_35 : decode b_K_crop 35 = .ok (.iload_n 1, 1) := dk_row (s := 31) da_K_crop_31 4 (by decide +kernel)
theorem dc_K_crop_36 : decode b_K_crop 36 = .ok (.iastore, 1) := dk_row (s := 31) da_K_crop_31 5 (by decide +kernel)
theorem dc_K_crop_37 : decode b_K_crop 37 = .ok (.aload_n 0, 1) := dk_row (s := 31) da_K_crop_31 6 (by decide +kernel)
theorem dc_K_crop_38 : decode b_K_crop 38 = .ok (.getfield 27, 3) := dk_row (s := 31) da_K_crop_31 7 (by decide +kernel)
theorem dc_K_crop_41 : decode b_K_crop 41 = .ok (.iconst 1, 1) := dk_row (s := 31) da_K_crop_31 10 (by decide +kernel)
theorem dc_K_crop_42 : decode b_K_crop 42 = .ok (.iload_n 2, 1) := dk_row (s := 31) da_K_crop_31 11 (by decide +kernel)
theorem dc_K_crop_43 : decode b_K_crop 43 = .ok (.iastore, 1) := dk_row (s := 31) da_K_crop_31 12 (by decide +kernel)
theorem dc_K_crop_44 : decode b_K_crop 44 = .ok (.aload_n 0, 1) := dk_row (s := 31) da_K_crop_31 13 (by decide +kernel)
theorem dc_K_crop_45 : decode b_K_crop 45 = .ok (.getfield 27, 3) := dk_row (s := 31) da_K_crop_31 14 (by decide +kernel)
theorem dc_K_crop_48 : decode b_K_crop 48 = .ok (.iconst 2, 1) := dk_row (s := 31) da_K_crop_31 17 (by decide +kernel)
theorem dc_K_crop_49 : decode b_K_crop 49 = .ok (.iload_n 1, 1) := dk_row (s := 31) da_K_crop_31 18 (by decide +kernel)
theorem dc_K_crop_50 : decode b_K_crop 50 = .ok (.iload_n 3, 1) := dk_row (s := 31) da_K_crop_31 19 (by decide +kernel)
theorem dc_K_crop_51 : decode b_K_crop 51 = .ok (.iadd, 1) := dk_row (s := 31) da_K_crop_31 20 (by decide +kernel)
theorem dc_K_crop_52 : decode b_K_crop 52 = .ok (.iastore, 1) := dk_row (s := 31) da_K_crop_31 21 (by decide +kernel)
theorem dc_K_crop_53 : decode b_K_crop 53 = .ok (.aload_n 0, 1) := dk_row (s := 31) da_K_crop_31 22 (by decide +kernel)
theorem dc_K_crop_54 : decode b_K_crop 54 = .ok (.getfield 27, 3) := dk_row (s := 31) da_K_crop_31 23 (by decide +kernel)
theorem dc_K_crop_57 : decode b_K_crop 57 = .ok (.iconst 3, 1) := dk_row (s := 31) da_K_crop_31 26 (by decide +kernel)
theorem dc_K_crop_58 : decode b_K_crop 58 = .ok (.iload_n 2, 1) := dk_row (s := 31) da_K_crop_31 27 (by decide +kernel)
theorem dc_K_crop_59 : decode b_K_crop 59 = .ok (.iload 4, 2) := dk_row (s := 31) da_K_crop_31 28 (by decide +kernel)
theorem dc_K_crop_61 : decode b_K_crop 61 = .ok (.iadd, 1) := dk_row (s := 31) da_K_crop_31 30 (by decide +kernel)
theorem dc_K_crop_62 : decode b_K_crop 62 = .ok (.iastore, 1) := dk_row (s := 31) da_K_crop_31 31 (by decide +kernel)
def dw_K_crop_63 : ByteArray := .mk #[0x2a, 0x2a, 0xb6, 0x00, 0x7e, 0x9a, 0x00, 0x07, 0x04, 0xa7, 0x00, 0x04, 0x03]
theorem da_K_crop_63 : dkA b_K_crop dw_K_crop_63 63 := by unfold dkA; decide +kernel
theorem dc_K_crop_63 : decode b_K_crop 63 = .ok (.aload_n 0, 1) := dk_row (s := 63) da_K_crop_63 0 (by decide +kernel)
theorem dc_K_crop_64 : decode b_K_crop 64 = .ok (.aload_n 0, 1) := dk_row (s := 63) da_K_crop_63 1 (by decide +kernel)
theorem dc_K_crop_65 : decode b_K_crop 65 = .ok (.invokevirtual 126, 3) := dk_row (s := 63) da_K_crop_63 2 (by decide +kernel)
theorem dc_K_crop_68 : decode b_K_crop 68 = .ok (.ifCond .ne 7, 3) := dk_row (s := 63) da_K_crop_63 5 (by decide +kernel)
theorem dc_K_crop_75 : decode b_K_crop 75 = .ok (.iconst 0, 1) := dk_row (s := 63) da_K_crop_63 12 (by decide +kernel)
theorem dc_K_crop_71 : decode b_K_crop 71 = .ok (.iconst 1, 1) := by decide +kernel
theorem dc_K_crop_72 : decode b_K_crop 72 = .ok (.goto 4, 3) := by decide +kernel
def dw_K_crop_20 : ByteArray := .mk #[0xbb, 0x00, 0x36, 0x59, 0x12, 0x7c, 0xb7, 0x00, 0x3a, 0xbf]
theorem da_K_crop_20 : dkA b_K_crop dw_K_crop_20 20 := by unfold dkA; decide +kernel
theorem dc_K_crop_20 : decode b_K_crop 20 = .ok (.new 54, 3) := dk_row (s := 20) da_K_crop_20 0 (by decide +kernel)
theorem dc_K_crop_23 : decode b_K_crop 23 = .ok (.dup, 1) := dk_row (s := 20) da_K_crop_20 3 (by decide +kernel)
theorem dc_K_crop_24 : decode b_K_crop 24 = .ok (.ldc 124, 2) := dk_row (s := 20) da_K_crop_20 4 (by decide +kernel)
theorem dc_K_crop_26 : decode b_K_crop 26 = .ok (.invokespecial 58, 3) := dk_row (s := 20) da_K_crop_20 6 (by decide +kernel)
theorem dc_K_crop_29 : decode b_K_crop 29 = .ok (.athrow, 1) := dk_row (s := 20) da_K_crop_20 9 (by decide +kernel)
def dw_K_crop_76 : ByteArray := .mk #[0xb5, 0x00, 0x2e, 0x2a, 0xb4, 0x00, 0x2e, 0x99, 0x00, 0x05, 0x02, 0xac, 0x2a, 0xb4, 0x00, 0x24, 0x1b, 0x1c, 0x1d, 0x15, 0x04, 0xb6, 0x00, 0x82, 0xac]
theorem da_K_crop_76 : dkA b_K_crop dw_K_crop_76 76 := by unfold dkA; decide +kernel
theorem dc_K_crop_76 : decode b_K_crop 76 = .ok (.putfield 46, 3) := dk_row (s := 76) da_K_crop_76 0 (by decide +kernel)
theorem dc_K_crop_79 : decode b_K_crop 79 = .ok (.aload_n 0, 1) := dk_row (s := 76) da_K_crop_76 3 (by decide +kernel)
theorem dc_K_crop_80 : decode b_K_crop 80 = .ok (.getfield 46, 3) := dk_row (s := 76) da_K_crop_76 4 (by decide +kernel)
theorem dc_K_crop_83 : decode b_K_crop 83 = .ok (.ifCond .eq 5, 3) := dk_row (s := 76) da_K_crop_76 7 (by decide +kernel)
theorem dc_K_crop_88 : decode b_K_crop 88 = .ok (.aload_n 0, 1) := dk_row (s := 76) da_K_crop_76 12 (by decide +kernel)
theorem dc_K_crop_89 : decode b_K_crop 89 = .ok (.getfield 36, 3) := dk_row (s := 76) da_K_crop_76 13 (by decide +kernel)
theorem dc_K_crop_92 : decode b_K_crop 92 = .ok (.iload_n 1, 1) := dk_row (s := 76) da_K_crop_76 16 (by decide +kernel)
theorem dc_K_crop_93 : decode b_K_crop 93 = .ok (.iload_n 2, 1) := dk_row (s := 76) da_K_crop_76 17 (by decide +kernel)
theorem dc_K_crop_94 : decode b_K_crop 94 = .ok (.iload_n 3, 1) := dk_row (s := 76) da_K_crop_76 18 (by decide +kernel)
theorem dc_K_crop_95 : decode b_K_crop 95 = .ok (.iload 4, 2) := dk_row (s := 76) da_K_crop_76 19 (by decide +kernel)
theorem dc_K_crop_97 : decode b_K_crop 97 = .ok (.invokevirtual 130, 3) := dk_row (s := 76) da_K_crop_76 21 (by decide +kernel)
theorem dc_K_crop_100 : decode b_K_crop 100 = .ok (.ireturn, 1) := dk_row (s := 76) da_K_crop_76 24 (by decide +kernel)
theorem dc_K_crop_86 : decode b_K_crop 86 = .ok (.iconst (-1), 1) := by decide +kernel
theorem dc_K_crop_87 : decode b_K_crop 87 = .ok (.ireturn, 1) := by decide +kernel
theorem dc_K_near_0 : decode b_K_near 0 = .ok (.iload_n 1, 1) := by decide +kernel
theorem dc_K_near_1 : decode b_K_near 1 = .ok (.invokestatic 133, 3) := by decide +kernel
theorem dc_K_near_4 : decode b_K_near 4 = .ok (.ifCond .ne 13, 3) := by decide +kernel
theorem dc_K_near_17 : decode b_K_near 17 = .ok (.aload_n 0, 1) := by decide +kernel
theorem dc_K_near_18 : decode b_K_near 18 = .ok (.getfield 46, 3) := by decide +kernel
theorem dc_K_near_21 : decode b_K_near 21 = .ok (.ifCond .ne 13, 3) := by decide +kernel
theorem dc_K_near_34 : decode b_K_near 34 = .ok (.aload_n 0, 1) := by decide +kernel
theorem dc_K_near_35 : decode b_K_near 35 = .ok (.getfield 36, 3) := by decide +kernel
theorem dc_K_near_38 : decode b_K_near 38 = .ok (.iload_n 1, 1) := by decide +kernel
theorem dc_K_near_39 : decode b_K_near 39 = .ok (.invokestatic 140, 3) := by decide +kernel
theorem dc_K_near_42 : decode b_K_near 42 = .ok (.aload_n 0, 1) := by decide +kernel
theorem dc_K_near_43 : decode b_K_near 43 = .ok (.getfield 27, 3) := by decide +kernel
theorem dc_K_near_46 : decode b_K_near 46 = .ok (.iload_n 1, 1) := by decide +kernel
theorem dc_K_near_47 : decode b_K_near 47 = .ok (.iaload, 1) := by decide +kernel
theorem dc_K_near_48 : decode b_K_near 48 = .ok (.invokevirtual 143, 3) := by decide +kernel
theorem dc_K_near_51 : decode b_K_near 51 = .ok (.ireturn, 1) := by decide +kernel
theorem dc_K_near_24 : decode b_K_near 24 = .ok (.new 64, 3) := by decide +kernel
theorem dc_K_near_27 : decode b_K_near 27 = .ok (.dup, 1) := by decide +kernel
theorem dc_K_near_28 : decode b_K_near 28 = .ok (.ldc 138, 2) := by decide +kernel
theorem dc_K_near_30 : decode b_K_near 30 = .ok (.invokespecial 68, 3) := by decide +kernel
theorem dc_K_near_33 : decode b_K_near 33 = .ok (.athrow, 1) := by decide +kernel
theorem dc_K_near_7 : decode b_K_near 7 = .ok (.new 85, 3) := by decide +kernel
theorem dc_K_near_10 : decode b_K_near 10 = .ok (.dup, 1) := by decide +kernel
theorem dc_K_near_11 : decode b_K_near 11 = .ok (.ldc 136, 2) := by decide +kernel
theorem dc_K_near_13 : decode b_K_near 13 = .ok (.invokespecial 89, 3) := by decide +kernel
theorem dc_K_near_16 : decode b_K_near 16 = .ok (.athrow, 1) := by decide +kernel
theorem dc_K_turn_0 : decode b_K_turn 0 = .ok (.iload_n 1, 1) := by decide +kernel
theorem dc_K_turn_1 : decode b_K_turn 1 = .ok (.ifCond .lt 9, 3) := by decide +kernel
theorem dc_K_turn_4 : decode b_K_turn 4 = .ok (.iload_n 1, 1) := by decide +kernel
theorem dc_K_turn_5 : decode b_K_turn 5 = .ok (.bipush 8, 2) := by decide +kernel
theorem dc_K_turn_7 : decode b_K_turn 7 = .ok (.if_icmp .lt 13, 3) := by decide +kernel
theorem dc_K_turn_20 : decode b_K_turn 20 = .ok (.aload_n 0, 1) := by decide +kernel
theorem dc_K_turn_21 : decode b_K_turn 21 = .ok (.getfield 36, 3) := by decide +kernel
theorem dc_K_turn_24 : decode b_K_turn 24 = .ok (.iload_n 1, 1) := by decide +kernel
theorem dc_K_turn_25 : decode b_K_turn 25 = .ok (.invokevirtual 149, 3) := by decide +kernel
theorem dc_K_turn_28 : decode b_K_turn 28 = .ok (.aload_n 0, 1) := by decide +kernel
theorem dc_K_turn_29 : decode b_K_turn 29 = .ok (.aload_n 0, 1) := by decide +kernel
theorem dc_K_turn_30 : decode b_K_turn 30 = .ok (.getfield 43, 3) := by decide +kernel
theorem dc_K_turn_33 : decode b_K_turn 33 = .ok (.iload_n 1, 1) := by decide +kernel
theorem dc_K_turn_34 : decode b_K_turn 34 = .ok (.invokestatic 153, 3) := by decide +kernel
theorem dc_K_turn_37 : decode b_K_turn 37 = .ok (.putfield 43, 3) := by decide +kernel
theorem dc_K_turn_40 : decode b_K_turn 40 = .ok (.aload_n 0, 1) := by decide +kernel
theorem dc_K_turn_41 : decode b_K_turn 41 = .ok (.iconst 0, 1) := by decide +kernel
theorem dc_K_turn_42 : decode b_K_turn 42 = .ok (.putfield 46, 3) := by decide +kernel
theorem dc_K_turn_45 : decode b_K_turn 45 = .ok (.aload_n 0, 1) := by decide +kernel
theorem dc_K_turn_46 : decode b_K_turn 46 = .ok (.getfield 43, 3) := by decide +kernel
theorem dc_K_turn_49 : decode b_K_turn 49 = .ok (.ireturn, 1) := by decide +kernel
theorem dc_K_turn_10 : decode b_K_turn 10 = .ok (.new 54, 3) := by decide +kernel
theorem dc_K_turn_13 : decode b_K_turn 13 = .ok (.dup, 1) := by decide +kernel
theorem dc_K_turn_14 : decode b_K_turn 14 = .ok (.ldc 147, 2) := by decide +kernel
theorem dc_K_turn_16 : decode b_K_turn 16 = .ok (.invokespecial 58, 3) := by decide +kernel
theorem dc_K_turn_19 : decode b_K_turn 19 = .ok (.athrow, 1) := by decide +kernel
def dw_K_join_0 : ByteArray := .mk #[0x1b, 0xb8, 0x00, 0x85, 0x9a, 0x00, 0x0d, 0xbb, 0x00, 0x55, 0x59, 0x12, 0x88, 0xb7, 0x00, 0x59, 0xbf, 0x1b, 0xb8, 0x00, 0x8c, 0x3d, 0x2a, 0xb4, 0x00, 0x24, 0x1c, 0x9a, 0x00, 0x07]
theorem da_K_join_0 : dkA b_K_join dw_K_join_0 0 := by unfold dkA; decide +kernel
theorem dc_K_join_0 : decode b_K_join 0 = .ok (.iload_n 1, 1) := dk_row (s := 0) da_K_join_0 0 (by decide +kernel)
theorem dc_K_join_1 : decode b_K_join 1 = .ok (.invokestatic 133, 3) := dk_row (s := 0) da_K_join_0 1 (by decide +kernel)
theorem dc_K_join_4 : decode b_K_join 4 = .ok (.ifCond .ne 13, 3) := dk_row (s := 0) da_K_join_0 4 (by decide +kernel)
theorem dc_K_join_17 : decode b_K_join 17 = .ok (.iload_n 1, 1) := dk_row (s := 0) da_K_join_0 17 (by decide +kernel)
theorem dc_K_join_18 : decode b_K_join 18 = .ok (.invokestatic 140, 3) := dk_row (s := 0) da_K_join_0 18 (by decide +kernel)
theorem dc_K_join_21 : decode b_K_join 21 = .ok (.istore_n 2, 1) := dk_row (s := 0) da_K_join_0 21 (by decide +kernel)
theorem dc_K_join_22 : decode b_K_join 22 = .ok (.aload_n 0, 1) := dk_row (s := 0) da_K_join_0 22 (by decide +kernel)
theorem dc_K_join_23 : decode b_K_join 23 = .ok (.getfield 36, 3) := dk_row (s := 0) da_K_join_0 23 (by decide +kernel)
theorem dc_K_join_26 : decode b_K_join 26 = .ok (.iload_n 2, 1) := dk_row (s := 0) da_K_join_0 26 (by decide +kernel)
theorem dc_K_join_27 : decode b_K_join 27 = .ok (.ifCond .ne 7, 3) := dk_row (s := 0) da_K_join_0 27 (by decide +kernel)
theorem dc_K_join_34 : decode b_K_join 34 = .ok (.iconst 0, 1) := by decide +kernel
theorem dc_K_join_30 : decode b_K_join 30 = .ok (.iconst 1, 1) := by decide +kernel
theorem dc_K_join_31 : decode b_K_join 31 = .ok (.goto 4, 3) := by decide +kernel
def dw_K_join_7 : ByteArray := .mk #[0xbb, 0x00, 0x55, 0x59, 0x12, 0x88, 0xb7, 0x00, 0x59, 0xbf, 0x1b, 0xb8, 0x00, 0x8c, 0x3d, 0x2a, 0xb4, 0x00, 0x24, 0x1c, 0x9a, 0x00, 0x07, 0x04, 0xa7, 0x00, 0x04, 0x03, 0xb6, 0x00, 0x9d, 0x2a]
theorem da_K_join_7 : dkA b_K_join dw_K_join_7 7 := by unfold dkA; decide +kernel
theorem dc_K_join_7 : decode b_K_join 7 = .ok (.new 85, 3) := dk_row (s := 7) da_K_join_7 0 (by decide +kernel)
theorem dc_K_join_10 : decode b_K_join 10 = .ok (.dup, 1) := dk_row (s := 7) da_K_join_7 3 (by decide +kernel)
theorem dc_K_join_11 : decode b_K_join 11 = .ok (.ldc 136, 2) := dk_row (s := 7) da_K_join_7 4 (by decide +kernel)
theorem dc_K_join_13 : decode b_K_join 13 = .ok (.invokespecial 89, 3) := dk_row (s := 7) da_K_join_7 6 (by decide +kernel)
theorem dc_K_join_16 : decode b_K_join 16 = .ok (.athrow, 1) := dk_row (s := 7) da_K_join_7 9 (by decide +kernel)
theorem dc_K_join_35 : decode b_K_join 35 = .ok (.invokevirtual 157, 3) := dk_row (s := 7) da_K_join_7 28 (by decide +kernel)
theorem dc_K_join_38 : decode b_K_join 38 = .ok (.aload_n 0, 1) := dk_row (s := 7) da_K_join_7 31 (by decide +kernel)
def dw_K_join_39 : ByteArray := .mk #[0xb4, 0x00, 0x28, 0x1c, 0x9a, 0x00, 0x07, 0x04, 0xa7, 0x00, 0x04, 0x03]
theorem da_K_join_39 : dkA b_K_join dw_K_join_39 39 := by unfold dkA; decide +kernel
theorem dc_K_join_39 : decode b_K_join 39 = .ok (.getfield 40, 3) := dk_row (s := 39) da_K_join_39 0 (by decide +kernel)
theorem dc_K_join_42 : decode b_K_join 42 = .ok (.iload_n 2, 1) := dk_row (s := 39) da_K_join_39 3 (by decide +kernel)
theorem dc_K_join_43 : decode b_K_join 43 = .ok (.ifCond .ne 7, 3) := dk_row (s := 39) da_K_join_39 4 (by decide +kernel)
theorem dc_K_join_50 : decode b_K_join 50 = .ok (.iconst 0, 1) := dk_row (s := 39) da_K_join_39 11 (by decide +kernel)
def dw_K_join_46 : ByteArray := .mk #[0x04, 0xa7, 0x00, 0x04, 0x03, 0xb6, 0x00, 0x9d, 0x9f, 0x00, 0x0d, 0xbb, 0x00, 0x40, 0x59, 0x12, 0xa1, 0xb7, 0x00, 0x44, 0xbf, 0x2a, 0xb4, 0x00, 0x24, 0x2a, 0xb4, 0x00, 0x28, 0x1c]
theorem da_K_join_46 : dkA b_K_join dw_K_join_46 46 := by unfold dkA; decide +kernel
theorem dc_K_join_46 : decode b_K_join 46 = .ok (.iconst 1, 1) := dk_row (s := 46) da_K_join_46 0 (by decide +kernel)
theorem dc_K_join_47 : decode b_K_join 47 = .ok (.goto 4, 3) := dk_row (s := 46) da_K_join_46 1 (by decide +kernel)
theorem dc_K_join_51 : decode b_K_join 51 = .ok (.invokevirtual 157, 3) := dk_row (s := 46) da_K_join_46 5 (by decide +kernel)
theorem dc_K_join_54 : decode b_K_join 54 = .ok (.if_icmp .eq 13, 3) := dk_row (s := 46) da_K_join_46 8 (by decide +kernel)
theorem dc_K_join_67 : decode b_K_join 67 = .ok (.aload_n 0, 1) := dk_row (s := 46) da_K_join_46 21 (by decide +kernel)
theorem dc_K_join_68 : decode b_K_join 68 = .ok (.getfield 36, 3) := dk_row (s := 46) da_K_join_46 22 (by decide +kernel)
theorem dc_K_join_71 : decode b_K_join 71 = .ok (.aload_n 0, 1) := dk_row (s := 46) da_K_join_46 25 (by decide +kernel)
theorem dc_K_join_72 : decode b_K_join 72 = .ok (.getfield 40, 3) := dk_row (s := 46) da_K_join_46 26 (by decide +kernel)
theorem dc_K_join_75 : decode b_K_join 75 = .ok (.iload_n 2, 1) := dk_row (s := 46) da_K_join_46 29 (by decide +kernel)
def dw_K_join_76 : ByteArray := .mk #[0xb6, 0x00, 0xa3, 0x9a, 0x00, 0x0d, 0xbb, 0x00, 0x48, 0x59, 0x12, 0xa7, 0xb7, 0x00, 0x4c, 0xbf, 0x2a, 0x1b, 0xb6, 0x00, 0xa9, 0x2a, 0xb4, 0x00, 0x24, 0x2a, 0xb4, 0x00, 0x28, 0xb6, 0x00, 0xac]
theorem da_K_join_76 : dkA b_K_join dw_K_join_76 76 := by unfold dkA; decide +kernel
theorem dc_K_join_76 : decode b_K_join 76 = .ok (.invokevirtual 163, 3) := dk_row (s := 76) da_K_join_76 0 (by decide +kernel)
theorem dc_K_join_79 : decode b_K_join 79 = .ok (.ifCond .ne 13, 3) := dk_row (s := 76) da_K_join_76 3 (by decide +kernel)
theorem dc_K_join_92 : decode b_K_join 92 = .ok (.aload_n 0, 1) := dk_row (s := 76) da_K_join_76 16 (by decide +kernel)
theorem dc_K_join_93 : decode b_K_join 93 = .ok (.iload_n 1, 1) := dk_row (s := 76) da_K_join_76 17 (by decide +kernel)
theorem dc_K_join_94 : decode b_K_join 94 = .ok (.invokevirtual 169, 3) := dk_row (s := 76) da_K_join_76 18 (by decide +kernel)
theorem dc_K_join_97 : decode b_K_join 97 = .ok (.aload_n 0, 1) := dk_row (s := 76) da_K_join_76 21 (by decide +kernel)
theorem dc_K_join_98 : decode b_K_join 98 = .ok (.getfield 36, 3) := dk_row (s := 76) da_K_join_76 22 (by decide +kernel)
theorem dc_K_join_101 : decode b_K_join 101 = .ok (.aload_n 0, 1) := dk_row (s := 76) da_K_join_76 25 (by decide +kernel)
theorem dc_K_join_102 : decode b_K_join 102 = .ok (.getfield 40, 3) := dk_row (s := 76) da_K_join_76 26 (by decide +kernel)
theorem dc_K_join_105 : decode b_K_join 105 = .ok (.invokevirtual 172, 3) := dk_row (s := 76) da_K_join_76 29 (by decide +kernel)
def dw_K_join_108 : ByteArray := .mk #[0x2a, 0x03, 0xb5, 0x00, 0x2b, 0x2a, 0x03, 0xb5, 0x00, 0x2e, 0x2a, 0xb4, 0x00, 0x24, 0xb4, 0x00, 0x45, 0xac]
theorem da_K_join_108 : dkA b_K_join dw_K_join_108 108 := by unfold dkA; decide +kernel
theorem dc_K_join_108 : decode b_K_join 108 = .ok (.aload_n 0, 1) := dk_row (s := 108) da_K_join_108 0 (by decide +kernel)
theorem dc_K_join_109 : decode b_K_join 109 = .ok (.iconst 0, 1) := dk_row (s := 108) da_K_join_108 1 (by decide +kernel)
theorem dc_K_join_110 : decode b_K_join 110 = .ok (.putfield 43, 3) := dk_row (s := 108) da_K_join_108 2 (by decide +kernel)
theorem dc_K_join_113 : decode b_K_join 113 = .ok (.aload_n 0, 1) := dk_row (s := 108) da_K_join_108 5 (by decide +kernel)
theorem dc_K_join_114 : decode b_K_join 114 = .ok (.iconst 0, 1) := dk_row (s := 108) da_K_join_108 6 (by decide +kernel)
theorem dc_K_join_115 : decode b_K_join 115 = .ok (.putfield 46, 3) := dk_row (s := 108) da_K_join_108 7 (by decide +kernel)
theorem dc_K_join_118 : decode b_K_join 118 = .ok (.aload_n 0, 1) := dk_row (s := 108) da_K_join_108 10 (by decide +kernel)
theorem dc_K_join_119 : decode b_K_join 119 = .ok (.getfield 36, 3) := dk_row (s := 108) da_K_join_108 11 (by decide +kernel)
theorem dc_K_join_122 : decode b_K_join 122 = .ok (.getfield 69, 3) := dk_row (s := 108) da_K_join_108 14 (by decide +kernel)
theorem dc_K_join_125 : decode b_K_join 125 = .ok (.ireturn, 1) := dk_row (s := 108) da_K_join_108 17 (by decide +kernel)
def dw_K_join_82 : ByteArray := .mk #[0xbb, 0x00, 0x48, 0x59, 0x12, 0xa7, 0xb7, 0x00, 0x4c, 0xbf]
theorem da_K_join_82 : dkA b_K_join dw_K_join_82 82 := by unfold dkA; decide +kernel
theorem dc_K_join_82 : decode b_K_join 82 = .ok (.new 72, 3) := dk_row (s := 82) da_K_join_82 0 (by decide +kernel)
theorem dc_K_join_85 : decode b_K_join 85 = .ok (.dup, 1) := dk_row (s := 82) da_K_join_82 3 (by decide +kernel)
theorem dc_K_join_86 : decode b_K_join 86 = .ok (.ldc 167, 2) := dk_row (s := 82) da_K_join_82 4 (by decide +kernel)
theorem dc_K_join_88 : decode b_K_join 88 = .ok (.invokespecial 76, 3) := dk_row (s := 82) da_K_join_82 6 (by decide +kernel)
theorem dc_K_join_91 : decode b_K_join 91 = .ok (.athrow, 1) := dk_row (s := 82) da_K_join_82 9 (by decide +kernel)
def dw_K_join_57 : ByteArray := .mk #[0xbb, 0x00, 0x40, 0x59, 0x12, 0xa1, 0xb7, 0x00, 0x44, 0xbf]
theorem da_K_join_57 : dkA b_K_join dw_K_join_57 57 := by unfold dkA; decide +kernel
theorem dc_K_join_57 : decode b_K_join 57 = .ok (.new 64, 3) := dk_row (s := 57) da_K_join_57 0 (by decide +kernel)
theorem dc_K_join_60 : decode b_K_join 60 = .ok (.dup, 1) := dk_row (s := 57) da_K_join_57 3 (by decide +kernel)
theorem dc_K_join_61 : decode b_K_join 61 = .ok (.ldc 161, 2) := dk_row (s := 57) da_K_join_57 4 (by decide +kernel)
theorem dc_K_join_63 : decode b_K_join 63 = .ok (.invokespecial 68, 3) := dk_row (s := 57) da_K_join_57 6 (by decide +kernel)
theorem dc_K_join_66 : decode b_K_join 66 = .ok (.athrow, 1) := dk_row (s := 57) da_K_join_57 9 (by decide +kernel)
def dw_K_at_0 : ByteArray := .mk #[0x2a, 0xb4, 0x00, 0x24, 0x1b, 0xb6, 0x00, 0x51, 0x9a, 0x00, 0x0d, 0xbb, 0x00, 0x55, 0x59, 0x12, 0x57, 0xb7, 0x00, 0x59, 0xbf, 0x2a, 0xb4, 0x00, 0x24, 0xb4, 0x00, 0x5f, 0x1b, 0x32, 0x4e, 0x1c]
theorem da_K_at_0 : dkA b_K_at dw_K_at_0 0 := by unfold dkA; decide +kernel
theorem dc_K_at_0 : decode b_K_at 0 = .ok (.aload_n 0, 1) := dk_row (s := 0) da_K_at_0 0 (by decide +kernel)
theorem dc_K_at_1 : decode b_K_at 1 = .ok (.getfield 36, 3) := dk_row (s := 0) da_K_at_0 1 (by decide +kernel)
theorem dc_K_at_4 : decode b_K_at 4 = .ok (.iload_n 1, 1) := dk_row (s := 0) da_K_at_0 4 (by decide +kernel)
theorem dc_K_at_5 : decode b_K_at 5 = .ok (.invokevirtual 81, 3) := dk_row (s := 0) da_K_at_0 5 (by decide +kernel)
theorem dc_K_at_8 : decode b_K_at 8 = .ok (.ifCond .ne 13, 3) := dk_row (s := 0) da_K_at_0 8 (by decide +kernel)
theorem dc_K_at_21 : decode b_K_at 21 = .ok (.aload_n 0, 1) := dk_row (s := 0) da_K_at_0 21 (by decide +kernel)
theorem dc_K_at_22 : decode b_K_at 22 = .ok (.getfield 36, 3) := dk_row (s := 0) da_K_at_0 22 (by decide +kernel)
theorem dc_K_at_25 : decode b_K_at 25 = .ok (.getfield 95, 3) := dk_row (s := 0) da_K_at_0 25 (by decide +kernel)
theorem dc_K_at_28 : decode b_K_at 28 = .ok (.iload_n 1, 1) := dk_row (s := 0) da_K_at_0 28 (by decide +kernel)
theorem dc_K_at_29 : decode b_K_at 29 = .ok (.aaload, 1) := dk_row (s := 0) da_K_at_0 29 (by decide +kernel)
theorem dc_K_at_30 : decode b_K_at 30 = .ok (.astore_n 3, 1) := dk_row (s := 0) da_K_at_0 30 (by decide +kernel)
theorem dc_K_at_31 : decode b_K_at 31 = .ok (.iload_n 2, 1) := dk_row (s := 0) da_K_at_0 31 (by decide +kernel)
theorem dc_K_at_32 : decode b_K_at 32 = .ok (.tableswitch 88 0 7 #[48, 53, 58, 63, 68, 73, 78, 83], 48) := by decide +kernel
def dw_K_at_80 : ByteArray := .mk #[0x2d, 0xb4, 0x00, 0xb0, 0xac, 0x2d, 0xb4, 0x00, 0xb3, 0xac, 0x2d, 0xb4, 0x00, 0xb6, 0xac, 0x2d, 0xb4, 0x00, 0xb9, 0xac, 0x2d, 0xb4, 0x00, 0xbc, 0xac, 0x2d, 0xb4, 0x00, 0x63, 0xac, 0x2d]
theorem da_K_at_80 : dkA b_K_at dw_K_at_80 80 := by unfold dkA; decide +kernel
theorem dc_K_at_80 : decode b_K_at 80 = .ok (.aload_n 3, 1) := dk_row (s := 80) da_K_at_80 0 (by decide +kernel)
theorem dc_K_at_81 : decode b_K_at 81 = .ok (.getfield 176, 3) := dk_row (s := 80) da_K_at_80 1 (by decide +kernel)
theorem dc_K_at_84 : decode b_K_at 84 = .ok (.ireturn, 1) := dk_row (s := 80) da_K_at_80 4 (by decide +kernel)
theorem dc_K_at_85 : decode b_K_at 85 = .ok (.aload_n 3, 1) := dk_row (s := 80) da_K_at_80 5 (by decide +kernel)
theorem dc_K_at_86 : decode b_K_at 86 = .ok (.getfield 179, 3) := dk_row (s := 80) da_K_at_80 6 (by decide +kernel)
theorem dc_K_at_89 : decode b_K_at 89 = .ok (.ireturn, 1) := dk_row (s := 80) da_K_at_80 9 (by decide +kernel)
theorem dc_K_at_90 : decode b_K_at 90 = .ok (.aload_n 3, 1) := dk_row (s := 80) da_K_at_80 10 (by decide +kernel)
theorem dc_K_at_91 : decode b_K_at 91 = .ok (.getfield 182, 3) := dk_row (s := 80) da_K_at_80 11 (by decide +kernel)
theorem dc_K_at_94 : decode b_K_at 94 = .ok (.ireturn, 1) := dk_row (s := 80) da_K_at_80 14 (by decide +kernel)
theorem dc_K_at_95 : decode b_K_at 95 = .ok (.aload_n 3, 1) := dk_row (s := 80) da_K_at_80 15 (by decide +kernel)
theorem dc_K_at_96 : decode b_K_at 96 = .ok (.getfield 185, 3) := dk_row (s := 80) da_K_at_80 16 (by decide +kernel)
theorem dc_K_at_99 : decode b_K_at 99 = .ok (.ireturn, 1) := dk_row (s := 80) da_K_at_80 19 (by decide +kernel)
theorem dc_K_at_100 : decode b_K_at 100 = .ok (.aload_n 3, 1) := dk_row (s := 80) da_K_at_80 20 (by decide +kernel)
theorem dc_K_at_101 : decode b_K_at 101 = .ok (.getfield 188, 3) := dk_row (s := 80) da_K_at_80 21 (by decide +kernel)
theorem dc_K_at_104 : decode b_K_at 104 = .ok (.ireturn, 1) := dk_row (s := 80) da_K_at_80 24 (by decide +kernel)
theorem dc_K_at_105 : decode b_K_at 105 = .ok (.aload_n 3, 1) := dk_row (s := 80) da_K_at_80 25 (by decide +kernel)
theorem dc_K_at_106 : decode b_K_at 106 = .ok (.getfield 99, 3) := dk_row (s := 80) da_K_at_80 26 (by decide +kernel)
theorem dc_K_at_109 : decode b_K_at 109 = .ok (.ireturn, 1) := dk_row (s := 80) da_K_at_80 29 (by decide +kernel)
theorem dc_K_at_110 : decode b_K_at 110 = .ok (.aload_n 3, 1) := dk_row (s := 80) da_K_at_80 30 (by decide +kernel)
def dw_K_at_111 : ByteArray := .mk #[0xb6, 0x00, 0xbf, 0xac, 0x2d, 0xb6, 0x00, 0xc3, 0xac, 0x02, 0xac]
theorem da_K_at_111 : dkA b_K_at dw_K_at_111 111 := by unfold dkA; decide +kernel
theorem dc_K_at_111 : decode b_K_at 111 = .ok (.invokevirtual 191, 3) := dk_row (s := 111) da_K_at_111 0 (by decide +kernel)
theorem dc_K_at_114 : decode b_K_at 114 = .ok (.ireturn, 1) := dk_row (s := 111) da_K_at_111 3 (by decide +kernel)
theorem dc_K_at_115 : decode b_K_at 115 = .ok (.aload_n 3, 1) := dk_row (s := 111) da_K_at_111 4 (by decide +kernel)
theorem dc_K_at_116 : decode b_K_at 116 = .ok (.invokevirtual 195, 3) := dk_row (s := 111) da_K_at_111 5 (by decide +kernel)
theorem dc_K_at_119 : decode b_K_at 119 = .ok (.ireturn, 1) := dk_row (s := 111) da_K_at_111 8 (by decide +kernel)
theorem dc_K_at_120 : decode b_K_at 120 = .ok (.iconst (-1), 1) := dk_row (s := 111) da_K_at_111 9 (by decide +kernel)
theorem dc_K_at_121 : decode b_K_at 121 = .ok (.ireturn, 1) := dk_row (s := 111) da_K_at_111 10 (by decide +kernel)
def dw_K_at_11 : ByteArray := .mk #[0xbb, 0x00, 0x55, 0x59, 0x12, 0x57, 0xb7, 0x00, 0x59, 0xbf]
theorem da_K_at_11 : dkA b_K_at dw_K_at_11 11 := by unfold dkA; decide +kernel
theorem dc_K_at_11 : decode b_K_at 11 = .ok (.new 85, 3) := dk_row (s := 11) da_K_at_11 0 (by decide +kernel)
theorem dc_K_at_14 : decode b_K_at 14 = .ok (.dup, 1) := dk_row (s := 11) da_K_at_11 3 (by decide +kernel)
theorem dc_K_at_15 : decode b_K_at 15 = .ok (.ldc 87, 2) := dk_row (s := 11) da_K_at_11 4 (by decide +kernel)
theorem dc_K_at_17 : decode b_K_at 17 = .ok (.invokespecial 89, 3) := dk_row (s := 11) da_K_at_11 6 (by decide +kernel)
theorem dc_K_at_20 : decode b_K_at 20 = .ok (.athrow, 1) := dk_row (s := 11) da_K_at_11 9 (by decide +kernel)
theorem dc_K_byteAt_0 : decode b_K_byteAt 0 = .ok (.aload_n 0, 1) := by decide +kernel
theorem dc_K_byteAt_1 : decode b_K_byteAt 1 = .ok (.getfield 36, 3) := by decide +kernel
theorem dc_K_byteAt_4 : decode b_K_byteAt 4 = .ok (.iload_n 1, 1) := by decide +kernel
theorem dc_K_byteAt_5 : decode b_K_byteAt 5 = .ok (.invokevirtual 81, 3) := by decide +kernel
theorem dc_K_byteAt_8 : decode b_K_byteAt 8 = .ok (.ifCond .ne 13, 3) := by decide +kernel
theorem dc_K_byteAt_21 : decode b_K_byteAt 21 = .ok (.aload_n 0, 1) := by decide +kernel
theorem dc_K_byteAt_22 : decode b_K_byteAt 22 = .ok (.getfield 36, 3) := by decide +kernel
theorem dc_K_byteAt_25 : decode b_K_byteAt 25 = .ok (.getfield 95, 3) := by decide +kernel
theorem dc_K_byteAt_28 : decode b_K_byteAt 28 = .ok (.iload_n 1, 1) := by decide +kernel
theorem dc_K_byteAt_29 : decode b_K_byteAt 29 = .ok (.aaload, 1) := by decide +kernel
theorem dc_K_byteAt_30 : decode b_K_byteAt 30 = .ok (.astore_n 3, 1) := by decide +kernel
theorem dc_K_byteAt_31 : decode b_K_byteAt 31 = .ok (.iload_n 2, 1) := by decide +kernel
theorem dc_K_byteAt_32 : decode b_K_byteAt 32 = .ok (.ifCond .lt 11, 3) := by decide +kernel
theorem dc_K_byteAt_35 : decode b_K_byteAt 35 = .ok (.iload_n 2, 1) := by decide +kernel
theorem dc_K_byteAt_36 : decode b_K_byteAt 36 = .ok (.aload_n 3, 1) := by decide +kernel
theorem dc_K_byteAt_37 : decode b_K_byteAt 37 = .ok (.getfield 99, 3) := by decide +kernel
theorem dc_K_byteAt_40 : decode b_K_byteAt 40 = .ok (.if_icmp .lt 13, 3) := by decide +kernel
theorem dc_K_byteAt_53 : decode b_K_byteAt 53 = .ok (.aload_n 3, 1) := by decide +kernel
theorem dc_K_byteAt_54 : decode b_K_byteAt 54 = .ok (.getfield 200, 3) := by decide +kernel
theorem dc_K_byteAt_57 : decode b_K_byteAt 57 = .ok (.iload_n 2, 1) := by decide +kernel
theorem dc_K_byteAt_58 : decode b_K_byteAt 58 = .ok (.iaload, 1) := by decide +kernel
theorem dc_K_byteAt_59 : decode b_K_byteAt 59 = .ok (.ireturn, 1) := by decide +kernel
theorem dc_K_byteAt_11 : decode b_K_byteAt 11 = .ok (.new 85, 3) := by decide +kernel
theorem dc_K_byteAt_14 : decode b_K_byteAt 14 = .ok (.dup, 1) := by decide +kernel
theorem dc_K_byteAt_15 : decode b_K_byteAt 15 = .ok (.ldc 87, 2) := by decide +kernel
theorem dc_K_byteAt_17 : decode b_K_byteAt 17 = .ok (.invokespecial 89, 3) := by decide +kernel
theorem dc_K_byteAt_20 : decode b_K_byteAt 20 = .ok (.athrow, 1) := by decide +kernel
theorem dc_K_byteAt_43 : decode b_K_byteAt 43 = .ok (.new 85, 3) := by decide +kernel
theorem dc_K_byteAt_46 : decode b_K_byteAt 46 = .ok (.dup, 1) := by decide +kernel
theorem dc_K_byteAt_47 : decode b_K_byteAt 47 = .ok (.ldc 198, 2) := by decide +kernel
theorem dc_K_byteAt_49 : decode b_K_byteAt 49 = .ok (.invokespecial 89, 3) := by decide +kernel
theorem dc_K_byteAt_52 : decode b_K_byteAt 52 = .ok (.athrow, 1) := by decide +kernel
theorem dc_K_shown_0 : decode b_K_shown 0 = .ok (.aload_n 0, 1) := by decide +kernel
theorem dc_K_shown_1 : decode b_K_shown 1 = .ok (.getfield 36, 3) := by decide +kernel
theorem dc_K_shown_4 : decode b_K_shown 4 = .ok (.iload_n 1, 1) := by decide +kernel
theorem dc_K_shown_5 : decode b_K_shown 5 = .ok (.iload_n 2, 1) := by decide +kernel
theorem dc_K_shown_6 : decode b_K_shown 6 = .ok (.invokevirtual 109, 3) := by decide +kernel
theorem dc_K_shown_9 : decode b_K_shown 9 = .ok (.ifCond .ne 13, 3) := by decide +kernel
theorem dc_K_shown_22 : decode b_K_shown 22 = .ok (.aload_n 0, 1) := by decide +kernel
theorem dc_K_shown_23 : decode b_K_shown 23 = .ok (.getfield 36, 3) := by decide +kernel
theorem dc_K_shown_26 : decode b_K_shown 26 = .ok (.iload_n 1, 1) := by decide +kernel
theorem dc_K_shown_27 : decode b_K_shown 27 = .ok (.iload_n 2, 1) := by decide +kernel
theorem dc_K_shown_28 : decode b_K_shown 28 = .ok (.invokevirtual 203, 3) := by decide +kernel
theorem dc_K_shown_31 : decode b_K_shown 31 = .ok (.istore_n 3, 1) := by decide +kernel
theorem dc_K_shown_32 : decode b_K_shown 32 = .ok (.iload_n 3, 1) := by decide +kernel
theorem dc_K_shown_33 : decode b_K_shown 33 = .ok (.iconst (-1), 1) := by decide +kernel
theorem dc_K_shown_34 : decode b_K_shown 34 = .ok (.if_icmp .ne 5, 3) := by decide +kernel
theorem dc_K_shown_39 : decode b_K_shown 39 = .ok (.sipush 4096, 3) := by decide +kernel
theorem dc_K_shown_42 : decode b_K_shown 42 = .ok (.iload_n 3, 1) := by decide +kernel
theorem dc_K_shown_43 : decode b_K_shown 43 = .ok (.imul, 1) := by decide +kernel
theorem dc_K_shown_44 : decode b_K_shown 44 = .ok (.aload_n 0, 1) := by decide +kernel
theorem dc_K_shown_45 : decode b_K_shown 45 = .ok (.getfield 36, 3) := by decide +kernel
theorem dc_K_shown_48 : decode b_K_shown 48 = .ok (.getfield 95, 3) := by decide +kernel
theorem dc_K_shown_51 : decode b_K_shown 51 = .ok (.iload_n 3, 1) := by decide +kernel
theorem dc_K_shown_52 : decode b_K_shown 52 = .ok (.aaload, 1) := by decide +kernel
theorem dc_K_shown_53 : decode b_K_shown 53 = .ok (.iload_n 1, 1) := by decide +kernel
theorem dc_K_shown_54 : decode b_K_shown 54 = .ok (.iload_n 2, 1) := by decide +kernel
theorem dc_K_shown_55 : decode b_K_shown 55 = .ok (.invokevirtual 206, 3) := by decide +kernel
theorem dc_K_shown_58 : decode b_K_shown 58 = .ok (.iadd, 1) := by decide +kernel
theorem dc_K_shown_59 : decode b_K_shown 59 = .ok (.ireturn, 1) := by decide +kernel
theorem dc_K_shown_37 : decode b_K_shown 37 = .ok (.iconst (-1), 1) := by decide +kernel
theorem dc_K_shown_38 : decode b_K_shown 38 = .ok (.ireturn, 1) := by decide +kernel
theorem dc_K_shown_12 : decode b_K_shown 12 = .ok (.new 85, 3) := by decide +kernel
theorem dc_K_shown_15 : decode b_K_shown 15 = .ok (.dup, 1) := by decide +kernel
theorem dc_K_shown_16 : decode b_K_shown 16 = .ok (.ldc 113, 2) := by decide +kernel
theorem dc_K_shown_18 : decode b_K_shown 18 = .ok (.invokespecial 89, 3) := by decide +kernel
theorem dc_K_shown_21 : decode b_K_shown 21 = .ok (.athrow, 1) := by decide +kernel
theorem dc_K_noteAt_0 : decode b_K_noteAt 0 = .ok (.iload_n 1, 1) := by decide +kernel
theorem dc_K_noteAt_1 : decode b_K_noteAt 1 = .ok (.ifCond .lt 14, 3) := by decide +kernel
theorem dc_K_noteAt_4 : decode b_K_noteAt 4 = .ok (.iload_n 1, 1) := by decide +kernel
theorem dc_K_noteAt_5 : decode b_K_noteAt 5 = .ok (.aload_n 0, 1) := by decide +kernel
theorem dc_K_noteAt_6 : decode b_K_noteAt 6 = .ok (.getfield 36, 3) := by decide +kernel
theorem dc_K_noteAt_9 : decode b_K_noteAt 9 = .ok (.getfield 115, 3) := by decide +kernel
theorem dc_K_noteAt_12 : decode b_K_noteAt 12 = .ok (.if_icmp .lt 13, 3) := by decide +kernel
theorem dc_K_noteAt_25 : decode b_K_noteAt 25 = .ok (.aload_n 0, 1) := by decide +kernel
theorem dc_K_noteAt_26 : decode b_K_noteAt 26 = .ok (.getfield 36, 3) := by decide +kernel
theorem dc_K_noteAt_29 : decode b_K_noteAt 29 = .ok (.getfield 211, 3) := by decide +kernel
theorem dc_K_noteAt_32 : decode b_K_noteAt 32 = .ok (.iload_n 1, 1) := by decide +kernel
theorem dc_K_noteAt_33 : decode b_K_noteAt 33 = .ok (.aaload, 1) := by decide +kernel
theorem dc_K_noteAt_34 : decode b_K_noteAt 34 = .ok (.astore_n 3, 1) := by decide +kernel
theorem dc_K_noteAt_35 : decode b_K_noteAt 35 = .ok (.iload_n 2, 1) := by decide +kernel
theorem dc_K_noteAt_36 : decode b_K_noteAt 36 = .ok (.tableswitch 43 0 2 #[28, 33, 38], 28) := by decide +kernel
theorem dc_K_noteAt_64 : decode b_K_noteAt 64 = .ok (.aload_n 3, 1) := by decide +kernel
theorem dc_K_noteAt_65 : decode b_K_noteAt 65 = .ok (.getfield 215, 3) := by decide +kernel
theorem dc_K_noteAt_68 : decode b_K_noteAt 68 = .ok (.ireturn, 1) := by decide +kernel
theorem dc_K_noteAt_69 : decode b_K_noteAt 69 = .ok (.aload_n 3, 1) := by decide +kernel
theorem dc_K_noteAt_70 : decode b_K_noteAt 70 = .ok (.getfield 218, 3) := by decide +kernel
theorem dc_K_noteAt_73 : decode b_K_noteAt 73 = .ok (.ireturn, 1) := by decide +kernel
theorem dc_K_noteAt_74 : decode b_K_noteAt 74 = .ok (.aload_n 3, 1) := by decide +kernel
theorem dc_K_noteAt_75 : decode b_K_noteAt 75 = .ok (.getfield 219, 3) := by decide +kernel
theorem dc_K_noteAt_78 : decode b_K_noteAt 78 = .ok (.ireturn, 1) := by decide +kernel
theorem dc_K_noteAt_79 : decode b_K_noteAt 79 = .ok (.iconst (-1), 1) := by decide +kernel
theorem dc_K_noteAt_80 : decode b_K_noteAt 80 = .ok (.ireturn, 1) := by decide +kernel
theorem dc_K_noteAt_15 : decode b_K_noteAt 15 = .ok (.new 85, 3) := by decide +kernel
theorem dc_K_noteAt_18 : decode b_K_noteAt 18 = .ok (.dup, 1) := by decide +kernel
theorem dc_K_noteAt_19 : decode b_K_noteAt 19 = .ok (.ldc 209, 2) := by decide +kernel
theorem dc_K_noteAt_21 : decode b_K_noteAt 21 = .ok (.invokespecial 89, 3) := by decide +kernel
theorem dc_K_noteAt_24 : decode b_K_noteAt 24 = .ok (.athrow, 1) := by decide +kernel
theorem dc_K_streamAt_0 : decode b_K_streamAt 0 = .ok (.iload_n 1, 1) := by decide +kernel
theorem dc_K_streamAt_1 : decode b_K_streamAt 1 = .ok (.ifCond .lt 14, 3) := by decide +kernel
theorem dc_K_streamAt_4 : decode b_K_streamAt 4 = .ok (.iload_n 1, 1) := by decide +kernel
theorem dc_K_streamAt_5 : decode b_K_streamAt 5 = .ok (.aload_n 0, 1) := by decide +kernel
theorem dc_K_streamAt_6 : decode b_K_streamAt 6 = .ok (.getfield 23, 3) := by decide +kernel
theorem dc_K_streamAt_9 : decode b_K_streamAt 9 = .ok (.getfield 239, 3) := by decide +kernel
theorem dc_K_streamAt_12 : decode b_K_streamAt 12 = .ok (.if_icmp .lt 13, 3) := by decide +kernel
theorem dc_K_streamAt_25 : decode b_K_streamAt 25 = .ok (.aload_n 0, 1) := by decide +kernel
theorem dc_K_streamAt_26 : decode b_K_streamAt 26 = .ok (.getfield 23, 3) := by decide +kernel
theorem dc_K_streamAt_29 : decode b_K_streamAt 29 = .ok (.getfield 242, 3) := by decide +kernel
theorem dc_K_streamAt_32 : decode b_K_streamAt 32 = .ok (.iload_n 1, 1) := by decide +kernel
theorem dc_K_streamAt_33 : decode b_K_streamAt 33 = .ok (.iaload, 1) := by decide +kernel
theorem dc_K_streamAt_34 : decode b_K_streamAt 34 = .ok (.ireturn, 1) := by decide +kernel
theorem dc_K_streamAt_15 : decode b_K_streamAt 15 = .ok (.new 85, 3) := by decide +kernel
theorem dc_K_streamAt_18 : decode b_K_streamAt 18 = .ok (.dup, 1) := by decide +kernel
theorem dc_K_streamAt_19 : decode b_K_streamAt 19 = .ok (.ldc 198, 2) := by decide +kernel
theorem dc_K_streamAt_21 : decode b_K_streamAt 21 = .ok (.invokespecial 89, 3) := by decide +kernel
theorem dc_K_streamAt_24 : decode b_K_streamAt 24 = .ok (.athrow, 1) := by decide +kernel
theorem dc_K_pointer_0 : decode b_K_pointer 0 = .ok (.aload_n 0, 1) := by decide +kernel
theorem dc_K_pointer_1 : decode b_K_pointer 1 = .ok (.getfield 36, 3) := by decide +kernel
theorem dc_K_pointer_4 : decode b_K_pointer 4 = .ok (.iload_n 1, 1) := by decide +kernel
theorem dc_K_pointer_5 : decode b_K_pointer 5 = .ok (.invokevirtual 81, 3) := by decide +kernel
theorem dc_K_pointer_8 : decode b_K_pointer 8 = .ok (.ifCond .ne 13, 3) := by decide +kernel
theorem dc_K_pointer_21 : decode b_K_pointer 21 = .ok (.aload_n 0, 1) := by decide +kernel
theorem dc_K_pointer_22 : decode b_K_pointer 22 = .ok (.getfield 36, 3) := by decide +kernel
theorem dc_K_pointer_25 : decode b_K_pointer 25 = .ok (.aload_n 0, 1) := by decide +kernel
theorem dc_K_pointer_26 : decode b_K_pointer 26 = .ok (.getfield 36, 3) := by decide +kernel
theorem dc_K_pointer_29 : decode b_K_pointer 29 = .ok (.getfield 95, 3) := by decide +kernel
theorem dc_K_pointer_32 : decode b_K_pointer 32 = .ok (.iload_n 1, 1) := by decide +kernel
theorem dc_K_pointer_33 : decode b_K_pointer 33 = .ok (.aaload, 1) := by decide +kernel
theorem dc_K_pointer_34 : decode b_K_pointer 34 = .ok (.invokevirtual 229, 3) := by decide +kernel
theorem dc_K_pointer_37 : decode b_K_pointer 37 = .ok (.ireturn, 1) := by decide +kernel
theorem dc_K_pointer_11 : decode b_K_pointer 11 = .ok (.new 85, 3) := by decide +kernel
theorem dc_K_pointer_14 : decode b_K_pointer 14 = .ok (.dup, 1) := by decide +kernel
theorem dc_K_pointer_15 : decode b_K_pointer 15 = .ok (.ldc 87, 2) := by decide +kernel
theorem dc_K_pointer_17 : decode b_K_pointer 17 = .ok (.invokespecial 89, 3) := by decide +kernel
theorem dc_K_pointer_20 : decode b_K_pointer 20 = .ok (.athrow, 1) := by decide +kernel
theorem dc_N_startAnew_0 : decode b_N_startAnew 0 = .ok (.aload_n 0, 1) := by decide +kernel
theorem dc_N_startAnew_1 : decode b_N_startAnew 1 = .ok (.iload_n 1, 1) := by decide +kernel
theorem dc_N_startAnew_2 : decode b_N_startAnew 2 = .ok (.putfield 7, 3) := by decide +kernel
theorem dc_N_startAnew_5 : decode b_N_startAnew 5 = .ok (.aload_n 0, 1) := by decide +kernel
theorem dc_N_startAnew_6 : decode b_N_startAnew 6 = .ok (.iload_n 2, 1) := by decide +kernel
theorem dc_N_startAnew_7 : decode b_N_startAnew 7 = .ok (.putfield 13, 3) := by decide +kernel
theorem dc_N_startAnew_10 : decode b_N_startAnew 10 = .ok (.aload_n 0, 1) := by decide +kernel
theorem dc_N_startAnew_11 : decode b_N_startAnew 11 = .ok (.iload_n 3, 1) := by decide +kernel
theorem dc_N_startAnew_12 : decode b_N_startAnew 12 = .ok (.putfield 16, 3) := by decide +kernel
theorem dc_N_startAnew_15 : decode b_N_startAnew 15 = .ok (.return_, 1) := by decide +kernel
theorem dc_N_isWithin_0 : decode b_N_isWithin 0 = .ok (.aload_n 0, 1) := by decide +kernel
theorem dc_N_isWithin_1 : decode b_N_isWithin 1 = .ok (.getfield 7, 3) := by decide +kernel
theorem dc_N_isWithin_4 : decode b_N_isWithin 4 = .ok (.iload_n 1, 1) := by decide +kernel
theorem dc_N_isWithin_5 : decode b_N_isWithin 5 = .ok (.if_icmp .lt 32, 3) := by decide +kernel
theorem dc_N_isWithin_37 : decode b_N_isWithin 37 = .ok (.iconst 0, 1) := by decide +kernel
theorem dc_N_isWithin_38 : decode b_N_isWithin 38 = .ok (.ireturn, 1) := by decide +kernel
theorem dc_N_isWithin_8 : decode b_N_isWithin 8 = .ok (.aload_n 0, 1) := by decide +kernel
theorem dc_N_isWithin_9 : decode b_N_isWithin 9 = .ok (.getfield 13, 3) := by decide +kernel
theorem dc_N_isWithin_12 : decode b_N_isWithin 12 = .ok (.iload_n 2, 1) := by decide +kernel
theorem dc_N_isWithin_13 : decode b_N_isWithin 13 = .ok (.if_icmp .lt 24, 3) := by decide +kernel
theorem dc_N_isWithin_16 : decode b_N_isWithin 16 = .ok (.aload_n 0, 1) := by decide +kernel
theorem dc_N_isWithin_17 : decode b_N_isWithin 17 = .ok (.getfield 7, 3) := by decide +kernel
theorem dc_N_isWithin_20 : decode b_N_isWithin 20 = .ok (.iload_n 3, 1) := by decide +kernel
theorem dc_N_isWithin_21 : decode b_N_isWithin 21 = .ok (.if_icmp .ge 16, 3) := by decide +kernel
theorem dc_N_isWithin_24 : decode b_N_isWithin 24 = .ok (.aload_n 0, 1) := by decide +kernel
theorem dc_N_isWithin_25 : decode b_N_isWithin 25 = .ok (.getfield 13, 3) := by decide +kernel
theorem dc_N_isWithin_28 : decode b_N_isWithin 28 = .ok (.iload 4, 2) := by decide +kernel
theorem dc_N_isWithin_30 : decode b_N_isWithin 30 = .ok (.if_icmp .ge 7, 3) := by decide +kernel
theorem dc_N_isWithin_33 : decode b_N_isWithin 33 = .ok (.iconst 1, 1) := by decide +kernel
theorem dc_N_isWithin_34 : decode b_N_isWithin 34 = .ok (.goto 4, 3) := by decide +kernel
theorem dc_N_moveBy_0 : decode b_N_moveBy 0 = .ok (.aload_n 0, 1) := by decide +kernel
theorem dc_N_moveBy_1 : decode b_N_moveBy 1 = .ok (.dup, 1) := by decide +kernel
theorem dc_N_moveBy_2 : decode b_N_moveBy 2 = .ok (.getfield 7, 3) := by decide +kernel
theorem dc_N_moveBy_5 : decode b_N_moveBy 5 = .ok (.iload_n 1, 1) := by decide +kernel
theorem dc_N_moveBy_6 : decode b_N_moveBy 6 = .ok (.iadd, 1) := by decide +kernel
theorem dc_N_moveBy_7 : decode b_N_moveBy 7 = .ok (.putfield 7, 3) := by decide +kernel
theorem dc_N_moveBy_10 : decode b_N_moveBy 10 = .ok (.aload_n 0, 1) := by decide +kernel
theorem dc_N_moveBy_11 : decode b_N_moveBy 11 = .ok (.dup, 1) := by decide +kernel
theorem dc_N_moveBy_12 : decode b_N_moveBy 12 = .ok (.getfield 13, 3) := by decide +kernel
theorem dc_N_moveBy_15 : decode b_N_moveBy 15 = .ok (.iload_n 2, 1) := by decide +kernel
theorem dc_N_moveBy_16 : decode b_N_moveBy 16 = .ok (.iadd, 1) := by decide +kernel
theorem dc_N_moveBy_17 : decode b_N_moveBy 17 = .ok (.putfield 13, 3) := by decide +kernel
theorem dc_N_moveBy_20 : decode b_N_moveBy 20 = .ok (.return_, 1) := by decide +kernel
theorem dc_N_mirrorIn_0 : decode b_N_mirrorIn 0 = .ok (.aload_n 0, 1) := by decide +kernel
theorem dc_N_mirrorIn_1 : decode b_N_mirrorIn 1 = .ok (.iload_n 1, 1) := by decide +kernel
theorem dc_N_mirrorIn_2 : decode b_N_mirrorIn 2 = .ok (.iconst 1, 1) := by decide +kernel
theorem dc_N_mirrorIn_3 : decode b_N_mirrorIn 3 = .ok (.isub, 1) := by decide +kernel
theorem dc_N_mirrorIn_4 : decode b_N_mirrorIn 4 = .ok (.aload_n 0, 1) := by decide +kernel
theorem dc_N_mirrorIn_5 : decode b_N_mirrorIn 5 = .ok (.getfield 7, 3) := by decide +kernel
theorem dc_N_mirrorIn_8 : decode b_N_mirrorIn 8 = .ok (.isub, 1) := by decide +kernel
theorem dc_N_mirrorIn_9 : decode b_N_mirrorIn 9 = .ok (.putfield 7, 3) := by decide +kernel
theorem dc_N_mirrorIn_12 : decode b_N_mirrorIn 12 = .ok (.return_, 1) := by decide +kernel
theorem dc_N_quarterIn_0 : decode b_N_quarterIn 0 = .ok (.iload_n 1, 1) := by decide +kernel
theorem dc_N_quarterIn_1 : decode b_N_quarterIn 1 = .ok (.iconst 1, 1) := by decide +kernel
theorem dc_N_quarterIn_2 : decode b_N_quarterIn 2 = .ok (.isub, 1) := by decide +kernel
theorem dc_N_quarterIn_3 : decode b_N_quarterIn 3 = .ok (.aload_n 0, 1) := by decide +kernel
theorem dc_N_quarterIn_4 : decode b_N_quarterIn 4 = .ok (.getfield 13, 3) := by decide +kernel
theorem dc_N_quarterIn_7 : decode b_N_quarterIn 7 = .ok (.isub, 1) := by decide +kernel
theorem dc_N_quarterIn_8 : decode b_N_quarterIn 8 = .ok (.istore_n 2, 1) := by decide +kernel
theorem dc_N_quarterIn_9 : decode b_N_quarterIn 9 = .ok (.aload_n 0, 1) := by decide +kernel
theorem dc_N_quarterIn_10 : decode b_N_quarterIn 10 = .ok (.aload_n 0, 1) := by decide +kernel
theorem dc_N_quarterIn_11 : decode b_N_quarterIn 11 = .ok (.getfield 7, 3) := by decide +kernel
theorem dc_N_quarterIn_14 : decode b_N_quarterIn 14 = .ok (.putfield 13, 3) := by decide +kernel
theorem dc_N_quarterIn_17 : decode b_N_quarterIn 17 = .ok (.aload_n 0, 1) := by decide +kernel
theorem dc_N_quarterIn_18 : decode b_N_quarterIn 18 = .ok (.iload_n 2, 1) := by decide +kernel
theorem dc_N_quarterIn_19 : decode b_N_quarterIn 19 = .ok (.putfield 7, 3) := by decide +kernel
theorem dc_N_quarterIn_22 : decode b_N_quarterIn 22 = .ok (.return_, 1) := by decide +kernel
theorem dc_P_startAnew_0 : decode b_P_startAnew 0 = .ok (.aload_n 0, 1) := by decide +kernel
theorem dc_P_startAnew_1 : decode b_P_startAnew 1 = .ok (.iload_n 1, 1) := by decide +kernel
theorem dc_P_startAnew_2 : decode b_P_startAnew 2 = .ok (.putfield 25, 3) := by decide +kernel
theorem dc_P_startAnew_5 : decode b_P_startAnew 5 = .ok (.aload_n 0, 1) := by decide +kernel
theorem dc_P_startAnew_6 : decode b_P_startAnew 6 = .ok (.iload_n 2, 1) := by decide +kernel
theorem dc_P_startAnew_7 : decode b_P_startAnew 7 = .ok (.putfield 29, 3) := by decide +kernel
theorem dc_P_startAnew_10 : decode b_P_startAnew 10 = .ok (.aload_n 0, 1) := by decide +kernel
theorem dc_P_startAnew_11 : decode b_P_startAnew 11 = .ok (.iconst 0, 1) := by decide +kernel
theorem dc_P_startAnew_12 : decode b_P_startAnew 12 = .ok (.putfield 32, 3) := by decide +kernel
theorem dc_P_startAnew_15 : decode b_P_startAnew 15 = .ok (.aload_n 0, 1) := by decide +kernel
theorem dc_P_startAnew_16 : decode b_P_startAnew 16 = .ok (.iconst 0, 1) := by decide +kernel
theorem dc_P_startAnew_17 : decode b_P_startAnew 17 = .ok (.putfield 35, 3) := by decide +kernel
theorem dc_P_startAnew_20 : decode b_P_startAnew 20 = .ok (.return_, 1) := by decide +kernel
theorem dc_P_hasTile_0 : decode b_P_hasTile 0 = .ok (.iload_n 1, 1) := by decide +kernel
theorem dc_P_hasTile_1 : decode b_P_hasTile 1 = .ok (.ifCond .lt 15, 3) := by decide +kernel
theorem dc_P_hasTile_16 : decode b_P_hasTile 16 = .ok (.iconst 0, 1) := by decide +kernel
theorem dc_P_hasTile_17 : decode b_P_hasTile 17 = .ok (.ireturn, 1) := by decide +kernel
theorem dc_P_hasTile_4 : decode b_P_hasTile 4 = .ok (.iload_n 1, 1) := by decide +kernel
theorem dc_P_hasTile_5 : decode b_P_hasTile 5 = .ok (.aload_n 0, 1) := by decide +kernel
theorem dc_P_hasTile_6 : decode b_P_hasTile 6 = .ok (.getfield 32, 3) := by decide +kernel
theorem dc_P_hasTile_9 : decode b_P_hasTile 9 = .ok (.if_icmp .ge 7, 3) := by decide +kernel
theorem dc_P_hasTile_12 : decode b_P_hasTile 12 = .ok (.iconst 1, 1) := by decide +kernel
theorem dc_P_hasTile_13 : decode b_P_hasTile 13 = .ok (.goto 4, 3) := by decide +kernel
theorem dc_P_hasSample_0 : decode b_P_hasSample 0 = .ok (.iload_n 1, 1) := by decide +kernel
theorem dc_P_hasSample_1 : decode b_P_hasSample 1 = .ok (.ifCond .lt 27, 3) := by decide +kernel
theorem dc_P_hasSample_28 : decode b_P_hasSample 28 = .ok (.iconst 0, 1) := by decide +kernel
theorem dc_P_hasSample_29 : decode b_P_hasSample 29 = .ok (.ireturn, 1) := by decide +kernel
theorem dc_P_hasSample_4 : decode b_P_hasSample 4 = .ok (.iload_n 2, 1) := by decide +kernel
theorem dc_P_hasSample_5 : decode b_P_hasSample 5 = .ok (.ifCond .lt 23, 3) := by decide +kernel
theorem dc_P_hasSample_8 : decode b_P_hasSample 8 = .ok (.iload_n 1, 1) := by decide +kernel
theorem dc_P_hasSample_9 : decode b_P_hasSample 9 = .ok (.aload_n 0, 1) := by decide +kernel
theorem dc_P_hasSample_10 : decode b_P_hasSample 10 = .ok (.getfield 25, 3) := by decide +kernel
theorem dc_P_hasSample_13 : decode b_P_hasSample 13 = .ok (.if_icmp .ge 15, 3) := by decide +kernel
theorem dc_P_hasSample_16 : decode b_P_hasSample 16 = .ok (.iload_n 2, 1) := by decide +kernel
theorem dc_P_hasSample_17 : decode b_P_hasSample 17 = .ok (.aload_n 0, 1) := by decide +kernel
theorem dc_P_hasSample_18 : decode b_P_hasSample 18 = .ok (.getfield 29, 3) := by decide +kernel
theorem dc_P_hasSample_21 : decode b_P_hasSample 21 = .ok (.if_icmp .ge 7, 3) := by decide +kernel
theorem dc_P_hasSample_24 : decode b_P_hasSample 24 = .ok (.iconst 1, 1) := by decide +kernel
theorem dc_P_hasSample_25 : decode b_P_hasSample 25 = .ok (.goto 4, 3) := by decide +kernel
theorem dc_P_holdsRectangle_0 : decode b_P_holdsRectangle 0 = .ok (.iload_n 3, 1) := by decide +kernel
theorem dc_P_holdsRectangle_1 : decode b_P_holdsRectangle 1 = .ok (.iconst 1, 1) := by decide +kernel
theorem dc_P_holdsRectangle_2 : decode b_P_holdsRectangle 2 = .ok (.if_icmp .lt 42, 3) := by decide +kernel
theorem dc_P_holdsRectangle_44 : decode b_P_holdsRectangle 44 = .ok (.iconst 0, 1) := by decide +kernel
theorem dc_P_holdsRectangle_45 : decode b_P_holdsRectangle 45 = .ok (.ireturn, 1) := by decide +kernel
theorem dc_P_holdsRectangle_5 : decode b_P_holdsRectangle 5 = .ok (.iload 4, 2) := by decide +kernel
theorem dc_P_holdsRectangle_7 : decode b_P_holdsRectangle 7 = .ok (.iconst 1, 1) := by decide +kernel
theorem dc_P_holdsRectangle_8 : decode b_P_holdsRectangle 8 = .ok (.if_icmp .lt 36, 3) := by decide +kernel
theorem dc_P_holdsRectangle_11 : decode b_P_holdsRectangle 11 = .ok (.iload_n 1, 1) := by decide +kernel
theorem dc_P_holdsRectangle_12 : decode b_P_holdsRectangle 12 = .ok (.ifCond .lt 32, 3) := by decide +kernel
theorem dc_P_holdsRectangle_15 : decode b_P_holdsRectangle 15 = .ok (.iload_n 2, 1) := by decide +kernel
theorem dc_P_holdsRectangle_16 : decode b_P_holdsRectangle 16 = .ok (.ifCond .lt 28, 3) := by decide +kernel
theorem dc_P_holdsRectangle_19 : decode b_P_holdsRectangle 19 = .ok (.iload_n 1, 1) := by decide +kernel
theorem dc_P_holdsRectangle_20 : decode b_P_holdsRectangle 20 = .ok (.aload_n 0, 1) := by decide +kernel
theorem dc_P_holdsRectangle_21 : decode b_P_holdsRectangle 21 = .ok (.getfield 25, 3) := by decide +kernel
theorem dc_P_holdsRectangle_24 : decode b_P_holdsRectangle 24 = .ok (.iload_n 3, 1) := by decide +kernel
theorem dc_P_holdsRectangle_25 : decode b_P_holdsRectangle 25 = .ok (.isub, 1) := by decide +kernel
theorem dc_P_holdsRectangle_26 : decode b_P_holdsRectangle 26 = .ok (.if_icmp .gt 18, 3) := by decide +kernel
theorem dc_P_holdsRectangle_29 : decode b_P_holdsRectangle 29 = .ok (.iload_n 2, 1) := by decide +kernel
theorem dc_P_holdsRectangle_30 : decode b_P_holdsRectangle 30 = .ok (.aload_n 0, 1) := by decide +kernel
theorem dc_P_holdsRectangle_31 : decode b_P_holdsRectangle 31 = .ok (.getfield 29, 3) := by decide +kernel
theorem dc_P_holdsRectangle_34 : decode b_P_holdsRectangle 34 = .ok (.iload 4, 2) := by decide +kernel
theorem dc_P_holdsRectangle_36 : decode b_P_holdsRectangle 36 = .ok (.isub, 1) := by decide +kernel
theorem dc_P_holdsRectangle_37 : decode b_P_holdsRectangle 37 = .ok (.if_icmp .gt 7, 3) := by decide +kernel
theorem dc_P_holdsRectangle_40 : decode b_P_holdsRectangle 40 = .ok (.iconst 1, 1) := by decide +kernel
theorem dc_P_holdsRectangle_41 : decode b_P_holdsRectangle 41 = .ok (.goto 4, 3) := by decide +kernel
theorem dc_P_sizeAlong_0 : decode b_P_sizeAlong 0 = .ok (.iload_n 1, 1) := by decide +kernel
theorem dc_P_sizeAlong_1 : decode b_P_sizeAlong 1 = .ok (.ifCond .eq 10, 3) := by decide +kernel
theorem dc_P_sizeAlong_11 : decode b_P_sizeAlong 11 = .ok (.aload_n 0, 1) := by decide +kernel
theorem dc_P_sizeAlong_12 : decode b_P_sizeAlong 12 = .ok (.getfield 29, 3) := by decide +kernel
theorem dc_P_sizeAlong_15 : decode b_P_sizeAlong 15 = .ok (.ireturn, 1) := by decide +kernel
theorem dc_P_sizeAlong_4 : decode b_P_sizeAlong 4 = .ok (.aload_n 0, 1) := by decide +kernel
theorem dc_P_sizeAlong_5 : decode b_P_sizeAlong 5 = .ok (.getfield 25, 3) := by decide +kernel
theorem dc_P_sizeAlong_8 : decode b_P_sizeAlong 8 = .ok (.goto 7, 3) := by decide +kernel
theorem dc_P_growAlong_0 : decode b_P_growAlong 0 = .ok (.aload_n 0, 1) := by decide +kernel
theorem dc_P_growAlong_1 : decode b_P_growAlong 1 = .ok (.dup, 1) := by decide +kernel
theorem dc_P_growAlong_2 : decode b_P_growAlong 2 = .ok (.getfield 25, 3) := by decide +kernel
theorem dc_P_growAlong_5 : decode b_P_growAlong 5 = .ok (.iload_n 1, 1) := by decide +kernel
theorem dc_P_growAlong_6 : decode b_P_growAlong 6 = .ok (.ifCond .eq 7, 3) := by decide +kernel
theorem dc_P_growAlong_13 : decode b_P_growAlong 13 = .ok (.iconst 0, 1) := by decide +kernel
theorem dc_P_growAlong_9 : decode b_P_growAlong 9 = .ok (.iload_n 2, 1) := by decide +kernel
theorem dc_P_growAlong_10 : decode b_P_growAlong 10 = .ok (.goto 4, 3) := by decide +kernel
theorem dc_P_growAlong_14 : decode b_P_growAlong 14 = .ok (.iadd, 1) := by decide +kernel
theorem dc_P_growAlong_15 : decode b_P_growAlong 15 = .ok (.putfield 25, 3) := by decide +kernel
theorem dc_P_growAlong_18 : decode b_P_growAlong 18 = .ok (.aload_n 0, 1) := by decide +kernel
theorem dc_P_growAlong_19 : decode b_P_growAlong 19 = .ok (.dup, 1) := by decide +kernel
theorem dc_P_growAlong_20 : decode b_P_growAlong 20 = .ok (.getfield 29, 3) := by decide +kernel
theorem dc_P_growAlong_23 : decode b_P_growAlong 23 = .ok (.iload_n 1, 1) := by decide +kernel
theorem dc_P_growAlong_24 : decode b_P_growAlong 24 = .ok (.ifCond .eq 7, 3) := by decide +kernel
theorem dc_P_growAlong_31 : decode b_P_growAlong 31 = .ok (.iload_n 2, 1) := by decide +kernel
theorem dc_P_growAlong_27 : decode b_P_growAlong 27 = .ok (.iconst 0, 1) := by decide +kernel
theorem dc_P_growAlong_28 : decode b_P_growAlong 28 = .ok (.goto 4, 3) := by decide +kernel
theorem dc_P_growAlong_32 : decode b_P_growAlong 32 = .ok (.iadd, 1) := by decide +kernel
theorem dc_P_growAlong_33 : decode b_P_growAlong 33 = .ok (.putfield 29, 3) := by decide +kernel
theorem dc_P_growAlong_36 : decode b_P_growAlong 36 = .ok (.return_, 1) := by decide +kernel
def dw_P_takeOver_0 : ByteArray := .mk #[0x03, 0x3d, 0x1c, 0x2b, 0xb4, 0x00, 0x20, 0xa2, 0x00, 0x3f, 0x2a, 0xb4, 0x00, 0x20, 0x2a, 0xb4, 0x00, 0x0b, 0xbe, 0xa2, 0x00, 0x33, 0x2a, 0xb4, 0x00, 0x0b, 0x2a, 0xb4, 0x00, 0x20, 0x32, 0x4e]
theorem da_P_takeOver_0 : dkA b_P_takeOver dw_P_takeOver_0 0 := by unfold dkA; decide +kernel
theorem dc_P_takeOver_0 : decode b_P_takeOver 0 = .ok (.iconst 0, 1) := dk_row (s := 0) da_P_takeOver_0 0 (by decide +kernel)
theorem dc_P_takeOver_1 : decode b_P_takeOver 1 = .ok (.istore_n 2, 1) := dk_row (s := 0) da_P_takeOver_0 1 (by decide +kernel)
theorem dc_P_takeOver_2 : decode b_P_takeOver 2 = .ok (.iload_n 2, 1) := dk_row (s := 0) da_P_takeOver_0 2 (by decide +kernel)
theorem dc_P_takeOver_3 : decode b_P_takeOver 3 = .ok (.aload_n 1, 1) := dk_row (s := 0) da_P_takeOver_0 3 (by decide +kernel)
theorem dc_P_takeOver_4 : decode b_P_takeOver 4 = .ok (.getfield 32, 3) := dk_row (s := 0) da_P_takeOver_0 4 (by decide +kernel)
theorem dc_P_takeOver_7 : decode b_P_takeOver 7 = .ok (.if_icmp .ge 63, 3) := dk_row (s := 0) da_P_takeOver_0 7 (by decide +kernel)
theorem dc_P_takeOver_10 : decode b_P_takeOver 10 = .ok (.aload_n 0, 1) := dk_row (s := 0) da_P_takeOver_0 10 (by decide +kernel)
theorem dc_P_takeOver_11 : decode b_P_takeOver 11 = .ok (.getfield 32, 3) := dk_row (s := 0) da_P_takeOver_0 11 (by decide +kernel)
theorem dc_P_takeOver_14 : decode b_P_takeOver 14 = .ok (.aload_n 0, 1) := dk_row (s := 0) da_P_takeOver_0 14 (by decide +kernel)
theorem dc_P_takeOver_15 : decode b_P_takeOver 15 = .ok (.getfield 11, 3) := dk_row (s := 0) da_P_takeOver_0 15 (by decide +kernel)
theorem dc_P_takeOver_18 : decode b_P_takeOver 18 = .ok (.arraylength, 1) := dk_row (s := 0) da_P_takeOver_0 18 (by decide +kernel)
theorem dc_P_takeOver_19 : decode b_P_takeOver 19 = .ok (.if_icmp .ge 51, 3) := dk_row (s := 0) da_P_takeOver_0 19 (by decide +kernel)
theorem dc_P_takeOver_22 : decode b_P_takeOver 22 = .ok (.aload_n 0, 1) := dk_row (s := 0) da_P_takeOver_0 22 (by decide +kernel)
theorem dc_P_takeOver_23 : decode b_P_takeOver 23 = .ok (.getfield 11, 3) := dk_row (s := 0) da_P_takeOver_0 23 (by decide +kernel)
theorem dc_P_takeOver_26 : decode b_P_takeOver 26 = .ok (.aload_n 0, 1) := dk_row (s := 0) da_P_takeOver_0 26 (by decide +kernel)
theorem dc_P_takeOver_27 : decode b_P_takeOver 27 = .ok (.getfield 32, 3) := dk_row (s := 0) da_P_takeOver_0 27 (by decide +kernel)
theorem dc_P_takeOver_30 : decode b_P_takeOver 30 = .ok (.aaload, 1) := dk_row (s := 0) da_P_takeOver_0 30 (by decide +kernel)
theorem dc_P_takeOver_31 : decode b_P_takeOver 31 = .ok (.astore_n 3, 1) := dk_row (s := 0) da_P_takeOver_0 31 (by decide +kernel)
def dw_P_takeOver_32 : ByteArray := .mk #[0x2a, 0xb4, 0x00, 0x0b, 0x2a, 0xb4, 0x00, 0x20, 0x2b, 0xb4, 0x00, 0x0b, 0x1c, 0x32, 0x53, 0x2b, 0xb4, 0x00, 0x0b, 0x1c, 0x2d, 0x53, 0x2a, 0x59, 0xb4, 0x00, 0x20, 0x04, 0x60, 0xb5, 0x00, 0x20]
theorem da_P_takeOver_32 : dkA b_P_takeOver dw_P_takeOver_32 32 := by unfold dkA; decide +kernel
theorem dc_P_takeOver_32 : decode b_P_takeOver 32 = .ok (.aload_n 0, 1) := dk_row (s := 32) da_P_takeOver_32 0 (by decide +kernel)
theorem dc_P_takeOver_33 : decode b_P_takeOver 33 = .ok (.getfield 11, 3) := dk_row (s := 32) da_P_takeOver_32 1 (by decide +kernel)
theorem dc_P_takeOver_36 : decode b_P_takeOver 36 = .ok (.aload_n 0, 1) := dk_row (s := 32) da_P_takeOver_32 4 (by decide +kernel)
theorem dc_P_takeOver_37 : decode b_P_takeOver 37 = .ok (.getfield 32, 3) := dk_row (s := 32) da_P_takeOver_32 5 (by decide +kernel)
theorem dc_P_takeOver_40 : decode b_P_takeOver 40 = .ok (.aload_n 1, 1) := dk_row (s := 32) da_P_takeOver_32 8 (by decide +kernel)
theorem dc_P_takeOver_41 : decode b_P_takeOver 41 = .ok (.getfield 11, 3) := dk_row (s := 32) da_P_takeOver_32 9 (by decide +kernel)
theorem dc_P_takeOver_44 : decode b_P_takeOver 44 = .ok (.iload_n 2, 1) := dk_row (s := 32) da_P_takeOver_32 12 (by decide +kernel)
theorem dc_P_takeOver_45 : decode b_P_takeOver 45 = .ok (.aaload, 1) := dk_row (s := 32) da_P_takeOver_32 13 (by decide +kernel)
theorem dc_P_takeOver_46 : decode b_P_takeOver 46 = .ok (.aastore, 1) := dk_row (s := 32) da_P_takeOver_32 14 (by decide +kernel)
theorem dc_P_takeOver_47 : decode b_P_takeOver 47 = .ok (.aload_n 1, 1) := dk_row (s := 32) da_P_takeOver_32 15 (by decide +kernel)
theorem dc_P_takeOver_48 : decode b_P_takeOver 48 = .ok (.getfield 11, 3) := dk_row (s := 32) da_P_takeOver_32 16 (by decide +kernel)
theorem dc_P_takeOver_51 : decode b_P_takeOver 51 = .ok (.iload_n 2, 1) := dk_row (s := 32) da_P_takeOver_32 19 (by decide +kernel)
theorem dc_P_takeOver_52 : decode b_P_takeOver 52 = .ok (.aload_n 3, 1) := dk_row (s := 32) da_P_takeOver_32 20 (by decide +kernel)
theorem dc_P_takeOver_53 : decode b_P_takeOver 53 = .ok (.aastore, 1) := dk_row (s := 32) da_P_takeOver_32 21 (by decide +kernel)
theorem dc_P_takeOver_54 : decode b_P_takeOver 54 = .ok (.aload_n 0, 1) := dk_row (s := 32) da_P_takeOver_32 22 (by decide +kernel)
theorem dc_P_takeOver_55 : decode b_P_takeOver 55 = .ok (.dup, 1) := dk_row (s := 32) da_P_takeOver_32 23 (by decide +kernel)
theorem dc_P_takeOver_56 : decode b_P_takeOver 56 = .ok (.getfield 32, 3) := dk_row (s := 32) da_P_takeOver_32 24 (by decide +kernel)
theorem dc_P_takeOver_59 : decode b_P_takeOver 59 = .ok (.iconst 1, 1) := dk_row (s := 32) da_P_takeOver_32 27 (by decide +kernel)
theorem dc_P_takeOver_60 : decode b_P_takeOver 60 = .ok (.iadd, 1) := dk_row (s := 32) da_P_takeOver_32 28 (by decide +kernel)
theorem dc_P_takeOver_61 : decode b_P_takeOver 61 = .ok (.putfield 32, 3) := dk_row (s := 32) da_P_takeOver_32 29 (by decide +kernel)
def dw_P_takeOver_64 : ByteArray := .mk #[0x84, 0x02, 0x01, 0xa7, 0xff, 0xbf, 0x03, 0x3d, 0x1c, 0x2b, 0xb4, 0x00, 0x23, 0xa2, 0x00, 0x3f, 0x2a, 0xb4, 0x00, 0x23, 0x2a, 0xb4, 0x00, 0x14, 0xbe, 0xa2, 0x00, 0x33, 0x2a, 0xb4, 0x00, 0x14]
theorem da_P_takeOver_64 : dkA b_P_takeOver dw_P_takeOver_64 64 := by unfold dkA; decide +kernel
theorem dc_P_takeOver_64 : decode b_P_takeOver 64 = .ok (.iinc 2 1, 3) := dk_row (s := 64) da_P_takeOver_64 0 (by decide +kernel)
theorem dc_P_takeOver_67 : decode b_P_takeOver 67 = .ok (.goto (-65), 3) := dk_row (s := 64) da_P_takeOver_64 3 (by decide +kernel)
theorem dc_P_takeOver_70 : decode b_P_takeOver 70 = .ok (.iconst 0, 1) := dk_row (s := 64) da_P_takeOver_64 6 (by decide +kernel)
theorem dc_P_takeOver_71 : decode b_P_takeOver 71 = .ok (.istore_n 2, 1) := dk_row (s := 64) da_P_takeOver_64 7 (by decide +kernel)
theorem dc_P_takeOver_72 : decode b_P_takeOver 72 = .ok (.iload_n 2, 1) := dk_row (s := 64) da_P_takeOver_64 8 (by decide +kernel)
theorem dc_P_takeOver_73 : decode b_P_takeOver 73 = .ok (.aload_n 1, 1) := dk_row (s := 64) da_P_takeOver_64 9 (by decide +kernel)
theorem dc_P_takeOver_74 : decode b_P_takeOver 74 = .ok (.getfield 35, 3) := dk_row (s := 64) da_P_takeOver_64 10 (by decide +kernel)
theorem dc_P_takeOver_77 : decode b_P_takeOver 77 = .ok (.if_icmp .ge 63, 3) := dk_row (s := 64) da_P_takeOver_64 13 (by decide +kernel)
theorem dc_P_takeOver_80 : decode b_P_takeOver 80 = .ok (.aload_n 0, 1) := dk_row (s := 64) da_P_takeOver_64 16 (by decide +kernel)
theorem dc_P_takeOver_81 : decode b_P_takeOver 81 = .ok (.getfield 35, 3) := dk_row (s := 64) da_P_takeOver_64 17 (by decide +kernel)
theorem dc_P_takeOver_84 : decode b_P_takeOver 84 = .ok (.aload_n 0, 1) := dk_row (s := 64) da_P_takeOver_64 20 (by decide +kernel)
theorem dc_P_takeOver_85 : decode b_P_takeOver 85 = .ok (.getfield 20, 3) := dk_row (s := 64) da_P_takeOver_64 21 (by decide +kernel)
theorem dc_P_takeOver_88 : decode b_P_takeOver 88 = .ok (.arraylength, 1) := dk_row (s := 64) da_P_takeOver_64 24 (by decide +kernel)
theorem dc_P_takeOver_89 : decode b_P_takeOver 89 = .ok (.if_icmp .ge 51, 3) := dk_row (s := 64) da_P_takeOver_64 25 (by decide +kernel)
theorem dc_P_takeOver_92 : decode b_P_takeOver 92 = .ok (.aload_n 0, 1) := dk_row (s := 64) da_P_takeOver_64 28 (by decide +kernel)
theorem dc_P_takeOver_93 : decode b_P_takeOver 93 = .ok (.getfield 20, 3) := dk_row (s := 64) da_P_takeOver_64 29 (by decide +kernel)
def dw_P_takeOver_96 : ByteArray := .mk #[0x2a, 0xb4, 0x00, 0x23, 0x32, 0x4e, 0x2a, 0xb4, 0x00, 0x14, 0x2a, 0xb4, 0x00, 0x23, 0x2b, 0xb4, 0x00, 0x14, 0x1c, 0x32, 0x53, 0x2b, 0xb4, 0x00, 0x14, 0x1c, 0x2d, 0x53, 0x2a, 0x59]
theorem da_P_takeOver_96 : dkA b_P_takeOver dw_P_takeOver_96 96 := by unfold dkA; decide +kernel
theorem dc_P_takeOver_96 : decode b_P_takeOver 96 = .ok (.aload_n 0, 1) := dk_row (s := 96) da_P_takeOver_96 0 (by decide +kernel)
theorem dc_P_takeOver_97 : decode b_P_takeOver 97 = .ok (.getfield 35, 3) := dk_row (s := 96) da_P_takeOver_96 1 (by decide +kernel)
theorem dc_P_takeOver_100 : decode b_P_takeOver 100 = .ok (.aaload, 1) := dk_row (s := 96) da_P_takeOver_96 4 (by decide +kernel)
theorem dc_P_takeOver_101 : decode b_P_takeOver 101 = .ok (.astore_n 3, 1) := dk_row (s := 96) da_P_takeOver_96 5 (by decide +kernel)
theorem dc_P_takeOver_102 : decode b_P_takeOver 102 = .ok (.aload_n 0, 1) := dk_row (s := 96) da_P_takeOver_96 6 (by decide +kernel)
theorem dc_P_takeOver_103 : decode b_P_takeOver 103 = .ok (.getfield 20, 3) := dk_row (s := 96) da_P_takeOver_96 7 (by decide +kernel)
theorem dc_P_takeOver_106 : decode b_P_takeOver 106 = .ok (.aload_n 0, 1) := dk_row (s := 96) da_P_takeOver_96 10 (by decide +kernel)
theorem dc_P_takeOver_107 : decode b_P_takeOver 107 = .ok (.getfield 35, 3) := dk_row (s := 96) da_P_takeOver_96 11 (by decide +kernel)
theorem dc_P_takeOver_110 : decode b_P_takeOver 110 = .ok (.aload_n 1, 1) := dk_row (s := 96) da_P_takeOver_96 14 (by decide +kernel)
theorem dc_P_takeOver_111 : decode b_P_takeOver 111 = .ok (.getfield 20, 3) := dk_row (s := 96) da_P_takeOver_96 15 (by decide +kernel)
theorem dc_P_takeOver_114 : decode b_P_takeOver 114 = .ok (.iload_n 2, 1) := dk_row (s := 96) da_P_takeOver_96 18 (by decide +kernel)
theorem dc_P_takeOver_115 : decode b_P_takeOver 115 = .ok (.aaload, 1) := dk_row (s := 96) da_P_takeOver_96 19 (by decide +kernel)
theorem dc_P_takeOver_116 : decode b_P_takeOver 116 = .ok (.aastore, 1) := dk_row (s := 96) da_P_takeOver_96 20 (by decide +kernel)
theorem dc_P_takeOver_117 : decode b_P_takeOver 117 = .ok (.aload_n 1, 1) := dk_row (s := 96) da_P_takeOver_96 21 (by decide +kernel)
theorem dc_P_takeOver_118 : decode b_P_takeOver 118 = .ok (.getfield 20, 3) := dk_row (s := 96) da_P_takeOver_96 22 (by decide +kernel)
theorem dc_P_takeOver_121 : decode b_P_takeOver 121 = .ok (.iload_n 2, 1) := dk_row (s := 96) da_P_takeOver_96 25 (by decide +kernel)
theorem dc_P_takeOver_122 : decode b_P_takeOver 122 = .ok (.aload_n 3, 1) := dk_row (s := 96) da_P_takeOver_96 26 (by decide +kernel)
theorem dc_P_takeOver_123 : decode b_P_takeOver 123 = .ok (.aastore, 1) := dk_row (s := 96) da_P_takeOver_96 27 (by decide +kernel)
theorem dc_P_takeOver_124 : decode b_P_takeOver 124 = .ok (.aload_n 0, 1) := dk_row (s := 96) da_P_takeOver_96 28 (by decide +kernel)
theorem dc_P_takeOver_125 : decode b_P_takeOver 125 = .ok (.dup, 1) := dk_row (s := 96) da_P_takeOver_96 29 (by decide +kernel)
def dw_P_takeOver_126 : ByteArray := .mk #[0xb4, 0x00, 0x23, 0x04, 0x60, 0xb5, 0x00, 0x23, 0x84, 0x02, 0x01, 0xa7, 0xff, 0xbf, 0x2b, 0x03, 0xb5, 0x00, 0x20, 0x2b, 0x03, 0xb5, 0x00, 0x23, 0xb1]
theorem da_P_takeOver_126 : dkA b_P_takeOver dw_P_takeOver_126 126 := by unfold dkA; decide +kernel
theorem dc_P_takeOver_126 : decode b_P_takeOver 126 = .ok (.getfield 35, 3) := dk_row (s := 126) da_P_takeOver_126 0 (by decide +kernel)
theorem dc_P_takeOver_129 : decode b_P_takeOver 129 = .ok (.iconst 1, 1) := dk_row (s := 126) da_P_takeOver_126 3 (by decide +kernel)
theorem dc_P_takeOver_130 : decode b_P_takeOver 130 = .ok (.iadd, 1) := dk_row (s := 126) da_P_takeOver_126 4 (by decide +kernel)
theorem dc_P_takeOver_131 : decode b_P_takeOver 131 = .ok (.putfield 35, 3) := dk_row (s := 126) da_P_takeOver_126 5 (by decide +kernel)
theorem dc_P_takeOver_134 : decode b_P_takeOver 134 = .ok (.iinc 2 1, 3) := dk_row (s := 126) da_P_takeOver_126 8 (by decide +kernel)
theorem dc_P_takeOver_137 : decode b_P_takeOver 137 = .ok (.goto (-65), 3) := dk_row (s := 126) da_P_takeOver_126 11 (by decide +kernel)
theorem dc_P_takeOver_140 : decode b_P_takeOver 140 = .ok (.aload_n 1, 1) := dk_row (s := 126) da_P_takeOver_126 14 (by decide +kernel)
theorem dc_P_takeOver_141 : decode b_P_takeOver 141 = .ok (.iconst 0, 1) := dk_row (s := 126) da_P_takeOver_126 15 (by decide +kernel)
theorem dc_P_takeOver_142 : decode b_P_takeOver 142 = .ok (.putfield 32, 3) := dk_row (s := 126) da_P_takeOver_126 16 (by decide +kernel)
theorem dc_P_takeOver_145 : decode b_P_takeOver 145 = .ok (.aload_n 1, 1) := dk_row (s := 126) da_P_takeOver_126 19 (by decide +kernel)
theorem dc_P_takeOver_146 : decode b_P_takeOver 146 = .ok (.iconst 0, 1) := dk_row (s := 126) da_P_takeOver_126 20 (by decide +kernel)
theorem dc_P_takeOver_147 : decode b_P_takeOver 147 = .ok (.putfield 35, 3) := dk_row (s := 126) da_P_takeOver_126 21 (by decide +kernel)
theorem dc_P_takeOver_150 : decode b_P_takeOver 150 = .ok (.return_, 1) := dk_row (s := 126) da_P_takeOver_126 24 (by decide +kernel)
theorem dc_P_overlapsTile_0 : decode b_P_overlapsTile 0 = .ok (.iconst 0, 1) := by decide +kernel
theorem dc_P_overlapsTile_1 : decode b_P_overlapsTile 1 = .ok (.istore 5, 2) := by decide +kernel
theorem dc_P_overlapsTile_3 : decode b_P_overlapsTile 3 = .ok (.iload 5, 2) := by decide +kernel
theorem dc_P_overlapsTile_5 : decode b_P_overlapsTile 5 = .ok (.aload_n 0, 1) := by decide +kernel
theorem dc_P_overlapsTile_6 : decode b_P_overlapsTile 6 = .ok (.getfield 32, 3) := by decide +kernel
theorem dc_P_overlapsTile_9 : decode b_P_overlapsTile 9 = .ok (.if_icmp .ge 29, 3) := by decide +kernel
theorem dc_P_overlapsTile_38 : decode b_P_overlapsTile 38 = .ok (.iconst 0, 1) := by decide +kernel
theorem dc_P_overlapsTile_39 : decode b_P_overlapsTile 39 = .ok (.ireturn, 1) := by decide +kernel
theorem dc_P_overlapsTile_12 : decode b_P_overlapsTile 12 = .ok (.aload_n 0, 1) := by decide +kernel
theorem dc_P_overlapsTile_13 : decode b_P_overlapsTile 13 = .ok (.getfield 11, 3) := by decide +kernel
theorem dc_P_overlapsTile_16 : decode b_P_overlapsTile 16 = .ok (.iload 5, 2) := by decide +kernel
theorem dc_P_overlapsTile_18 : decode b_P_overlapsTile 18 = .ok (.aaload, 1) := by decide +kernel
theorem dc_P_overlapsTile_19 : decode b_P_overlapsTile 19 = .ok (.iload_n 1, 1) := by decide +kernel
theorem dc_P_overlapsTile_20 : decode b_P_overlapsTile 20 = .ok (.iload_n 2, 1) := by decide +kernel
theorem dc_P_overlapsTile_21 : decode b_P_overlapsTile 21 = .ok (.iload_n 3, 1) := by decide +kernel
theorem dc_P_overlapsTile_22 : decode b_P_overlapsTile 22 = .ok (.iload 4, 2) := by decide +kernel
theorem dc_P_overlapsTile_24 : decode b_P_overlapsTile 24 = .ok (.invokevirtual 38, 3) := by decide +kernel
theorem dc_P_overlapsTile_27 : decode b_P_overlapsTile 27 = .ok (.ifCond .eq 5, 3) := by decide +kernel
theorem dc_P_overlapsTile_32 : decode b_P_overlapsTile 32 = .ok (.iinc 5 1, 3) := by decide +kernel
theorem dc_P_overlapsTile_35 : decode b_P_overlapsTile 35 = .ok (.goto (-32), 3) := by decide +kernel
theorem dc_P_overlapsTile_30 : decode b_P_overlapsTile 30 = .ok (.iconst 1, 1) := by decide +kernel
theorem dc_P_overlapsTile_31 : decode b_P_overlapsTile 31 = .ok (.ireturn, 1) := by decide +kernel
theorem dc_P_tileOver_0 : decode b_P_tileOver 0 = .ok (.iconst 0, 1) := by decide +kernel
theorem dc_P_tileOver_1 : decode b_P_tileOver 1 = .ok (.istore_n 3, 1) := by decide +kernel
theorem dc_P_tileOver_2 : decode b_P_tileOver 2 = .ok (.iload_n 3, 1) := by decide +kernel
theorem dc_P_tileOver_3 : decode b_P_tileOver 3 = .ok (.aload_n 0, 1) := by decide +kernel
theorem dc_P_tileOver_4 : decode b_P_tileOver 4 = .ok (.getfield 32, 3) := by decide +kernel
theorem dc_P_tileOver_7 : decode b_P_tileOver 7 = .ok (.if_icmp .ge 27, 3) := by decide +kernel
theorem dc_P_tileOver_34 : decode b_P_tileOver 34 = .ok (.iconst (-1), 1) := by decide +kernel
theorem dc_P_tileOver_35 : decode b_P_tileOver 35 = .ok (.ireturn, 1) := by decide +kernel
theorem dc_P_tileOver_10 : decode b_P_tileOver 10 = .ok (.aload_n 0, 1) := by decide +kernel
theorem dc_P_tileOver_11 : decode b_P_tileOver 11 = .ok (.getfield 11, 3) := by decide +kernel
theorem dc_P_tileOver_14 : decode b_P_tileOver 14 = .ok (.iload_n 3, 1) := by decide +kernel
theorem dc_P_tileOver_15 : decode b_P_tileOver 15 = .ok (.aaload, 1) := by decide +kernel
theorem dc_P_tileOver_16 : decode b_P_tileOver 16 = .ok (.iload_n 1, 1) := by decide +kernel
theorem dc_P_tileOver_17 : decode b_P_tileOver 17 = .ok (.iload_n 2, 1) := by decide +kernel
theorem dc_P_tileOver_18 : decode b_P_tileOver 18 = .ok (.iconst 1, 1) := by decide +kernel
theorem dc_P_tileOver_19 : decode b_P_tileOver 19 = .ok (.iconst 1, 1) := by decide +kernel
theorem dc_P_tileOver_20 : decode b_P_tileOver 20 = .ok (.invokevirtual 38, 3) := by decide +kernel
theorem dc_P_tileOver_23 : decode b_P_tileOver 23 = .ok (.ifCond .eq 5, 3) := by decide +kernel
theorem dc_P_tileOver_28 : decode b_P_tileOver 28 = .ok (.iinc 3 1, 3) := by decide +kernel
theorem dc_P_tileOver_31 : decode b_P_tileOver 31 = .ok (.goto (-29), 3) := by decide +kernel
theorem dc_P_tileOver_26 : decode b_P_tileOver 26 = .ok (.iload_n 3, 1) := by decide +kernel
theorem dc_P_tileOver_27 : decode b_P_tileOver 27 = .ok (.ireturn, 1) := by decide +kernel
theorem dc_P_addTile_0 : decode b_P_addTile 0 = .ok (.aload_n 0, 1) := by decide +kernel
theorem dc_P_addTile_1 : decode b_P_addTile 1 = .ok (.getfield 32, 3) := by decide +kernel
theorem dc_P_addTile_4 : decode b_P_addTile 4 = .ok (.aload_n 0, 1) := by decide +kernel
theorem dc_P_addTile_5 : decode b_P_addTile 5 = .ok (.getfield 11, 3) := by decide +kernel
theorem dc_P_addTile_8 : decode b_P_addTile 8 = .ok (.arraylength, 1) := by decide +kernel
theorem dc_P_addTile_9 : decode b_P_addTile 9 = .ok (.if_icmp .lt 5, 3) := by decide +kernel
theorem dc_P_addTile_14 : decode b_P_addTile 14 = .ok (.aload_n 0, 1) := by decide +kernel
theorem dc_P_addTile_15 : decode b_P_addTile 15 = .ok (.getfield 11, 3) := by decide +kernel
theorem dc_P_addTile_18 : decode b_P_addTile 18 = .ok (.aload_n 0, 1) := by decide +kernel
theorem dc_P_addTile_19 : decode b_P_addTile 19 = .ok (.getfield 32, 3) := by decide +kernel
theorem dc_P_addTile_22 : decode b_P_addTile 22 = .ok (.aaload, 1) := by decide +kernel
theorem dc_P_addTile_23 : decode b_P_addTile 23 = .ok (.iload_n 1, 1) := by decide +kernel
theorem dc_P_addTile_24 : decode b_P_addTile 24 = .ok (.iload_n 2, 1) := by decide +kernel
theorem dc_P_addTile_25 : decode b_P_addTile 25 = .ok (.iload_n 3, 1) := by decide +kernel
theorem dc_P_addTile_26 : decode b_P_addTile 26 = .ok (.iload 4, 2) := by decide +kernel
theorem dc_P_addTile_28 : decode b_P_addTile 28 = .ok (.invokevirtual 42, 3) := by decide +kernel
theorem dc_P_addTile_31 : decode b_P_addTile 31 = .ok (.aload_n 0, 1) := by decide +kernel
theorem dc_P_addTile_32 : decode b_P_addTile 32 = .ok (.dup, 1) := by decide +kernel
theorem dc_P_addTile_33 : decode b_P_addTile 33 = .ok (.getfield 32, 3) := by decide +kernel
theorem dc_P_addTile_36 : decode b_P_addTile 36 = .ok (.iconst 1, 1) := by decide +kernel
theorem dc_P_addTile_37 : decode b_P_addTile 37 = .ok (.iadd, 1) := by decide +kernel
theorem dc_P_addTile_38 : decode b_P_addTile 38 = .ok (.putfield 32, 3) := by decide +kernel
theorem dc_P_addTile_41 : decode b_P_addTile 41 = .ok (.aload_n 0, 1) := by decide +kernel
theorem dc_P_addTile_42 : decode b_P_addTile 42 = .ok (.getfield 32, 3) := by decide +kernel
theorem dc_P_addTile_45 : decode b_P_addTile 45 = .ok (.iconst 1, 1) := by decide +kernel
theorem dc_P_addTile_46 : decode b_P_addTile 46 = .ok (.isub, 1) := by decide +kernel
theorem dc_P_addTile_47 : decode b_P_addTile 47 = .ok (.ireturn, 1) := by decide +kernel
theorem dc_P_addTile_12 : decode b_P_addTile 12 = .ok (.iconst (-1), 1) := by decide +kernel
theorem dc_P_addTile_13 : decode b_P_addTile 13 = .ok (.ireturn, 1) := by decide +kernel
theorem dc_P_addNote_0 : decode b_P_addNote 0 = .ok (.aload_n 0, 1) := by decide +kernel
theorem dc_P_addNote_1 : decode b_P_addNote 1 = .ok (.getfield 35, 3) := by decide +kernel
theorem dc_P_addNote_4 : decode b_P_addNote 4 = .ok (.aload_n 0, 1) := by decide +kernel
theorem dc_P_addNote_5 : decode b_P_addNote 5 = .ok (.getfield 20, 3) := by decide +kernel
theorem dc_P_addNote_8 : decode b_P_addNote 8 = .ok (.arraylength, 1) := by decide +kernel
theorem dc_P_addNote_9 : decode b_P_addNote 9 = .ok (.if_icmp .ge 28, 3) := by decide +kernel
theorem dc_P_addNote_37 : decode b_P_addNote 37 = .ok (.aload_n 0, 1) := by decide +kernel
theorem dc_P_addNote_38 : decode b_P_addNote 38 = .ok (.getfield 35, 3) := by decide +kernel
theorem dc_P_addNote_41 : decode b_P_addNote 41 = .ok (.ireturn, 1) := by decide +kernel
theorem dc_P_addNote_12 : decode b_P_addNote 12 = .ok (.aload_n 0, 1) := by decide +kernel
theorem dc_P_addNote_13 : decode b_P_addNote 13 = .ok (.getfield 20, 3) := by decide +kernel
theorem dc_P_addNote_16 : decode b_P_addNote 16 = .ok (.aload_n 0, 1) := by decide +kernel
theorem dc_P_addNote_17 : decode b_P_addNote 17 = .ok (.getfield 35, 3) := by decide +kernel
theorem dc_P_addNote_20 : decode b_P_addNote 20 = .ok (.aaload, 1) := by decide +kernel
theorem dc_P_addNote_21 : decode b_P_addNote 21 = .ok (.iload_n 1, 1) := by decide +kernel
theorem dc_P_addNote_22 : decode b_P_addNote 22 = .ok (.iload_n 2, 1) := by decide +kernel
theorem dc_P_addNote_23 : decode b_P_addNote 23 = .ok (.iload_n 3, 1) := by decide +kernel
theorem dc_P_addNote_24 : decode b_P_addNote 24 = .ok (.invokevirtual 46, 3) := by decide +kernel
theorem dc_P_addNote_27 : decode b_P_addNote 27 = .ok (.aload_n 0, 1) := by decide +kernel
theorem dc_P_addNote_28 : decode b_P_addNote 28 = .ok (.dup, 1) := by decide +kernel
theorem dc_P_addNote_29 : decode b_P_addNote 29 = .ok (.getfield 35, 3) := by decide +kernel
theorem dc_P_addNote_32 : decode b_P_addNote 32 = .ok (.iconst 1, 1) := by decide +kernel
theorem dc_P_addNote_33 : decode b_P_addNote 33 = .ok (.iadd, 1) := by decide +kernel
theorem dc_P_addNote_34 : decode b_P_addNote 34 = .ok (.putfield 35, 3) := by decide +kernel
theorem dc_P_borderFits_0 : decode b_P_borderFits 0 = .ok (.iconst 0, 1) := by decide +kernel
theorem dc_P_borderFits_1 : decode b_P_borderFits 1 = .ok (.istore_n 3, 1) := by decide +kernel
theorem dc_P_borderFits_2 : decode b_P_borderFits 2 = .ok (.iload_n 3, 1) := by decide +kernel
theorem dc_P_borderFits_3 : decode b_P_borderFits 3 = .ok (.aload_n 0, 1) := by decide +kernel
theorem dc_P_borderFits_4 : decode b_P_borderFits 4 = .ok (.getfield 32, 3) := by decide +kernel
theorem dc_P_borderFits_7 : decode b_P_borderFits 7 = .ok (.if_icmp .ge 25, 3) := by decide +kernel
theorem dc_P_borderFits_32 : decode b_P_borderFits 32 = .ok (.iconst 1, 1) := by decide +kernel
theorem dc_P_borderFits_33 : decode b_P_borderFits 33 = .ok (.ireturn, 1) := by decide +kernel
theorem dc_P_borderFits_10 : decode b_P_borderFits 10 = .ok (.aload_n 0, 1) := by decide +kernel
theorem dc_P_borderFits_11 : decode b_P_borderFits 11 = .ok (.getfield 11, 3) := by decide +kernel
theorem dc_P_borderFits_14 : decode b_P_borderFits 14 = .ok (.iload_n 3, 1) := by decide +kernel
theorem dc_P_borderFits_15 : decode b_P_borderFits 15 = .ok (.aaload, 1) := by decide +kernel
theorem dc_P_borderFits_16 : decode b_P_borderFits 16 = .ok (.iload_n 1, 1) := by decide +kernel
theorem dc_P_borderFits_17 : decode b_P_borderFits 17 = .ok (.iload_n 2, 1) := by decide +kernel
theorem dc_P_borderFits_18 : decode b_P_borderFits 18 = .ok (.invokevirtual 49, 3) := by decide +kernel
theorem dc_P_borderFits_21 : decode b_P_borderFits 21 = .ok (.ifCond .eq 5, 3) := by decide +kernel
theorem dc_P_borderFits_26 : decode b_P_borderFits 26 = .ok (.iinc 3 1, 3) := by decide +kernel
theorem dc_P_borderFits_29 : decode b_P_borderFits 29 = .ok (.goto (-27), 3) := by decide +kernel
theorem dc_P_borderFits_24 : decode b_P_borderFits 24 = .ok (.iconst 0, 1) := by decide +kernel
theorem dc_P_borderFits_25 : decode b_P_borderFits 25 = .ok (.ireturn, 1) := by decide +kernel
theorem dc_P_keepTilesWithin_0 : decode b_P_keepTilesWithin 0 = .ok (.iconst 0, 1) := by decide +kernel
theorem dc_P_keepTilesWithin_1 : decode b_P_keepTilesWithin 1 = .ok (.istore 5, 2) := by decide +kernel
theorem dc_P_keepTilesWithin_3 : decode b_P_keepTilesWithin 3 = .ok (.iconst 0, 1) := by decide +kernel
theorem dc_P_keepTilesWithin_4 : decode b_P_keepTilesWithin 4 = .ok (.istore 6, 2) := by decide +kernel
theorem dc_P_keepTilesWithin_6 : decode b_P_keepTilesWithin 6 = .ok (.iload 6, 2) := by decide +kernel
theorem dc_P_keepTilesWithin_8 : decode b_P_keepTilesWithin 8 = .ok (.aload_n 0, 1) := by decide +kernel
theorem dc_P_keepTilesWithin_9 : decode b_P_keepTilesWithin 9 = .ok (.getfield 32, 3) := by decide +kernel
theorem dc_P_keepTilesWithin_12 : decode b_P_keepTilesWithin 12 = .ok (.if_icmp .ge 57, 3) := by decide +kernel
theorem dc_P_keepTilesWithin_69 : decode b_P_keepTilesWithin 69 = .ok (.aload_n 0, 1) := by decide +kernel
theorem dc_P_keepTilesWithin_70 : decode b_P_keepTilesWithin 70 = .ok (.iload 5, 2) := by decide +kernel
theorem dc_P_keepTilesWithin_72 : decode b_P_keepTilesWithin 72 = .ok (.putfield 32, 3) := by decide +kernel
theorem dc_P_keepTilesWithin_75 : decode b_P_keepTilesWithin 75 = .ok (.return_, 1) := by decide +kernel
theorem dc_P_keepTilesWithin_15 : decode b_P_keepTilesWithin 15 = .ok (.aload_n 0, 1) := by decide +kernel
theorem dc_P_keepTilesWithin_16 : decode b_P_keepTilesWithin 16 = .ok (.getfield 11, 3) := by decide +kernel
theorem dc_P_keepTilesWithin_19 : decode b_P_keepTilesWithin 19 = .ok (.iload 6, 2) := by decide +kernel
theorem dc_P_keepTilesWithin_21 : decode b_P_keepTilesWithin 21 = .ok (.aaload, 1) := by decide +kernel
theorem dc_P_keepTilesWithin_22 : decode b_P_keepTilesWithin 22 = .ok (.astore 7, 2) := by decide +kernel
theorem dc_P_keepTilesWithin_24 : decode b_P_keepTilesWithin 24 = .ok (.aload 7, 2) := by decide +kernel
theorem dc_P_keepTilesWithin_26 : decode b_P_keepTilesWithin 26 = .ok (.iload_n 1, 1) := by decide +kernel
theorem dc_P_keepTilesWithin_27 : decode b_P_keepTilesWithin 27 = .ok (.iload_n 2, 1) := by decide +kernel
theorem dc_P_keepTilesWithin_28 : decode b_P_keepTilesWithin 28 = .ok (.iload_n 3, 1) := by decide +kernel
theorem dc_P_keepTilesWithin_29 : decode b_P_keepTilesWithin 29 = .ok (.iload 4, 2) := by decide +kernel
theorem dc_P_keepTilesWithin_31 : decode b_P_keepTilesWithin 31 = .ok (.invokevirtual 70, 3) := by decide +kernel
theorem dc_P_keepTilesWithin_34 : decode b_P_keepTilesWithin 34 = .ok (.ifCond .eq 29, 3) := by decide +kernel
theorem dc_P_keepTilesWithin_37 : decode b_P_keepTilesWithin 37 = .ok (.aload_n 0, 1) := by decide +kernel
theorem dc_P_keepTilesWithin_38 : decode b_P_keepTilesWithin 38 = .ok (.getfield 11, 3) := by decide +kernel
theorem dc_P_keepTilesWithin_41 : decode b_P_keepTilesWithin 41 = .ok (.iload 6, 2) := by decide +kernel
theorem dc_P_keepTilesWithin_43 : decode b_P_keepTilesWithin 43 = .ok (.aload_n 0, 1) := by decide +kernel
theorem dc_P_keepTilesWithin_44 : decode b_P_keepTilesWithin 44 = .ok (.getfield 11, 3) := by decide +kernel
theorem dc_P_keepTilesWithin_47 : decode b_P_keepTilesWithin 47 = .ok (.iload 5, 2) := by decide +kernel
theorem dc_P_keepTilesWithin_49 : decode b_P_keepTilesWithin 49 = .ok (.aaload, 1) := by decide +kernel
theorem dc_P_keepTilesWithin_50 : decode b_P_keepTilesWithin 50 = .ok (.aastore, 1) := by decide +kernel
theorem dc_P_keepTilesWithin_51 : decode b_P_keepTilesWithin 51 = .ok (.aload_n 0, 1) := by decide +kernel
theorem dc_P_keepTilesWithin_52 : decode b_P_keepTilesWithin 52 = .ok (.getfield 11, 3) := by decide +kernel
theorem dc_P_keepTilesWithin_55 : decode b_P_keepTilesWithin 55 = .ok (.iload 5, 2) := by decide +kernel
theorem dc_P_keepTilesWithin_57 : decode b_P_keepTilesWithin 57 = .ok (.aload 7, 2) := by decide +kernel
theorem dc_P_keepTilesWithin_59 : decode b_P_keepTilesWithin 59 = .ok (.aastore, 1) := by decide +kernel
theorem dc_P_keepTilesWithin_60 : decode b_P_keepTilesWithin 60 = .ok (.iinc 5 1, 3) := by decide +kernel
theorem dc_P_keepTilesWithin_63 : decode b_P_keepTilesWithin 63 = .ok (.iinc 6 1, 3) := by decide +kernel
theorem dc_P_keepTilesWithin_66 : decode b_P_keepTilesWithin 66 = .ok (.goto (-60), 3) := by decide +kernel
theorem dc_P_keepNotesWithin_0 : decode b_P_keepNotesWithin 0 = .ok (.iconst 0, 1) := by decide +kernel
theorem dc_P_keepNotesWithin_1 : decode b_P_keepNotesWithin 1 = .ok (.istore 5, 2) := by decide +kernel
theorem dc_P_keepNotesWithin_3 : decode b_P_keepNotesWithin 3 = .ok (.iconst 0, 1) := by decide +kernel
theorem dc_P_keepNotesWithin_4 : decode b_P_keepNotesWithin 4 = .ok (.istore 6, 2) := by decide +kernel
theorem dc_P_keepNotesWithin_6 : decode b_P_keepNotesWithin 6 = .ok (.iload 6, 2) := by decide +kernel
theorem dc_P_keepNotesWithin_8 : decode b_P_keepNotesWithin 8 = .ok (.aload_n 0, 1) := by decide +kernel
theorem dc_P_keepNotesWithin_9 : decode b_P_keepNotesWithin 9 = .ok (.getfield 35, 3) := by decide +kernel
theorem dc_P_keepNotesWithin_12 : decode b_P_keepNotesWithin 12 = .ok (.if_icmp .ge 57, 3) := by decide +kernel
theorem dc_P_keepNotesWithin_69 : decode b_P_keepNotesWithin 69 = .ok (.aload_n 0, 1) := by decide +kernel
theorem dc_P_keepNotesWithin_70 : decode b_P_keepNotesWithin 70 = .ok (.iload 5, 2) := by decide +kernel
theorem dc_P_keepNotesWithin_72 : decode b_P_keepNotesWithin 72 = .ok (.putfield 35, 3) := by decide +kernel
theorem dc_P_keepNotesWithin_75 : decode b_P_keepNotesWithin 75 = .ok (.return_, 1) := by decide +kernel
theorem dc_P_keepNotesWithin_15 : decode b_P_keepNotesWithin 15 = .ok (.aload_n 0, 1) := by decide +kernel
theorem dc_P_keepNotesWithin_16 : decode b_P_keepNotesWithin 16 = .ok (.getfield 20, 3) := by decide +kernel
theorem dc_P_keepNotesWithin_19 : decode b_P_keepNotesWithin 19 = .ok (.iload 6, 2) := by decide +kernel
theorem dc_P_keepNotesWithin_21 : decode b_P_keepNotesWithin 21 = .ok (.aaload, 1) := by decide +kernel
theorem dc_P_keepNotesWithin_22 : decode b_P_keepNotesWithin 22 = .ok (.astore 7, 2) := by decide +kernel
theorem dc_P_keepNotesWithin_24 : decode b_P_keepNotesWithin 24 = .ok (.aload 7, 2) := by decide +kernel
theorem dc_P_keepNotesWithin_26 : decode b_P_keepNotesWithin 26 = .ok (.iload_n 1, 1) := by decide +kernel
theorem dc_P_keepNotesWithin_27 : decode b_P_keepNotesWithin 27 = .ok (.iload_n 2, 1) := by decide +kernel
theorem dc_P_keepNotesWithin_28 : decode b_P_keepNotesWithin 28 = .ok (.iload_n 3, 1) := by decide +kernel
theorem dc_P_keepNotesWithin_29 : decode b_P_keepNotesWithin 29 = .ok (.iload 4, 2) := by decide +kernel
theorem dc_P_keepNotesWithin_31 : decode b_P_keepNotesWithin 31 = .ok (.invokevirtual 73, 3) := by decide +kernel
theorem dc_P_keepNotesWithin_34 : decode b_P_keepNotesWithin 34 = .ok (.ifCond .eq 29, 3) := by decide +kernel
theorem dc_P_keepNotesWithin_37 : decode b_P_keepNotesWithin 37 = .ok (.aload_n 0, 1) := by decide +kernel
theorem dc_P_keepNotesWithin_38 : decode b_P_keepNotesWithin 38 = .ok (.getfield 20, 3) := by decide +kernel
theorem dc_P_keepNotesWithin_41 : decode b_P_keepNotesWithin 41 = .ok (.iload 6, 2) := by decide +kernel
theorem dc_P_keepNotesWithin_43 : decode b_P_keepNotesWithin 43 = .ok (.aload_n 0, 1) := by decide +kernel
theorem dc_P_keepNotesWithin_44 : decode b_P_keepNotesWithin 44 = .ok (.getfield 20, 3) := by decide +kernel
theorem dc_P_keepNotesWithin_47 : decode b_P_keepNotesWithin 47 = .ok (.iload 5, 2) := by decide +kernel
theorem dc_P_keepNotesWithin_49 : decode b_P_keepNotesWithin 49 = .ok (.aaload, 1) := by decide +kernel
theorem dc_P_keepNotesWithin_50 : decode b_P_keepNotesWithin 50 = .ok (.aastore, 1) := by decide +kernel
theorem dc_P_keepNotesWithin_51 : decode b_P_keepNotesWithin 51 = .ok (.aload_n 0, 1) := by decide +kernel
theorem dc_P_keepNotesWithin_52 : decode b_P_keepNotesWithin 52 = .ok (.getfield 20, 3) := by decide +kernel
theorem dc_P_keepNotesWithin_55 : decode b_P_keepNotesWithin 55 = .ok (.iload 5, 2) := by decide +kernel
theorem dc_P_keepNotesWithin_57 : decode b_P_keepNotesWithin 57 = .ok (.aload 7, 2) := by decide +kernel
theorem dc_P_keepNotesWithin_59 : decode b_P_keepNotesWithin 59 = .ok (.aastore, 1) := by decide +kernel
theorem dc_P_keepNotesWithin_60 : decode b_P_keepNotesWithin 60 = .ok (.iinc 5 1, 3) := by decide +kernel
theorem dc_P_keepNotesWithin_63 : decode b_P_keepNotesWithin 63 = .ok (.iinc 6 1, 3) := by decide +kernel
theorem dc_P_keepNotesWithin_66 : decode b_P_keepNotesWithin 66 = .ok (.goto (-60), 3) := by decide +kernel
theorem dc_P_moveBy_0 : decode b_P_moveBy 0 = .ok (.iconst 0, 1) := by decide +kernel
theorem dc_P_moveBy_1 : decode b_P_moveBy 1 = .ok (.istore_n 3, 1) := by decide +kernel
theorem dc_P_moveBy_2 : decode b_P_moveBy 2 = .ok (.iload_n 3, 1) := by decide +kernel
theorem dc_P_moveBy_3 : decode b_P_moveBy 3 = .ok (.aload_n 0, 1) := by decide +kernel
theorem dc_P_moveBy_4 : decode b_P_moveBy 4 = .ok (.getfield 32, 3) := by decide +kernel
theorem dc_P_moveBy_7 : decode b_P_moveBy 7 = .ok (.if_icmp .ge 20, 3) := by decide +kernel
theorem dc_P_moveBy_27 : decode b_P_moveBy 27 = .ok (.iconst 0, 1) := by decide +kernel
theorem dc_P_moveBy_28 : decode b_P_moveBy 28 = .ok (.istore_n 3, 1) := by decide +kernel
theorem dc_P_moveBy_10 : decode b_P_moveBy 10 = .ok (.aload_n 0, 1) := by decide +kernel
theorem dc_P_moveBy_11 : decode b_P_moveBy 11 = .ok (.getfield 11, 3) := by decide +kernel
theorem dc_P_moveBy_14 : decode b_P_moveBy 14 = .ok (.iload_n 3, 1) := by decide +kernel
theorem dc_P_moveBy_15 : decode b_P_moveBy 15 = .ok (.aaload, 1) := by decide +kernel
theorem dc_P_moveBy_16 : decode b_P_moveBy 16 = .ok (.iload_n 1, 1) := by decide +kernel
theorem dc_P_moveBy_17 : decode b_P_moveBy 17 = .ok (.iload_n 2, 1) := by decide +kernel
theorem dc_P_moveBy_18 : decode b_P_moveBy 18 = .ok (.invokevirtual 74, 3) := by decide +kernel
theorem dc_P_moveBy_21 : decode b_P_moveBy 21 = .ok (.iinc 3 1, 3) := by decide +kernel
theorem dc_P_moveBy_24 : decode b_P_moveBy 24 = .ok (.goto (-22), 3) := by decide +kernel
theorem dc_P_moveBy_29 : decode b_P_moveBy 29 = .ok (.iload_n 3, 1) := by decide +kernel
theorem dc_P_moveBy_30 : decode b_P_moveBy 30 = .ok (.aload_n 0, 1) := by decide +kernel
theorem dc_P_moveBy_31 : decode b_P_moveBy 31 = .ok (.getfield 35, 3) := by decide +kernel
theorem dc_P_moveBy_34 : decode b_P_moveBy 34 = .ok (.if_icmp .ge 20, 3) := by decide +kernel
theorem dc_P_moveBy_54 : decode b_P_moveBy 54 = .ok (.return_, 1) := by decide +kernel
theorem dc_P_moveBy_37 : decode b_P_moveBy 37 = .ok (.aload_n 0, 1) := by decide +kernel
theorem dc_P_moveBy_38 : decode b_P_moveBy 38 = .ok (.getfield 20, 3) := by decide +kernel
theorem dc_P_moveBy_41 : decode b_P_moveBy 41 = .ok (.iload_n 3, 1) := by decide +kernel
theorem dc_P_moveBy_42 : decode b_P_moveBy 42 = .ok (.aaload, 1) := by decide +kernel
theorem dc_P_moveBy_43 : decode b_P_moveBy 43 = .ok (.iload_n 1, 1) := by decide +kernel
theorem dc_P_moveBy_44 : decode b_P_moveBy 44 = .ok (.iload_n 2, 1) := by decide +kernel
theorem dc_P_moveBy_45 : decode b_P_moveBy 45 = .ok (.invokevirtual 75, 3) := by decide +kernel
theorem dc_P_moveBy_48 : decode b_P_moveBy 48 = .ok (.iinc 3 1, 3) := by decide +kernel
theorem dc_P_moveBy_51 : decode b_P_moveBy 51 = .ok (.goto (-22), 3) := by decide +kernel
theorem dc_P_mirror_0 : decode b_P_mirror 0 = .ok (.iconst 0, 1) := by decide +kernel
theorem dc_P_mirror_1 : decode b_P_mirror 1 = .ok (.istore_n 1, 1) := by decide +kernel
theorem dc_P_mirror_2 : decode b_P_mirror 2 = .ok (.iload_n 1, 1) := by decide +kernel
theorem dc_P_mirror_3 : decode b_P_mirror 3 = .ok (.aload_n 0, 1) := by decide +kernel
theorem dc_P_mirror_4 : decode b_P_mirror 4 = .ok (.getfield 32, 3) := by decide +kernel
theorem dc_P_mirror_7 : decode b_P_mirror 7 = .ok (.if_icmp .ge 22, 3) := by decide +kernel
theorem dc_P_mirror_29 : decode b_P_mirror 29 = .ok (.iconst 0, 1) := by decide +kernel
theorem dc_P_mirror_30 : decode b_P_mirror 30 = .ok (.istore_n 1, 1) := by decide +kernel
theorem dc_P_mirror_10 : decode b_P_mirror 10 = .ok (.aload_n 0, 1) := by decide +kernel
theorem dc_P_mirror_11 : decode b_P_mirror 11 = .ok (.getfield 11, 3) := by decide +kernel
theorem dc_P_mirror_14 : decode b_P_mirror 14 = .ok (.iload_n 1, 1) := by decide +kernel
theorem dc_P_mirror_15 : decode b_P_mirror 15 = .ok (.aaload, 1) := by decide +kernel
theorem dc_P_mirror_16 : decode b_P_mirror 16 = .ok (.aload_n 0, 1) := by decide +kernel
theorem dc_P_mirror_17 : decode b_P_mirror 17 = .ok (.getfield 25, 3) := by decide +kernel
theorem dc_P_mirror_20 : decode b_P_mirror 20 = .ok (.invokevirtual 97, 3) := by decide +kernel
theorem dc_P_mirror_23 : decode b_P_mirror 23 = .ok (.iinc 1 1, 3) := by decide +kernel
theorem dc_P_mirror_26 : decode b_P_mirror 26 = .ok (.goto (-24), 3) := by decide +kernel
theorem dc_P_mirror_31 : decode b_P_mirror 31 = .ok (.iload_n 1, 1) := by decide +kernel
theorem dc_P_mirror_32 : decode b_P_mirror 32 = .ok (.aload_n 0, 1) := by decide +kernel
theorem dc_P_mirror_33 : decode b_P_mirror 33 = .ok (.getfield 35, 3) := by decide +kernel
theorem dc_P_mirror_36 : decode b_P_mirror 36 = .ok (.if_icmp .ge 22, 3) := by decide +kernel
theorem dc_P_mirror_58 : decode b_P_mirror 58 = .ok (.return_, 1) := by decide +kernel
theorem dc_P_mirror_39 : decode b_P_mirror 39 = .ok (.aload_n 0, 1) := by decide +kernel
theorem dc_P_mirror_40 : decode b_P_mirror 40 = .ok (.getfield 20, 3) := by decide +kernel
theorem dc_P_mirror_43 : decode b_P_mirror 43 = .ok (.iload_n 1, 1) := by decide +kernel
theorem dc_P_mirror_44 : decode b_P_mirror 44 = .ok (.aaload, 1) := by decide +kernel
theorem dc_P_mirror_45 : decode b_P_mirror 45 = .ok (.aload_n 0, 1) := by decide +kernel
theorem dc_P_mirror_46 : decode b_P_mirror 46 = .ok (.getfield 25, 3) := by decide +kernel
theorem dc_P_mirror_49 : decode b_P_mirror 49 = .ok (.invokevirtual 101, 3) := by decide +kernel
theorem dc_P_mirror_52 : decode b_P_mirror 52 = .ok (.iinc 1 1, 3) := by decide +kernel
theorem dc_P_mirror_55 : decode b_P_mirror 55 = .ok (.goto (-24), 3) := by decide +kernel
theorem dc_P_turnQuarter_0 : decode b_P_turnQuarter 0 = .ok (.iconst 0, 1) := by decide +kernel
theorem dc_P_turnQuarter_1 : decode b_P_turnQuarter 1 = .ok (.istore_n 1, 1) := by decide +kernel
theorem dc_P_turnQuarter_2 : decode b_P_turnQuarter 2 = .ok (.iload_n 1, 1) := by decide +kernel
theorem dc_P_turnQuarter_3 : decode b_P_turnQuarter 3 = .ok (.aload_n 0, 1) := by decide +kernel
theorem dc_P_turnQuarter_4 : decode b_P_turnQuarter 4 = .ok (.getfield 32, 3) := by decide +kernel
theorem dc_P_turnQuarter_7 : decode b_P_turnQuarter 7 = .ok (.if_icmp .ge 22, 3) := by decide +kernel
theorem dc_P_turnQuarter_29 : decode b_P_turnQuarter 29 = .ok (.iconst 0, 1) := by decide +kernel
theorem dc_P_turnQuarter_30 : decode b_P_turnQuarter 30 = .ok (.istore_n 1, 1) := by decide +kernel
theorem dc_P_turnQuarter_10 : decode b_P_turnQuarter 10 = .ok (.aload_n 0, 1) := by decide +kernel
theorem dc_P_turnQuarter_11 : decode b_P_turnQuarter 11 = .ok (.getfield 11, 3) := by decide +kernel
theorem dc_P_turnQuarter_14 : decode b_P_turnQuarter 14 = .ok (.iload_n 1, 1) := by decide +kernel
theorem dc_P_turnQuarter_15 : decode b_P_turnQuarter 15 = .ok (.aaload, 1) := by decide +kernel
theorem dc_P_turnQuarter_16 : decode b_P_turnQuarter 16 = .ok (.aload_n 0, 1) := by decide +kernel
theorem dc_P_turnQuarter_17 : decode b_P_turnQuarter 17 = .ok (.getfield 29, 3) := by decide +kernel
theorem dc_P_turnQuarter_20 : decode b_P_turnQuarter 20 = .ok (.invokevirtual 102, 3) := by decide +kernel
theorem dc_P_turnQuarter_23 : decode b_P_turnQuarter 23 = .ok (.iinc 1 1, 3) := by decide +kernel
theorem dc_P_turnQuarter_26 : decode b_P_turnQuarter 26 = .ok (.goto (-24), 3) := by decide +kernel
theorem dc_P_turnQuarter_31 : decode b_P_turnQuarter 31 = .ok (.iload_n 1, 1) := by decide +kernel
theorem dc_P_turnQuarter_32 : decode b_P_turnQuarter 32 = .ok (.aload_n 0, 1) := by decide +kernel
theorem dc_P_turnQuarter_33 : decode b_P_turnQuarter 33 = .ok (.getfield 35, 3) := by decide +kernel
theorem dc_P_turnQuarter_36 : decode b_P_turnQuarter 36 = .ok (.if_icmp .ge 22, 3) := by decide +kernel
theorem dc_P_turnQuarter_58 : decode b_P_turnQuarter 58 = .ok (.aload_n 0, 1) := by decide +kernel
theorem dc_P_turnQuarter_59 : decode b_P_turnQuarter 59 = .ok (.getfield 25, 3) := by decide +kernel
theorem dc_P_turnQuarter_62 : decode b_P_turnQuarter 62 = .ok (.istore_n 1, 1) := by decide +kernel
theorem dc_P_turnQuarter_63 : decode b_P_turnQuarter 63 = .ok (.aload_n 0, 1) := by decide +kernel
theorem dc_P_turnQuarter_64 : decode b_P_turnQuarter 64 = .ok (.aload_n 0, 1) := by decide +kernel
theorem dc_P_turnQuarter_65 : decode b_P_turnQuarter 65 = .ok (.getfield 29, 3) := by decide +kernel
theorem dc_P_turnQuarter_68 : decode b_P_turnQuarter 68 = .ok (.putfield 25, 3) := by decide +kernel
theorem dc_P_turnQuarter_71 : decode b_P_turnQuarter 71 = .ok (.aload_n 0, 1) := by decide +kernel
theorem dc_P_turnQuarter_72 : decode b_P_turnQuarter 72 = .ok (.iload_n 1, 1) := by decide +kernel
theorem dc_P_turnQuarter_73 : decode b_P_turnQuarter 73 = .ok (.putfield 29, 3) := by decide +kernel
theorem dc_P_turnQuarter_76 : decode b_P_turnQuarter 76 = .ok (.return_, 1) := by decide +kernel
theorem dc_P_turnQuarter_39 : decode b_P_turnQuarter 39 = .ok (.aload_n 0, 1) := by decide +kernel
theorem dc_P_turnQuarter_40 : decode b_P_turnQuarter 40 = .ok (.getfield 20, 3) := by decide +kernel
theorem dc_P_turnQuarter_43 : decode b_P_turnQuarter 43 = .ok (.iload_n 1, 1) := by decide +kernel
theorem dc_P_turnQuarter_44 : decode b_P_turnQuarter 44 = .ok (.aaload, 1) := by decide +kernel
theorem dc_P_turnQuarter_45 : decode b_P_turnQuarter 45 = .ok (.aload_n 0, 1) := by decide +kernel
theorem dc_P_turnQuarter_46 : decode b_P_turnQuarter 46 = .ok (.getfield 29, 3) := by decide +kernel
theorem dc_P_turnQuarter_49 : decode b_P_turnQuarter 49 = .ok (.invokevirtual 105, 3) := by decide +kernel
theorem dc_P_turnQuarter_52 : decode b_P_turnQuarter 52 = .ok (.iinc 1 1, 3) := by decide +kernel
theorem dc_P_turnQuarter_55 : decode b_P_turnQuarter 55 = .ok (.goto (-24), 3) := by decide +kernel
theorem dc_P_hasRoomFor_0 : decode b_P_hasRoomFor 0 = .ok (.aload_n 0, 1) := by decide +kernel
theorem dc_P_hasRoomFor_1 : decode b_P_hasRoomFor 1 = .ok (.iload_n 2, 1) := by decide +kernel
theorem dc_P_hasRoomFor_2 : decode b_P_hasRoomFor 2 = .ok (.invokevirtual 53, 3) := by decide +kernel
theorem dc_P_hasRoomFor_5 : decode b_P_hasRoomFor 5 = .ok (.aload_n 1, 1) := by decide +kernel
theorem dc_P_hasRoomFor_6 : decode b_P_hasRoomFor 6 = .ok (.iload_n 2, 1) := by decide +kernel
theorem dc_P_hasRoomFor_7 : decode b_P_hasRoomFor 7 = .ok (.invokevirtual 53, 3) := by decide +kernel
theorem dc_P_hasRoomFor_10 : decode b_P_hasRoomFor 10 = .ok (.iadd, 1) := by decide +kernel
theorem dc_P_hasRoomFor_11 : decode b_P_hasRoomFor 11 = .ok (.sipush 400, 3) := by decide +kernel
theorem dc_P_hasRoomFor_14 : decode b_P_hasRoomFor 14 = .ok (.if_icmp .gt 35, 3) := by decide +kernel
theorem dc_P_hasRoomFor_49 : decode b_P_hasRoomFor 49 = .ok (.iconst 0, 1) := by decide +kernel
theorem dc_P_hasRoomFor_50 : decode b_P_hasRoomFor 50 = .ok (.ireturn, 1) := by decide +kernel
theorem dc_P_hasRoomFor_17 : decode b_P_hasRoomFor 17 = .ok (.aload_n 0, 1) := by decide +kernel
theorem dc_P_hasRoomFor_18 : decode b_P_hasRoomFor 18 = .ok (.getfield 32, 3) := by decide +kernel
theorem dc_P_hasRoomFor_21 : decode b_P_hasRoomFor 21 = .ok (.aload_n 1, 1) := by decide +kernel
theorem dc_P_hasRoomFor_22 : decode b_P_hasRoomFor 22 = .ok (.getfield 32, 3) := by decide +kernel
theorem dc_P_hasRoomFor_25 : decode b_P_hasRoomFor 25 = .ok (.iadd, 1) := by decide +kernel
theorem dc_P_hasRoomFor_26 : decode b_P_hasRoomFor 26 = .ok (.bipush 40, 2) := by decide +kernel
theorem dc_P_hasRoomFor_28 : decode b_P_hasRoomFor 28 = .ok (.if_icmp .gt 21, 3) := by decide +kernel
theorem dc_P_hasRoomFor_31 : decode b_P_hasRoomFor 31 = .ok (.aload_n 0, 1) := by decide +kernel
theorem dc_P_hasRoomFor_32 : decode b_P_hasRoomFor 32 = .ok (.getfield 35, 3) := by decide +kernel
theorem dc_P_hasRoomFor_35 : decode b_P_hasRoomFor 35 = .ok (.aload_n 1, 1) := by decide +kernel
theorem dc_P_hasRoomFor_36 : decode b_P_hasRoomFor 36 = .ok (.getfield 35, 3) := by decide +kernel
theorem dc_P_hasRoomFor_39 : decode b_P_hasRoomFor 39 = .ok (.iadd, 1) := by decide +kernel
theorem dc_P_hasRoomFor_40 : decode b_P_hasRoomFor 40 = .ok (.bipush 20, 2) := by decide +kernel
theorem dc_P_hasRoomFor_42 : decode b_P_hasRoomFor 42 = .ok (.if_icmp .gt 7, 3) := by decide +kernel
theorem dc_P_hasRoomFor_45 : decode b_P_hasRoomFor 45 = .ok (.iconst 1, 1) := by decide +kernel
theorem dc_P_hasRoomFor_46 : decode b_P_hasRoomFor 46 = .ok (.goto 4, 3) := by decide +kernel
theorem dc_P_placeOfPart_0 : decode b_P_placeOfPart 0 = .ok (.bipush 8, 2) := by decide +kernel
theorem dc_P_placeOfPart_2 : decode b_P_placeOfPart 2 = .ok (.iconst 2, 1) := by decide +kernel
theorem dc_P_placeOfPart_3 : decode b_P_placeOfPart 3 = .ok (.aload_n 0, 1) := by decide +kernel
theorem dc_P_placeOfPart_4 : decode b_P_placeOfPart 4 = .ok (.getfield 32, 3) := by decide +kernel
theorem dc_P_placeOfPart_7 : decode b_P_placeOfPart 7 = .ok (.imul, 1) := by decide +kernel
theorem dc_P_placeOfPart_8 : decode b_P_placeOfPart 8 = .ok (.iadd, 1) := by decide +kernel
theorem dc_P_placeOfPart_9 : decode b_P_placeOfPart 9 = .ok (.iconst 5, 1) := by decide +kernel
theorem dc_P_placeOfPart_10 : decode b_P_placeOfPart 10 = .ok (.aload_n 0, 1) := by decide +kernel
theorem dc_P_placeOfPart_11 : decode b_P_placeOfPart 11 = .ok (.getfield 35, 3) := by decide +kernel
theorem dc_P_placeOfPart_14 : decode b_P_placeOfPart 14 = .ok (.imul, 1) := by decide +kernel
theorem dc_P_placeOfPart_15 : decode b_P_placeOfPart 15 = .ok (.iadd, 1) := by decide +kernel
theorem dc_P_placeOfPart_16 : decode b_P_placeOfPart 16 = .ok (.istore_n 2, 1) := by decide +kernel
theorem dc_P_placeOfPart_17 : decode b_P_placeOfPart 17 = .ok (.iconst 0, 1) := by decide +kernel
theorem dc_P_placeOfPart_18 : decode b_P_placeOfPart 18 = .ok (.istore_n 3, 1) := by decide +kernel
theorem dc_P_placeOfPart_19 : decode b_P_placeOfPart 19 = .ok (.iload_n 3, 1) := by decide +kernel
theorem dc_P_placeOfPart_20 : decode b_P_placeOfPart 20 = .ok (.aload_n 0, 1) := by decide +kernel
theorem dc_P_placeOfPart_21 : decode b_P_placeOfPart 21 = .ok (.getfield 32, 3) := by decide +kernel
theorem dc_P_placeOfPart_24 : decode b_P_placeOfPart 24 = .ok (.if_icmp .ge 34, 3) := by decide +kernel
theorem dc_P_placeOfPart_58 : decode b_P_placeOfPart 58 = .ok (.iload_n 2, 1) := by decide +kernel
theorem dc_P_placeOfPart_59 : decode b_P_placeOfPart 59 = .ok (.ireturn, 1) := by decide +kernel
theorem dc_P_placeOfPart_27 : decode b_P_placeOfPart 27 = .ok (.aload_n 0, 1) := by decide +kernel
theorem dc_P_placeOfPart_28 : decode b_P_placeOfPart 28 = .ok (.getfield 11, 3) := by decide +kernel
theorem dc_P_placeOfPart_31 : decode b_P_placeOfPart 31 = .ok (.iload_n 3, 1) := by decide +kernel
theorem dc_P_placeOfPart_32 : decode b_P_placeOfPart 32 = .ok (.aaload, 1) := by decide +kernel
theorem dc_P_placeOfPart_33 : decode b_P_placeOfPart 33 = .ok (.aload_n 1, 1) := by decide +kernel
theorem dc_P_placeOfPart_34 : decode b_P_placeOfPart 34 = .ok (.invokevirtual 106, 3) := by decide +kernel
theorem dc_P_placeOfPart_37 : decode b_P_placeOfPart 37 = .ok (.ifCond .eq 15, 3) := by decide +kernel
theorem dc_P_placeOfPart_40 : decode b_P_placeOfPart 40 = .ok (.iload_n 2, 1) := by decide +kernel
theorem dc_P_placeOfPart_41 : decode b_P_placeOfPart 41 = .ok (.aload_n 0, 1) := by decide +kernel
theorem dc_P_placeOfPart_42 : decode b_P_placeOfPart 42 = .ok (.getfield 11, 3) := by decide +kernel
theorem dc_P_placeOfPart_45 : decode b_P_placeOfPart 45 = .ok (.iload_n 3, 1) := by decide +kernel
theorem dc_P_placeOfPart_46 : decode b_P_placeOfPart 46 = .ok (.aaload, 1) := by decide +kernel
theorem dc_P_placeOfPart_47 : decode b_P_placeOfPart 47 = .ok (.invokevirtual 110, 3) := by decide +kernel
theorem dc_P_placeOfPart_50 : decode b_P_placeOfPart 50 = .ok (.iadd, 1) := by decide +kernel
theorem dc_P_placeOfPart_51 : decode b_P_placeOfPart 51 = .ok (.istore_n 2, 1) := by decide +kernel
theorem dc_P_placeOfPart_52 : decode b_P_placeOfPart 52 = .ok (.iinc 3 1, 3) := by decide +kernel
theorem dc_P_placeOfPart_55 : decode b_P_placeOfPart 55 = .ok (.goto (-36), 3) := by decide +kernel
theorem dc_P_nearestFit_0 : decode b_P_nearestFit 0 = .ok (.aload_n 0, 1) := by decide +kernel
theorem dc_P_nearestFit_1 : decode b_P_nearestFit 1 = .ok (.iload_n 1, 1) := by decide +kernel
theorem dc_P_nearestFit_2 : decode b_P_nearestFit 2 = .ok (.invokevirtual 53, 3) := by decide +kernel
theorem dc_P_nearestFit_5 : decode b_P_nearestFit 5 = .ok (.istore_n 3, 1) := by decide +kernel
theorem dc_P_nearestFit_6 : decode b_P_nearestFit 6 = .ok (.iconst 0, 1) := by decide +kernel
theorem dc_P_nearestFit_7 : decode b_P_nearestFit 7 = .ok (.istore 4, 2) := by decide +kernel
theorem dc_P_nearestFit_9 : decode b_P_nearestFit 9 = .ok (.iload 4, 2) := by decide +kernel
theorem dc_P_nearestFit_11 : decode b_P_nearestFit 11 = .ok (.iload_n 3, 1) := by decide +kernel
theorem dc_P_nearestFit_12 : decode b_P_nearestFit 12 = .ok (.if_icmp .gt 58, 3) := by decide +kernel
theorem dc_P_nearestFit_70 : decode b_P_nearestFit 70 = .ok (.iconst 0, 1) := by decide +kernel
theorem dc_P_nearestFit_71 : decode b_P_nearestFit 71 = .ok (.ireturn, 1) := by decide +kernel
theorem dc_P_nearestFit_15 : decode b_P_nearestFit 15 = .ok (.iload_n 2, 1) := by decide +kernel
theorem dc_P_nearestFit_16 : decode b_P_nearestFit 16 = .ok (.iload 4, 2) := by decide +kernel
theorem dc_P_nearestFit_18 : decode b_P_nearestFit 18 = .ok (.isub, 1) := by decide +kernel
theorem dc_P_nearestFit_19 : decode b_P_nearestFit 19 = .ok (.istore 5, 2) := by decide +kernel
theorem dc_P_nearestFit_21 : decode b_P_nearestFit 21 = .ok (.iload 5, 2) := by decide +kernel
theorem dc_P_nearestFit_23 : decode b_P_nearestFit 23 = .ok (.ifCond .lt 16, 3) := by decide +kernel
theorem dc_P_nearestFit_26 : decode b_P_nearestFit 26 = .ok (.aload_n 0, 1) := by decide +kernel
theorem dc_P_nearestFit_27 : decode b_P_nearestFit 27 = .ok (.iload_n 1, 1) := by decide +kernel
theorem dc_P_nearestFit_28 : decode b_P_nearestFit 28 = .ok (.iload 5, 2) := by decide +kernel
theorem dc_P_nearestFit_30 : decode b_P_nearestFit 30 = .ok (.invokevirtual 57, 3) := by decide +kernel
theorem dc_P_nearestFit_33 : decode b_P_nearestFit 33 = .ok (.ifCond .eq 6, 3) := by decide +kernel
theorem dc_P_nearestFit_36 : decode b_P_nearestFit 36 = .ok (.iload 5, 2) := by decide +kernel
theorem dc_P_nearestFit_38 : decode b_P_nearestFit 38 = .ok (.ireturn, 1) := by decide +kernel
theorem dc_P_nearestFit_39 : decode b_P_nearestFit 39 = .ok (.iload_n 2, 1) := by decide +kernel
theorem dc_P_nearestFit_40 : decode b_P_nearestFit 40 = .ok (.iload 4, 2) := by decide +kernel
theorem dc_P_nearestFit_42 : decode b_P_nearestFit 42 = .ok (.iadd, 1) := by decide +kernel
theorem dc_P_nearestFit_43 : decode b_P_nearestFit 43 = .ok (.istore 6, 2) := by decide +kernel
theorem dc_P_nearestFit_45 : decode b_P_nearestFit 45 = .ok (.iload 6, 2) := by decide +kernel
theorem dc_P_nearestFit_47 : decode b_P_nearestFit 47 = .ok (.iload_n 3, 1) := by decide +kernel
theorem dc_P_nearestFit_48 : decode b_P_nearestFit 48 = .ok (.if_icmp .gt 16, 3) := by decide +kernel
theorem dc_P_nearestFit_51 : decode b_P_nearestFit 51 = .ok (.aload_n 0, 1) := by decide +kernel
theorem dc_P_nearestFit_52 : decode b_P_nearestFit 52 = .ok (.iload_n 1, 1) := by decide +kernel
theorem dc_P_nearestFit_53 : decode b_P_nearestFit 53 = .ok (.iload 6, 2) := by decide +kernel
theorem dc_P_nearestFit_55 : decode b_P_nearestFit 55 = .ok (.invokevirtual 57, 3) := by decide +kernel
theorem dc_P_nearestFit_58 : decode b_P_nearestFit 58 = .ok (.ifCond .eq 6, 3) := by decide +kernel
theorem dc_P_nearestFit_61 : decode b_P_nearestFit 61 = .ok (.iload 6, 2) := by decide +kernel
theorem dc_P_nearestFit_63 : decode b_P_nearestFit 63 = .ok (.ireturn, 1) := by decide +kernel
theorem dc_P_nearestFit_64 : decode b_P_nearestFit 64 = .ok (.iinc 4 1, 3) := by decide +kernel
theorem dc_P_nearestFit_67 : decode b_P_nearestFit 67 = .ok (.goto (-58), 3) := by decide +kernel
theorem dc_P_cutTo_0 : decode b_P_cutTo 0 = .ok (.aload_n 0, 1) := by decide +kernel
theorem dc_P_cutTo_1 : decode b_P_cutTo 1 = .ok (.iload_n 1, 1) := by decide +kernel
theorem dc_P_cutTo_2 : decode b_P_cutTo 2 = .ok (.iload_n 2, 1) := by decide +kernel
theorem dc_P_cutTo_3 : decode b_P_cutTo 3 = .ok (.iload_n 1, 1) := by decide +kernel
theorem dc_P_cutTo_4 : decode b_P_cutTo 4 = .ok (.iload_n 3, 1) := by decide +kernel
theorem dc_P_cutTo_5 : decode b_P_cutTo 5 = .ok (.iadd, 1) := by decide +kernel
theorem dc_P_cutTo_6 : decode b_P_cutTo 6 = .ok (.iload_n 2, 1) := by decide +kernel
theorem dc_P_cutTo_7 : decode b_P_cutTo 7 = .ok (.iload 4, 2) := by decide +kernel
theorem dc_P_cutTo_9 : decode b_P_cutTo 9 = .ok (.iadd, 1) := by decide +kernel
theorem dc_P_cutTo_10 : decode b_P_cutTo 10 = .ok (.invokevirtual 60, 3) := by decide +kernel
theorem dc_P_cutTo_13 : decode b_P_cutTo 13 = .ok (.aload_n 0, 1) := by decide +kernel
theorem dc_P_cutTo_14 : decode b_P_cutTo 14 = .ok (.iload_n 1, 1) := by decide +kernel
theorem dc_P_cutTo_15 : decode b_P_cutTo 15 = .ok (.iload_n 2, 1) := by decide +kernel
theorem dc_P_cutTo_16 : decode b_P_cutTo 16 = .ok (.iload_n 1, 1) := by decide +kernel
theorem dc_P_cutTo_17 : decode b_P_cutTo 17 = .ok (.iload_n 3, 1) := by decide +kernel
theorem dc_P_cutTo_18 : decode b_P_cutTo 18 = .ok (.iadd, 1) := by decide +kernel
theorem dc_P_cutTo_19 : decode b_P_cutTo 19 = .ok (.iload_n 2, 1) := by decide +kernel
theorem dc_P_cutTo_20 : decode b_P_cutTo 20 = .ok (.iload 4, 2) := by decide +kernel
theorem dc_P_cutTo_22 : decode b_P_cutTo 22 = .ok (.iadd, 1) := by decide +kernel
theorem dc_P_cutTo_23 : decode b_P_cutTo 23 = .ok (.invokevirtual 63, 3) := by decide +kernel
theorem dc_P_cutTo_26 : decode b_P_cutTo 26 = .ok (.aload_n 0, 1) := by decide +kernel
theorem dc_P_cutTo_27 : decode b_P_cutTo 27 = .ok (.iload_n 1, 1) := by decide +kernel
theorem dc_P_cutTo_28 : decode b_P_cutTo 28 = .ok (.ineg, 1) := by decide +kernel
theorem dc_P_cutTo_29 : decode b_P_cutTo 29 = .ok (.iload_n 2, 1) := by decide +kernel
theorem dc_P_cutTo_30 : decode b_P_cutTo 30 = .ok (.ineg, 1) := by decide +kernel
theorem dc_P_cutTo_31 : decode b_P_cutTo 31 = .ok (.invokevirtual 66, 3) := by decide +kernel
theorem dc_P_cutTo_34 : decode b_P_cutTo 34 = .ok (.aload_n 0, 1) := by decide +kernel
theorem dc_P_cutTo_35 : decode b_P_cutTo 35 = .ok (.iload_n 3, 1) := by decide +kernel
theorem dc_P_cutTo_36 : decode b_P_cutTo 36 = .ok (.putfield 25, 3) := by decide +kernel
theorem dc_P_cutTo_39 : decode b_P_cutTo 39 = .ok (.aload_n 0, 1) := by decide +kernel
theorem dc_P_cutTo_40 : decode b_P_cutTo 40 = .ok (.iload 4, 2) := by decide +kernel
theorem dc_P_cutTo_42 : decode b_P_cutTo 42 = .ok (.putfield 29, 3) := by decide +kernel
theorem dc_P_cutTo_45 : decode b_P_cutTo 45 = .ok (.aload_n 0, 1) := by decide +kernel
theorem dc_P_cutTo_46 : decode b_P_cutTo 46 = .ok (.getfield 32, 3) := by decide +kernel
theorem dc_P_cutTo_49 : decode b_P_cutTo 49 = .ok (.ireturn, 1) := by decide +kernel
theorem dc_P_moveAlong_0 : decode b_P_moveAlong 0 = .ok (.aload_n 0, 1) := by decide +kernel
theorem dc_P_moveAlong_1 : decode b_P_moveAlong 1 = .ok (.iload_n 1, 1) := by decide +kernel
theorem dc_P_moveAlong_2 : decode b_P_moveAlong 2 = .ok (.ifCond .eq 7, 3) := by decide +kernel
theorem dc_P_moveAlong_9 : decode b_P_moveAlong 9 = .ok (.iconst 0, 1) := by decide +kernel
theorem dc_P_moveAlong_5 : decode b_P_moveAlong 5 = .ok (.iload_n 2, 1) := by decide +kernel
theorem dc_P_moveAlong_6 : decode b_P_moveAlong 6 = .ok (.goto 4, 3) := by decide +kernel
theorem dc_P_moveAlong_10 : decode b_P_moveAlong 10 = .ok (.iload_n 1, 1) := by decide +kernel
theorem dc_P_moveAlong_11 : decode b_P_moveAlong 11 = .ok (.ifCond .eq 7, 3) := by decide +kernel
theorem dc_P_moveAlong_18 : decode b_P_moveAlong 18 = .ok (.iload_n 2, 1) := by decide +kernel
theorem dc_P_moveAlong_14 : decode b_P_moveAlong 14 = .ok (.iconst 0, 1) := by decide +kernel
theorem dc_P_moveAlong_15 : decode b_P_moveAlong 15 = .ok (.goto 4, 3) := by decide +kernel
theorem dc_P_moveAlong_19 : decode b_P_moveAlong 19 = .ok (.invokevirtual 66, 3) := by decide +kernel
theorem dc_P_moveAlong_22 : decode b_P_moveAlong 22 = .ok (.return_, 1) := by decide +kernel
theorem dc_P_showBy_0 : decode b_P_showBy 0 = .ok (.iload_n 1, 1) := by decide +kernel
theorem dc_P_showBy_1 : decode b_P_showBy 1 = .ok (.invokestatic 76, 3) := by decide +kernel
theorem dc_P_showBy_4 : decode b_P_showBy 4 = .ok (.ifCond .eq 7, 3) := by decide +kernel
theorem dc_P_showBy_7 : decode b_P_showBy 7 = .ok (.aload_n 0, 1) := by decide +kernel
theorem dc_P_showBy_8 : decode b_P_showBy 8 = .ok (.invokevirtual 80, 3) := by decide +kernel
theorem dc_P_showBy_11 : decode b_P_showBy 11 = .ok (.iconst 0, 1) := by decide +kernel
theorem dc_P_showBy_12 : decode b_P_showBy 12 = .ok (.istore_n 2, 1) := by decide +kernel
theorem dc_P_showBy_13 : decode b_P_showBy 13 = .ok (.iload_n 2, 1) := by decide +kernel
theorem dc_P_showBy_14 : decode b_P_showBy 14 = .ok (.iload_n 1, 1) := by decide +kernel
theorem dc_P_showBy_15 : decode b_P_showBy 15 = .ok (.invokestatic 83, 3) := by decide +kernel
theorem dc_P_showBy_18 : decode b_P_showBy 18 = .ok (.if_icmp .ge 13, 3) := by decide +kernel
theorem dc_P_showBy_31 : decode b_P_showBy 31 = .ok (.iconst 0, 1) := by decide +kernel
theorem dc_P_showBy_32 : decode b_P_showBy 32 = .ok (.istore_n 2, 1) := by decide +kernel
theorem dc_P_showBy_21 : decode b_P_showBy 21 = .ok (.aload_n 0, 1) := by decide +kernel
theorem dc_P_showBy_22 : decode b_P_showBy 22 = .ok (.invokevirtual 87, 3) := by decide +kernel
theorem dc_P_showBy_25 : decode b_P_showBy 25 = .ok (.iinc 2 1, 3) := by decide +kernel
theorem dc_P_showBy_28 : decode b_P_showBy 28 = .ok (.goto (-15), 3) := by decide +kernel
theorem dc_P_showBy_33 : decode b_P_showBy 33 = .ok (.iload_n 2, 1) := by decide +kernel
theorem dc_P_showBy_34 : decode b_P_showBy 34 = .ok (.aload_n 0, 1) := by decide +kernel
theorem dc_P_showBy_35 : decode b_P_showBy 35 = .ok (.getfield 32, 3) := by decide +kernel
theorem dc_P_showBy_38 : decode b_P_showBy 38 = .ok (.if_icmp .ge 31, 3) := by decide +kernel
theorem dc_P_showBy_69 : decode b_P_showBy 69 = .ok (.return_, 1) := by decide +kernel
theorem dc_P_showBy_41 : decode b_P_showBy 41 = .ok (.aload_n 0, 1) := by decide +kernel
theorem dc_P_showBy_42 : decode b_P_showBy 42 = .ok (.getfield 11, 3) := by decide +kernel
theorem dc_P_showBy_45 : decode b_P_showBy 45 = .ok (.iload_n 2, 1) := by decide +kernel
theorem dc_P_showBy_46 : decode b_P_showBy 46 = .ok (.aaload, 1) := by decide +kernel
theorem dc_P_showBy_47 : decode b_P_showBy 47 = .ok (.aload_n 0, 1) := by decide +kernel
theorem dc_P_showBy_48 : decode b_P_showBy 48 = .ok (.getfield 11, 3) := by decide +kernel
theorem dc_P_showBy_51 : decode b_P_showBy 51 = .ok (.iload_n 2, 1) := by decide +kernel
theorem dc_P_showBy_52 : decode b_P_showBy 52 = .ok (.aaload, 1) := by decide +kernel
theorem dc_P_showBy_53 : decode b_P_showBy 53 = .ok (.getfield 90, 3) := by decide +kernel
theorem dc_P_showBy_56 : decode b_P_showBy 56 = .ok (.iload_n 1, 1) := by decide +kernel
theorem dc_P_showBy_57 : decode b_P_showBy 57 = .ok (.invokestatic 93, 3) := by decide +kernel
theorem dc_P_showBy_60 : decode b_P_showBy 60 = .ok (.putfield 90, 3) := by decide +kernel
theorem dc_P_showBy_63 : decode b_P_showBy 63 = .ok (.iinc 2 1, 3) := by decide +kernel
theorem dc_P_showBy_66 : decode b_P_showBy 66 = .ok (.goto (-33), 3) := by decide +kernel
def dw_P_putHead_0 : ByteArray := .mk #[0x2b, 0x10, 0x4c, 0xb6, 0x00, 0x72, 0x2b, 0x10, 0x46, 0xb6, 0x00, 0x72, 0x2b, 0x2a, 0xb4, 0x00, 0x19, 0xb6, 0x00, 0x77, 0x2b, 0x2a, 0xb4, 0x00, 0x1d, 0xb6, 0x00, 0x77, 0x2b, 0x2a]
theorem da_P_putHead_0 : dkA b_P_putHead dw_P_putHead_0 0 := by unfold dkA; decide +kernel
theorem dc_P_putHead_0 : decode b_P_putHead 0 = .ok (.aload_n 1, 1) := dk_row (s := 0) da_P_putHead_0 0 (by decide +kernel)
theorem dc_P_putHead_1 : decode b_P_putHead 1 = .ok (.bipush 76, 2) := dk_row (s := 0) da_P_putHead_0 1 (by decide +kernel)
theorem dc_P_putHead_3 : decode b_P_putHead 3 = .ok (.invokevirtual 114, 3) := dk_row (s := 0) da_P_putHead_0 3 (by decide +kernel)
theorem dc_P_putHead_6 : decode b_P_putHead 6 = .ok (.aload_n 1, 1) := dk_row (s := 0) da_P_putHead_0 6 (by decide +kernel)
theorem dc_P_putHead_7 : decode b_P_putHead 7 = .ok (.bipush 70, 2) := dk_row (s := 0) da_P_putHead_0 7 (by decide +kernel)
theorem dc_P_putHead_9 : decode b_P_putHead 9 = .ok (.invokevirtual 114, 3) := dk_row (s := 0) da_P_putHead_0 9 (by decide +kernel)
theorem dc_P_putHead_12 : decode b_P_putHead 12 = .ok (.aload_n 1, 1) := dk_row (s := 0) da_P_putHead_0 12 (by decide +kernel)
theorem dc_P_putHead_13 : decode b_P_putHead 13 = .ok (.aload_n 0, 1) := dk_row (s := 0) da_P_putHead_0 13 (by decide +kernel)
theorem dc_P_putHead_14 : decode b_P_putHead 14 = .ok (.getfield 25, 3) := dk_row (s := 0) da_P_putHead_0 14 (by decide +kernel)
theorem dc_P_putHead_17 : decode b_P_putHead 17 = .ok (.invokevirtual 119, 3) := dk_row (s := 0) da_P_putHead_0 17 (by decide +kernel)
theorem dc_P_putHead_20 : decode b_P_putHead 20 = .ok (.aload_n 1, 1) := dk_row (s := 0) da_P_putHead_0 20 (by decide +kernel)
theorem dc_P_putHead_21 : decode b_P_putHead 21 = .ok (.aload_n 0, 1) := dk_row (s := 0) da_P_putHead_0 21 (by decide +kernel)
theorem dc_P_putHead_22 : decode b_P_putHead 22 = .ok (.getfield 29, 3) := dk_row (s := 0) da_P_putHead_0 22 (by decide +kernel)
theorem dc_P_putHead_25 : decode b_P_putHead 25 = .ok (.invokevirtual 119, 3) := dk_row (s := 0) da_P_putHead_0 25 (by decide +kernel)
theorem dc_P_putHead_28 : decode b_P_putHead 28 = .ok (.aload_n 1, 1) := dk_row (s := 0) da_P_putHead_0 28 (by decide +kernel)
theorem dc_P_putHead_29 : decode b_P_putHead 29 = .ok (.aload_n 0, 1) := dk_row (s := 0) da_P_putHead_0 29 (by decide +kernel)
def dw_P_putHead_30 : ByteArray := .mk #[0xb4, 0x00, 0x20, 0xb6, 0x00, 0x72, 0x03, 0x3d, 0x1c, 0x2a, 0xb4, 0x00, 0x20, 0xa2, 0x00, 0x17]
theorem da_P_putHead_30 : dkA b_P_putHead dw_P_putHead_30 30 := by unfold dkA; decide +kernel
theorem dc_P_putHead_30 : decode b_P_putHead 30 = .ok (.getfield 32, 3) := dk_row (s := 30) da_P_putHead_30 0 (by decide +kernel)
theorem dc_P_putHead_33 : decode b_P_putHead 33 = .ok (.invokevirtual 114, 3) := dk_row (s := 30) da_P_putHead_30 3 (by decide +kernel)
theorem dc_P_putHead_36 : decode b_P_putHead 36 = .ok (.iconst 0, 1) := dk_row (s := 30) da_P_putHead_30 6 (by decide +kernel)
theorem dc_P_putHead_37 : decode b_P_putHead 37 = .ok (.istore_n 2, 1) := dk_row (s := 30) da_P_putHead_30 7 (by decide +kernel)
theorem dc_P_putHead_38 : decode b_P_putHead 38 = .ok (.iload_n 2, 1) := dk_row (s := 30) da_P_putHead_30 8 (by decide +kernel)
theorem dc_P_putHead_39 : decode b_P_putHead 39 = .ok (.aload_n 0, 1) := dk_row (s := 30) da_P_putHead_30 9 (by decide +kernel)
theorem dc_P_putHead_40 : decode b_P_putHead 40 = .ok (.getfield 32, 3) := dk_row (s := 30) da_P_putHead_30 10 (by decide +kernel)
theorem dc_P_putHead_43 : decode b_P_putHead 43 = .ok (.if_icmp .ge 23, 3) := dk_row (s := 30) da_P_putHead_30 13 (by decide +kernel)
def dw_P_putHead_66 : ByteArray := .mk #[0x2b, 0x2a, 0xb4, 0x00, 0x23, 0xb6, 0x00, 0x72, 0x03, 0x3d]
theorem da_P_putHead_66 : dkA b_P_putHead dw_P_putHead_66 66 := by unfold dkA; decide +kernel
theorem dc_P_putHead_66 : decode b_P_putHead 66 = .ok (.aload_n 1, 1) := dk_row (s := 66) da_P_putHead_66 0 (by decide +kernel)
theorem dc_P_putHead_67 : decode b_P_putHead 67 = .ok (.aload_n 0, 1) := dk_row (s := 66) da_P_putHead_66 1 (by decide +kernel)
theorem dc_P_putHead_68 : decode b_P_putHead 68 = .ok (.getfield 35, 3) := dk_row (s := 66) da_P_putHead_66 2 (by decide +kernel)
theorem dc_P_putHead_71 : decode b_P_putHead 71 = .ok (.invokevirtual 114, 3) := dk_row (s := 66) da_P_putHead_66 5 (by decide +kernel)
theorem dc_P_putHead_74 : decode b_P_putHead 74 = .ok (.iconst 0, 1) := dk_row (s := 66) da_P_putHead_66 8 (by decide +kernel)
theorem dc_P_putHead_75 : decode b_P_putHead 75 = .ok (.istore_n 2, 1) := dk_row (s := 66) da_P_putHead_66 9 (by decide +kernel)
def dw_P_putHead_46 : ByteArray := .mk #[0x2b, 0x2a, 0x2a, 0xb4, 0x00, 0x0b, 0x1c, 0x32, 0xb6, 0x00, 0x7a, 0xb6, 0x00, 0x77, 0x84, 0x02, 0x01, 0xa7, 0xff, 0xe7, 0x2b, 0x2a, 0xb4, 0x00, 0x23, 0xb6, 0x00, 0x72, 0x03, 0x3d, 0x1c, 0x2a]
theorem da_P_putHead_46 : dkA b_P_putHead dw_P_putHead_46 46 := by unfold dkA; decide +kernel
theorem dc_P_putHead_46 : decode b_P_putHead 46 = .ok (.aload_n 1, 1) := dk_row (s := 46) da_P_putHead_46 0 (by decide +kernel)
theorem dc_P_putHead_47 : decode b_P_putHead 47 = .ok (.aload_n 0, 1) := dk_row (s := 46) da_P_putHead_46 1 (by decide +kernel)
theorem dc_P_putHead_48 : decode b_P_putHead 48 = .ok (.aload_n 0, 1) := dk_row (s := 46) da_P_putHead_46 2 (by decide +kernel)
theorem dc_P_putHead_49 : decode b_P_putHead 49 = .ok (.getfield 11, 3) := dk_row (s := 46) da_P_putHead_46 3 (by decide +kernel)
theorem dc_P_putHead_52 : decode b_P_putHead 52 = .ok (.iload_n 2, 1) := dk_row (s := 46) da_P_putHead_46 6 (by decide +kernel)
theorem dc_P_putHead_53 : decode b_P_putHead 53 = .ok (.aaload, 1) := dk_row (s := 46) da_P_putHead_46 7 (by decide +kernel)
theorem dc_P_putHead_54 : decode b_P_putHead 54 = .ok (.invokevirtual 122, 3) := dk_row (s := 46) da_P_putHead_46 8 (by decide +kernel)
theorem dc_P_putHead_57 : decode b_P_putHead 57 = .ok (.invokevirtual 119, 3) := dk_row (s := 46) da_P_putHead_46 11 (by decide +kernel)
theorem dc_P_putHead_60 : decode b_P_putHead 60 = .ok (.iinc 2 1, 3) := dk_row (s := 46) da_P_putHead_46 14 (by decide +kernel)
theorem dc_P_putHead_63 : decode b_P_putHead 63 = .ok (.goto (-25), 3) := dk_row (s := 46) da_P_putHead_46 17 (by decide +kernel)
theorem dc_P_putHead_76 : decode b_P_putHead 76 = .ok (.iload_n 2, 1) := dk_row (s := 46) da_P_putHead_46 30 (by decide +kernel)
theorem dc_P_putHead_77 : decode b_P_putHead 77 = .ok (.aload_n 0, 1) := dk_row (s := 46) da_P_putHead_46 31 (by decide +kernel)
theorem dc_P_putHead_78 : decode b_P_putHead 78 = .ok (.getfield 35, 3) := by decide +kernel
theorem dc_P_putHead_81 : decode b_P_putHead 81 = .ok (.if_icmp .ge 48, 3) := by decide +kernel
theorem dc_P_putHead_129 : decode b_P_putHead 129 = .ok (.return_, 1) := by decide +kernel
def dw_P_putHead_84 : ByteArray := .mk #[0x2b, 0x2a, 0xb4, 0x00, 0x14, 0x1c, 0x32, 0xb4, 0x00, 0x7e, 0xb6, 0x00, 0x77, 0x2b, 0x2a, 0xb4, 0x00, 0x14, 0x1c, 0x32, 0xb4, 0x00, 0x81, 0xb6, 0x00, 0x77, 0x2b, 0x2a, 0xb4, 0x00, 0x14, 0x1c]
theorem da_P_putHead_84 : dkA b_P_putHead dw_P_putHead_84 84 := by unfold dkA; decide +kernel
theorem dc_P_putHead_84 : decode b_P_putHead 84 = .ok (.aload_n 1, 1) := dk_row (s := 84) da_P_putHead_84 0 (by decide +kernel)
theorem dc_P_putHead_85 : decode b_P_putHead 85 = .ok (.aload_n 0, 1) := dk_row (s := 84) da_P_putHead_84 1 (by decide +kernel)
theorem dc_P_putHead_86 : decode b_P_putHead 86 = .ok (.getfield 20, 3) := dk_row (s := 84) da_P_putHead_84 2 (by decide +kernel)
theorem dc_P_putHead_89 : decode b_P_putHead 89 = .ok (.iload_n 2, 1) := dk_row (s := 84) da_P_putHead_84 5 (by decide +kernel)
theorem dc_P_putHead_90 : decode b_P_putHead 90 = .ok (.aaload, 1) := dk_row (s := 84) da_P_putHead_84 6 (by decide +kernel)
theorem dc_P_putHead_91 : decode b_P_putHead 91 = .ok (.getfield 126, 3) := dk_row (s := 84) da_P_putHead_84 7 (by decide +kernel)
theorem dc_P_putHead_94 : decode b_P_putHead 94 = .ok (.invokevirtual 119, 3) := dk_row (s := 84) da_P_putHead_84 10 (by decide +kernel)
theorem dc_P_putHead_97 : decode b_P_putHead 97 = .ok (.aload_n 1, 1) := dk_row (s := 84) da_P_putHead_84 13 (by decide +kernel)
theorem dc_P_putHead_98 : decode b_P_putHead 98 = .ok (.aload_n 0, 1) := dk_row (s := 84) da_P_putHead_84 14 (by decide +kernel)
theorem dc_P_putHead_99 : decode b_P_putHead 99 = .ok (.getfield 20, 3) := dk_row (s := 84) da_P_putHead_84 15 (by decide +kernel)
theorem dc_P_putHead_102 : decode b_P_putHead 102 = .ok (.iload_n 2, 1) := dk_row (s := 84) da_P_putHead_84 18 (by decide +kernel)
theorem dc_P_putHead_103 : decode b_P_putHead 103 = .ok (.aaload, 1) := dk_row (s := 84) da_P_putHead_84 19 (by decide +kernel)
theorem dc_P_putHead_104 : decode b_P_putHead 104 = .ok (.getfield 129, 3) := dk_row (s := 84) da_P_putHead_84 20 (by decide +kernel)
theorem dc_P_putHead_107 : decode b_P_putHead 107 = .ok (.invokevirtual 119, 3) := dk_row (s := 84) da_P_putHead_84 23 (by decide +kernel)
theorem dc_P_putHead_110 : decode b_P_putHead 110 = .ok (.aload_n 1, 1) := dk_row (s := 84) da_P_putHead_84 26 (by decide +kernel)
theorem dc_P_putHead_111 : decode b_P_putHead 111 = .ok (.aload_n 0, 1) := dk_row (s := 84) da_P_putHead_84 27 (by decide +kernel)
theorem dc_P_putHead_112 : decode b_P_putHead 112 = .ok (.getfield 20, 3) := dk_row (s := 84) da_P_putHead_84 28 (by decide +kernel)
theorem dc_P_putHead_115 : decode b_P_putHead 115 = .ok (.iload_n 2, 1) := dk_row (s := 84) da_P_putHead_84 31 (by decide +kernel)
def dw_P_putHead_116 : ByteArray := .mk #[0x32, 0xb4, 0x00, 0x84, 0xb6, 0x00, 0x72, 0x84, 0x02, 0x01, 0xa7, 0xff, 0xce]
theorem da_P_putHead_116 : dkA b_P_putHead dw_P_putHead_116 116 := by unfold dkA; decide +kernel
theorem dc_P_putHead_116 : decode b_P_putHead 116 = .ok (.aaload, 1) := dk_row (s := 116) da_P_putHead_116 0 (by decide +kernel)
theorem dc_P_putHead_117 : decode b_P_putHead 117 = .ok (.getfield 132, 3) := dk_row (s := 116) da_P_putHead_116 1 (by decide +kernel)
theorem dc_P_putHead_120 : decode b_P_putHead 120 = .ok (.invokevirtual 114, 3) := dk_row (s := 116) da_P_putHead_116 4 (by decide +kernel)
theorem dc_P_putHead_123 : decode b_P_putHead 123 = .ok (.iinc 2 1, 3) := dk_row (s := 116) da_P_putHead_116 7 (by decide +kernel)
theorem dc_P_putHead_126 : decode b_P_putHead 126 = .ok (.goto (-50), 3) := dk_row (s := 116) da_P_putHead_116 10 (by decide +kernel)
theorem dc_S_putByte_0 : decode b_S_putByte 0 = .ok (.aload_n 0, 1) := by decide +kernel
theorem dc_S_putByte_1 : decode b_S_putByte 1 = .ok (.getfield 19, 3) := by decide +kernel
theorem dc_S_putByte_4 : decode b_S_putByte 4 = .ok (.ifCond .lt 15, 3) := by decide +kernel
theorem dc_S_putByte_19 : decode b_S_putByte 19 = .ok (.return_, 1) := by decide +kernel
theorem dc_S_putByte_7 : decode b_S_putByte 7 = .ok (.aload_n 0, 1) := by decide +kernel
theorem dc_S_putByte_8 : decode b_S_putByte 8 = .ok (.getfield 19, 3) := by decide +kernel
theorem dc_S_putByte_11 : decode b_S_putByte 11 = .ok (.aload_n 0, 1) := by decide +kernel
theorem dc_S_putByte_12 : decode b_S_putByte 12 = .ok (.getfield 9, 3) := by decide +kernel
theorem dc_S_putByte_15 : decode b_S_putByte 15 = .ok (.arraylength, 1) := by decide +kernel
theorem dc_S_putByte_16 : decode b_S_putByte 16 = .ok (.if_icmp .lt 4, 3) := by decide +kernel
theorem dc_S_putByte_20 : decode b_S_putByte 20 = .ok (.aload_n 0, 1) := by decide +kernel
theorem dc_S_putByte_21 : decode b_S_putByte 21 = .ok (.getfield 9, 3) := by decide +kernel
theorem dc_S_putByte_24 : decode b_S_putByte 24 = .ok (.aload_n 0, 1) := by decide +kernel
theorem dc_S_putByte_25 : decode b_S_putByte 25 = .ok (.getfield 19, 3) := by decide +kernel
theorem dc_S_putByte_28 : decode b_S_putByte 28 = .ok (.iload_n 1, 1) := by decide +kernel
theorem dc_S_putByte_29 : decode b_S_putByte 29 = .ok (.iastore, 1) := by decide +kernel
theorem dc_S_putByte_30 : decode b_S_putByte 30 = .ok (.aload_n 0, 1) := by decide +kernel
theorem dc_S_putByte_31 : decode b_S_putByte 31 = .ok (.dup, 1) := by decide +kernel
theorem dc_S_putByte_32 : decode b_S_putByte 32 = .ok (.getfield 19, 3) := by decide +kernel
theorem dc_S_putByte_35 : decode b_S_putByte 35 = .ok (.iconst 1, 1) := by decide +kernel
theorem dc_S_putByte_36 : decode b_S_putByte 36 = .ok (.iadd, 1) := by decide +kernel
theorem dc_S_putByte_37 : decode b_S_putByte 37 = .ok (.putfield 19, 3) := by decide +kernel
theorem dc_S_putByte_40 : decode b_S_putByte 40 = .ok (.aload_n 0, 1) := by decide +kernel
theorem dc_S_putByte_41 : decode b_S_putByte 41 = .ok (.aload_n 0, 1) := by decide +kernel
theorem dc_S_putByte_42 : decode b_S_putByte 42 = .ok (.getfield 15, 3) := by decide +kernel
theorem dc_S_putByte_45 : decode b_S_putByte 45 = .ok (.aload_n 0, 1) := by decide +kernel
theorem dc_S_putByte_46 : decode b_S_putByte 46 = .ok (.getfield 19, 3) := by decide +kernel
theorem dc_S_putByte_49 : decode b_S_putByte 49 = .ok (.invokestatic 22, 3) := by decide +kernel
theorem dc_S_putByte_52 : decode b_S_putByte 52 = .ok (.putfield 15, 3) := by decide +kernel
theorem dc_S_putByte_55 : decode b_S_putByte 55 = .ok (.return_, 1) := by decide +kernel
theorem dc_S_empty_0 : decode b_S_empty 0 = .ok (.aload_n 0, 1) := by decide +kernel
theorem dc_S_empty_1 : decode b_S_empty 1 = .ok (.iconst 0, 1) := by decide +kernel
theorem dc_S_empty_2 : decode b_S_empty 2 = .ok (.putfield 15, 3) := by decide +kernel
theorem dc_S_empty_5 : decode b_S_empty 5 = .ok (.aload_n 0, 1) := by decide +kernel
theorem dc_S_empty_6 : decode b_S_empty 6 = .ok (.iconst 0, 1) := by decide +kernel
theorem dc_S_empty_7 : decode b_S_empty 7 = .ok (.putfield 19, 3) := by decide +kernel
theorem dc_S_empty_10 : decode b_S_empty 10 = .ok (.return_, 1) := by decide +kernel
theorem dc_S_goTo_0 : decode b_S_goTo 0 = .ok (.aload_n 0, 1) := by decide +kernel
theorem dc_S_goTo_1 : decode b_S_goTo 1 = .ok (.iload_n 1, 1) := by decide +kernel
theorem dc_S_goTo_2 : decode b_S_goTo 2 = .ok (.putfield 19, 3) := by decide +kernel
theorem dc_S_goTo_5 : decode b_S_goTo 5 = .ok (.return_, 1) := by decide +kernel
theorem dc_S_sumFrom_0 : decode b_S_sumFrom 0 = .ok (.iconst 1, 1) := by decide +kernel
theorem dc_S_sumFrom_1 : decode b_S_sumFrom 1 = .ok (.istore_n 2, 1) := by decide +kernel
theorem dc_S_sumFrom_2 : decode b_S_sumFrom 2 = .ok (.iconst 0, 1) := by decide +kernel
theorem dc_S_sumFrom_3 : decode b_S_sumFrom 3 = .ok (.iload_n 1, 1) := by decide +kernel
theorem dc_S_sumFrom_4 : decode b_S_sumFrom 4 = .ok (.invokestatic 22, 3) := by decide +kernel
theorem dc_S_sumFrom_7 : decode b_S_sumFrom 7 = .ok (.istore_n 3, 1) := by decide +kernel
theorem dc_S_sumFrom_8 : decode b_S_sumFrom 8 = .ok (.iload_n 3, 1) := by decide +kernel
theorem dc_S_sumFrom_9 : decode b_S_sumFrom 9 = .ok (.aload_n 0, 1) := by decide +kernel
theorem dc_S_sumFrom_10 : decode b_S_sumFrom 10 = .ok (.getfield 19, 3) := by decide +kernel
theorem dc_S_sumFrom_13 : decode b_S_sumFrom 13 = .ok (.if_icmp .ge 33, 3) := by decide +kernel
theorem dc_S_sumFrom_46 : decode b_S_sumFrom 46 = .ok (.iload_n 2, 1) := by decide +kernel
theorem dc_S_sumFrom_47 : decode b_S_sumFrom 47 = .ok (.ireturn, 1) := by decide +kernel
theorem dc_S_sumFrom_16 : decode b_S_sumFrom 16 = .ok (.iload_n 3, 1) := by decide +kernel
theorem dc_S_sumFrom_17 : decode b_S_sumFrom 17 = .ok (.aload_n 0, 1) := by decide +kernel
theorem dc_S_sumFrom_18 : decode b_S_sumFrom 18 = .ok (.getfield 9, 3) := by decide +kernel
theorem dc_S_sumFrom_21 : decode b_S_sumFrom 21 = .ok (.arraylength, 1) := by decide +kernel
theorem dc_S_sumFrom_22 : decode b_S_sumFrom 22 = .ok (.if_icmp .ge 24, 3) := by decide +kernel
theorem dc_S_sumFrom_25 : decode b_S_sumFrom 25 = .ok (.iload_n 2, 1) := by decide +kernel
theorem dc_S_sumFrom_26 : decode b_S_sumFrom 26 = .ok (.bipush 31, 2) := by decide +kernel
theorem dc_S_sumFrom_28 : decode b_S_sumFrom 28 = .ok (.imul, 1) := by decide +kernel
theorem dc_S_sumFrom_29 : decode b_S_sumFrom 29 = .ok (.aload_n 0, 1) := by decide +kernel
theorem dc_S_sumFrom_30 : decode b_S_sumFrom 30 = .ok (.getfield 9, 3) := by decide +kernel
theorem dc_S_sumFrom_33 : decode b_S_sumFrom 33 = .ok (.iload_n 3, 1) := by decide +kernel
theorem dc_S_sumFrom_34 : decode b_S_sumFrom 34 = .ok (.iaload, 1) := by decide +kernel
theorem dc_S_sumFrom_35 : decode b_S_sumFrom 35 = .ok (.iadd, 1) := by decide +kernel
theorem dc_S_sumFrom_36 : decode b_S_sumFrom 36 = .ok (.ldc 32, 2) := by decide +kernel
theorem dc_S_sumFrom_38 : decode b_S_sumFrom 38 = .ok (.irem, 1) := by decide +kernel
theorem dc_S_sumFrom_39 : decode b_S_sumFrom 39 = .ok (.istore_n 2, 1) := by decide +kernel
theorem dc_S_sumFrom_40 : decode b_S_sumFrom 40 = .ok (.iinc 3 1, 3) := by decide +kernel
theorem dc_S_sumFrom_43 : decode b_S_sumFrom 43 = .ok (.goto (-35), 3) := by decide +kernel
theorem dc_S_putNumber_0 : decode b_S_putNumber 0 = .ok (.aload_n 0, 1) := by decide +kernel
theorem dc_S_putNumber_1 : decode b_S_putNumber 1 = .ok (.iload_n 1, 1) := by decide +kernel
theorem dc_S_putNumber_2 : decode b_S_putNumber 2 = .ok (.sipush 255, 3) := by decide +kernel
theorem dc_S_putNumber_5 : decode b_S_putNumber 5 = .ok (.iand, 1) := by decide +kernel
theorem dc_S_putNumber_6 : decode b_S_putNumber 6 = .ok (.invokevirtual 28, 3) := by decide +kernel
theorem dc_S_putNumber_9 : decode b_S_putNumber 9 = .ok (.aload_n 0, 1) := by decide +kernel
theorem dc_S_putNumber_10 : decode b_S_putNumber 10 = .ok (.iload_n 1, 1) := by decide +kernel
theorem dc_S_putNumber_11 : decode b_S_putNumber 11 = .ok (.bipush 8, 2) := by decide +kernel
theorem dc_S_putNumber_13 : decode b_S_putNumber 13 = .ok (.ishr, 1) := by decide +kernel
theorem dc_S_putNumber_14 : decode b_S_putNumber 14 = .ok (.sipush 255, 3) := by decide +kernel
theorem dc_S_putNumber_17 : decode b_S_putNumber 17 = .ok (.iand, 1) := by decide +kernel
theorem dc_S_putNumber_18 : decode b_S_putNumber 18 = .ok (.invokevirtual 28, 3) := by decide +kernel
theorem dc_S_putNumber_21 : decode b_S_putNumber 21 = .ok (.return_, 1) := by decide +kernel
theorem dc_T_overlaps_0 : decode b_T_overlaps 0 = .ok (.iload_n 1, 1) := by decide +kernel
theorem dc_T_overlaps_1 : decode b_T_overlaps 1 = .ok (.aload_n 0, 1) := by decide +kernel
theorem dc_T_overlaps_2 : decode b_T_overlaps 2 = .ok (.getfield 15, 3) := by decide +kernel
theorem dc_T_overlaps_5 : decode b_T_overlaps 5 = .ok (.aload_n 0, 1) := by decide +kernel
theorem dc_T_overlaps_6 : decode b_T_overlaps 6 = .ok (.getfield 22, 3) := by decide +kernel
theorem dc_T_overlaps_9 : decode b_T_overlaps 9 = .ok (.iadd, 1) := by decide +kernel
theorem dc_T_overlaps_10 : decode b_T_overlaps 10 = .ok (.if_icmp .ge 41, 3) := by decide +kernel
theorem dc_T_overlaps_51 : decode b_T_overlaps 51 = .ok (.iconst 0, 1) := by decide +kernel
theorem dc_T_overlaps_52 : decode b_T_overlaps 52 = .ok (.ireturn, 1) := by decide +kernel
theorem dc_T_overlaps_13 : decode b_T_overlaps 13 = .ok (.aload_n 0, 1) := by decide +kernel
theorem dc_T_overlaps_14 : decode b_T_overlaps 14 = .ok (.getfield 15, 3) := by decide +kernel
theorem dc_T_overlaps_17 : decode b_T_overlaps 17 = .ok (.iload_n 1, 1) := by decide +kernel
theorem dc_T_overlaps_18 : decode b_T_overlaps 18 = .ok (.iload_n 3, 1) := by decide +kernel
theorem dc_T_overlaps_19 : decode b_T_overlaps 19 = .ok (.iadd, 1) := by decide +kernel
theorem dc_T_overlaps_20 : decode b_T_overlaps 20 = .ok (.if_icmp .ge 31, 3) := by decide +kernel
theorem dc_T_overlaps_23 : decode b_T_overlaps 23 = .ok (.iload_n 2, 1) := by decide +kernel
theorem dc_T_overlaps_24 : decode b_T_overlaps 24 = .ok (.aload_n 0, 1) := by decide +kernel
theorem dc_T_overlaps_25 : decode b_T_overlaps 25 = .ok (.getfield 19, 3) := by decide +kernel
theorem dc_T_overlaps_28 : decode b_T_overlaps 28 = .ok (.aload_n 0, 1) := by decide +kernel
theorem dc_T_overlaps_29 : decode b_T_overlaps 29 = .ok (.getfield 25, 3) := by decide +kernel
theorem dc_T_overlaps_32 : decode b_T_overlaps 32 = .ok (.iadd, 1) := by decide +kernel
theorem dc_T_overlaps_33 : decode b_T_overlaps 33 = .ok (.if_icmp .ge 18, 3) := by decide +kernel
theorem dc_T_overlaps_36 : decode b_T_overlaps 36 = .ok (.aload_n 0, 1) := by decide +kernel
theorem dc_T_overlaps_37 : decode b_T_overlaps 37 = .ok (.getfield 19, 3) := by decide +kernel
theorem dc_T_overlaps_40 : decode b_T_overlaps 40 = .ok (.iload_n 2, 1) := by decide +kernel
theorem dc_T_overlaps_41 : decode b_T_overlaps 41 = .ok (.iload 4, 2) := by decide +kernel
theorem dc_T_overlaps_43 : decode b_T_overlaps 43 = .ok (.iadd, 1) := by decide +kernel
theorem dc_T_overlaps_44 : decode b_T_overlaps 44 = .ok (.if_icmp .ge 7, 3) := by decide +kernel
theorem dc_T_overlaps_47 : decode b_T_overlaps 47 = .ok (.iconst 1, 1) := by decide +kernel
theorem dc_T_overlaps_48 : decode b_T_overlaps 48 = .ok (.goto 4, 3) := by decide +kernel
theorem dc_T_startAnew_0 : decode b_T_startAnew 0 = .ok (.aload_n 0, 1) := by decide +kernel
theorem dc_T_startAnew_1 : decode b_T_startAnew 1 = .ok (.iload_n 1, 1) := by decide +kernel
theorem dc_T_startAnew_2 : decode b_T_startAnew 2 = .ok (.putfield 15, 3) := by decide +kernel
theorem dc_T_startAnew_5 : decode b_T_startAnew 5 = .ok (.aload_n 0, 1) := by decide +kernel
theorem dc_T_startAnew_6 : decode b_T_startAnew 6 = .ok (.iload_n 2, 1) := by decide +kernel
theorem dc_T_startAnew_7 : decode b_T_startAnew 7 = .ok (.putfield 19, 3) := by decide +kernel
theorem dc_T_startAnew_10 : decode b_T_startAnew 10 = .ok (.aload_n 0, 1) := by decide +kernel
theorem dc_T_startAnew_11 : decode b_T_startAnew 11 = .ok (.iload_n 3, 1) := by decide +kernel
theorem dc_T_startAnew_12 : decode b_T_startAnew 12 = .ok (.putfield 22, 3) := by decide +kernel
theorem dc_T_startAnew_15 : decode b_T_startAnew 15 = .ok (.aload_n 0, 1) := by decide +kernel
theorem dc_T_startAnew_16 : decode b_T_startAnew 16 = .ok (.iload 4, 2) := by decide +kernel
theorem dc_T_startAnew_18 : decode b_T_startAnew 18 = .ok (.putfield 25, 3) := by decide +kernel
theorem dc_T_startAnew_21 : decode b_T_startAnew 21 = .ok (.aload_n 0, 1) := by decide +kernel
theorem dc_T_startAnew_22 : decode b_T_startAnew 22 = .ok (.iconst 0, 1) := by decide +kernel
theorem dc_T_startAnew_23 : decode b_T_startAnew 23 = .ok (.putfield 28, 3) := by decide +kernel
theorem dc_T_startAnew_26 : decode b_T_startAnew 26 = .ok (.aload_n 0, 1) := by decide +kernel
theorem dc_T_startAnew_27 : decode b_T_startAnew 27 = .ok (.iconst 0, 1) := by decide +kernel
theorem dc_T_startAnew_28 : decode b_T_startAnew 28 = .ok (.putfield 31, 3) := by decide +kernel
theorem dc_T_startAnew_31 : decode b_T_startAnew 31 = .ok (.return_, 1) := by decide +kernel
theorem dc_T_crosses_0 : decode b_T_crosses 0 = .ok (.iload_n 1, 1) := by decide +kernel
theorem dc_T_crosses_1 : decode b_T_crosses 1 = .ok (.ifCond .eq 10, 3) := by decide +kernel
theorem dc_T_crosses_11 : decode b_T_crosses 11 = .ok (.aload_n 0, 1) := by decide +kernel
theorem dc_T_crosses_12 : decode b_T_crosses 12 = .ok (.getfield 19, 3) := by decide +kernel
theorem dc_T_crosses_4 : decode b_T_crosses 4 = .ok (.aload_n 0, 1) := by decide +kernel
theorem dc_T_crosses_5 : decode b_T_crosses 5 = .ok (.getfield 15, 3) := by decide +kernel
theorem dc_T_crosses_8 : decode b_T_crosses 8 = .ok (.goto 7, 3) := by decide +kernel
theorem dc_T_crosses_15 : decode b_T_crosses 15 = .ok (.istore_n 3, 1) := by decide +kernel
theorem dc_T_crosses_16 : decode b_T_crosses 16 = .ok (.iload_n 1, 1) := by decide +kernel
theorem dc_T_crosses_17 : decode b_T_crosses 17 = .ok (.ifCond .eq 10, 3) := by decide +kernel
theorem dc_T_crosses_27 : decode b_T_crosses 27 = .ok (.aload_n 0, 1) := by decide +kernel
theorem dc_T_crosses_28 : decode b_T_crosses 28 = .ok (.getfield 25, 3) := by decide +kernel
theorem dc_T_crosses_20 : decode b_T_crosses 20 = .ok (.aload_n 0, 1) := by decide +kernel
theorem dc_T_crosses_21 : decode b_T_crosses 21 = .ok (.getfield 22, 3) := by decide +kernel
theorem dc_T_crosses_24 : decode b_T_crosses 24 = .ok (.goto 7, 3) := by decide +kernel
theorem dc_T_crosses_31 : decode b_T_crosses 31 = .ok (.istore 4, 2) := by decide +kernel
theorem dc_T_crosses_33 : decode b_T_crosses 33 = .ok (.iload_n 3, 1) := by decide +kernel
theorem dc_T_crosses_34 : decode b_T_crosses 34 = .ok (.iload_n 2, 1) := by decide +kernel
theorem dc_T_crosses_35 : decode b_T_crosses 35 = .ok (.if_icmp .ge 15, 3) := by decide +kernel
theorem dc_T_crosses_50 : decode b_T_crosses 50 = .ok (.iconst 0, 1) := by decide +kernel
theorem dc_T_crosses_51 : decode b_T_crosses 51 = .ok (.ireturn, 1) := by decide +kernel
theorem dc_T_crosses_38 : decode b_T_crosses 38 = .ok (.iload_n 2, 1) := by decide +kernel
theorem dc_T_crosses_39 : decode b_T_crosses 39 = .ok (.iload_n 3, 1) := by decide +kernel
theorem dc_T_crosses_40 : decode b_T_crosses 40 = .ok (.iload 4, 2) := by decide +kernel
theorem dc_T_crosses_42 : decode b_T_crosses 42 = .ok (.iadd, 1) := by decide +kernel
theorem dc_T_crosses_43 : decode b_T_crosses 43 = .ok (.if_icmp .ge 7, 3) := by decide +kernel
theorem dc_T_crosses_46 : decode b_T_crosses 46 = .ok (.iconst 1, 1) := by decide +kernel
theorem dc_T_crosses_47 : decode b_T_crosses 47 = .ok (.goto 4, 3) := by decide +kernel
theorem dc_T_isWithin_0 : decode b_T_isWithin 0 = .ok (.aload_n 0, 1) := by decide +kernel
theorem dc_T_isWithin_1 : decode b_T_isWithin 1 = .ok (.getfield 15, 3) := by decide +kernel
theorem dc_T_isWithin_4 : decode b_T_isWithin 4 = .ok (.iload_n 1, 1) := by decide +kernel
theorem dc_T_isWithin_5 : decode b_T_isWithin 5 = .ok (.if_icmp .lt 42, 3) := by decide +kernel
theorem dc_T_isWithin_47 : decode b_T_isWithin 47 = .ok (.iconst 0, 1) := by decide +kernel
theorem dc_T_isWithin_48 : decode b_T_isWithin 48 = .ok (.ireturn, 1) := by decide +kernel
theorem dc_T_isWithin_8 : decode b_T_isWithin 8 = .ok (.aload_n 0, 1) := by decide +kernel
theorem dc_T_isWithin_9 : decode b_T_isWithin 9 = .ok (.getfield 19, 3) := by decide +kernel
theorem dc_T_isWithin_12 : decode b_T_isWithin 12 = .ok (.iload_n 2, 1) := by decide +kernel
theorem dc_T_isWithin_13 : decode b_T_isWithin 13 = .ok (.if_icmp .lt 34, 3) := by decide +kernel
theorem dc_T_isWithin_16 : decode b_T_isWithin 16 = .ok (.aload_n 0, 1) := by decide +kernel
theorem dc_T_isWithin_17 : decode b_T_isWithin 17 = .ok (.getfield 15, 3) := by decide +kernel
theorem dc_T_isWithin_20 : decode b_T_isWithin 20 = .ok (.aload_n 0, 1) := by decide +kernel
theorem dc_T_isWithin_21 : decode b_T_isWithin 21 = .ok (.getfield 22, 3) := by decide +kernel
theorem dc_T_isWithin_24 : decode b_T_isWithin 24 = .ok (.iadd, 1) := by decide +kernel
theorem dc_T_isWithin_25 : decode b_T_isWithin 25 = .ok (.iload_n 3, 1) := by decide +kernel
theorem dc_T_isWithin_26 : decode b_T_isWithin 26 = .ok (.if_icmp .gt 21, 3) := by decide +kernel
theorem dc_T_isWithin_29 : decode b_T_isWithin 29 = .ok (.aload_n 0, 1) := by decide +kernel
theorem dc_T_isWithin_30 : decode b_T_isWithin 30 = .ok (.getfield 19, 3) := by decide +kernel
theorem dc_T_isWithin_33 : decode b_T_isWithin 33 = .ok (.aload_n 0, 1) := by decide +kernel
theorem dc_T_isWithin_34 : decode b_T_isWithin 34 = .ok (.getfield 25, 3) := by decide +kernel
theorem dc_T_isWithin_37 : decode b_T_isWithin 37 = .ok (.iadd, 1) := by decide +kernel
theorem dc_T_isWithin_38 : decode b_T_isWithin 38 = .ok (.iload 4, 2) := by decide +kernel
theorem dc_T_isWithin_40 : decode b_T_isWithin 40 = .ok (.if_icmp .gt 7, 3) := by decide +kernel
theorem dc_T_isWithin_43 : decode b_T_isWithin 43 = .ok (.iconst 1, 1) := by decide +kernel
theorem dc_T_isWithin_44 : decode b_T_isWithin 44 = .ok (.goto 4, 3) := by decide +kernel
theorem dc_T_moveBy_0 : decode b_T_moveBy 0 = .ok (.aload_n 0, 1) := by decide +kernel
theorem dc_T_moveBy_1 : decode b_T_moveBy 1 = .ok (.dup, 1) := by decide +kernel
theorem dc_T_moveBy_2 : decode b_T_moveBy 2 = .ok (.getfield 15, 3) := by decide +kernel
theorem dc_T_moveBy_5 : decode b_T_moveBy 5 = .ok (.iload_n 1, 1) := by decide +kernel
theorem dc_T_moveBy_6 : decode b_T_moveBy 6 = .ok (.iadd, 1) := by decide +kernel
theorem dc_T_moveBy_7 : decode b_T_moveBy 7 = .ok (.putfield 15, 3) := by decide +kernel
theorem dc_T_moveBy_10 : decode b_T_moveBy 10 = .ok (.aload_n 0, 1) := by decide +kernel
theorem dc_T_moveBy_11 : decode b_T_moveBy 11 = .ok (.dup, 1) := by decide +kernel
theorem dc_T_moveBy_12 : decode b_T_moveBy 12 = .ok (.getfield 19, 3) := by decide +kernel
theorem dc_T_moveBy_15 : decode b_T_moveBy 15 = .ok (.iload_n 2, 1) := by decide +kernel
theorem dc_T_moveBy_16 : decode b_T_moveBy 16 = .ok (.iadd, 1) := by decide +kernel
theorem dc_T_moveBy_17 : decode b_T_moveBy 17 = .ok (.putfield 19, 3) := by decide +kernel
theorem dc_T_moveBy_20 : decode b_T_moveBy 20 = .ok (.return_, 1) := by decide +kernel
theorem dc_T_mirrorIn_0 : decode b_T_mirrorIn 0 = .ok (.aload_n 0, 1) := by decide +kernel
theorem dc_T_mirrorIn_1 : decode b_T_mirrorIn 1 = .ok (.iload_n 1, 1) := by decide +kernel
theorem dc_T_mirrorIn_2 : decode b_T_mirrorIn 2 = .ok (.aload_n 0, 1) := by decide +kernel
theorem dc_T_mirrorIn_3 : decode b_T_mirrorIn 3 = .ok (.getfield 15, 3) := by decide +kernel
theorem dc_T_mirrorIn_6 : decode b_T_mirrorIn 6 = .ok (.isub, 1) := by decide +kernel
theorem dc_T_mirrorIn_7 : decode b_T_mirrorIn 7 = .ok (.aload_n 0, 1) := by decide +kernel
theorem dc_T_mirrorIn_8 : decode b_T_mirrorIn 8 = .ok (.getfield 22, 3) := by decide +kernel
theorem dc_T_mirrorIn_11 : decode b_T_mirrorIn 11 = .ok (.isub, 1) := by decide +kernel
theorem dc_T_mirrorIn_12 : decode b_T_mirrorIn 12 = .ok (.putfield 15, 3) := by decide +kernel
theorem dc_T_mirrorIn_15 : decode b_T_mirrorIn 15 = .ok (.return_, 1) := by decide +kernel
theorem dc_T_quarterIn_0 : decode b_T_quarterIn 0 = .ok (.iload_n 1, 1) := by decide +kernel
theorem dc_T_quarterIn_1 : decode b_T_quarterIn 1 = .ok (.aload_n 0, 1) := by decide +kernel
theorem dc_T_quarterIn_2 : decode b_T_quarterIn 2 = .ok (.getfield 19, 3) := by decide +kernel
theorem dc_T_quarterIn_5 : decode b_T_quarterIn 5 = .ok (.isub, 1) := by decide +kernel
theorem dc_T_quarterIn_6 : decode b_T_quarterIn 6 = .ok (.aload_n 0, 1) := by decide +kernel
theorem dc_T_quarterIn_7 : decode b_T_quarterIn 7 = .ok (.getfield 25, 3) := by decide +kernel
theorem dc_T_quarterIn_10 : decode b_T_quarterIn 10 = .ok (.isub, 1) := by decide +kernel
theorem dc_T_quarterIn_11 : decode b_T_quarterIn 11 = .ok (.istore_n 2, 1) := by decide +kernel
theorem dc_T_quarterIn_12 : decode b_T_quarterIn 12 = .ok (.aload_n 0, 1) := by decide +kernel
theorem dc_T_quarterIn_13 : decode b_T_quarterIn 13 = .ok (.aload_n 0, 1) := by decide +kernel
theorem dc_T_quarterIn_14 : decode b_T_quarterIn 14 = .ok (.getfield 15, 3) := by decide +kernel
theorem dc_T_quarterIn_17 : decode b_T_quarterIn 17 = .ok (.putfield 19, 3) := by decide +kernel
theorem dc_T_quarterIn_20 : decode b_T_quarterIn 20 = .ok (.aload_n 0, 1) := by decide +kernel
theorem dc_T_quarterIn_21 : decode b_T_quarterIn 21 = .ok (.iload_n 2, 1) := by decide +kernel
theorem dc_T_quarterIn_22 : decode b_T_quarterIn 22 = .ok (.putfield 15, 3) := by decide +kernel
theorem dc_T_quarterIn_25 : decode b_T_quarterIn 25 = .ok (.aload_n 0, 1) := by decide +kernel
theorem dc_T_quarterIn_26 : decode b_T_quarterIn 26 = .ok (.getfield 22, 3) := by decide +kernel
theorem dc_T_quarterIn_29 : decode b_T_quarterIn 29 = .ok (.istore_n 3, 1) := by decide +kernel
theorem dc_T_quarterIn_30 : decode b_T_quarterIn 30 = .ok (.aload_n 0, 1) := by decide +kernel
theorem dc_T_quarterIn_31 : decode b_T_quarterIn 31 = .ok (.aload_n 0, 1) := by decide +kernel
theorem dc_T_quarterIn_32 : decode b_T_quarterIn 32 = .ok (.getfield 25, 3) := by decide +kernel
theorem dc_T_quarterIn_35 : decode b_T_quarterIn 35 = .ok (.putfield 22, 3) := by decide +kernel
theorem dc_T_quarterIn_38 : decode b_T_quarterIn 38 = .ok (.aload_n 0, 1) := by decide +kernel
theorem dc_T_quarterIn_39 : decode b_T_quarterIn 39 = .ok (.iload_n 3, 1) := by decide +kernel
theorem dc_T_quarterIn_40 : decode b_T_quarterIn 40 = .ok (.putfield 25, 3) := by decide +kernel
theorem dc_T_quarterIn_43 : decode b_T_quarterIn 43 = .ok (.return_, 1) := by decide +kernel
theorem dc_T_partComesBefore_0 : decode b_T_partComesBefore 0 = .ok (.aload_n 0, 1) := by decide +kernel
theorem dc_T_partComesBefore_1 : decode b_T_partComesBefore 1 = .ok (.getfield 19, 3) := by decide +kernel
theorem dc_T_partComesBefore_4 : decode b_T_partComesBefore 4 = .ok (.aload_n 1, 1) := by decide +kernel
theorem dc_T_partComesBefore_5 : decode b_T_partComesBefore 5 = .ok (.getfield 19, 3) := by decide +kernel
theorem dc_T_partComesBefore_8 : decode b_T_partComesBefore 8 = .ok (.if_icmp .lt 25, 3) := by decide +kernel
theorem dc_T_partComesBefore_11 : decode b_T_partComesBefore 11 = .ok (.aload_n 0, 1) := by decide +kernel
theorem dc_T_partComesBefore_12 : decode b_T_partComesBefore 12 = .ok (.getfield 19, 3) := by decide +kernel
theorem dc_T_partComesBefore_15 : decode b_T_partComesBefore 15 = .ok (.aload_n 1, 1) := by decide +kernel
theorem dc_T_partComesBefore_16 : decode b_T_partComesBefore 16 = .ok (.getfield 19, 3) := by decide +kernel
theorem dc_T_partComesBefore_19 : decode b_T_partComesBefore 19 = .ok (.if_icmp .ne 18, 3) := by decide +kernel
theorem dc_T_partComesBefore_37 : decode b_T_partComesBefore 37 = .ok (.iconst 0, 1) := by decide +kernel
theorem dc_T_partComesBefore_38 : decode b_T_partComesBefore 38 = .ok (.ireturn, 1) := by decide +kernel
theorem dc_T_partComesBefore_22 : decode b_T_partComesBefore 22 = .ok (.aload_n 0, 1) := by decide +kernel
theorem dc_T_partComesBefore_23 : decode b_T_partComesBefore 23 = .ok (.getfield 15, 3) := by decide +kernel
theorem dc_T_partComesBefore_26 : decode b_T_partComesBefore 26 = .ok (.aload_n 1, 1) := by decide +kernel
theorem dc_T_partComesBefore_27 : decode b_T_partComesBefore 27 = .ok (.getfield 15, 3) := by decide +kernel
theorem dc_T_partComesBefore_30 : decode b_T_partComesBefore 30 = .ok (.if_icmp .ge 7, 3) := by decide +kernel
theorem dc_T_partComesBefore_33 : decode b_T_partComesBefore 33 = .ok (.iconst 1, 1) := by decide +kernel
theorem dc_T_partComesBefore_34 : decode b_T_partComesBefore 34 = .ok (.goto 4, 3) := by decide +kernel
theorem dc_T_partLength_0 : decode b_T_partLength 0 = .ok (.bipush 12, 2) := by decide +kernel
theorem dc_T_partLength_2 : decode b_T_partLength 2 = .ok (.aload_n 0, 1) := by decide +kernel
theorem dc_T_partLength_3 : decode b_T_partLength 3 = .ok (.getfield 31, 3) := by decide +kernel
theorem dc_T_partLength_6 : decode b_T_partLength 6 = .ok (.iadd, 1) := by decide +kernel
theorem dc_T_partLength_7 : decode b_T_partLength 7 = .ok (.ireturn, 1) := by decide +kernel
theorem dc_T_addByte_0 : decode b_T_addByte 0 = .ok (.aload_n 0, 1) := by decide +kernel
theorem dc_T_addByte_1 : decode b_T_addByte 1 = .ok (.getfield 31, 3) := by decide +kernel
theorem dc_T_addByte_4 : decode b_T_addByte 4 = .ok (.aload_n 0, 1) := by decide +kernel
theorem dc_T_addByte_5 : decode b_T_addByte 5 = .ok (.getfield 9, 3) := by decide +kernel
theorem dc_T_addByte_8 : decode b_T_addByte 8 = .ok (.arraylength, 1) := by decide +kernel
theorem dc_T_addByte_9 : decode b_T_addByte 9 = .ok (.if_icmp .ge 23, 3) := by decide +kernel
theorem dc_T_addByte_32 : decode b_T_addByte 32 = .ok (.aload_n 0, 1) := by decide +kernel
theorem dc_T_addByte_33 : decode b_T_addByte 33 = .ok (.getfield 31, 3) := by decide +kernel
theorem dc_T_addByte_36 : decode b_T_addByte 36 = .ok (.ireturn, 1) := by decide +kernel
theorem dc_T_addByte_12 : decode b_T_addByte 12 = .ok (.aload_n 0, 1) := by decide +kernel
theorem dc_T_addByte_13 : decode b_T_addByte 13 = .ok (.getfield 9, 3) := by decide +kernel
theorem dc_T_addByte_16 : decode b_T_addByte 16 = .ok (.aload_n 0, 1) := by decide +kernel
theorem dc_T_addByte_17 : decode b_T_addByte 17 = .ok (.getfield 31, 3) := by decide +kernel
theorem dc_T_addByte_20 : decode b_T_addByte 20 = .ok (.iload_n 1, 1) := by decide +kernel
theorem dc_T_addByte_21 : decode b_T_addByte 21 = .ok (.iastore, 1) := by decide +kernel
theorem dc_T_addByte_22 : decode b_T_addByte 22 = .ok (.aload_n 0, 1) := by decide +kernel
theorem dc_T_addByte_23 : decode b_T_addByte 23 = .ok (.dup, 1) := by decide +kernel
theorem dc_T_addByte_24 : decode b_T_addByte 24 = .ok (.getfield 31, 3) := by decide +kernel
theorem dc_T_addByte_27 : decode b_T_addByte 27 = .ok (.iconst 1, 1) := by decide +kernel
theorem dc_T_addByte_28 : decode b_T_addByte 28 = .ok (.iadd, 1) := by decide +kernel
theorem dc_T_addByte_29 : decode b_T_addByte 29 = .ok (.putfield 31, 3) := by decide +kernel
theorem dc_T_liesOnItsSide_0 : decode b_T_liesOnItsSide 0 = .ok (.aload_n 0, 1) := by decide +kernel
theorem dc_T_liesOnItsSide_1 : decode b_T_liesOnItsSide 1 = .ok (.getfield 28, 3) := by decide +kernel
theorem dc_T_liesOnItsSide_4 : decode b_T_liesOnItsSide 4 = .ok (.invokestatic 34, 3) := by decide +kernel
theorem dc_T_liesOnItsSide_7 : decode b_T_liesOnItsSide 7 = .ok (.iconst 1, 1) := by decide +kernel
theorem dc_T_liesOnItsSide_8 : decode b_T_liesOnItsSide 8 = .ok (.iand, 1) := by decide +kernel
theorem dc_T_liesOnItsSide_9 : decode b_T_liesOnItsSide 9 = .ok (.iconst 1, 1) := by decide +kernel
theorem dc_T_liesOnItsSide_10 : decode b_T_liesOnItsSide 10 = .ok (.if_icmp .ne 7, 3) := by decide +kernel
theorem dc_T_liesOnItsSide_17 : decode b_T_liesOnItsSide 17 = .ok (.iconst 0, 1) := by decide +kernel
theorem dc_T_liesOnItsSide_18 : decode b_T_liesOnItsSide 18 = .ok (.ireturn, 1) := by decide +kernel
theorem dc_T_liesOnItsSide_13 : decode b_T_liesOnItsSide 13 = .ok (.iconst 1, 1) := by decide +kernel
theorem dc_T_liesOnItsSide_14 : decode b_T_liesOnItsSide 14 = .ok (.goto 4, 3) := by decide +kernel
def dw_T_ownSample_0 : ByteArray := .mk #[0x1b, 0x2a, 0xb4, 0x00, 0x0f, 0x64, 0x3e, 0x1c, 0x2a, 0xb4, 0x00, 0x13, 0x64, 0x36, 0x04, 0x2a, 0xb4, 0x00, 0x16, 0x36, 0x05, 0x2a, 0xb4, 0x00, 0x19, 0x36, 0x06, 0x03, 0x36, 0x07, 0x15, 0x07]
theorem da_T_ownSample_0 : dkA b_T_ownSample dw_T_ownSample_0 0 := by unfold dkA; decide +kernel
theorem dc_T_ownSample_0 : decode b_T_ownSample 0 = .ok (.iload_n 1, 1) := dk_row (s := 0) da_T_ownSample_0 0 (by decide +kernel)
theorem dc_T_ownSample_1 : decode b_T_ownSample 1 = .ok (.aload_n 0, 1) := dk_row (s := 0) da_T_ownSample_0 1 (by decide +kernel)
theorem dc_T_ownSample_2 : decode b_T_ownSample 2 = .ok (.getfield 15, 3) := dk_row (s := 0) da_T_ownSample_0 2 (by decide +kernel)
theorem dc_T_ownSample_5 : decode b_T_ownSample 5 = .ok (.isub, 1) := dk_row (s := 0) da_T_ownSample_0 5 (by decide +kernel)
theorem dc_T_ownSample_6 : decode b_T_ownSample 6 = .ok (.istore_n 3, 1) := dk_row (s := 0) da_T_ownSample_0 6 (by decide +kernel)
theorem dc_T_ownSample_7 : decode b_T_ownSample 7 = .ok (.iload_n 2, 1) := dk_row (s := 0) da_T_ownSample_0 7 (by decide +kernel)
theorem dc_T_ownSample_8 : decode b_T_ownSample 8 = .ok (.aload_n 0, 1) := dk_row (s := 0) da_T_ownSample_0 8 (by decide +kernel)
theorem dc_T_ownSample_9 : decode b_T_ownSample 9 = .ok (.getfield 19, 3) := dk_row (s := 0) da_T_ownSample_0 9 (by decide +kernel)
theorem dc_T_ownSample_12 : decode b_T_ownSample 12 = .ok (.isub, 1) := dk_row (s := 0) da_T_ownSample_0 12 (by decide +kernel)
theorem dc_T_ownSample_13 : decode b_T_ownSample 13 = .ok (.istore 4, 2) := dk_row (s := 0) da_T_ownSample_0 13 (by decide +kernel)
theorem dc_T_ownSample_15 : decode b_T_ownSample 15 = .ok (.aload_n 0, 1) := dk_row (s := 0) da_T_ownSample_0 15 (by decide +kernel)
theorem dc_T_ownSample_16 : decode b_T_ownSample 16 = .ok (.getfield 22, 3) := dk_row (s := 0) da_T_ownSample_0 16 (by decide +kernel)
theorem dc_T_ownSample_19 : decode b_T_ownSample 19 = .ok (.istore 5, 2) := dk_row (s := 0) da_T_ownSample_0 19 (by decide +kernel)
theorem dc_T_ownSample_21 : decode b_T_ownSample 21 = .ok (.aload_n 0, 1) := dk_row (s := 0) da_T_ownSample_0 21 (by decide +kernel)
theorem dc_T_ownSample_22 : decode b_T_ownSample 22 = .ok (.getfield 25, 3) := dk_row (s := 0) da_T_ownSample_0 22 (by decide +kernel)
theorem dc_T_ownSample_25 : decode b_T_ownSample 25 = .ok (.istore 6, 2) := dk_row (s := 0) da_T_ownSample_0 25 (by decide +kernel)
theorem dc_T_ownSample_27 : decode b_T_ownSample 27 = .ok (.iconst 0, 1) := dk_row (s := 0) da_T_ownSample_0 27 (by decide +kernel)
theorem dc_T_ownSample_28 : decode b_T_ownSample 28 = .ok (.istore 7, 2) := dk_row (s := 0) da_T_ownSample_0 28 (by decide +kernel)
theorem dc_T_ownSample_30 : decode b_T_ownSample 30 = .ok (.iload 7, 2) := dk_row (s := 0) da_T_ownSample_0 30 (by decide +kernel)
def dw_T_ownSample_32 : ByteArray := .mk #[0x2a, 0xb4, 0x00, 0x1c, 0xb8, 0x00, 0x22, 0xa2, 0x00, 0x24]
theorem da_T_ownSample_32 : dkA b_T_ownSample dw_T_ownSample_32 32 := by unfold dkA; decide +kernel
theorem dc_T_ownSample_32 : decode b_T_ownSample 32 = .ok (.aload_n 0, 1) := dk_row (s := 32) da_T_ownSample_32 0 (by decide +kernel)
theorem dc_T_ownSample_33 : decode b_T_ownSample 33 = .ok (.getfield 28, 3) := dk_row (s := 32) da_T_ownSample_32 1 (by decide +kernel)
theorem dc_T_ownSample_36 : decode b_T_ownSample 36 = .ok (.invokestatic 34, 3) := dk_row (s := 32) da_T_ownSample_32 4 (by decide +kernel)
theorem dc_T_ownSample_39 : decode b_T_ownSample 39 = .ok (.if_icmp .ge 36, 3) := dk_row (s := 32) da_T_ownSample_32 7 (by decide +kernel)
def dw_T_ownSample_75 : ByteArray := .mk #[0x2a, 0xb4, 0x00, 0x1c, 0xb8, 0x00, 0x2a, 0x99, 0x00, 0x0a, 0x15, 0x05, 0x04, 0x64, 0x1d, 0x64, 0x3e]
theorem da_T_ownSample_75 : dkA b_T_ownSample dw_T_ownSample_75 75 := by unfold dkA; decide +kernel
theorem dc_T_ownSample_75 : decode b_T_ownSample 75 = .ok (.aload_n 0, 1) := dk_row (s := 75) da_T_ownSample_75 0 (by decide +kernel)
theorem dc_T_ownSample_76 : decode b_T_ownSample 76 = .ok (.getfield 28, 3) := dk_row (s := 75) da_T_ownSample_75 1 (by decide +kernel)
theorem dc_T_ownSample_79 : decode b_T_ownSample 79 = .ok (.invokestatic 42, 3) := dk_row (s := 75) da_T_ownSample_75 4 (by decide +kernel)
theorem dc_T_ownSample_82 : decode b_T_ownSample 82 = .ok (.ifCond .eq 10, 3) := dk_row (s := 75) da_T_ownSample_75 7 (by decide +kernel)
theorem dc_T_ownSample_85 : decode b_T_ownSample 85 = .ok (.iload 5, 2) := dk_row (s := 75) da_T_ownSample_75 10 (by decide +kernel)
theorem dc_T_ownSample_87 : decode b_T_ownSample 87 = .ok (.iconst 1, 1) := dk_row (s := 75) da_T_ownSample_75 12 (by decide +kernel)
theorem dc_T_ownSample_88 : decode b_T_ownSample 88 = .ok (.isub, 1) := dk_row (s := 75) da_T_ownSample_75 13 (by decide +kernel)
theorem dc_T_ownSample_89 : decode b_T_ownSample 89 = .ok (.iload_n 3, 1) := dk_row (s := 75) da_T_ownSample_75 14 (by decide +kernel)
theorem dc_T_ownSample_90 : decode b_T_ownSample 90 = .ok (.isub, 1) := dk_row (s := 75) da_T_ownSample_75 15 (by decide +kernel)
theorem dc_T_ownSample_91 : decode b_T_ownSample 91 = .ok (.istore_n 3, 1) := dk_row (s := 75) da_T_ownSample_75 16 (by decide +kernel)
def dw_T_ownSample_42 : ByteArray := .mk #[0x1d, 0x36, 0x08, 0x15, 0x04, 0x3e, 0x15, 0x05, 0x04, 0x64, 0x15, 0x08, 0x64, 0x36, 0x04, 0x15, 0x05, 0x36, 0x09, 0x15, 0x06, 0x36, 0x05, 0x15, 0x09, 0x36, 0x06, 0x84, 0x07, 0x01]
theorem da_T_ownSample_42 : dkA b_T_ownSample dw_T_ownSample_42 42 := by unfold dkA; decide +kernel
theorem dc_T_ownSample_42 : decode b_T_ownSample 42 = .ok (.iload_n 3, 1) := dk_row (s := 42) da_T_ownSample_42 0 (by decide +kernel)
theorem dc_T_ownSample_43 : decode b_T_ownSample 43 = .ok (.istore 8, 2) := dk_row (s := 42) da_T_ownSample_42 1 (by decide +kernel)
theorem dc_T_ownSample_45 : decode b_T_ownSample 45 = .ok (.iload 4, 2) := dk_row (s := 42) da_T_ownSample_42 3 (by decide +kernel)
theorem dc_T_ownSample_47 : decode b_T_ownSample 47 = .ok (.istore_n 3, 1) := dk_row (s := 42) da_T_ownSample_42 5 (by decide +kernel)
theorem dc_T_ownSample_48 : decode b_T_ownSample 48 = .ok (.iload 5, 2) := dk_row (s := 42) da_T_ownSample_42 6 (by decide +kernel)
theorem dc_T_ownSample_50 : decode b_T_ownSample 50 = .ok (.iconst 1, 1) := dk_row (s := 42) da_T_ownSample_42 8 (by decide +kernel)
theorem dc_T_ownSample_51 : decode b_T_ownSample 51 = .ok (.isub, 1) := dk_row (s := 42) da_T_ownSample_42 9 (by decide +kernel)
theorem dc_T_ownSample_52 : decode b_T_ownSample 52 = .ok (.iload 8, 2) := dk_row (s := 42) da_T_ownSample_42 10 (by decide +kernel)
theorem dc_T_ownSample_54 : decode b_T_ownSample 54 = .ok (.isub, 1) := dk_row (s := 42) da_T_ownSample_42 12 (by decide +kernel)
theorem dc_T_ownSample_55 : decode b_T_ownSample 55 = .ok (.istore 4, 2) := dk_row (s := 42) da_T_ownSample_42 13 (by decide +kernel)
theorem dc_T_ownSample_57 : decode b_T_ownSample 57 = .ok (.iload 5, 2) := dk_row (s := 42) da_T_ownSample_42 15 (by decide +kernel)
theorem dc_T_ownSample_59 : decode b_T_ownSample 59 = .ok (.istore 9, 2) := dk_row (s := 42) da_T_ownSample_42 17 (by decide +kernel)
theorem dc_T_ownSample_61 : decode b_T_ownSample 61 = .ok (.iload 6, 2) := dk_row (s := 42) da_T_ownSample_42 19 (by decide +kernel)
theorem dc_T_ownSample_63 : decode b_T_ownSample 63 = .ok (.istore 5, 2) := dk_row (s := 42) da_T_ownSample_42 21 (by decide +kernel)
theorem dc_T_ownSample_65 : decode b_T_ownSample 65 = .ok (.iload 9, 2) := dk_row (s := 42) da_T_ownSample_42 23 (by decide +kernel)
theorem dc_T_ownSample_67 : decode b_T_ownSample 67 = .ok (.istore 6, 2) := dk_row (s := 42) da_T_ownSample_42 25 (by decide +kernel)
theorem dc_T_ownSample_69 : decode b_T_ownSample 69 = .ok (.iinc 7 1, 3) := dk_row (s := 42) da_T_ownSample_42 27 (by decide +kernel)
def dw_T_ownSample_72 : ByteArray := .mk #[0xa7, 0xff, 0xd6, 0x2a, 0xb4, 0x00, 0x1c, 0xb8, 0x00, 0x2a, 0x99, 0x00, 0x0a, 0x15, 0x05, 0x04, 0x64, 0x1d, 0x64, 0x3e, 0x10, 0x40, 0x15, 0x04, 0x68, 0x1d, 0x60, 0xac]
theorem da_T_ownSample_72 : dkA b_T_ownSample dw_T_ownSample_72 72 := by unfold dkA; decide +kernel
theorem dc_T_ownSample_72 : decode b_T_ownSample 72 = .ok (.goto (-42), 3) := dk_row (s := 72) da_T_ownSample_72 0 (by decide +kernel)
theorem dc_T_ownSample_92 : decode b_T_ownSample 92 = .ok (.bipush 64, 2) := dk_row (s := 72) da_T_ownSample_72 20 (by decide +kernel)
theorem dc_T_ownSample_94 : decode b_T_ownSample 94 = .ok (.iload 4, 2) := dk_row (s := 72) da_T_ownSample_72 22 (by decide +kernel)
theorem dc_T_ownSample_96 : decode b_T_ownSample 96 = .ok (.imul, 1) := dk_row (s := 72) da_T_ownSample_72 24 (by decide +kernel)
theorem dc_T_ownSample_97 : decode b_T_ownSample 97 = .ok (.iload_n 3, 1) := dk_row (s := 72) da_T_ownSample_72 25 (by decide +kernel)
theorem dc_T_ownSample_98 : decode b_T_ownSample 98 = .ok (.iadd, 1) := dk_row (s := 72) da_T_ownSample_72 26 (by decide +kernel)
theorem dc_T_ownSample_99 : decode b_T_ownSample 99 = .ok (.ireturn, 1) := dk_row (s := 72) da_T_ownSample_72 27 (by decide +kernel)
theorem dc_T_ownWidth_0 : decode b_T_ownWidth 0 = .ok (.aload_n 0, 1) := by decide +kernel
theorem dc_T_ownWidth_1 : decode b_T_ownWidth 1 = .ok (.invokevirtual 38, 3) := by decide +kernel
theorem dc_T_ownWidth_4 : decode b_T_ownWidth 4 = .ok (.ifCond .eq 10, 3) := by decide +kernel
theorem dc_T_ownWidth_14 : decode b_T_ownWidth 14 = .ok (.aload_n 0, 1) := by decide +kernel
theorem dc_T_ownWidth_15 : decode b_T_ownWidth 15 = .ok (.getfield 22, 3) := by decide +kernel
theorem dc_T_ownWidth_18 : decode b_T_ownWidth 18 = .ok (.ireturn, 1) := by decide +kernel
theorem dc_T_ownWidth_7 : decode b_T_ownWidth 7 = .ok (.aload_n 0, 1) := by decide +kernel
theorem dc_T_ownWidth_8 : decode b_T_ownWidth 8 = .ok (.getfield 25, 3) := by decide +kernel
theorem dc_T_ownWidth_11 : decode b_T_ownWidth 11 = .ok (.goto 7, 3) := by decide +kernel
theorem dc_T_ownHeight_0 : decode b_T_ownHeight 0 = .ok (.aload_n 0, 1) := by decide +kernel
theorem dc_T_ownHeight_1 : decode b_T_ownHeight 1 = .ok (.invokevirtual 38, 3) := by decide +kernel
theorem dc_T_ownHeight_4 : decode b_T_ownHeight 4 = .ok (.ifCond .eq 10, 3) := by decide +kernel
theorem dc_T_ownHeight_14 : decode b_T_ownHeight 14 = .ok (.aload_n 0, 1) := by decide +kernel
theorem dc_T_ownHeight_15 : decode b_T_ownHeight 15 = .ok (.getfield 25, 3) := by decide +kernel
theorem dc_T_ownHeight_18 : decode b_T_ownHeight 18 = .ok (.ireturn, 1) := by decide +kernel
theorem dc_T_ownHeight_7 : decode b_T_ownHeight 7 = .ok (.aload_n 0, 1) := by decide +kernel
theorem dc_T_ownHeight_8 : decode b_T_ownHeight 8 = .ok (.getfield 22, 3) := by decide +kernel
theorem dc_T_ownHeight_11 : decode b_T_ownHeight 11 = .ok (.goto 7, 3) := by decide +kernel
theorem dc_T_putPart_0 : decode b_T_putPart 0 = .ok (.aload_n 1, 1) := by decide +kernel
theorem dc_T_putPart_1 : decode b_T_putPart 1 = .ok (.getfield 46, 3) := by decide +kernel
theorem dc_T_putPart_4 : decode b_T_putPart 4 = .ok (.istore_n 2, 1) := by decide +kernel
theorem dc_T_putPart_5 : decode b_T_putPart 5 = .ok (.aload_n 1, 1) := by decide +kernel
theorem dc_T_putPart_6 : decode b_T_putPart 6 = .ok (.aload_n 0, 1) := by decide +kernel
theorem dc_T_putPart_7 : decode b_T_putPart 7 = .ok (.getfield 15, 3) := by decide +kernel
theorem dc_T_putPart_10 : decode b_T_putPart 10 = .ok (.invokevirtual 51, 3) := by decide +kernel
theorem dc_T_putPart_13 : decode b_T_putPart 13 = .ok (.aload_n 1, 1) := by decide +kernel
theorem dc_T_putPart_14 : decode b_T_putPart 14 = .ok (.aload_n 0, 1) := by decide +kernel
theorem dc_T_putPart_15 : decode b_T_putPart 15 = .ok (.getfield 19, 3) := by decide +kernel
theorem dc_T_putPart_18 : decode b_T_putPart 18 = .ok (.invokevirtual 51, 3) := by decide +kernel
theorem dc_T_putPart_21 : decode b_T_putPart 21 = .ok (.aload_n 1, 1) := by decide +kernel
theorem dc_T_putPart_22 : decode b_T_putPart 22 = .ok (.aload_n 0, 1) := by decide +kernel
theorem dc_T_putPart_23 : decode b_T_putPart 23 = .ok (.getfield 22, 3) := by decide +kernel
theorem dc_T_putPart_26 : decode b_T_putPart 26 = .ok (.invokevirtual 51, 3) := by decide +kernel
theorem dc_T_putPart_29 : decode b_T_putPart 29 = .ok (.aload_n 1, 1) := by decide +kernel
theorem dc_T_putPart_30 : decode b_T_putPart 30 = .ok (.aload_n 0, 1) := by decide +kernel
theorem dc_T_putPart_31 : decode b_T_putPart 31 = .ok (.getfield 25, 3) := by decide +kernel
theorem dc_T_putPart_34 : decode b_T_putPart 34 = .ok (.invokevirtual 51, 3) := by decide +kernel
theorem dc_T_putPart_37 : decode b_T_putPart 37 = .ok (.aload_n 1, 1) := by decide +kernel
theorem dc_T_putPart_38 : decode b_T_putPart 38 = .ok (.aload_n 0, 1) := by decide +kernel
theorem dc_T_putPart_39 : decode b_T_putPart 39 = .ok (.getfield 28, 3) := by decide +kernel
theorem dc_T_putPart_42 : decode b_T_putPart 42 = .ok (.invokevirtual 55, 3) := by decide +kernel
theorem dc_T_putPart_45 : decode b_T_putPart 45 = .ok (.aload_n 1, 1) := by decide +kernel
theorem dc_T_putPart_46 : decode b_T_putPart 46 = .ok (.aload_n 0, 1) := by decide +kernel
theorem dc_T_putPart_47 : decode b_T_putPart 47 = .ok (.getfield 31, 3) := by decide +kernel
theorem dc_T_putPart_50 : decode b_T_putPart 50 = .ok (.invokevirtual 55, 3) := by decide +kernel
theorem dc_T_putPart_53 : decode b_T_putPart 53 = .ok (.iconst 0, 1) := by decide +kernel
theorem dc_T_putPart_54 : decode b_T_putPart 54 = .ok (.istore_n 3, 1) := by decide +kernel
theorem dc_T_putPart_55 : decode b_T_putPart 55 = .ok (.iload_n 3, 1) := by decide +kernel
theorem dc_T_putPart_56 : decode b_T_putPart 56 = .ok (.aload_n 0, 1) := by decide +kernel
theorem dc_T_putPart_57 : decode b_T_putPart 57 = .ok (.getfield 31, 3) := by decide +kernel
theorem dc_T_putPart_60 : decode b_T_putPart 60 = .ok (.if_icmp .ge 19, 3) := by decide +kernel
theorem dc_T_putPart_79 : decode b_T_putPart 79 = .ok (.aload_n 1, 1) := by decide +kernel
theorem dc_T_putPart_80 : decode b_T_putPart 80 = .ok (.aload_n 1, 1) := by decide +kernel
theorem dc_T_putPart_81 : decode b_T_putPart 81 = .ok (.iload_n 2, 1) := by decide +kernel
theorem dc_T_putPart_82 : decode b_T_putPart 82 = .ok (.invokevirtual 58, 3) := by decide +kernel
theorem dc_T_putPart_85 : decode b_T_putPart 85 = .ok (.invokevirtual 51, 3) := by decide +kernel
theorem dc_T_putPart_88 : decode b_T_putPart 88 = .ok (.return_, 1) := by decide +kernel
theorem dc_T_putPart_63 : decode b_T_putPart 63 = .ok (.aload_n 1, 1) := by decide +kernel
theorem dc_T_putPart_64 : decode b_T_putPart 64 = .ok (.aload_n 0, 1) := by decide +kernel
theorem dc_T_putPart_65 : decode b_T_putPart 65 = .ok (.getfield 9, 3) := by decide +kernel
theorem dc_T_putPart_68 : decode b_T_putPart 68 = .ok (.iload_n 3, 1) := by decide +kernel
theorem dc_T_putPart_69 : decode b_T_putPart 69 = .ok (.iaload, 1) := by decide +kernel
theorem dc_T_putPart_70 : decode b_T_putPart 70 = .ok (.invokevirtual 55, 3) := by decide +kernel
theorem dc_T_putPart_73 : decode b_T_putPart 73 = .ok (.iinc 3 1, 3) := by decide +kernel
theorem dc_T_putPart_76 : decode b_T_putPart 76 = .ok (.goto (-21), 3) := by decide +kernel
theorem dc_M_clear_0 : decode b_M_clear 0 = .ok (.aload_n 0, 1) := by decide +kernel
theorem dc_M_clear_1 : decode b_M_clear 1 = .ok (.iconst 0, 1) := by decide +kernel
theorem dc_M_clear_2 : decode b_M_clear 2 = .ok (.putfield 68, 3) := by decide +kernel
theorem dc_M_clear_5 : decode b_M_clear 5 = .ok (.aload_n 0, 1) := by decide +kernel
theorem dc_M_clear_6 : decode b_M_clear 6 = .ok (.iconst 0, 1) := by decide +kernel
theorem dc_M_clear_7 : decode b_M_clear 7 = .ok (.putfield 71, 3) := by decide +kernel
theorem dc_M_clear_10 : decode b_M_clear 10 = .ok (.iconst 0, 1) := by decide +kernel
theorem dc_M_clear_11 : decode b_M_clear 11 = .ok (.istore_n 1, 1) := by decide +kernel
theorem dc_M_clear_12 : decode b_M_clear 12 = .ok (.iload_n 1, 1) := by decide +kernel
theorem dc_M_clear_13 : decode b_M_clear 13 = .ok (.iconst 2, 1) := by decide +kernel
theorem dc_M_clear_14 : decode b_M_clear 14 = .ok (.if_icmp .ge 43, 3) := by decide +kernel
theorem dc_M_clear_57 : decode b_M_clear 57 = .ok (.aload_n 0, 1) := by decide +kernel
theorem dc_M_clear_58 : decode b_M_clear 58 = .ok (.iconst 0, 1) := by decide +kernel
theorem dc_M_clear_59 : decode b_M_clear 59 = .ok (.putfield 74, 3) := by decide +kernel
theorem dc_M_clear_62 : decode b_M_clear 62 = .ok (.aload_n 0, 1) := by decide +kernel
theorem dc_M_clear_63 : decode b_M_clear 63 = .ok (.iconst 0, 1) := by decide +kernel
theorem dc_M_clear_64 : decode b_M_clear 64 = .ok (.putfield 77, 3) := by decide +kernel
theorem dc_M_clear_67 : decode b_M_clear 67 = .ok (.aload_n 0, 1) := by decide +kernel
theorem dc_M_clear_68 : decode b_M_clear 68 = .ok (.iconst 0, 1) := by decide +kernel
theorem dc_M_clear_69 : decode b_M_clear 69 = .ok (.putfield 81, 3) := by decide +kernel
theorem dc_M_clear_72 : decode b_M_clear 72 = .ok (.return_, 1) := by decide +kernel
theorem dc_M_clear_17 : decode b_M_clear 17 = .ok (.aload_n 0, 1) := by decide +kernel
theorem dc_M_clear_18 : decode b_M_clear 18 = .ok (.getfield 7, 3) := by decide +kernel
theorem dc_M_clear_21 : decode b_M_clear 21 = .ok (.iload_n 1, 1) := by decide +kernel
theorem dc_M_clear_22 : decode b_M_clear 22 = .ok (.aload_n 0, 1) := by decide +kernel
theorem dc_M_clear_23 : decode b_M_clear 23 = .ok (.getfield 58, 3) := by decide +kernel
theorem dc_M_clear_26 : decode b_M_clear 26 = .ok (.iastore, 1) := by decide +kernel
theorem dc_M_clear_27 : decode b_M_clear 27 = .ok (.aload_n 0, 1) := by decide +kernel
theorem dc_M_clear_28 : decode b_M_clear 28 = .ok (.getfield 13, 3) := by decide +kernel
theorem dc_M_clear_31 : decode b_M_clear 31 = .ok (.iload_n 1, 1) := by decide +kernel
theorem dc_M_clear_32 : decode b_M_clear 32 = .ok (.aload_n 0, 1) := by decide +kernel
theorem dc_M_clear_33 : decode b_M_clear 33 = .ok (.getfield 62, 3) := by decide +kernel
theorem dc_M_clear_36 : decode b_M_clear 36 = .ok (.iastore, 1) := by decide +kernel
theorem dc_M_clear_37 : decode b_M_clear 37 = .ok (.aload_n 0, 1) := by decide +kernel
theorem dc_M_clear_38 : decode b_M_clear 38 = .ok (.getfield 16, 3) := by decide +kernel
theorem dc_M_clear_41 : decode b_M_clear 41 = .ok (.iload_n 1, 1) := by decide +kernel
theorem dc_M_clear_42 : decode b_M_clear 42 = .ok (.iconst 0, 1) := by decide +kernel
theorem dc_M_clear_43 : decode b_M_clear 43 = .ok (.iastore, 1) := by decide +kernel
theorem dc_M_clear_44 : decode b_M_clear 44 = .ok (.aload_n 0, 1) := by decide +kernel
theorem dc_M_clear_45 : decode b_M_clear 45 = .ok (.getfield 19, 3) := by decide +kernel
theorem dc_M_clear_48 : decode b_M_clear 48 = .ok (.iload_n 1, 1) := by decide +kernel
theorem dc_M_clear_49 : decode b_M_clear 49 = .ok (.iconst 0, 1) := by decide +kernel
theorem dc_M_clear_50 : decode b_M_clear 50 = .ok (.iastore, 1) := by decide +kernel
theorem dc_M_clear_51 : decode b_M_clear 51 = .ok (.iinc 1 1, 3) := by decide +kernel
theorem dc_M_clear_54 : decode b_M_clear 54 = .ok (.goto (-42), 3) := by decide +kernel
theorem dc_M_thrown_0 : decode b_M_thrown 0 = .ok (.aload_n 0, 1) := by decide +kernel
theorem dc_M_thrown_1 : decode b_M_thrown 1 = .ok (.getfield 68, 3) := by decide +kernel
theorem dc_M_thrown_4 : decode b_M_thrown 4 = .ok (.ireturn, 1) := by decide +kernel
theorem dc_M_in_0 : decode b_M_in 0 = .ok (.iload_n 0, 1) := by decide +kernel
theorem dc_M_in_1 : decode b_M_in 1 = .ok (.iload_n 1, 1) := by decide +kernel
theorem dc_M_in_2 : decode b_M_in 2 = .ok (.if_icmp .lt 12, 3) := by decide +kernel
theorem dc_M_in_14 : decode b_M_in 14 = .ok (.iconst 0, 1) := by decide +kernel
theorem dc_M_in_15 : decode b_M_in 15 = .ok (.ireturn, 1) := by decide +kernel
theorem dc_M_in_5 : decode b_M_in 5 = .ok (.iload_n 0, 1) := by decide +kernel
theorem dc_M_in_6 : decode b_M_in 6 = .ok (.iload_n 2, 1) := by decide +kernel
theorem dc_M_in_7 : decode b_M_in 7 = .ok (.if_icmp .gt 7, 3) := by decide +kernel
theorem dc_M_in_10 : decode b_M_in 10 = .ok (.iconst 1, 1) := by decide +kernel
theorem dc_M_in_11 : decode b_M_in 11 = .ok (.goto 4, 3) := by decide +kernel
theorem dc_M_tileAt_0 : decode b_M_tileAt 0 = .ok (.bipush 40, 2) := by decide +kernel
theorem dc_M_tileAt_2 : decode b_M_tileAt 2 = .ok (.aload_n 0, 1) := by decide +kernel
theorem dc_M_tileAt_3 : decode b_M_tileAt 3 = .ok (.getfield 71, 3) := by decide +kernel
theorem dc_M_tileAt_6 : decode b_M_tileAt 6 = .ok (.imul, 1) := by decide +kernel
theorem dc_M_tileAt_7 : decode b_M_tileAt 7 = .ok (.iload_n 1, 1) := by decide +kernel
theorem dc_M_tileAt_8 : decode b_M_tileAt 8 = .ok (.iadd, 1) := by decide +kernel
theorem dc_M_tileAt_9 : decode b_M_tileAt 9 = .ok (.ireturn, 1) := by decide +kernel
theorem dc_M_lies_0 : decode b_M_lies 0 = .ok (.iload_n 1, 1) := by decide +kernel
theorem dc_M_lies_1 : decode b_M_lies 1 = .ok (.ifCond .lt 42, 3) := by decide +kernel
theorem dc_M_lies_43 : decode b_M_lies 43 = .ok (.iconst 0, 1) := by decide +kernel
theorem dc_M_lies_44 : decode b_M_lies 44 = .ok (.ireturn, 1) := by decide +kernel
theorem dc_M_lies_4 : decode b_M_lies 4 = .ok (.iload_n 2, 1) := by decide +kernel
theorem dc_M_lies_5 : decode b_M_lies 5 = .ok (.ifCond .lt 38, 3) := by decide +kernel
theorem dc_M_lies_8 : decode b_M_lies 8 = .ok (.iload_n 1, 1) := by decide +kernel
theorem dc_M_lies_9 : decode b_M_lies 9 = .ok (.aload_n 0, 1) := by decide +kernel
theorem dc_M_lies_10 : decode b_M_lies 10 = .ok (.getfield 7, 3) := by decide +kernel
theorem dc_M_lies_13 : decode b_M_lies 13 = .ok (.aload_n 0, 1) := by decide +kernel
theorem dc_M_lies_14 : decode b_M_lies 14 = .ok (.getfield 71, 3) := by decide +kernel
theorem dc_M_lies_17 : decode b_M_lies 17 = .ok (.iaload, 1) := by decide +kernel
theorem dc_M_lies_18 : decode b_M_lies 18 = .ok (.iload_n 3, 1) := by decide +kernel
theorem dc_M_lies_19 : decode b_M_lies 19 = .ok (.isub, 1) := by decide +kernel
theorem dc_M_lies_20 : decode b_M_lies 20 = .ok (.if_icmp .gt 23, 3) := by decide +kernel
theorem dc_M_lies_23 : decode b_M_lies 23 = .ok (.iload_n 2, 1) := by decide +kernel
theorem dc_M_lies_24 : decode b_M_lies 24 = .ok (.aload_n 0, 1) := by decide +kernel
theorem dc_M_lies_25 : decode b_M_lies 25 = .ok (.getfield 13, 3) := by decide +kernel
theorem dc_M_lies_28 : decode b_M_lies 28 = .ok (.aload_n 0, 1) := by decide +kernel
theorem dc_M_lies_29 : decode b_M_lies 29 = .ok (.getfield 71, 3) := by decide +kernel
theorem dc_M_lies_32 : decode b_M_lies 32 = .ok (.iaload, 1) := by decide +kernel
theorem dc_M_lies_33 : decode b_M_lies 33 = .ok (.iload 4, 2) := by decide +kernel
theorem dc_M_lies_35 : decode b_M_lies 35 = .ok (.isub, 1) := by decide +kernel
theorem dc_M_lies_36 : decode b_M_lies 36 = .ok (.if_icmp .gt 7, 3) := by decide +kernel
theorem dc_M_lies_39 : decode b_M_lies 39 = .ok (.iconst 1, 1) := by decide +kernel
theorem dc_M_lies_40 : decode b_M_lies 40 = .ok (.goto 4, 3) := by decide +kernel
def dw_M_move_0 : ByteArray := .mk #[0x2a, 0xb4, 0x00, 0x16, 0x1c, 0x2a, 0xb4, 0x00, 0x16, 0x1b, 0x2e, 0x4f, 0x2a, 0xb4, 0x00, 0x19, 0x1c, 0x2a, 0xb4, 0x00, 0x19, 0x1b, 0x2e, 0x4f, 0x2a, 0xb4, 0x00, 0x1c, 0x1c, 0x2a]
theorem da_M_move_0 : dkA b_M_move dw_M_move_0 0 := by unfold dkA; decide +kernel
theorem dc_M_move_0 : decode b_M_move 0 = .ok (.aload_n 0, 1) := dk_row (s := 0) da_M_move_0 0 (by decide +kernel)
theorem dc_M_move_1 : decode b_M_move 1 = .ok (.getfield 22, 3) := dk_row (s := 0) da_M_move_0 1 (by decide +kernel)
theorem dc_M_move_4 : decode b_M_move 4 = .ok (.iload_n 2, 1) := dk_row (s := 0) da_M_move_0 4 (by decide +kernel)
theorem dc_M_move_5 : decode b_M_move 5 = .ok (.aload_n 0, 1) := dk_row (s := 0) da_M_move_0 5 (by decide +kernel)
theorem dc_M_move_6 : decode b_M_move 6 = .ok (.getfield 22, 3) := dk_row (s := 0) da_M_move_0 6 (by decide +kernel)
theorem dc_M_move_9 : decode b_M_move 9 = .ok (.iload_n 1, 1) := dk_row (s := 0) da_M_move_0 9 (by decide +kernel)
theorem dc_M_move_10 : decode b_M_move 10 = .ok (.iaload, 1) := dk_row (s := 0) da_M_move_0 10 (by decide +kernel)
theorem dc_M_move_11 : decode b_M_move 11 = .ok (.iastore, 1) := dk_row (s := 0) da_M_move_0 11 (by decide +kernel)
theorem dc_M_move_12 : decode b_M_move 12 = .ok (.aload_n 0, 1) := dk_row (s := 0) da_M_move_0 12 (by decide +kernel)
theorem dc_M_move_13 : decode b_M_move 13 = .ok (.getfield 25, 3) := dk_row (s := 0) da_M_move_0 13 (by decide +kernel)
theorem dc_M_move_16 : decode b_M_move 16 = .ok (.iload_n 2, 1) := dk_row (s := 0) da_M_move_0 16 (by decide +kernel)
theorem dc_M_move_17 : decode b_M_move 17 = .ok (.aload_n 0, 1) := dk_row (s := 0) da_M_move_0 17 (by decide +kernel)
theorem dc_M_move_18 : decode b_M_move 18 = .ok (.getfield 25, 3) := dk_row (s := 0) da_M_move_0 18 (by decide +kernel)
theorem dc_M_move_21 : decode b_M_move 21 = .ok (.iload_n 1, 1) := dk_row (s := 0) da_M_move_0 21 (by decide +kernel)
theorem dc_M_move_22 : decode b_M_move 22 = .ok (.iaload, 1) := dk_row (s := 0) da_M_move_0 22 (by decide +kernel)
theorem dc_M_move_23 : decode b_M_move 23 = .ok (.iastore, 1) := dk_row (s := 0) da_M_move_0 23 (by decide +kernel)
theorem dc_M_move_24 : decode b_M_move 24 = .ok (.aload_n 0, 1) := dk_row (s := 0) da_M_move_0 24 (by decide +kernel)
theorem dc_M_move_25 : decode b_M_move 25 = .ok (.getfield 28, 3) := dk_row (s := 0) da_M_move_0 25 (by decide +kernel)
theorem dc_M_move_28 : decode b_M_move 28 = .ok (.iload_n 2, 1) := dk_row (s := 0) da_M_move_0 28 (by decide +kernel)
theorem dc_M_move_29 : decode b_M_move 29 = .ok (.aload_n 0, 1) := dk_row (s := 0) da_M_move_0 29 (by decide +kernel)
def dw_M_move_30 : ByteArray := .mk #[0xb4, 0x00, 0x1c, 0x1b, 0x2e, 0x4f, 0x2a, 0xb4, 0x00, 0x1f, 0x1c, 0x2a, 0xb4, 0x00, 0x1f, 0x1b, 0x2e, 0x4f, 0x2a, 0xb4, 0x00, 0x22, 0x1c, 0x2a, 0xb4, 0x00, 0x22, 0x1b, 0x2e, 0x4f, 0x2a]
theorem da_M_move_30 : dkA b_M_move dw_M_move_30 30 := by unfold dkA; decide +kernel
theorem dc_M_move_30 : decode b_M_move 30 = .ok (.getfield 28, 3) := dk_row (s := 30) da_M_move_30 0 (by decide +kernel)
theorem dc_M_move_33 : decode b_M_move 33 = .ok (.iload_n 1, 1) := dk_row (s := 30) da_M_move_30 3 (by decide +kernel)
theorem dc_M_move_34 : decode b_M_move 34 = .ok (.iaload, 1) := dk_row (s := 30) da_M_move_30 4 (by decide +kernel)
theorem dc_M_move_35 : decode b_M_move 35 = .ok (.iastore, 1) := dk_row (s := 30) da_M_move_30 5 (by decide +kernel)
theorem dc_M_move_36 : decode b_M_move 36 = .ok (.aload_n 0, 1) := dk_row (s := 30) da_M_move_30 6 (by decide +kernel)
theorem dc_M_move_37 : decode b_M_move 37 = .ok (.getfield 31, 3) := dk_row (s := 30) da_M_move_30 7 (by decide +kernel)
theorem dc_M_move_40 : decode b_M_move 40 = .ok (.iload_n 2, 1) := dk_row (s := 30) da_M_move_30 10 (by decide +kernel)
theorem dc_M_move_41 : decode b_M_move 41 = .ok (.aload_n 0, 1) := dk_row (s := 30) da_M_move_30 11 (by decide +kernel)
theorem dc_M_move_42 : decode b_M_move 42 = .ok (.getfield 31, 3) := dk_row (s := 30) da_M_move_30 12 (by decide +kernel)
theorem dc_M_move_45 : decode b_M_move 45 = .ok (.iload_n 1, 1) := dk_row (s := 30) da_M_move_30 15 (by decide +kernel)
theorem dc_M_move_46 : decode b_M_move 46 = .ok (.iaload, 1) := dk_row (s := 30) da_M_move_30 16 (by decide +kernel)
theorem dc_M_move_47 : decode b_M_move 47 = .ok (.iastore, 1) := dk_row (s := 30) da_M_move_30 17 (by decide +kernel)
theorem dc_M_move_48 : decode b_M_move 48 = .ok (.aload_n 0, 1) := dk_row (s := 30) da_M_move_30 18 (by decide +kernel)
theorem dc_M_move_49 : decode b_M_move 49 = .ok (.getfield 34, 3) := dk_row (s := 30) da_M_move_30 19 (by decide +kernel)
theorem dc_M_move_52 : decode b_M_move 52 = .ok (.iload_n 2, 1) := dk_row (s := 30) da_M_move_30 22 (by decide +kernel)
theorem dc_M_move_53 : decode b_M_move 53 = .ok (.aload_n 0, 1) := dk_row (s := 30) da_M_move_30 23 (by decide +kernel)
theorem dc_M_move_54 : decode b_M_move 54 = .ok (.getfield 34, 3) := dk_row (s := 30) da_M_move_30 24 (by decide +kernel)
theorem dc_M_move_57 : decode b_M_move 57 = .ok (.iload_n 1, 1) := dk_row (s := 30) da_M_move_30 27 (by decide +kernel)
theorem dc_M_move_58 : decode b_M_move 58 = .ok (.iaload, 1) := dk_row (s := 30) da_M_move_30 28 (by decide +kernel)
theorem dc_M_move_59 : decode b_M_move 59 = .ok (.iastore, 1) := dk_row (s := 30) da_M_move_30 29 (by decide +kernel)
theorem dc_M_move_60 : decode b_M_move 60 = .ok (.aload_n 0, 1) := dk_row (s := 30) da_M_move_30 30 (by decide +kernel)
def dw_M_move_61 : ByteArray := .mk #[0xb4, 0x00, 0x25, 0x1c, 0x2a, 0xb4, 0x00, 0x25, 0x1b, 0x2e, 0x4f, 0x03, 0x3e, 0x1d, 0x10, 0x0c, 0xa2, 0x00, 0x1f]
theorem da_M_move_61 : dkA b_M_move dw_M_move_61 61 := by unfold dkA; decide +kernel
theorem dc_M_move_61 : decode b_M_move 61 = .ok (.getfield 37, 3) := dk_row (s := 61) da_M_move_61 0 (by decide +kernel)
theorem dc_M_move_64 : decode b_M_move 64 = .ok (.iload_n 2, 1) := dk_row (s := 61) da_M_move_61 3 (by decide +kernel)
theorem dc_M_move_65 : decode b_M_move 65 = .ok (.aload_n 0, 1) := dk_row (s := 61) da_M_move_61 4 (by decide +kernel)
theorem dc_M_move_66 : decode b_M_move 66 = .ok (.getfield 37, 3) := dk_row (s := 61) da_M_move_61 5 (by decide +kernel)
theorem dc_M_move_69 : decode b_M_move 69 = .ok (.iload_n 1, 1) := dk_row (s := 61) da_M_move_61 8 (by decide +kernel)
theorem dc_M_move_70 : decode b_M_move 70 = .ok (.iaload, 1) := dk_row (s := 61) da_M_move_61 9 (by decide +kernel)
theorem dc_M_move_71 : decode b_M_move 71 = .ok (.iastore, 1) := dk_row (s := 61) da_M_move_61 10 (by decide +kernel)
theorem dc_M_move_72 : decode b_M_move 72 = .ok (.iconst 0, 1) := dk_row (s := 61) da_M_move_61 11 (by decide +kernel)
theorem dc_M_move_73 : decode b_M_move 73 = .ok (.istore_n 3, 1) := dk_row (s := 61) da_M_move_61 12 (by decide +kernel)
theorem dc_M_move_74 : decode b_M_move 74 = .ok (.iload_n 3, 1) := dk_row (s := 61) da_M_move_61 13 (by decide +kernel)
theorem dc_M_move_75 : decode b_M_move 75 = .ok (.bipush 12, 2) := dk_row (s := 61) da_M_move_61 14 (by decide +kernel)
theorem dc_M_move_77 : decode b_M_move 77 = .ok (.if_icmp .ge 31, 3) := dk_row (s := 61) da_M_move_61 16 (by decide +kernel)
theorem dc_M_move_108 : decode b_M_move 108 = .ok (.return_, 1) := by decide +kernel
def dw_M_move_80 : ByteArray := .mk #[0x2a, 0xb4, 0x00, 0x28, 0x10, 0x0c, 0x1c, 0x68, 0x1d, 0x60, 0x2a, 0xb4, 0x00, 0x28, 0x10, 0x0c, 0x1b, 0x68, 0x1d, 0x60, 0x2e, 0x4f, 0x84, 0x03, 0x01, 0xa7, 0xff, 0xe1]
theorem da_M_move_80 : dkA b_M_move dw_M_move_80 80 := by unfold dkA; decide +kernel
theorem dc_M_move_80 : decode b_M_move 80 = .ok (.aload_n 0, 1) := dk_row (s := 80) da_M_move_80 0 (by decide +kernel)
theorem dc_M_move_81 : decode b_M_move 81 = .ok (.getfield 40, 3) := dk_row (s := 80) da_M_move_80 1 (by decide +kernel)
theorem dc_M_move_84 : decode b_M_move 84 = .ok (.bipush 12, 2) := dk_row (s := 80) da_M_move_80 4 (by decide +kernel)
theorem dc_M_move_86 : decode b_M_move 86 = .ok (.iload_n 2, 1) := dk_row (s := 80) da_M_move_80 6 (by decide +kernel)
theorem dc_M_move_87 : decode b_M_move 87 = .ok (.imul, 1) := dk_row (s := 80) da_M_move_80 7 (by decide +kernel)
theorem dc_M_move_88 : decode b_M_move 88 = .ok (.iload_n 3, 1) := dk_row (s := 80) da_M_move_80 8 (by decide +kernel)
theorem dc_M_move_89 : decode b_M_move 89 = .ok (.iadd, 1) := dk_row (s := 80) da_M_move_80 9 (by decide +kernel)
theorem dc_M_move_90 : decode b_M_move 90 = .ok (.aload_n 0, 1) := dk_row (s := 80) da_M_move_80 10 (by decide +kernel)
theorem dc_M_move_91 : decode b_M_move 91 = .ok (.getfield 40, 3) := dk_row (s := 80) da_M_move_80 11 (by decide +kernel)
theorem dc_M_move_94 : decode b_M_move 94 = .ok (.bipush 12, 2) := dk_row (s := 80) da_M_move_80 14 (by decide +kernel)
theorem dc_M_move_96 : decode b_M_move 96 = .ok (.iload_n 1, 1) := dk_row (s := 80) da_M_move_80 16 (by decide +kernel)
theorem dc_M_move_97 : decode b_M_move 97 = .ok (.imul, 1) := dk_row (s := 80) da_M_move_80 17 (by decide +kernel)
theorem dc_M_move_98 : decode b_M_move 98 = .ok (.iload_n 3, 1) := dk_row (s := 80) da_M_move_80 18 (by decide +kernel)
theorem dc_M_move_99 : decode b_M_move 99 = .ok (.iadd, 1) := dk_row (s := 80) da_M_move_80 19 (by decide +kernel)
theorem dc_M_move_100 : decode b_M_move 100 = .ok (.iaload, 1) := dk_row (s := 80) da_M_move_80 20 (by decide +kernel)
theorem dc_M_move_101 : decode b_M_move 101 = .ok (.iastore, 1) := dk_row (s := 80) da_M_move_80 21 (by decide +kernel)
theorem dc_M_move_102 : decode b_M_move 102 = .ok (.iinc 3 1, 3) := dk_row (s := 80) da_M_move_80 22 (by decide +kernel)
theorem dc_M_move_105 : decode b_M_move 105 = .ok (.goto (-31), 3) := dk_row (s := 80) da_M_move_80 25 (by decide +kernel)
theorem dc_M_moveNote_0 : decode b_M_moveNote 0 = .ok (.aload_n 0, 1) := by decide +kernel
theorem dc_M_moveNote_1 : decode b_M_moveNote 1 = .ok (.getfield 43, 3) := by decide +kernel
theorem dc_M_moveNote_4 : decode b_M_moveNote 4 = .ok (.iload_n 2, 1) := by decide +kernel
theorem dc_M_moveNote_5 : decode b_M_moveNote 5 = .ok (.aload_n 0, 1) := by decide +kernel
theorem dc_M_moveNote_6 : decode b_M_moveNote 6 = .ok (.getfield 43, 3) := by decide +kernel
theorem dc_M_moveNote_9 : decode b_M_moveNote 9 = .ok (.iload_n 1, 1) := by decide +kernel
theorem dc_M_moveNote_10 : decode b_M_moveNote 10 = .ok (.iaload, 1) := by decide +kernel
theorem dc_M_moveNote_11 : decode b_M_moveNote 11 = .ok (.iastore, 1) := by decide +kernel
theorem dc_M_moveNote_12 : decode b_M_moveNote 12 = .ok (.aload_n 0, 1) := by decide +kernel
theorem dc_M_moveNote_13 : decode b_M_moveNote 13 = .ok (.getfield 46, 3) := by decide +kernel
theorem dc_M_moveNote_16 : decode b_M_moveNote 16 = .ok (.iload_n 2, 1) := by decide +kernel
theorem dc_M_moveNote_17 : decode b_M_moveNote 17 = .ok (.aload_n 0, 1) := by decide +kernel
theorem dc_M_moveNote_18 : decode b_M_moveNote 18 = .ok (.getfield 46, 3) := by decide +kernel
theorem dc_M_moveNote_21 : decode b_M_moveNote 21 = .ok (.iload_n 1, 1) := by decide +kernel
theorem dc_M_moveNote_22 : decode b_M_moveNote 22 = .ok (.iaload, 1) := by decide +kernel
theorem dc_M_moveNote_23 : decode b_M_moveNote 23 = .ok (.iastore, 1) := by decide +kernel
theorem dc_M_moveNote_24 : decode b_M_moveNote 24 = .ok (.aload_n 0, 1) := by decide +kernel
theorem dc_M_moveNote_25 : decode b_M_moveNote 25 = .ok (.getfield 49, 3) := by decide +kernel
theorem dc_M_moveNote_28 : decode b_M_moveNote 28 = .ok (.iload_n 2, 1) := by decide +kernel
theorem dc_M_moveNote_29 : decode b_M_moveNote 29 = .ok (.aload_n 0, 1) := by decide +kernel
theorem dc_M_moveNote_30 : decode b_M_moveNote 30 = .ok (.getfield 49, 3) := by decide +kernel
theorem dc_M_moveNote_33 : decode b_M_moveNote 33 = .ok (.iload_n 1, 1) := by decide +kernel
theorem dc_M_moveNote_34 : decode b_M_moveNote 34 = .ok (.iaload, 1) := by decide +kernel
theorem dc_M_moveNote_35 : decode b_M_moveNote 35 = .ok (.iastore, 1) := by decide +kernel
theorem dc_M_moveNote_36 : decode b_M_moveNote 36 = .ok (.return_, 1) := by decide +kernel
theorem dc_M_comes_0 : decode b_M_comes 0 = .ok (.iload_n 0, 1) := by decide +kernel
theorem dc_M_comes_1 : decode b_M_comes 1 = .ok (.iconst 4, 1) := by decide +kernel
theorem dc_M_comes_2 : decode b_M_comes 2 = .ok (.if_icmp .lt 11, 3) := by decide +kernel
theorem dc_M_comes_13 : decode b_M_comes 13 = .ok (.iload_n 1, 1) := by decide +kernel
theorem dc_M_comes_5 : decode b_M_comes 5 = .ok (.iload_n 3, 1) := by decide +kernel
theorem dc_M_comes_6 : decode b_M_comes 6 = .ok (.iconst 1, 1) := by decide +kernel
theorem dc_M_comes_7 : decode b_M_comes 7 = .ok (.isub, 1) := by decide +kernel
theorem dc_M_comes_8 : decode b_M_comes 8 = .ok (.iload_n 1, 1) := by decide +kernel
theorem dc_M_comes_9 : decode b_M_comes 9 = .ok (.isub, 1) := by decide +kernel
theorem dc_M_comes_10 : decode b_M_comes 10 = .ok (.goto 4, 3) := by decide +kernel
theorem dc_M_comes_14 : decode b_M_comes 14 = .ok (.istore 5, 2) := by decide +kernel
theorem dc_M_comes_16 : decode b_M_comes 16 = .ok (.iload_n 2, 1) := by decide +kernel
theorem dc_M_comes_17 : decode b_M_comes 17 = .ok (.istore 6, 2) := by decide +kernel
theorem dc_M_comes_19 : decode b_M_comes 19 = .ok (.iload_n 3, 1) := by decide +kernel
theorem dc_M_comes_20 : decode b_M_comes 20 = .ok (.istore 7, 2) := by decide +kernel
theorem dc_M_comes_22 : decode b_M_comes 22 = .ok (.iload 4, 2) := by decide +kernel
theorem dc_M_comes_24 : decode b_M_comes 24 = .ok (.istore 8, 2) := by decide +kernel
theorem dc_M_comes_26 : decode b_M_comes 26 = .ok (.iconst 0, 1) := by decide +kernel
theorem dc_M_comes_27 : decode b_M_comes 27 = .ok (.istore 9, 2) := by decide +kernel
theorem dc_M_comes_29 : decode b_M_comes 29 = .ok (.iload 9, 2) := by decide +kernel
theorem dc_M_comes_31 : decode b_M_comes 31 = .ok (.iload_n 0, 1) := by decide +kernel
theorem dc_M_comes_32 : decode b_M_comes 32 = .ok (.iconst 4, 1) := by decide +kernel
theorem dc_M_comes_33 : decode b_M_comes 33 = .ok (.irem, 1) := by decide +kernel
theorem dc_M_comes_34 : decode b_M_comes 34 = .ok (.if_icmp .ge 38, 3) := by decide +kernel
theorem dc_M_comes_72 : decode b_M_comes 72 = .ok (.sipush 1000, 3) := by decide +kernel
theorem dc_M_comes_75 : decode b_M_comes 75 = .ok (.iload 6, 2) := by decide +kernel
theorem dc_M_comes_77 : decode b_M_comes 77 = .ok (.imul, 1) := by decide +kernel
theorem dc_M_comes_78 : decode b_M_comes 78 = .ok (.iload 5, 2) := by decide +kernel
theorem dc_M_comes_80 : decode b_M_comes 80 = .ok (.iadd, 1) := by decide +kernel
theorem dc_M_comes_81 : decode b_M_comes 81 = .ok (.ireturn, 1) := by decide +kernel
theorem dc_M_comes_37 : decode b_M_comes 37 = .ok (.iload 5, 2) := by decide +kernel
theorem dc_M_comes_39 : decode b_M_comes 39 = .ok (.istore 10, 2) := by decide +kernel
theorem dc_M_comes_41 : decode b_M_comes 41 = .ok (.iload 8, 2) := by decide +kernel
theorem dc_M_comes_43 : decode b_M_comes 43 = .ok (.iconst 1, 1) := by decide +kernel
theorem dc_M_comes_44 : decode b_M_comes 44 = .ok (.isub, 1) := by decide +kernel
theorem dc_M_comes_45 : decode b_M_comes 45 = .ok (.iload 6, 2) := by decide +kernel
theorem dc_M_comes_47 : decode b_M_comes 47 = .ok (.isub, 1) := by decide +kernel
theorem dc_M_comes_48 : decode b_M_comes 48 = .ok (.istore 5, 2) := by decide +kernel
theorem dc_M_comes_50 : decode b_M_comes 50 = .ok (.iload 10, 2) := by decide +kernel
theorem dc_M_comes_52 : decode b_M_comes 52 = .ok (.istore 6, 2) := by decide +kernel
theorem dc_M_comes_54 : decode b_M_comes 54 = .ok (.iload 7, 2) := by decide +kernel
theorem dc_M_comes_56 : decode b_M_comes 56 = .ok (.istore 11, 2) := by decide +kernel
theorem dc_M_comes_58 : decode b_M_comes 58 = .ok (.iload 8, 2) := by decide +kernel
theorem dc_M_comes_60 : decode b_M_comes 60 = .ok (.istore 7, 2) := by decide +kernel
theorem dc_M_comes_62 : decode b_M_comes 62 = .ok (.iload 11, 2) := by decide +kernel
theorem dc_M_comes_64 : decode b_M_comes 64 = .ok (.istore 8, 2) := by decide +kernel
theorem dc_M_comes_66 : decode b_M_comes 66 = .ok (.iinc 9 1, 3) := by decide +kernel
theorem dc_M_comes_69 : decode b_M_comes 69 = .ok (.goto (-40), 3) := by decide +kernel
theorem dc_M_isTurned_0 : decode b_M_isTurned 0 = .ok (.iload_n 0, 1) := by decide +kernel
theorem dc_M_isTurned_1 : decode b_M_isTurned 1 = .ok (.iconst 2, 1) := by decide +kernel
theorem dc_M_isTurned_2 : decode b_M_isTurned 2 = .ok (.irem, 1) := by decide +kernel
theorem dc_M_isTurned_3 : decode b_M_isTurned 3 = .ok (.iconst 1, 1) := by decide +kernel
theorem dc_M_isTurned_4 : decode b_M_isTurned 4 = .ok (.if_icmp .ne 7, 3) := by decide +kernel
theorem dc_M_isTurned_11 : decode b_M_isTurned 11 = .ok (.iconst 0, 1) := by decide +kernel
theorem dc_M_isTurned_12 : decode b_M_isTurned 12 = .ok (.ireturn, 1) := by decide +kernel
theorem dc_M_isTurned_7 : decode b_M_isTurned 7 = .ok (.iconst 1, 1) := by decide +kernel
theorem dc_M_isTurned_8 : decode b_M_isTurned 8 = .ok (.goto 4, 3) := by decide +kernel
theorem dc_M_swap_0 : decode b_M_swap 0 = .ok (.aload_n 0, 1) := by decide +kernel
theorem dc_M_swap_1 : decode b_M_swap 1 = .ok (.iconst 0, 1) := by decide +kernel
theorem dc_M_swap_2 : decode b_M_swap 2 = .ok (.putfield 68, 3) := by decide +kernel
theorem dc_M_swap_5 : decode b_M_swap 5 = .ok (.aload_n 0, 1) := by decide +kernel
theorem dc_M_swap_6 : decode b_M_swap 6 = .ok (.iconst 1, 1) := by decide +kernel
theorem dc_M_swap_7 : decode b_M_swap 7 = .ok (.aload_n 0, 1) := by decide +kernel
theorem dc_M_swap_8 : decode b_M_swap 8 = .ok (.getfield 71, 3) := by decide +kernel
theorem dc_M_swap_11 : decode b_M_swap 11 = .ok (.isub, 1) := by decide +kernel
theorem dc_M_swap_12 : decode b_M_swap 12 = .ok (.putfield 71, 3) := by decide +kernel
theorem dc_M_swap_15 : decode b_M_swap 15 = .ok (.aload_n 0, 1) := by decide +kernel
theorem dc_M_swap_16 : decode b_M_swap 16 = .ok (.iconst 0, 1) := by decide +kernel
theorem dc_M_swap_17 : decode b_M_swap 17 = .ok (.putfield 74, 3) := by decide +kernel
theorem dc_M_swap_20 : decode b_M_swap 20 = .ok (.aload_n 0, 1) := by decide +kernel
theorem dc_M_swap_21 : decode b_M_swap 21 = .ok (.iconst 0, 1) := by decide +kernel
theorem dc_M_swap_22 : decode b_M_swap 22 = .ok (.putfield 77, 3) := by decide +kernel
theorem dc_M_swap_25 : decode b_M_swap 25 = .ok (.aload_n 0, 1) := by decide +kernel
theorem dc_M_swap_26 : decode b_M_swap 26 = .ok (.getfield 16, 3) := by decide +kernel
theorem dc_M_swap_29 : decode b_M_swap 29 = .ok (.aload_n 0, 1) := by decide +kernel
theorem dc_M_swap_30 : decode b_M_swap 30 = .ok (.getfield 71, 3) := by decide +kernel
theorem dc_M_swap_33 : decode b_M_swap 33 = .ok (.iaload, 1) := by decide +kernel
theorem dc_M_swap_34 : decode b_M_swap 34 = .ok (.ireturn, 1) := by decide +kernel
theorem dc_M_tell_0 : decode b_M_tell 0 = .ok (.aload_n 0, 1) := by decide +kernel
theorem dc_M_tell_1 : decode b_M_tell 1 = .ok (.getfield 55, 3) := by decide +kernel
theorem dc_M_tell_4 : decode b_M_tell 4 = .ok (.aload_n 0, 1) := by decide +kernel
theorem dc_M_tell_5 : decode b_M_tell 5 = .ok (.getfield 81, 3) := by decide +kernel
theorem dc_M_tell_8 : decode b_M_tell 8 = .ok (.iload_n 1, 1) := by decide +kernel
theorem dc_M_tell_9 : decode b_M_tell 9 = .ok (.iastore, 1) := by decide +kernel
theorem dc_M_tell_10 : decode b_M_tell 10 = .ok (.aload_n 0, 1) := by decide +kernel
theorem dc_M_tell_11 : decode b_M_tell 11 = .ok (.dup, 1) := by decide +kernel
theorem dc_M_tell_12 : decode b_M_tell 12 = .ok (.getfield 81, 3) := by decide +kernel
theorem dc_M_tell_15 : decode b_M_tell 15 = .ok (.iconst 1, 1) := by decide +kernel
theorem dc_M_tell_16 : decode b_M_tell 16 = .ok (.iadd, 1) := by decide +kernel
theorem dc_M_tell_17 : decode b_M_tell 17 = .ok (.putfield 81, 3) := by decide +kernel
theorem dc_M_tell_20 : decode b_M_tell 20 = .ok (.return_, 1) := by decide +kernel
theorem dc_M_partSize_0 : decode b_M_partSize 0 = .ok (.bipush 12, 2) := by decide +kernel
theorem dc_M_partSize_2 : decode b_M_partSize 2 = .ok (.iload_n 0, 1) := by decide +kernel
theorem dc_M_partSize_3 : decode b_M_partSize 3 = .ok (.iadd, 1) := by decide +kernel
theorem dc_M_partSize_4 : decode b_M_partSize 4 = .ok (.ireturn, 1) := by decide +kernel
theorem dc_M_isBefore_0 : decode b_M_isBefore 0 = .ok (.aload_n 0, 1) := by decide +kernel
theorem dc_M_isBefore_1 : decode b_M_isBefore 1 = .ok (.getfield 25, 3) := by decide +kernel
theorem dc_M_isBefore_4 : decode b_M_isBefore 4 = .ok (.iload_n 1, 1) := by decide +kernel
theorem dc_M_isBefore_5 : decode b_M_isBefore 5 = .ok (.iaload, 1) := by decide +kernel
theorem dc_M_isBefore_6 : decode b_M_isBefore 6 = .ok (.aload_n 0, 1) := by decide +kernel
theorem dc_M_isBefore_7 : decode b_M_isBefore 7 = .ok (.getfield 25, 3) := by decide +kernel
theorem dc_M_isBefore_10 : decode b_M_isBefore 10 = .ok (.iload_n 2, 1) := by decide +kernel
theorem dc_M_isBefore_11 : decode b_M_isBefore 11 = .ok (.iaload, 1) := by decide +kernel
theorem dc_M_isBefore_12 : decode b_M_isBefore 12 = .ok (.if_icmp .lt 33, 3) := by decide +kernel
theorem dc_M_isBefore_15 : decode b_M_isBefore 15 = .ok (.aload_n 0, 1) := by decide +kernel
theorem dc_M_isBefore_16 : decode b_M_isBefore 16 = .ok (.getfield 25, 3) := by decide +kernel
theorem dc_M_isBefore_19 : decode b_M_isBefore 19 = .ok (.iload_n 1, 1) := by decide +kernel
theorem dc_M_isBefore_20 : decode b_M_isBefore 20 = .ok (.iaload, 1) := by decide +kernel
theorem dc_M_isBefore_21 : decode b_M_isBefore 21 = .ok (.aload_n 0, 1) := by decide +kernel
theorem dc_M_isBefore_22 : decode b_M_isBefore 22 = .ok (.getfield 25, 3) := by decide +kernel
theorem dc_M_isBefore_25 : decode b_M_isBefore 25 = .ok (.iload_n 2, 1) := by decide +kernel
theorem dc_M_isBefore_26 : decode b_M_isBefore 26 = .ok (.iaload, 1) := by decide +kernel
theorem dc_M_isBefore_27 : decode b_M_isBefore 27 = .ok (.if_icmp .ne 22, 3) := by decide +kernel
theorem dc_M_isBefore_49 : decode b_M_isBefore 49 = .ok (.iconst 0, 1) := by decide +kernel
theorem dc_M_isBefore_50 : decode b_M_isBefore 50 = .ok (.ireturn, 1) := by decide +kernel
theorem dc_M_isBefore_30 : decode b_M_isBefore 30 = .ok (.aload_n 0, 1) := by decide +kernel
theorem dc_M_isBefore_31 : decode b_M_isBefore 31 = .ok (.getfield 22, 3) := by decide +kernel
theorem dc_M_isBefore_34 : decode b_M_isBefore 34 = .ok (.iload_n 1, 1) := by decide +kernel
theorem dc_M_isBefore_35 : decode b_M_isBefore 35 = .ok (.iaload, 1) := by decide +kernel
theorem dc_M_isBefore_36 : decode b_M_isBefore 36 = .ok (.aload_n 0, 1) := by decide +kernel
theorem dc_M_isBefore_37 : decode b_M_isBefore 37 = .ok (.getfield 22, 3) := by decide +kernel
theorem dc_M_isBefore_40 : decode b_M_isBefore 40 = .ok (.iload_n 2, 1) := by decide +kernel
theorem dc_M_isBefore_41 : decode b_M_isBefore 41 = .ok (.iaload, 1) := by decide +kernel
theorem dc_M_isBefore_42 : decode b_M_isBefore 42 = .ok (.if_icmp .ge 7, 3) := by decide +kernel
theorem dc_M_isBefore_45 : decode b_M_isBefore 45 = .ok (.iconst 1, 1) := by decide +kernel
theorem dc_M_isBefore_46 : decode b_M_isBefore 46 = .ok (.goto 4, 3) := by decide +kernel
def dw_M_told_0 : ByteArray := .mk #[0x2a, 0x03, 0xb5, 0x00, 0x44, 0x04, 0x2a, 0xb4, 0x00, 0x47, 0x64, 0x3d, 0x1b]
theorem da_M_told_0 : dkA b_M_told dw_M_told_0 0 := by unfold dkA; decide +kernel
theorem dc_M_told_0 : decode b_M_told 0 = .ok (.aload_n 0, 1) := dk_row (s := 0) da_M_told_0 0 (by decide +kernel)
theorem dc_M_told_1 : decode b_M_told 1 = .ok (.iconst 0, 1) := dk_row (s := 0) da_M_told_0 1 (by decide +kernel)
theorem dc_M_told_2 : decode b_M_told 2 = .ok (.putfield 68, 3) := dk_row (s := 0) da_M_told_0 2 (by decide +kernel)
theorem dc_M_told_5 : decode b_M_told 5 = .ok (.iconst 1, 1) := dk_row (s := 0) da_M_told_0 5 (by decide +kernel)
theorem dc_M_told_6 : decode b_M_told 6 = .ok (.aload_n 0, 1) := dk_row (s := 0) da_M_told_0 6 (by decide +kernel)
theorem dc_M_told_7 : decode b_M_told 7 = .ok (.getfield 71, 3) := dk_row (s := 0) da_M_told_0 7 (by decide +kernel)
theorem dc_M_told_10 : decode b_M_told 10 = .ok (.isub, 1) := dk_row (s := 0) da_M_told_0 10 (by decide +kernel)
theorem dc_M_told_11 : decode b_M_told 11 = .ok (.istore_n 2, 1) := dk_row (s := 0) da_M_told_0 11 (by decide +kernel)
theorem dc_M_told_12 : decode b_M_told 12 = .ok (.iload_n 1, 1) := dk_row (s := 0) da_M_told_0 12 (by decide +kernel)
theorem dc_M_told_13 : decode b_M_told 13 = .ok (.tableswitch 124 0 8 #[51, 61, 71, 81, 91, 96, 103, 110, 117], 51) := by decide +kernel
def dw_M_told_64 : ByteArray := .mk #[0x2a, 0xb4, 0x00, 0x07, 0x2a, 0xb4, 0x00, 0x47, 0x2e, 0xac, 0x2a, 0xb4, 0x00, 0x0d, 0x2a, 0xb4, 0x00, 0x47, 0x2e, 0xac, 0x2a, 0xb4, 0x00, 0x10, 0x2a, 0xb4, 0x00, 0x47, 0x2e, 0xac, 0x2a]
theorem da_M_told_64 : dkA b_M_told dw_M_told_64 64 := by unfold dkA; decide +kernel
theorem dc_M_told_64 : decode b_M_told 64 = .ok (.aload_n 0, 1) := dk_row (s := 64) da_M_told_64 0 (by decide +kernel)
theorem dc_M_told_65 : decode b_M_told 65 = .ok (.getfield 7, 3) := dk_row (s := 64) da_M_told_64 1 (by decide +kernel)
theorem dc_M_told_68 : decode b_M_told 68 = .ok (.aload_n 0, 1) := dk_row (s := 64) da_M_told_64 4 (by decide +kernel)
theorem dc_M_told_69 : decode b_M_told 69 = .ok (.getfield 71, 3) := dk_row (s := 64) da_M_told_64 5 (by decide +kernel)
theorem dc_M_told_72 : decode b_M_told 72 = .ok (.iaload, 1) := dk_row (s := 64) da_M_told_64 8 (by decide +kernel)
theorem dc_M_told_73 : decode b_M_told 73 = .ok (.ireturn, 1) := dk_row (s := 64) da_M_told_64 9 (by decide +kernel)
theorem dc_M_told_74 : decode b_M_told 74 = .ok (.aload_n 0, 1) := dk_row (s := 64) da_M_told_64 10 (by decide +kernel)
theorem dc_M_told_75 : decode b_M_told 75 = .ok (.getfield 13, 3) := dk_row (s := 64) da_M_told_64 11 (by decide +kernel)
theorem dc_M_told_78 : decode b_M_told 78 = .ok (.aload_n 0, 1) := dk_row (s := 64) da_M_told_64 14 (by decide +kernel)
theorem dc_M_told_79 : decode b_M_told 79 = .ok (.getfield 71, 3) := dk_row (s := 64) da_M_told_64 15 (by decide +kernel)
theorem dc_M_told_82 : decode b_M_told 82 = .ok (.iaload, 1) := dk_row (s := 64) da_M_told_64 18 (by decide +kernel)
theorem dc_M_told_83 : decode b_M_told 83 = .ok (.ireturn, 1) := dk_row (s := 64) da_M_told_64 19 (by decide +kernel)
theorem dc_M_told_84 : decode b_M_told 84 = .ok (.aload_n 0, 1) := dk_row (s := 64) da_M_told_64 20 (by decide +kernel)
theorem dc_M_told_85 : decode b_M_told 85 = .ok (.getfield 16, 3) := dk_row (s := 64) da_M_told_64 21 (by decide +kernel)
theorem dc_M_told_88 : decode b_M_told 88 = .ok (.aload_n 0, 1) := dk_row (s := 64) da_M_told_64 24 (by decide +kernel)
theorem dc_M_told_89 : decode b_M_told 89 = .ok (.getfield 71, 3) := dk_row (s := 64) da_M_told_64 25 (by decide +kernel)
theorem dc_M_told_92 : decode b_M_told 92 = .ok (.iaload, 1) := dk_row (s := 64) da_M_told_64 28 (by decide +kernel)
theorem dc_M_told_93 : decode b_M_told 93 = .ok (.ireturn, 1) := dk_row (s := 64) da_M_told_64 29 (by decide +kernel)
theorem dc_M_told_94 : decode b_M_told 94 = .ok (.aload_n 0, 1) := dk_row (s := 64) da_M_told_64 30 (by decide +kernel)
def dw_M_told_95 : ByteArray := .mk #[0xb4, 0x00, 0x13, 0x2a, 0xb4, 0x00, 0x47, 0x2e, 0xac, 0x2a, 0xb4, 0x00, 0x51, 0xac, 0x2a, 0xb4, 0x00, 0x07, 0x1c, 0x2e, 0xac, 0x2a, 0xb4, 0x00, 0x0d, 0x1c, 0x2e, 0xac, 0x2a, 0xb4, 0x00, 0x10]
theorem da_M_told_95 : dkA b_M_told dw_M_told_95 95 := by unfold dkA; decide +kernel
theorem dc_M_told_95 : decode b_M_told 95 = .ok (.getfield 19, 3) := dk_row (s := 95) da_M_told_95 0 (by decide +kernel)
theorem dc_M_told_98 : decode b_M_told 98 = .ok (.aload_n 0, 1) := dk_row (s := 95) da_M_told_95 3 (by decide +kernel)
theorem dc_M_told_99 : decode b_M_told 99 = .ok (.getfield 71, 3) := dk_row (s := 95) da_M_told_95 4 (by decide +kernel)
theorem dc_M_told_102 : decode b_M_told 102 = .ok (.iaload, 1) := dk_row (s := 95) da_M_told_95 7 (by decide +kernel)
theorem dc_M_told_103 : decode b_M_told 103 = .ok (.ireturn, 1) := dk_row (s := 95) da_M_told_95 8 (by decide +kernel)
theorem dc_M_told_104 : decode b_M_told 104 = .ok (.aload_n 0, 1) := dk_row (s := 95) da_M_told_95 9 (by decide +kernel)
theorem dc_M_told_105 : decode b_M_told 105 = .ok (.getfield 81, 3) := dk_row (s := 95) da_M_told_95 10 (by decide +kernel)
theorem dc_M_told_108 : decode b_M_told 108 = .ok (.ireturn, 1) := dk_row (s := 95) da_M_told_95 13 (by decide +kernel)
theorem dc_M_told_109 : decode b_M_told 109 = .ok (.aload_n 0, 1) := dk_row (s := 95) da_M_told_95 14 (by decide +kernel)
theorem dc_M_told_110 : decode b_M_told 110 = .ok (.getfield 7, 3) := dk_row (s := 95) da_M_told_95 15 (by decide +kernel)
theorem dc_M_told_113 : decode b_M_told 113 = .ok (.iload_n 2, 1) := dk_row (s := 95) da_M_told_95 18 (by decide +kernel)
theorem dc_M_told_114 : decode b_M_told 114 = .ok (.iaload, 1) := dk_row (s := 95) da_M_told_95 19 (by decide +kernel)
theorem dc_M_told_115 : decode b_M_told 115 = .ok (.ireturn, 1) := dk_row (s := 95) da_M_told_95 20 (by decide +kernel)
theorem dc_M_told_116 : decode b_M_told 116 = .ok (.aload_n 0, 1) := dk_row (s := 95) da_M_told_95 21 (by decide +kernel)
theorem dc_M_told_117 : decode b_M_told 117 = .ok (.getfield 13, 3) := dk_row (s := 95) da_M_told_95 22 (by decide +kernel)
theorem dc_M_told_120 : decode b_M_told 120 = .ok (.iload_n 2, 1) := dk_row (s := 95) da_M_told_95 25 (by decide +kernel)
theorem dc_M_told_121 : decode b_M_told 121 = .ok (.iaload, 1) := dk_row (s := 95) da_M_told_95 26 (by decide +kernel)
theorem dc_M_told_122 : decode b_M_told 122 = .ok (.ireturn, 1) := dk_row (s := 95) da_M_told_95 27 (by decide +kernel)
theorem dc_M_told_123 : decode b_M_told 123 = .ok (.aload_n 0, 1) := dk_row (s := 95) da_M_told_95 28 (by decide +kernel)
theorem dc_M_told_124 : decode b_M_told 124 = .ok (.getfield 16, 3) := dk_row (s := 95) da_M_told_95 29 (by decide +kernel)
def dw_M_told_127 : ByteArray := .mk #[0x1c, 0x2e, 0xac, 0x2a, 0xb4, 0x00, 0x13, 0x1c, 0x2e, 0xac, 0x02, 0xac]
theorem da_M_told_127 : dkA b_M_told dw_M_told_127 127 := by unfold dkA; decide +kernel
theorem dc_M_told_127 : decode b_M_told 127 = .ok (.iload_n 2, 1) := dk_row (s := 127) da_M_told_127 0 (by decide +kernel)
theorem dc_M_told_128 : decode b_M_told 128 = .ok (.iaload, 1) := dk_row (s := 127) da_M_told_127 1 (by decide +kernel)
theorem dc_M_told_129 : decode b_M_told 129 = .ok (.ireturn, 1) := dk_row (s := 127) da_M_told_127 2 (by decide +kernel)
theorem dc_M_told_130 : decode b_M_told 130 = .ok (.aload_n 0, 1) := dk_row (s := 127) da_M_told_127 3 (by decide +kernel)
theorem dc_M_told_131 : decode b_M_told 131 = .ok (.getfield 19, 3) := dk_row (s := 127) da_M_told_127 4 (by decide +kernel)
theorem dc_M_told_134 : decode b_M_told 134 = .ok (.iload_n 2, 1) := dk_row (s := 127) da_M_told_127 7 (by decide +kernel)
theorem dc_M_told_135 : decode b_M_told 135 = .ok (.iaload, 1) := dk_row (s := 127) da_M_told_127 8 (by decide +kernel)
theorem dc_M_told_136 : decode b_M_told 136 = .ok (.ireturn, 1) := dk_row (s := 127) da_M_told_127 9 (by decide +kernel)
theorem dc_M_told_137 : decode b_M_told 137 = .ok (.iconst (-1), 1) := dk_row (s := 127) da_M_told_127 10 (by decide +kernel)
theorem dc_M_told_138 : decode b_M_told 138 = .ok (.ireturn, 1) := dk_row (s := 127) da_M_told_127 11 (by decide +kernel)
theorem dc_M_isTile_0 : decode b_M_isTile 0 = .ok (.iload_n 1, 1) := by decide +kernel
theorem dc_M_isTile_1 : decode b_M_isTile 1 = .ok (.iconst 0, 1) := by decide +kernel
theorem dc_M_isTile_2 : decode b_M_isTile 2 = .ok (.aload_n 0, 1) := by decide +kernel
theorem dc_M_isTile_3 : decode b_M_isTile 3 = .ok (.getfield 16, 3) := by decide +kernel
theorem dc_M_isTile_6 : decode b_M_isTile 6 = .ok (.aload_n 0, 1) := by decide +kernel
theorem dc_M_isTile_7 : decode b_M_isTile 7 = .ok (.getfield 71, 3) := by decide +kernel
theorem dc_M_isTile_10 : decode b_M_isTile 10 = .ok (.iaload, 1) := by decide +kernel
theorem dc_M_isTile_11 : decode b_M_isTile 11 = .ok (.iconst 1, 1) := by decide +kernel
theorem dc_M_isTile_12 : decode b_M_isTile 12 = .ok (.isub, 1) := by decide +kernel
theorem dc_M_isTile_13 : decode b_M_isTile 13 = .ok (.invokestatic 84, 3) := by decide +kernel
theorem dc_M_isTile_16 : decode b_M_isTile 16 = .ok (.ireturn, 1) := by decide +kernel
theorem dc_M_isSample_0 : decode b_M_isSample 0 = .ok (.iload_n 1, 1) := by decide +kernel
theorem dc_M_isSample_1 : decode b_M_isSample 1 = .ok (.iconst 0, 1) := by decide +kernel
theorem dc_M_isSample_2 : decode b_M_isSample 2 = .ok (.aload_n 0, 1) := by decide +kernel
theorem dc_M_isSample_3 : decode b_M_isSample 3 = .ok (.getfield 7, 3) := by decide +kernel
theorem dc_M_isSample_6 : decode b_M_isSample 6 = .ok (.aload_n 0, 1) := by decide +kernel
theorem dc_M_isSample_7 : decode b_M_isSample 7 = .ok (.getfield 71, 3) := by decide +kernel
theorem dc_M_isSample_10 : decode b_M_isSample 10 = .ok (.iaload, 1) := by decide +kernel
theorem dc_M_isSample_11 : decode b_M_isSample 11 = .ok (.iconst 1, 1) := by decide +kernel
theorem dc_M_isSample_12 : decode b_M_isSample 12 = .ok (.isub, 1) := by decide +kernel
theorem dc_M_isSample_13 : decode b_M_isSample 13 = .ok (.invokestatic 84, 3) := by decide +kernel
theorem dc_M_isSample_16 : decode b_M_isSample 16 = .ok (.ifCond .eq 26, 3) := by decide +kernel
theorem dc_M_isSample_42 : decode b_M_isSample 42 = .ok (.iconst 0, 1) := by decide +kernel
theorem dc_M_isSample_43 : decode b_M_isSample 43 = .ok (.ireturn, 1) := by decide +kernel
theorem dc_M_isSample_19 : decode b_M_isSample 19 = .ok (.iload_n 2, 1) := by decide +kernel
theorem dc_M_isSample_20 : decode b_M_isSample 20 = .ok (.iconst 0, 1) := by decide +kernel
theorem dc_M_isSample_21 : decode b_M_isSample 21 = .ok (.aload_n 0, 1) := by decide +kernel
theorem dc_M_isSample_22 : decode b_M_isSample 22 = .ok (.getfield 13, 3) := by decide +kernel
theorem dc_M_isSample_25 : decode b_M_isSample 25 = .ok (.aload_n 0, 1) := by decide +kernel
theorem dc_M_isSample_26 : decode b_M_isSample 26 = .ok (.getfield 71, 3) := by decide +kernel
theorem dc_M_isSample_29 : decode b_M_isSample 29 = .ok (.iaload, 1) := by decide +kernel
theorem dc_M_isSample_30 : decode b_M_isSample 30 = .ok (.iconst 1, 1) := by decide +kernel
theorem dc_M_isSample_31 : decode b_M_isSample 31 = .ok (.isub, 1) := by decide +kernel
theorem dc_M_isSample_32 : decode b_M_isSample 32 = .ok (.invokestatic 84, 3) := by decide +kernel
theorem dc_M_isSample_35 : decode b_M_isSample 35 = .ok (.ifCond .eq 7, 3) := by decide +kernel
theorem dc_M_isSample_38 : decode b_M_isSample 38 = .ok (.iconst 1, 1) := by decide +kernel
theorem dc_M_isSample_39 : decode b_M_isSample 39 = .ok (.goto 4, 3) := by decide +kernel
def dw_M_tile_0 : ByteArray := .mk #[0x2a, 0x1d, 0x04, 0x10, 0x40, 0xb8, 0x00, 0x54, 0x99, 0x00, 0x1a, 0x15, 0x04, 0x04, 0x10, 0x40, 0xb8, 0x00, 0x54, 0x99, 0x00, 0x0f, 0x2a, 0x1b, 0x1c, 0x1d, 0x15, 0x04, 0xb6, 0x00, 0x58]
theorem da_M_tile_0 : dkA b_M_tile dw_M_tile_0 0 := by unfold dkA; decide +kernel
theorem dc_M_tile_0 : decode b_M_tile 0 = .ok (.aload_n 0, 1) := dk_row (s := 0) da_M_tile_0 0 (by decide +kernel)
theorem dc_M_tile_1 : decode b_M_tile 1 = .ok (.iload_n 3, 1) := dk_row (s := 0) da_M_tile_0 1 (by decide +kernel)
theorem dc_M_tile_2 : decode b_M_tile 2 = .ok (.iconst 1, 1) := dk_row (s := 0) da_M_tile_0 2 (by decide +kernel)
theorem dc_M_tile_3 : decode b_M_tile 3 = .ok (.bipush 64, 2) := dk_row (s := 0) da_M_tile_0 3 (by decide +kernel)
theorem dc_M_tile_5 : decode b_M_tile 5 = .ok (.invokestatic 84, 3) := dk_row (s := 0) da_M_tile_0 5 (by decide +kernel)
theorem dc_M_tile_8 : decode b_M_tile 8 = .ok (.ifCond .eq 26, 3) := dk_row (s := 0) da_M_tile_0 8 (by decide +kernel)
theorem dc_M_tile_11 : decode b_M_tile 11 = .ok (.iload 4, 2) := dk_row (s := 0) da_M_tile_0 11 (by decide +kernel)
theorem dc_M_tile_13 : decode b_M_tile 13 = .ok (.iconst 1, 1) := dk_row (s := 0) da_M_tile_0 13 (by decide +kernel)
theorem dc_M_tile_14 : decode b_M_tile 14 = .ok (.bipush 64, 2) := dk_row (s := 0) da_M_tile_0 14 (by decide +kernel)
theorem dc_M_tile_16 : decode b_M_tile 16 = .ok (.invokestatic 84, 3) := dk_row (s := 0) da_M_tile_0 16 (by decide +kernel)
theorem dc_M_tile_19 : decode b_M_tile 19 = .ok (.ifCond .eq 15, 3) := dk_row (s := 0) da_M_tile_0 19 (by decide +kernel)
theorem dc_M_tile_22 : decode b_M_tile 22 = .ok (.aload_n 0, 1) := dk_row (s := 0) da_M_tile_0 22 (by decide +kernel)
theorem dc_M_tile_23 : decode b_M_tile 23 = .ok (.iload_n 1, 1) := dk_row (s := 0) da_M_tile_0 23 (by decide +kernel)
theorem dc_M_tile_24 : decode b_M_tile 24 = .ok (.iload_n 2, 1) := dk_row (s := 0) da_M_tile_0 24 (by decide +kernel)
theorem dc_M_tile_25 : decode b_M_tile 25 = .ok (.iload_n 3, 1) := dk_row (s := 0) da_M_tile_0 25 (by decide +kernel)
theorem dc_M_tile_26 : decode b_M_tile 26 = .ok (.iload 4, 2) := dk_row (s := 0) da_M_tile_0 26 (by decide +kernel)
theorem dc_M_tile_28 : decode b_M_tile 28 = .ok (.invokevirtual 88, 3) := dk_row (s := 0) da_M_tile_0 28 (by decide +kernel)
def dw_M_tile_31 : ByteArray := .mk #[0x9a, 0x00, 0x07, 0x04, 0xa7, 0x00, 0x04, 0x03, 0xb5, 0x00, 0x44, 0x03, 0x36, 0x05, 0x15, 0x05, 0x2a, 0xb4, 0x00, 0x10, 0x2a, 0xb4, 0x00, 0x47, 0x2e, 0xa2, 0x00, 0x6e, 0x2a, 0xb4, 0x00, 0x44]
theorem da_M_tile_31 : dkA b_M_tile dw_M_tile_31 31 := by unfold dkA; decide +kernel
theorem dc_M_tile_31 : decode b_M_tile 31 = .ok (.ifCond .ne 7, 3) := dk_row (s := 31) da_M_tile_31 0 (by decide +kernel)
theorem dc_M_tile_38 : decode b_M_tile 38 = .ok (.iconst 0, 1) := dk_row (s := 31) da_M_tile_31 7 (by decide +kernel)
theorem dc_M_tile_39 : decode b_M_tile 39 = .ok (.putfield 68, 3) := dk_row (s := 31) da_M_tile_31 8 (by decide +kernel)
theorem dc_M_tile_42 : decode b_M_tile 42 = .ok (.iconst 0, 1) := dk_row (s := 31) da_M_tile_31 11 (by decide +kernel)
theorem dc_M_tile_43 : decode b_M_tile 43 = .ok (.istore 5, 2) := dk_row (s := 31) da_M_tile_31 12 (by decide +kernel)
theorem dc_M_tile_45 : decode b_M_tile 45 = .ok (.iload 5, 2) := dk_row (s := 31) da_M_tile_31 14 (by decide +kernel)
theorem dc_M_tile_47 : decode b_M_tile 47 = .ok (.aload_n 0, 1) := dk_row (s := 31) da_M_tile_31 16 (by decide +kernel)
theorem dc_M_tile_48 : decode b_M_tile 48 = .ok (.getfield 16, 3) := dk_row (s := 31) da_M_tile_31 17 (by decide +kernel)
theorem dc_M_tile_51 : decode b_M_tile 51 = .ok (.aload_n 0, 1) := dk_row (s := 31) da_M_tile_31 20 (by decide +kernel)
theorem dc_M_tile_52 : decode b_M_tile 52 = .ok (.getfield 71, 3) := dk_row (s := 31) da_M_tile_31 21 (by decide +kernel)
theorem dc_M_tile_55 : decode b_M_tile 55 = .ok (.iaload, 1) := dk_row (s := 31) da_M_tile_31 24 (by decide +kernel)
theorem dc_M_tile_56 : decode b_M_tile 56 = .ok (.if_icmp .ge 110, 3) := dk_row (s := 31) da_M_tile_31 25 (by decide +kernel)
theorem dc_M_tile_59 : decode b_M_tile 59 = .ok (.aload_n 0, 1) := dk_row (s := 31) da_M_tile_31 28 (by decide +kernel)
theorem dc_M_tile_60 : decode b_M_tile 60 = .ok (.getfield 68, 3) := dk_row (s := 31) da_M_tile_31 29 (by decide +kernel)
def dw_M_tile_63 : ByteArray := .mk #[0x9a, 0x00, 0x67, 0x2a, 0x15, 0x05, 0xb6, 0x00, 0x5c, 0x36, 0x06, 0x1b, 0x1d, 0x60, 0x2a, 0xb4, 0x00, 0x16, 0x15, 0x06, 0x2e, 0xa4, 0x00, 0x37, 0x2a, 0xb4, 0x00, 0x16, 0x15, 0x06, 0x2e, 0x2a]
theorem da_M_tile_63 : dkA b_M_tile dw_M_tile_63 63 := by unfold dkA; decide +kernel
theorem dc_M_tile_63 : decode b_M_tile 63 = .ok (.ifCond .ne 103, 3) := dk_row (s := 63) da_M_tile_63 0 (by decide +kernel)
theorem dc_M_tile_66 : decode b_M_tile 66 = .ok (.aload_n 0, 1) := dk_row (s := 63) da_M_tile_63 3 (by decide +kernel)
theorem dc_M_tile_67 : decode b_M_tile 67 = .ok (.iload 5, 2) := dk_row (s := 63) da_M_tile_63 4 (by decide +kernel)
theorem dc_M_tile_69 : decode b_M_tile 69 = .ok (.invokevirtual 92, 3) := dk_row (s := 63) da_M_tile_63 6 (by decide +kernel)
theorem dc_M_tile_72 : decode b_M_tile 72 = .ok (.istore 6, 2) := dk_row (s := 63) da_M_tile_63 9 (by decide +kernel)
theorem dc_M_tile_74 : decode b_M_tile 74 = .ok (.iload_n 1, 1) := dk_row (s := 63) da_M_tile_63 11 (by decide +kernel)
theorem dc_M_tile_75 : decode b_M_tile 75 = .ok (.iload_n 3, 1) := dk_row (s := 63) da_M_tile_63 12 (by decide +kernel)
theorem dc_M_tile_76 : decode b_M_tile 76 = .ok (.iadd, 1) := dk_row (s := 63) da_M_tile_63 13 (by decide +kernel)
theorem dc_M_tile_77 : decode b_M_tile 77 = .ok (.aload_n 0, 1) := dk_row (s := 63) da_M_tile_63 14 (by decide +kernel)
theorem dc_M_tile_78 : decode b_M_tile 78 = .ok (.getfield 22, 3) := dk_row (s := 63) da_M_tile_63 15 (by decide +kernel)
theorem dc_M_tile_81 : decode b_M_tile 81 = .ok (.iload 6, 2) := dk_row (s := 63) da_M_tile_63 18 (by decide +kernel)
theorem dc_M_tile_83 : decode b_M_tile 83 = .ok (.iaload, 1) := dk_row (s := 63) da_M_tile_63 20 (by decide +kernel)
theorem dc_M_tile_84 : decode b_M_tile 84 = .ok (.if_icmp .le 55, 3) := dk_row (s := 63) da_M_tile_63 21 (by decide +kernel)
theorem dc_M_tile_87 : decode b_M_tile 87 = .ok (.aload_n 0, 1) := dk_row (s := 63) da_M_tile_63 24 (by decide +kernel)
theorem dc_M_tile_88 : decode b_M_tile 88 = .ok (.getfield 22, 3) := dk_row (s := 63) da_M_tile_63 25 (by decide +kernel)
theorem dc_M_tile_91 : decode b_M_tile 91 = .ok (.iload 6, 2) := dk_row (s := 63) da_M_tile_63 28 (by decide +kernel)
theorem dc_M_tile_93 : decode b_M_tile 93 = .ok (.iaload, 1) := dk_row (s := 63) da_M_tile_63 30 (by decide +kernel)
theorem dc_M_tile_94 : decode b_M_tile 94 = .ok (.aload_n 0, 1) := dk_row (s := 63) da_M_tile_63 31 (by decide +kernel)
def dw_M_tile_95 : ByteArray := .mk #[0xb4, 0x00, 0x1c, 0x15, 0x06, 0x2e, 0x60, 0x1b, 0xa4, 0x00, 0x24, 0x1c, 0x15, 0x04, 0x60, 0x2a, 0xb4, 0x00, 0x19, 0x15, 0x06, 0x2e, 0xa4, 0x00, 0x16, 0x2a, 0xb4, 0x00, 0x19, 0x15, 0x06, 0x2e]
theorem da_M_tile_95 : dkA b_M_tile dw_M_tile_95 95 := by unfold dkA; decide +kernel
theorem dc_M_tile_95 : decode b_M_tile 95 = .ok (.getfield 28, 3) := dk_row (s := 95) da_M_tile_95 0 (by decide +kernel)
theorem dc_M_tile_98 : decode b_M_tile 98 = .ok (.iload 6, 2) := dk_row (s := 95) da_M_tile_95 3 (by decide +kernel)
theorem dc_M_tile_100 : decode b_M_tile 100 = .ok (.iaload, 1) := dk_row (s := 95) da_M_tile_95 5 (by decide +kernel)
theorem dc_M_tile_101 : decode b_M_tile 101 = .ok (.iadd, 1) := dk_row (s := 95) da_M_tile_95 6 (by decide +kernel)
theorem dc_M_tile_102 : decode b_M_tile 102 = .ok (.iload_n 1, 1) := dk_row (s := 95) da_M_tile_95 7 (by decide +kernel)
theorem dc_M_tile_103 : decode b_M_tile 103 = .ok (.if_icmp .le 36, 3) := dk_row (s := 95) da_M_tile_95 8 (by decide +kernel)
theorem dc_M_tile_106 : decode b_M_tile 106 = .ok (.iload_n 2, 1) := dk_row (s := 95) da_M_tile_95 11 (by decide +kernel)
theorem dc_M_tile_107 : decode b_M_tile 107 = .ok (.iload 4, 2) := dk_row (s := 95) da_M_tile_95 12 (by decide +kernel)
theorem dc_M_tile_109 : decode b_M_tile 109 = .ok (.iadd, 1) := dk_row (s := 95) da_M_tile_95 14 (by decide +kernel)
theorem dc_M_tile_110 : decode b_M_tile 110 = .ok (.aload_n 0, 1) := dk_row (s := 95) da_M_tile_95 15 (by decide +kernel)
theorem dc_M_tile_111 : decode b_M_tile 111 = .ok (.getfield 25, 3) := dk_row (s := 95) da_M_tile_95 16 (by decide +kernel)
theorem dc_M_tile_114 : decode b_M_tile 114 = .ok (.iload 6, 2) := dk_row (s := 95) da_M_tile_95 19 (by decide +kernel)
theorem dc_M_tile_116 : decode b_M_tile 116 = .ok (.iaload, 1) := dk_row (s := 95) da_M_tile_95 21 (by decide +kernel)
theorem dc_M_tile_117 : decode b_M_tile 117 = .ok (.if_icmp .le 22, 3) := dk_row (s := 95) da_M_tile_95 22 (by decide +kernel)
theorem dc_M_tile_120 : decode b_M_tile 120 = .ok (.aload_n 0, 1) := dk_row (s := 95) da_M_tile_95 25 (by decide +kernel)
theorem dc_M_tile_121 : decode b_M_tile 121 = .ok (.getfield 25, 3) := dk_row (s := 95) da_M_tile_95 26 (by decide +kernel)
theorem dc_M_tile_124 : decode b_M_tile 124 = .ok (.iload 6, 2) := dk_row (s := 95) da_M_tile_95 29 (by decide +kernel)
theorem dc_M_tile_126 : decode b_M_tile 126 = .ok (.iaload, 1) := dk_row (s := 95) da_M_tile_95 31 (by decide +kernel)
def dw_M_tile_127 : ByteArray := .mk #[0x2a, 0xb4, 0x00, 0x1f, 0x15, 0x06, 0x2e, 0x60, 0x1c, 0xa3, 0x00, 0x07, 0x04, 0xa7, 0x00, 0x04, 0x03, 0x36, 0x07, 0x2a, 0x15, 0x07, 0x99, 0x00, 0x07, 0x03, 0xa7, 0x00, 0x04, 0x05]
theorem da_M_tile_127 : dkA b_M_tile dw_M_tile_127 127 := by unfold dkA; decide +kernel
theorem dc_M_tile_127 : decode b_M_tile 127 = .ok (.aload_n 0, 1) := dk_row (s := 127) da_M_tile_127 0 (by decide +kernel)
theorem dc_M_tile_128 : decode b_M_tile 128 = .ok (.getfield 31, 3) := dk_row (s := 127) da_M_tile_127 1 (by decide +kernel)
theorem dc_M_tile_131 : decode b_M_tile 131 = .ok (.iload 6, 2) := dk_row (s := 127) da_M_tile_127 4 (by decide +kernel)
theorem dc_M_tile_133 : decode b_M_tile 133 = .ok (.iaload, 1) := dk_row (s := 127) da_M_tile_127 6 (by decide +kernel)
theorem dc_M_tile_134 : decode b_M_tile 134 = .ok (.iadd, 1) := dk_row (s := 127) da_M_tile_127 7 (by decide +kernel)
theorem dc_M_tile_135 : decode b_M_tile 135 = .ok (.iload_n 2, 1) := dk_row (s := 127) da_M_tile_127 8 (by decide +kernel)
theorem dc_M_tile_136 : decode b_M_tile 136 = .ok (.if_icmp .gt 7, 3) := dk_row (s := 127) da_M_tile_127 9 (by decide +kernel)
theorem dc_M_tile_143 : decode b_M_tile 143 = .ok (.iconst 0, 1) := dk_row (s := 127) da_M_tile_127 16 (by decide +kernel)
theorem dc_M_tile_144 : decode b_M_tile 144 = .ok (.istore 7, 2) := dk_row (s := 127) da_M_tile_127 17 (by decide +kernel)
theorem dc_M_tile_146 : decode b_M_tile 146 = .ok (.aload_n 0, 1) := dk_row (s := 127) da_M_tile_127 19 (by decide +kernel)
theorem dc_M_tile_147 : decode b_M_tile 147 = .ok (.iload 7, 2) := dk_row (s := 127) da_M_tile_127 20 (by decide +kernel)
theorem dc_M_tile_149 : decode b_M_tile 149 = .ok (.ifCond .eq 7, 3) := dk_row (s := 127) da_M_tile_127 22 (by decide +kernel)
theorem dc_M_tile_156 : decode b_M_tile 156 = .ok (.iconst 2, 1) := dk_row (s := 127) da_M_tile_127 29 (by decide +kernel)
def dw_M_tile_152 : ByteArray := .mk #[0x03, 0xa7, 0x00, 0x04, 0x05, 0xb5, 0x00, 0x44, 0x84, 0x05, 0x01, 0xa7, 0xff, 0x8a]
theorem da_M_tile_152 : dkA b_M_tile dw_M_tile_152 152 := by unfold dkA; decide +kernel
theorem dc_M_tile_152 : decode b_M_tile 152 = .ok (.iconst 0, 1) := dk_row (s := 152) da_M_tile_152 0 (by decide +kernel)
theorem dc_M_tile_153 : decode b_M_tile 153 = .ok (.goto 4, 3) := dk_row (s := 152) da_M_tile_152 1 (by decide +kernel)
theorem dc_M_tile_157 : decode b_M_tile 157 = .ok (.putfield 68, 3) := dk_row (s := 152) da_M_tile_152 5 (by decide +kernel)
theorem dc_M_tile_160 : decode b_M_tile 160 = .ok (.iinc 5 1, 3) := dk_row (s := 152) da_M_tile_152 8 (by decide +kernel)
theorem dc_M_tile_163 : decode b_M_tile 163 = .ok (.goto (-118), 3) := dk_row (s := 152) da_M_tile_152 11 (by decide +kernel)
def dw_M_tile_139 : ByteArray := .mk #[0x04, 0xa7, 0x00, 0x04, 0x03, 0x36, 0x07, 0x2a, 0x15, 0x07, 0x99, 0x00, 0x07, 0x03, 0xa7, 0x00, 0x04, 0x05, 0xb5, 0x00, 0x44, 0x84, 0x05, 0x01, 0xa7, 0xff, 0x8a, 0x2a, 0x2a, 0xb4, 0x00, 0x44]
theorem da_M_tile_139 : dkA b_M_tile dw_M_tile_139 139 := by unfold dkA; decide +kernel
theorem dc_M_tile_139 : decode b_M_tile 139 = .ok (.iconst 1, 1) := dk_row (s := 139) da_M_tile_139 0 (by decide +kernel)
theorem dc_M_tile_140 : decode b_M_tile 140 = .ok (.goto 4, 3) := dk_row (s := 139) da_M_tile_139 1 (by decide +kernel)
theorem dc_M_tile_166 : decode b_M_tile 166 = .ok (.aload_n 0, 1) := dk_row (s := 139) da_M_tile_139 27 (by decide +kernel)
theorem dc_M_tile_167 : decode b_M_tile 167 = .ok (.aload_n 0, 1) := dk_row (s := 139) da_M_tile_139 28 (by decide +kernel)
theorem dc_M_tile_168 : decode b_M_tile 168 = .ok (.getfield 68, 3) := dk_row (s := 139) da_M_tile_139 29 (by decide +kernel)
def dw_M_tile_171 : ByteArray := .mk #[0x9a, 0x00, 0x15, 0x2a, 0xb4, 0x00, 0x10, 0x2a, 0xb4, 0x00, 0x47, 0x2e, 0x10, 0x28, 0xa0, 0x00, 0x07, 0x06, 0xa7, 0x00, 0x07, 0x2a, 0xb4, 0x00, 0x44, 0xb5, 0x00, 0x44, 0x2a, 0xb4, 0x00, 0x44]
theorem da_M_tile_171 : dkA b_M_tile dw_M_tile_171 171 := by unfold dkA; decide +kernel
theorem dc_M_tile_171 : decode b_M_tile 171 = .ok (.ifCond .ne 21, 3) := dk_row (s := 171) da_M_tile_171 0 (by decide +kernel)
theorem dc_M_tile_174 : decode b_M_tile 174 = .ok (.aload_n 0, 1) := dk_row (s := 171) da_M_tile_171 3 (by decide +kernel)
theorem dc_M_tile_175 : decode b_M_tile 175 = .ok (.getfield 16, 3) := dk_row (s := 171) da_M_tile_171 4 (by decide +kernel)
theorem dc_M_tile_178 : decode b_M_tile 178 = .ok (.aload_n 0, 1) := dk_row (s := 171) da_M_tile_171 7 (by decide +kernel)
theorem dc_M_tile_179 : decode b_M_tile 179 = .ok (.getfield 71, 3) := dk_row (s := 171) da_M_tile_171 8 (by decide +kernel)
theorem dc_M_tile_182 : decode b_M_tile 182 = .ok (.iaload, 1) := dk_row (s := 171) da_M_tile_171 11 (by decide +kernel)
theorem dc_M_tile_183 : decode b_M_tile 183 = .ok (.bipush 40, 2) := dk_row (s := 171) da_M_tile_171 12 (by decide +kernel)
theorem dc_M_tile_185 : decode b_M_tile 185 = .ok (.if_icmp .ne 7, 3) := dk_row (s := 171) da_M_tile_171 14 (by decide +kernel)
theorem dc_M_tile_188 : decode b_M_tile 188 = .ok (.iconst 3, 1) := dk_row (s := 171) da_M_tile_171 17 (by decide +kernel)
theorem dc_M_tile_189 : decode b_M_tile 189 = .ok (.goto 7, 3) := dk_row (s := 171) da_M_tile_171 18 (by decide +kernel)
theorem dc_M_tile_196 : decode b_M_tile 196 = .ok (.putfield 68, 3) := dk_row (s := 171) da_M_tile_171 25 (by decide +kernel)
theorem dc_M_tile_199 : decode b_M_tile 199 = .ok (.aload_n 0, 1) := dk_row (s := 171) da_M_tile_171 28 (by decide +kernel)
theorem dc_M_tile_200 : decode b_M_tile 200 = .ok (.getfield 68, 3) := dk_row (s := 171) da_M_tile_171 29 (by decide +kernel)
def dw_M_tile_203 : ByteArray := .mk #[0x9e, 0x00, 0x05, 0x03, 0xac, 0x2a, 0x2a, 0xb4, 0x00, 0x10, 0x2a, 0xb4, 0x00, 0x47, 0x2e, 0xb6, 0x00, 0x5c, 0x36, 0x05, 0x2a, 0xb4, 0x00, 0x16, 0x15, 0x05, 0x1b, 0x4f, 0x2a, 0xb4, 0x00, 0x19]
theorem da_M_tile_203 : dkA b_M_tile dw_M_tile_203 203 := by unfold dkA; decide +kernel
theorem dc_M_tile_203 : decode b_M_tile 203 = .ok (.ifCond .le 5, 3) := dk_row (s := 203) da_M_tile_203 0 (by decide +kernel)
theorem dc_M_tile_208 : decode b_M_tile 208 = .ok (.aload_n 0, 1) := dk_row (s := 203) da_M_tile_203 5 (by decide +kernel)
theorem dc_M_tile_209 : decode b_M_tile 209 = .ok (.aload_n 0, 1) := dk_row (s := 203) da_M_tile_203 6 (by decide +kernel)
theorem dc_M_tile_210 : decode b_M_tile 210 = .ok (.getfield 16, 3) := dk_row (s := 203) da_M_tile_203 7 (by decide +kernel)
theorem dc_M_tile_213 : decode b_M_tile 213 = .ok (.aload_n 0, 1) := dk_row (s := 203) da_M_tile_203 10 (by decide +kernel)
theorem dc_M_tile_214 : decode b_M_tile 214 = .ok (.getfield 71, 3) := dk_row (s := 203) da_M_tile_203 11 (by decide +kernel)
theorem dc_M_tile_217 : decode b_M_tile 217 = .ok (.iaload, 1) := dk_row (s := 203) da_M_tile_203 14 (by decide +kernel)
theorem dc_M_tile_218 : decode b_M_tile 218 = .ok (.invokevirtual 92, 3) := dk_row (s := 203) da_M_tile_203 15 (by decide +kernel)
theorem dc_M_tile_221 : decode b_M_tile 221 = .ok (.istore 5, 2) := dk_row (s := 203) da_M_tile_203 18 (by decide +kernel)
theorem dc_M_tile_223 : decode b_M_tile 223 = .ok (.aload_n 0, 1) := dk_row (s := 203) da_M_tile_203 20 (by decide +kernel)
theorem dc_M_tile_224 : decode b_M_tile 224 = .ok (.getfield 22, 3) := dk_row (s := 203) da_M_tile_203 21 (by decide +kernel)
theorem dc_M_tile_227 : decode b_M_tile 227 = .ok (.iload 5, 2) := dk_row (s := 203) da_M_tile_203 24 (by decide +kernel)
theorem dc_M_tile_229 : decode b_M_tile 229 = .ok (.iload_n 1, 1) := dk_row (s := 203) da_M_tile_203 26 (by decide +kernel)
theorem dc_M_tile_230 : decode b_M_tile 230 = .ok (.iastore, 1) := dk_row (s := 203) da_M_tile_203 27 (by decide +kernel)
theorem dc_M_tile_231 : decode b_M_tile 231 = .ok (.aload_n 0, 1) := dk_row (s := 203) da_M_tile_203 28 (by decide +kernel)
theorem dc_M_tile_232 : decode b_M_tile 232 = .ok (.getfield 25, 3) := dk_row (s := 203) da_M_tile_203 29 (by decide +kernel)
def dw_M_tile_235 : ByteArray := .mk #[0x15, 0x05, 0x1c, 0x4f, 0x2a, 0xb4, 0x00, 0x1c, 0x15, 0x05, 0x1d, 0x4f, 0x2a, 0xb4, 0x00, 0x1f, 0x15, 0x05, 0x15, 0x04, 0x4f, 0x2a, 0xb4, 0x00, 0x22, 0x15, 0x05, 0x03, 0x4f, 0x2a]
theorem da_M_tile_235 : dkA b_M_tile dw_M_tile_235 235 := by unfold dkA; decide +kernel
theorem dc_M_tile_235 : decode b_M_tile 235 = .ok (.iload 5, 2) := dk_row (s := 235) da_M_tile_235 0 (by decide +kernel)
theorem dc_M_tile_237 : decode b_M_tile 237 = .ok (.iload_n 2, 1) := dk_row (s := 235) da_M_tile_235 2 (by decide +kernel)
theorem dc_M_tile_238 : decode b_M_tile 238 = .ok (.iastore, 1) := dk_row (s := 235) da_M_tile_235 3 (by decide +kernel)
theorem dc_M_tile_239 : decode b_M_tile 239 = .ok (.aload_n 0, 1) := dk_row (s := 235) da_M_tile_235 4 (by decide +kernel)
theorem dc_M_tile_240 : decode b_M_tile 240 = .ok (.getfield 28, 3) := dk_row (s := 235) da_M_tile_235 5 (by decide +kernel)
theorem dc_M_tile_243 : decode b_M_tile 243 = .ok (.iload 5, 2) := dk_row (s := 235) da_M_tile_235 8 (by decide +kernel)
theorem dc_M_tile_245 : decode b_M_tile 245 = .ok (.iload_n 3, 1) := dk_row (s := 235) da_M_tile_235 10 (by decide +kernel)
theorem dc_M_tile_246 : decode b_M_tile 246 = .ok (.iastore, 1) := dk_row (s := 235) da_M_tile_235 11 (by decide +kernel)
theorem dc_M_tile_247 : decode b_M_tile 247 = .ok (.aload_n 0, 1) := dk_row (s := 235) da_M_tile_235 12 (by decide +kernel)
theorem dc_M_tile_248 : decode b_M_tile 248 = .ok (.getfield 31, 3) := dk_row (s := 235) da_M_tile_235 13 (by decide +kernel)
theorem dc_M_tile_251 : decode b_M_tile 251 = .ok (.iload 5, 2) := dk_row (s := 235) da_M_tile_235 16 (by decide +kernel)
theorem dc_M_tile_253 : decode b_M_tile 253 = .ok (.iload 4, 2) := dk_row (s := 235) da_M_tile_235 18 (by decide +kernel)
theorem dc_M_tile_255 : decode b_M_tile 255 = .ok (.iastore, 1) := dk_row (s := 235) da_M_tile_235 20 (by decide +kernel)
theorem dc_M_tile_256 : decode b_M_tile 256 = .ok (.aload_n 0, 1) := dk_row (s := 235) da_M_tile_235 21 (by decide +kernel)
theorem dc_M_tile_257 : decode b_M_tile 257 = .ok (.getfield 34, 3) := dk_row (s := 235) da_M_tile_235 22 (by decide +kernel)
theorem dc_M_tile_260 : decode b_M_tile 260 = .ok (.iload 5, 2) := dk_row (s := 235) da_M_tile_235 25 (by decide +kernel)
theorem dc_M_tile_262 : decode b_M_tile 262 = .ok (.iconst 0, 1) := dk_row (s := 235) da_M_tile_235 27 (by decide +kernel)
theorem dc_M_tile_263 : decode b_M_tile 263 = .ok (.iastore, 1) := dk_row (s := 235) da_M_tile_235 28 (by decide +kernel)
theorem dc_M_tile_264 : decode b_M_tile 264 = .ok (.aload_n 0, 1) := dk_row (s := 235) da_M_tile_235 29 (by decide +kernel)
def dw_M_tile_265 : ByteArray := .mk #[0xb4, 0x00, 0x25, 0x15, 0x05, 0x03, 0x4f, 0x2a, 0xb4, 0x00, 0x10, 0x2a, 0xb4, 0x00, 0x47, 0x5c, 0x2e, 0x04, 0x60, 0x4f, 0x2a, 0x03, 0xb5, 0x00, 0x4d, 0x2a, 0xb4, 0x00, 0x10, 0x2a]
theorem da_M_tile_265 : dkA b_M_tile dw_M_tile_265 265 := by unfold dkA; decide +kernel
theorem dc_M_tile_265 : decode b_M_tile 265 = .ok (.getfield 37, 3) := dk_row (s := 265) da_M_tile_265 0 (by decide +kernel)
theorem dc_M_tile_268 : decode b_M_tile 268 = .ok (.iload 5, 2) := dk_row (s := 265) da_M_tile_265 3 (by decide +kernel)
theorem dc_M_tile_270 : decode b_M_tile 270 = .ok (.iconst 0, 1) := dk_row (s := 265) da_M_tile_265 5 (by decide +kernel)
theorem dc_M_tile_271 : decode b_M_tile 271 = .ok (.iastore, 1) := dk_row (s := 265) da_M_tile_265 6 (by decide +kernel)
theorem dc_M_tile_272 : decode b_M_tile 272 = .ok (.aload_n 0, 1) := dk_row (s := 265) da_M_tile_265 7 (by decide +kernel)
theorem dc_M_tile_273 : decode b_M_tile 273 = .ok (.getfield 16, 3) := dk_row (s := 265) da_M_tile_265 8 (by decide +kernel)
theorem dc_M_tile_276 : decode b_M_tile 276 = .ok (.aload_n 0, 1) := dk_row (s := 265) da_M_tile_265 11 (by decide +kernel)
theorem dc_M_tile_277 : decode b_M_tile 277 = .ok (.getfield 71, 3) := dk_row (s := 265) da_M_tile_265 12 (by decide +kernel)
theorem dc_M_tile_280 : decode b_M_tile 280 = .ok (.dup2, 1) := dk_row (s := 265) da_M_tile_265 15 (by decide +kernel)
theorem dc_M_tile_281 : decode b_M_tile 281 = .ok (.iaload, 1) := dk_row (s := 265) da_M_tile_265 16 (by decide +kernel)
theorem dc_M_tile_282 : decode b_M_tile 282 = .ok (.iconst 1, 1) := dk_row (s := 265) da_M_tile_265 17 (by decide +kernel)
theorem dc_M_tile_283 : decode b_M_tile 283 = .ok (.iadd, 1) := dk_row (s := 265) da_M_tile_265 18 (by decide +kernel)
theorem dc_M_tile_284 : decode b_M_tile 284 = .ok (.iastore, 1) := dk_row (s := 265) da_M_tile_265 19 (by decide +kernel)
theorem dc_M_tile_285 : decode b_M_tile 285 = .ok (.aload_n 0, 1) := dk_row (s := 265) da_M_tile_265 20 (by decide +kernel)
theorem dc_M_tile_286 : decode b_M_tile 286 = .ok (.iconst 0, 1) := dk_row (s := 265) da_M_tile_265 21 (by decide +kernel)
theorem dc_M_tile_287 : decode b_M_tile 287 = .ok (.putfield 77, 3) := dk_row (s := 265) da_M_tile_265 22 (by decide +kernel)
theorem dc_M_tile_290 : decode b_M_tile 290 = .ok (.aload_n 0, 1) := dk_row (s := 265) da_M_tile_265 25 (by decide +kernel)
theorem dc_M_tile_291 : decode b_M_tile 291 = .ok (.getfield 16, 3) := dk_row (s := 265) da_M_tile_265 26 (by decide +kernel)
theorem dc_M_tile_294 : decode b_M_tile 294 = .ok (.aload_n 0, 1) := dk_row (s := 265) da_M_tile_265 29 (by decide +kernel)
def dw_M_tile_295 : ByteArray := .mk #[0xb4, 0x00, 0x47, 0x2e, 0x04, 0x64, 0xac]
theorem da_M_tile_295 : dkA b_M_tile dw_M_tile_295 295 := by unfold dkA; decide +kernel
theorem dc_M_tile_295 : decode b_M_tile 295 = .ok (.getfield 71, 3) := dk_row (s := 295) da_M_tile_295 0 (by decide +kernel)
theorem dc_M_tile_298 : decode b_M_tile 298 = .ok (.iaload, 1) := dk_row (s := 295) da_M_tile_295 3 (by decide +kernel)
theorem dc_M_tile_299 : decode b_M_tile 299 = .ok (.iconst 1, 1) := dk_row (s := 295) da_M_tile_295 4 (by decide +kernel)
theorem dc_M_tile_300 : decode b_M_tile 300 = .ok (.isub, 1) := dk_row (s := 295) da_M_tile_295 5 (by decide +kernel)
theorem dc_M_tile_301 : decode b_M_tile 301 = .ok (.ireturn, 1) := dk_row (s := 295) da_M_tile_295 6 (by decide +kernel)
theorem dc_M_tile_206 : decode b_M_tile 206 = .ok (.iconst 0, 1) := by decide +kernel
theorem dc_M_tile_207 : decode b_M_tile 207 = .ok (.ireturn, 1) := by decide +kernel
theorem dc_M_tile_192 : decode b_M_tile 192 = .ok (.aload_n 0, 1) := by decide +kernel
theorem dc_M_tile_193 : decode b_M_tile 193 = .ok (.getfield 68, 3) := by decide +kernel
theorem dc_M_tile_34 : decode b_M_tile 34 = .ok (.iconst 1, 1) := by decide +kernel
theorem dc_M_tile_35 : decode b_M_tile 35 = .ok (.goto 4, 3) := by decide +kernel
def dw_M_fits_0 : ByteArray := .mk #[0x04, 0x3e, 0x03, 0x36, 0x04, 0x15, 0x04, 0x2a, 0xb4, 0x00, 0x10, 0x2a, 0xb4, 0x00, 0x47, 0x2e, 0xa2, 0x00, 0x58]
theorem da_M_fits_0 : dkA b_M_fits dw_M_fits_0 0 := by unfold dkA; decide +kernel
theorem dc_M_fits_0 : decode b_M_fits 0 = .ok (.iconst 1, 1) := dk_row (s := 0) da_M_fits_0 0 (by decide +kernel)
theorem dc_M_fits_1 : decode b_M_fits 1 = .ok (.istore_n 3, 1) := dk_row (s := 0) da_M_fits_0 1 (by decide +kernel)
theorem dc_M_fits_2 : decode b_M_fits 2 = .ok (.iconst 0, 1) := dk_row (s := 0) da_M_fits_0 2 (by decide +kernel)
theorem dc_M_fits_3 : decode b_M_fits 3 = .ok (.istore 4, 2) := dk_row (s := 0) da_M_fits_0 3 (by decide +kernel)
theorem dc_M_fits_5 : decode b_M_fits 5 = .ok (.iload 4, 2) := dk_row (s := 0) da_M_fits_0 5 (by decide +kernel)
theorem dc_M_fits_7 : decode b_M_fits 7 = .ok (.aload_n 0, 1) := dk_row (s := 0) da_M_fits_0 7 (by decide +kernel)
theorem dc_M_fits_8 : decode b_M_fits 8 = .ok (.getfield 16, 3) := dk_row (s := 0) da_M_fits_0 8 (by decide +kernel)
theorem dc_M_fits_11 : decode b_M_fits 11 = .ok (.aload_n 0, 1) := dk_row (s := 0) da_M_fits_0 11 (by decide +kernel)
theorem dc_M_fits_12 : decode b_M_fits 12 = .ok (.getfield 71, 3) := dk_row (s := 0) da_M_fits_0 12 (by decide +kernel)
theorem dc_M_fits_15 : decode b_M_fits 15 = .ok (.iaload, 1) := dk_row (s := 0) da_M_fits_0 15 (by decide +kernel)
theorem dc_M_fits_16 : decode b_M_fits 16 = .ok (.if_icmp .ge 88, 3) := dk_row (s := 0) da_M_fits_0 16 (by decide +kernel)
theorem dc_M_fits_104 : decode b_M_fits 104 = .ok (.iload_n 3, 1) := by decide +kernel
theorem dc_M_fits_105 : decode b_M_fits 105 = .ok (.ireturn, 1) := by decide +kernel
def dw_M_fits_19 : ByteArray := .mk #[0x2a, 0x15, 0x04, 0xb6, 0x00, 0x5c, 0x36, 0x05, 0x1b, 0x99, 0x00, 0x0d, 0x2a, 0xb4, 0x00, 0x16, 0x15, 0x05, 0x2e, 0xa7, 0x00, 0x0a, 0x2a, 0xb4, 0x00, 0x19, 0x15, 0x05, 0x2e]
theorem da_M_fits_19 : dkA b_M_fits dw_M_fits_19 19 := by unfold dkA; decide +kernel
theorem dc_M_fits_19 : decode b_M_fits 19 = .ok (.aload_n 0, 1) := dk_row (s := 19) da_M_fits_19 0 (by decide +kernel)
theorem dc_M_fits_20 : decode b_M_fits 20 = .ok (.iload 4, 2) := dk_row (s := 19) da_M_fits_19 1 (by decide +kernel)
theorem dc_M_fits_22 : decode b_M_fits 22 = .ok (.invokevirtual 92, 3) := dk_row (s := 19) da_M_fits_19 3 (by decide +kernel)
theorem dc_M_fits_25 : decode b_M_fits 25 = .ok (.istore 5, 2) := dk_row (s := 19) da_M_fits_19 6 (by decide +kernel)
theorem dc_M_fits_27 : decode b_M_fits 27 = .ok (.iload_n 1, 1) := dk_row (s := 19) da_M_fits_19 8 (by decide +kernel)
theorem dc_M_fits_28 : decode b_M_fits 28 = .ok (.ifCond .eq 13, 3) := dk_row (s := 19) da_M_fits_19 9 (by decide +kernel)
theorem dc_M_fits_41 : decode b_M_fits 41 = .ok (.aload_n 0, 1) := dk_row (s := 19) da_M_fits_19 22 (by decide +kernel)
theorem dc_M_fits_42 : decode b_M_fits 42 = .ok (.getfield 25, 3) := dk_row (s := 19) da_M_fits_19 23 (by decide +kernel)
theorem dc_M_fits_45 : decode b_M_fits 45 = .ok (.iload 5, 2) := dk_row (s := 19) da_M_fits_19 26 (by decide +kernel)
theorem dc_M_fits_47 : decode b_M_fits 47 = .ok (.iaload, 1) := dk_row (s := 19) da_M_fits_19 28 (by decide +kernel)
def dw_M_fits_31 : ByteArray := .mk #[0x2a, 0xb4, 0x00, 0x16, 0x15, 0x05, 0x2e, 0xa7, 0x00, 0x0a, 0x2a, 0xb4, 0x00, 0x19, 0x15, 0x05, 0x2e, 0x36, 0x06, 0x15, 0x06, 0x1b, 0x99, 0x00, 0x0d]
theorem da_M_fits_31 : dkA b_M_fits dw_M_fits_31 31 := by unfold dkA; decide +kernel
theorem dc_M_fits_31 : decode b_M_fits 31 = .ok (.aload_n 0, 1) := dk_row (s := 31) da_M_fits_31 0 (by decide +kernel)
theorem dc_M_fits_32 : decode b_M_fits 32 = .ok (.getfield 22, 3) := dk_row (s := 31) da_M_fits_31 1 (by decide +kernel)
theorem dc_M_fits_35 : decode b_M_fits 35 = .ok (.iload 5, 2) := dk_row (s := 31) da_M_fits_31 4 (by decide +kernel)
theorem dc_M_fits_37 : decode b_M_fits 37 = .ok (.iaload, 1) := dk_row (s := 31) da_M_fits_31 6 (by decide +kernel)
theorem dc_M_fits_38 : decode b_M_fits 38 = .ok (.goto 10, 3) := dk_row (s := 31) da_M_fits_31 7 (by decide +kernel)
theorem dc_M_fits_48 : decode b_M_fits 48 = .ok (.istore 6, 2) := dk_row (s := 31) da_M_fits_31 17 (by decide +kernel)
theorem dc_M_fits_50 : decode b_M_fits 50 = .ok (.iload 6, 2) := dk_row (s := 31) da_M_fits_31 19 (by decide +kernel)
theorem dc_M_fits_52 : decode b_M_fits 52 = .ok (.iload_n 1, 1) := dk_row (s := 31) da_M_fits_31 21 (by decide +kernel)
theorem dc_M_fits_53 : decode b_M_fits 53 = .ok (.ifCond .eq 13, 3) := dk_row (s := 31) da_M_fits_31 22 (by decide +kernel)
def dw_M_fits_66 : ByteArray := .mk #[0x2a, 0xb4, 0x00, 0x1f, 0x15, 0x05, 0x2e]
theorem da_M_fits_66 : dkA b_M_fits dw_M_fits_66 66 := by unfold dkA; decide +kernel
theorem dc_M_fits_66 : decode b_M_fits 66 = .ok (.aload_n 0, 1) := dk_row (s := 66) da_M_fits_66 0 (by decide +kernel)
theorem dc_M_fits_67 : decode b_M_fits 67 = .ok (.getfield 31, 3) := dk_row (s := 66) da_M_fits_66 1 (by decide +kernel)
theorem dc_M_fits_70 : decode b_M_fits 70 = .ok (.iload 5, 2) := dk_row (s := 66) da_M_fits_66 4 (by decide +kernel)
theorem dc_M_fits_72 : decode b_M_fits 72 = .ok (.iaload, 1) := dk_row (s := 66) da_M_fits_66 6 (by decide +kernel)
def dw_M_fits_56 : ByteArray := .mk #[0x2a, 0xb4, 0x00, 0x1c, 0x15, 0x05, 0x2e, 0xa7, 0x00, 0x0a, 0x2a, 0xb4, 0x00, 0x1f, 0x15, 0x05, 0x2e, 0x60, 0x36, 0x07, 0x1d, 0x99, 0x00, 0x13, 0x15, 0x07, 0x1c, 0xa4, 0x00, 0x09, 0x15, 0x06]
theorem da_M_fits_56 : dkA b_M_fits dw_M_fits_56 56 := by unfold dkA; decide +kernel
theorem dc_M_fits_56 : decode b_M_fits 56 = .ok (.aload_n 0, 1) := dk_row (s := 56) da_M_fits_56 0 (by decide +kernel)
theorem dc_M_fits_57 : decode b_M_fits 57 = .ok (.getfield 28, 3) := dk_row (s := 56) da_M_fits_56 1 (by decide +kernel)
theorem dc_M_fits_60 : decode b_M_fits 60 = .ok (.iload 5, 2) := dk_row (s := 56) da_M_fits_56 4 (by decide +kernel)
theorem dc_M_fits_62 : decode b_M_fits 62 = .ok (.iaload, 1) := dk_row (s := 56) da_M_fits_56 6 (by decide +kernel)
theorem dc_M_fits_63 : decode b_M_fits 63 = .ok (.goto 10, 3) := dk_row (s := 56) da_M_fits_56 7 (by decide +kernel)
theorem dc_M_fits_73 : decode b_M_fits 73 = .ok (.iadd, 1) := dk_row (s := 56) da_M_fits_56 17 (by decide +kernel)
theorem dc_M_fits_74 : decode b_M_fits 74 = .ok (.istore 7, 2) := dk_row (s := 56) da_M_fits_56 18 (by decide +kernel)
theorem dc_M_fits_76 : decode b_M_fits 76 = .ok (.iload_n 3, 1) := dk_row (s := 56) da_M_fits_56 20 (by decide +kernel)
theorem dc_M_fits_77 : decode b_M_fits 77 = .ok (.ifCond .eq 19, 3) := dk_row (s := 56) da_M_fits_56 21 (by decide +kernel)
theorem dc_M_fits_80 : decode b_M_fits 80 = .ok (.iload 7, 2) := dk_row (s := 56) da_M_fits_56 24 (by decide +kernel)
theorem dc_M_fits_82 : decode b_M_fits 82 = .ok (.iload_n 2, 1) := dk_row (s := 56) da_M_fits_56 26 (by decide +kernel)
theorem dc_M_fits_83 : decode b_M_fits 83 = .ok (.if_icmp .le 9, 3) := dk_row (s := 56) da_M_fits_56 27 (by decide +kernel)
theorem dc_M_fits_86 : decode b_M_fits 86 = .ok (.iload 6, 2) := dk_row (s := 56) da_M_fits_56 30 (by decide +kernel)
def dw_M_fits_88 : ByteArray := .mk #[0x1c, 0xa1, 0x00, 0x07, 0x04, 0xa7, 0x00, 0x04, 0x03, 0x3e, 0x84, 0x04, 0x01, 0xa7, 0xff, 0xa0]
theorem da_M_fits_88 : dkA b_M_fits dw_M_fits_88 88 := by unfold dkA; decide +kernel
theorem dc_M_fits_88 : decode b_M_fits 88 = .ok (.iload_n 2, 1) := dk_row (s := 88) da_M_fits_88 0 (by decide +kernel)
theorem dc_M_fits_89 : decode b_M_fits 89 = .ok (.if_icmp .lt 7, 3) := dk_row (s := 88) da_M_fits_88 1 (by decide +kernel)
theorem dc_M_fits_92 : decode b_M_fits 92 = .ok (.iconst 1, 1) := dk_row (s := 88) da_M_fits_88 4 (by decide +kernel)
theorem dc_M_fits_93 : decode b_M_fits 93 = .ok (.goto 4, 3) := dk_row (s := 88) da_M_fits_88 5 (by decide +kernel)
theorem dc_M_fits_97 : decode b_M_fits 97 = .ok (.istore_n 3, 1) := dk_row (s := 88) da_M_fits_88 9 (by decide +kernel)
theorem dc_M_fits_98 : decode b_M_fits 98 = .ok (.iinc 4 1, 3) := dk_row (s := 88) da_M_fits_88 10 (by decide +kernel)
theorem dc_M_fits_101 : decode b_M_fits 101 = .ok (.goto (-96), 3) := dk_row (s := 88) da_M_fits_88 13 (by decide +kernel)
theorem dc_M_fits_96 : decode b_M_fits 96 = .ok (.iconst 0, 1) := by decide +kernel
theorem dc_M_near_0 : decode b_M_near 0 = .ok (.aload_n 0, 1) := by decide +kernel
theorem dc_M_near_1 : decode b_M_near 1 = .ok (.iload_n 1, 1) := by decide +kernel
theorem dc_M_near_2 : decode b_M_near 2 = .ok (.iconst 0, 1) := by decide +kernel
theorem dc_M_near_3 : decode b_M_near 3 = .ok (.iconst 3, 1) := by decide +kernel
theorem dc_M_near_4 : decode b_M_near 4 = .ok (.invokestatic 84, 3) := by decide +kernel
theorem dc_M_near_7 : decode b_M_near 7 = .ok (.ifCond .ne 7, 3) := by decide +kernel
theorem dc_M_near_14 : decode b_M_near 14 = .ok (.aload_n 0, 1) := by decide +kernel
theorem dc_M_near_15 : decode b_M_near 15 = .ok (.getfield 77, 3) := by decide +kernel
theorem dc_M_near_18 : decode b_M_near 18 = .ok (.ifCond .ne 7, 3) := by decide +kernel
theorem dc_M_near_25 : decode b_M_near 25 = .ok (.iconst 0, 1) := by decide +kernel
theorem dc_M_near_21 : decode b_M_near 21 = .ok (.iconst 2, 1) := by decide +kernel
theorem dc_M_near_22 : decode b_M_near 22 = .ok (.goto 4, 3) := by decide +kernel
theorem dc_M_near_10 : decode b_M_near 10 = .ok (.iconst 1, 1) := by decide +kernel
theorem dc_M_near_11 : decode b_M_near 11 = .ok (.goto 15, 3) := by decide +kernel
theorem dc_M_near_26 : decode b_M_near 26 = .ok (.putfield 68, 3) := by decide +kernel
theorem dc_M_near_29 : decode b_M_near 29 = .ok (.aload_n 0, 1) := by decide +kernel
theorem dc_M_near_30 : decode b_M_near 30 = .ok (.getfield 68, 3) := by decide +kernel
theorem dc_M_near_33 : decode b_M_near 33 = .ok (.ifCond .le 7, 3) := by decide +kernel
theorem dc_M_near_40 : decode b_M_near 40 = .ok (.aload_n 0, 1) := by decide +kernel
theorem dc_M_near_41 : decode b_M_near 41 = .ok (.getfield 52, 3) := by decide +kernel
theorem dc_M_near_44 : decode b_M_near 44 = .ok (.iload_n 1, 1) := by decide +kernel
theorem dc_M_near_45 : decode b_M_near 45 = .ok (.iaload, 1) := by decide +kernel
theorem dc_M_near_46 : decode b_M_near 46 = .ok (.ireturn, 1) := by decide +kernel
theorem dc_M_near_36 : decode b_M_near 36 = .ok (.iconst 0, 1) := by decide +kernel
theorem dc_M_near_37 : decode b_M_near 37 = .ok (.goto 9, 3) := by decide +kernel
def dw_M_both_0 : ByteArray := .mk #[0x02, 0x3d, 0x03, 0x3e, 0x1d, 0x10, 0x08, 0xa2, 0x00, 0x97]
theorem da_M_both_0 : dkA b_M_both dw_M_both_0 0 := by unfold dkA; decide +kernel
theorem dc_M_both_0 : decode b_M_both 0 = .ok (.iconst (-1), 1) := dk_row (s := 0) da_M_both_0 0 (by decide +kernel)
theorem dc_M_both_1 : decode b_M_both 1 = .ok (.istore_n 2, 1) := dk_row (s := 0) da_M_both_0 1 (by decide +kernel)
theorem dc_M_both_2 : decode b_M_both 2 = .ok (.iconst 0, 1) := dk_row (s := 0) da_M_both_0 2 (by decide +kernel)
theorem dc_M_both_3 : decode b_M_both 3 = .ok (.istore_n 3, 1) := dk_row (s := 0) da_M_both_0 3 (by decide +kernel)
theorem dc_M_both_4 : decode b_M_both 4 = .ok (.iload_n 3, 1) := dk_row (s := 0) da_M_both_0 4 (by decide +kernel)
theorem dc_M_both_5 : decode b_M_both 5 = .ok (.bipush 8, 2) := dk_row (s := 0) da_M_both_0 5 (by decide +kernel)
theorem dc_M_both_7 : decode b_M_both 7 = .ok (.if_icmp .ge 151, 3) := dk_row (s := 0) da_M_both_0 7 (by decide +kernel)
theorem dc_M_both_158 : decode b_M_both 158 = .ok (.iload_n 2, 1) := by decide +kernel
theorem dc_M_both_159 : decode b_M_both 159 = .ok (.ireturn, 1) := by decide +kernel
def dw_M_both_10 : ByteArray := .mk #[0x04, 0x36, 0x04, 0x03, 0x36, 0x05, 0x15, 0x05, 0x10, 0x06, 0xa2, 0x00, 0x62]
theorem da_M_both_10 : dkA b_M_both dw_M_both_10 10 := by unfold dkA; decide +kernel
theorem dc_M_both_10 : decode b_M_both 10 = .ok (.iconst 1, 1) := dk_row (s := 10) da_M_both_10 0 (by decide +kernel)
theorem dc_M_both_11 : decode b_M_both 11 = .ok (.istore 4, 2) := dk_row (s := 10) da_M_both_10 1 (by decide +kernel)
theorem dc_M_both_13 : decode b_M_both 13 = .ok (.iconst 0, 1) := dk_row (s := 10) da_M_both_10 3 (by decide +kernel)
theorem dc_M_both_14 : decode b_M_both 14 = .ok (.istore 5, 2) := dk_row (s := 10) da_M_both_10 4 (by decide +kernel)
theorem dc_M_both_16 : decode b_M_both 16 = .ok (.iload 5, 2) := dk_row (s := 10) da_M_both_10 6 (by decide +kernel)
theorem dc_M_both_18 : decode b_M_both 18 = .ok (.bipush 6, 2) := dk_row (s := 10) da_M_both_10 8 (by decide +kernel)
theorem dc_M_both_20 : decode b_M_both 20 = .ok (.if_icmp .ge 98, 3) := dk_row (s := 10) da_M_both_10 10 (by decide +kernel)
def dw_M_both_118 : ByteArray := .mk #[0x15, 0x04, 0x99, 0x00, 0x1e, 0x1a, 0xb8, 0x00, 0x7b, 0x1b, 0xb8, 0x00, 0x7b, 0x9f, 0x00, 0x07, 0x04, 0xa7, 0x00, 0x04, 0x03]
theorem da_M_both_118 : dkA b_M_both dw_M_both_118 118 := by unfold dkA; decide +kernel
theorem dc_M_both_118 : decode b_M_both 118 = .ok (.iload 4, 2) := dk_row (s := 118) da_M_both_118 0 (by decide +kernel)
theorem dc_M_both_120 : decode b_M_both 120 = .ok (.ifCond .eq 30, 3) := dk_row (s := 118) da_M_both_118 2 (by decide +kernel)
theorem dc_M_both_123 : decode b_M_both 123 = .ok (.iload_n 0, 1) := dk_row (s := 118) da_M_both_118 5 (by decide +kernel)
theorem dc_M_both_124 : decode b_M_both 124 = .ok (.invokestatic 123, 3) := dk_row (s := 118) da_M_both_118 6 (by decide +kernel)
theorem dc_M_both_127 : decode b_M_both 127 = .ok (.iload_n 1, 1) := dk_row (s := 118) da_M_both_118 9 (by decide +kernel)
theorem dc_M_both_128 : decode b_M_both 128 = .ok (.invokestatic 123, 3) := dk_row (s := 118) da_M_both_118 10 (by decide +kernel)
theorem dc_M_both_131 : decode b_M_both 131 = .ok (.if_icmp .eq 7, 3) := dk_row (s := 118) da_M_both_118 13 (by decide +kernel)
theorem dc_M_both_138 : decode b_M_both 138 = .ok (.iconst 0, 1) := dk_row (s := 118) da_M_both_118 20 (by decide +kernel)
theorem dc_M_both_134 : decode b_M_both 134 = .ok (.iconst 1, 1) := by decide +kernel
theorem dc_M_both_135 : decode b_M_both 135 = .ok (.goto 4, 3) := by decide +kernel
def dw_M_both_23 : ByteArray := .mk #[0x1a, 0x15, 0x05, 0x05, 0x70, 0x15, 0x05, 0x05, 0x6c, 0x05, 0x06, 0xb8, 0x00, 0x77, 0x36, 0x06, 0x1b, 0x15, 0x06, 0x11, 0x03, 0xe8, 0x70, 0x15, 0x06, 0x11, 0x03, 0xe8, 0x6c, 0x1a]
theorem da_M_both_23 : dkA b_M_both dw_M_both_23 23 := by unfold dkA; decide +kernel
theorem dc_M_both_23 : decode b_M_both 23 = .ok (.iload_n 0, 1) := dk_row (s := 23) da_M_both_23 0 (by decide +kernel)
theorem dc_M_both_24 : decode b_M_both 24 = .ok (.iload 5, 2) := dk_row (s := 23) da_M_both_23 1 (by decide +kernel)
theorem dc_M_both_26 : decode b_M_both 26 = .ok (.iconst 2, 1) := dk_row (s := 23) da_M_both_23 3 (by decide +kernel)
theorem dc_M_both_27 : decode b_M_both 27 = .ok (.irem, 1) := dk_row (s := 23) da_M_both_23 4 (by decide +kernel)
theorem dc_M_both_28 : decode b_M_both 28 = .ok (.iload 5, 2) := dk_row (s := 23) da_M_both_23 5 (by decide +kernel)
theorem dc_M_both_30 : decode b_M_both 30 = .ok (.iconst 2, 1) := dk_row (s := 23) da_M_both_23 7 (by decide +kernel)
theorem dc_M_both_31 : decode b_M_both 31 = .ok (.idiv, 1) := dk_row (s := 23) da_M_both_23 8 (by decide +kernel)
theorem dc_M_both_32 : decode b_M_both 32 = .ok (.iconst 2, 1) := dk_row (s := 23) da_M_both_23 9 (by decide +kernel)
theorem dc_M_both_33 : decode b_M_both 33 = .ok (.iconst 3, 1) := dk_row (s := 23) da_M_both_23 10 (by decide +kernel)
theorem dc_M_both_34 : decode b_M_both 34 = .ok (.invokestatic 119, 3) := dk_row (s := 23) da_M_both_23 11 (by decide +kernel)
theorem dc_M_both_37 : decode b_M_both 37 = .ok (.istore 6, 2) := dk_row (s := 23) da_M_both_23 14 (by decide +kernel)
theorem dc_M_both_39 : decode b_M_both 39 = .ok (.iload_n 1, 1) := dk_row (s := 23) da_M_both_23 16 (by decide +kernel)
theorem dc_M_both_40 : decode b_M_both 40 = .ok (.iload 6, 2) := dk_row (s := 23) da_M_both_23 17 (by decide +kernel)
theorem dc_M_both_42 : decode b_M_both 42 = .ok (.sipush 1000, 3) := dk_row (s := 23) da_M_both_23 19 (by decide +kernel)
theorem dc_M_both_45 : decode b_M_both 45 = .ok (.irem, 1) := dk_row (s := 23) da_M_both_23 22 (by decide +kernel)
theorem dc_M_both_46 : decode b_M_both 46 = .ok (.iload 6, 2) := dk_row (s := 23) da_M_both_23 23 (by decide +kernel)
theorem dc_M_both_48 : decode b_M_both 48 = .ok (.sipush 1000, 3) := dk_row (s := 23) da_M_both_23 25 (by decide +kernel)
theorem dc_M_both_51 : decode b_M_both 51 = .ok (.idiv, 1) := dk_row (s := 23) da_M_both_23 28 (by decide +kernel)
theorem dc_M_both_52 : decode b_M_both 52 = .ok (.iload_n 0, 1) := dk_row (s := 23) da_M_both_23 29 (by decide +kernel)
theorem dc_M_both_53 : decode b_M_both 53 = .ok (.invokestatic 123, 3) := by decide +kernel
theorem dc_M_both_56 : decode b_M_both 56 = .ok (.ifCond .eq 7, 3) := by decide +kernel
theorem dc_M_both_63 : decode b_M_both 63 = .ok (.iconst 2, 1) := by decide +kernel
def dw_M_both_59 : ByteArray := .mk #[0x06, 0xa7, 0x00, 0x04, 0x05, 0x1a, 0xb8, 0x00, 0x7b, 0x99, 0x00, 0x07, 0x05, 0xa7, 0x00, 0x04, 0x06]
theorem da_M_both_59 : dkA b_M_both dw_M_both_59 59 := by unfold dkA; decide +kernel
theorem dc_M_both_59 : decode b_M_both 59 = .ok (.iconst 3, 1) := dk_row (s := 59) da_M_both_59 0 (by decide +kernel)
theorem dc_M_both_60 : decode b_M_both 60 = .ok (.goto 4, 3) := dk_row (s := 59) da_M_both_59 1 (by decide +kernel)
theorem dc_M_both_64 : decode b_M_both 64 = .ok (.iload_n 0, 1) := dk_row (s := 59) da_M_both_59 5 (by decide +kernel)
theorem dc_M_both_65 : decode b_M_both 65 = .ok (.invokestatic 123, 3) := dk_row (s := 59) da_M_both_59 6 (by decide +kernel)
theorem dc_M_both_68 : decode b_M_both 68 = .ok (.ifCond .eq 7, 3) := dk_row (s := 59) da_M_both_59 9 (by decide +kernel)
theorem dc_M_both_75 : decode b_M_both 75 = .ok (.iconst 3, 1) := dk_row (s := 59) da_M_both_59 16 (by decide +kernel)
def dw_M_both_71 : ByteArray := .mk #[0x05, 0xa7, 0x00, 0x04, 0x06, 0xb8, 0x00, 0x77, 0x36, 0x07, 0x15, 0x04, 0x99, 0x00, 0x1a, 0x15, 0x07, 0x1d, 0x15, 0x05, 0x05, 0x70, 0x15, 0x05, 0x05, 0x6c, 0x05, 0x06, 0xb8, 0x00, 0x77]
theorem da_M_both_71 : dkA b_M_both dw_M_both_71 71 := by unfold dkA; decide +kernel
theorem dc_M_both_71 : decode b_M_both 71 = .ok (.iconst 2, 1) := dk_row (s := 71) da_M_both_71 0 (by decide +kernel)
theorem dc_M_both_72 : decode b_M_both 72 = .ok (.goto 4, 3) := dk_row (s := 71) da_M_both_71 1 (by decide +kernel)
theorem dc_M_both_76 : decode b_M_both 76 = .ok (.invokestatic 119, 3) := dk_row (s := 71) da_M_both_71 5 (by decide +kernel)
theorem dc_M_both_79 : decode b_M_both 79 = .ok (.istore 7, 2) := dk_row (s := 71) da_M_both_71 8 (by decide +kernel)
theorem dc_M_both_81 : decode b_M_both 81 = .ok (.iload 4, 2) := dk_row (s := 71) da_M_both_71 10 (by decide +kernel)
theorem dc_M_both_83 : decode b_M_both 83 = .ok (.ifCond .eq 26, 3) := dk_row (s := 71) da_M_both_71 12 (by decide +kernel)
theorem dc_M_both_86 : decode b_M_both 86 = .ok (.iload 7, 2) := dk_row (s := 71) da_M_both_71 15 (by decide +kernel)
theorem dc_M_both_88 : decode b_M_both 88 = .ok (.iload_n 3, 1) := dk_row (s := 71) da_M_both_71 17 (by decide +kernel)
theorem dc_M_both_89 : decode b_M_both 89 = .ok (.iload 5, 2) := dk_row (s := 71) da_M_both_71 18 (by decide +kernel)
theorem dc_M_both_91 : decode b_M_both 91 = .ok (.iconst 2, 1) := dk_row (s := 71) da_M_both_71 20 (by decide +kernel)
theorem dc_M_both_92 : decode b_M_both 92 = .ok (.irem, 1) := dk_row (s := 71) da_M_both_71 21 (by decide +kernel)
theorem dc_M_both_93 : decode b_M_both 93 = .ok (.iload 5, 2) := dk_row (s := 71) da_M_both_71 22 (by decide +kernel)
theorem dc_M_both_95 : decode b_M_both 95 = .ok (.iconst 2, 1) := dk_row (s := 71) da_M_both_71 24 (by decide +kernel)
theorem dc_M_both_96 : decode b_M_both 96 = .ok (.idiv, 1) := dk_row (s := 71) da_M_both_71 25 (by decide +kernel)
theorem dc_M_both_97 : decode b_M_both 97 = .ok (.iconst 2, 1) := dk_row (s := 71) da_M_both_71 26 (by decide +kernel)
theorem dc_M_both_98 : decode b_M_both 98 = .ok (.iconst 3, 1) := dk_row (s := 71) da_M_both_71 27 (by decide +kernel)
theorem dc_M_both_99 : decode b_M_both 99 = .ok (.invokestatic 119, 3) := dk_row (s := 71) da_M_both_71 28 (by decide +kernel)
def dw_M_both_102 : ByteArray := .mk #[0xa0, 0x00, 0x07, 0x04, 0xa7, 0x00, 0x04, 0x03, 0x36, 0x04, 0x84, 0x05, 0x01, 0xa7, 0xff, 0x9d]
theorem da_M_both_102 : dkA b_M_both dw_M_both_102 102 := by unfold dkA; decide +kernel
theorem dc_M_both_102 : decode b_M_both 102 = .ok (.if_icmp .ne 7, 3) := dk_row (s := 102) da_M_both_102 0 (by decide +kernel)
theorem dc_M_both_105 : decode b_M_both 105 = .ok (.iconst 1, 1) := dk_row (s := 102) da_M_both_102 3 (by decide +kernel)
theorem dc_M_both_106 : decode b_M_both 106 = .ok (.goto 4, 3) := dk_row (s := 102) da_M_both_102 4 (by decide +kernel)
theorem dc_M_both_110 : decode b_M_both 110 = .ok (.istore 4, 2) := dk_row (s := 102) da_M_both_102 8 (by decide +kernel)
theorem dc_M_both_112 : decode b_M_both 112 = .ok (.iinc 5 1, 3) := dk_row (s := 102) da_M_both_102 10 (by decide +kernel)
theorem dc_M_both_115 : decode b_M_both 115 = .ok (.goto (-99), 3) := dk_row (s := 102) da_M_both_102 13 (by decide +kernel)
theorem dc_M_both_109 : decode b_M_both 109 = .ok (.iconst 0, 1) := by decide +kernel
theorem dc_M_both_139 : decode b_M_both 139 = .ok (.iload_n 3, 1) := by decide +kernel
def dw_M_both_140 : ByteArray := .mk #[0xb8, 0x00, 0x7b, 0xa0, 0x00, 0x07, 0x1d, 0xa7, 0x00, 0x04, 0x1c, 0x3d, 0x84, 0x03, 0x01, 0xa7, 0xff, 0x69]
theorem da_M_both_140 : dkA b_M_both dw_M_both_140 140 := by unfold dkA; decide +kernel
theorem dc_M_both_140 : decode b_M_both 140 = .ok (.invokestatic 123, 3) := dk_row (s := 140) da_M_both_140 0 (by decide +kernel)
theorem dc_M_both_143 : decode b_M_both 143 = .ok (.if_icmp .ne 7, 3) := dk_row (s := 140) da_M_both_140 3 (by decide +kernel)
theorem dc_M_both_146 : decode b_M_both 146 = .ok (.iload_n 3, 1) := dk_row (s := 140) da_M_both_140 6 (by decide +kernel)
theorem dc_M_both_147 : decode b_M_both 147 = .ok (.goto 4, 3) := dk_row (s := 140) da_M_both_140 7 (by decide +kernel)
theorem dc_M_both_151 : decode b_M_both 151 = .ok (.istore_n 2, 1) := dk_row (s := 140) da_M_both_140 11 (by decide +kernel)
theorem dc_M_both_152 : decode b_M_both 152 = .ok (.iinc 3 1, 3) := dk_row (s := 140) da_M_both_140 12 (by decide +kernel)
theorem dc_M_both_155 : decode b_M_both 155 = .ok (.goto (-151), 3) := dk_row (s := 140) da_M_both_140 15 (by decide +kernel)
theorem dc_M_both_150 : decode b_M_both 150 = .ok (.iload_n 2, 1) := by decide +kernel
def dw_M_join_0 : ByteArray := .mk #[0x04, 0x2a, 0xb4, 0x00, 0x47, 0x64, 0x3d, 0x1b, 0x99, 0x00, 0x08, 0x1b, 0x05, 0xa0, 0x00, 0x07, 0x04, 0xa7, 0x00, 0x04, 0x03, 0x3e, 0x1d, 0x99, 0x00, 0x16]
theorem da_M_join_0 : dkA b_M_join dw_M_join_0 0 := by unfold dkA; decide +kernel
theorem dc_M_join_0 : decode b_M_join 0 = .ok (.iconst 1, 1) := dk_row (s := 0) da_M_join_0 0 (by decide +kernel)
theorem dc_M_join_1 : decode b_M_join 1 = .ok (.aload_n 0, 1) := dk_row (s := 0) da_M_join_0 1 (by decide +kernel)
theorem dc_M_join_2 : decode b_M_join 2 = .ok (.getfield 71, 3) := dk_row (s := 0) da_M_join_0 2 (by decide +kernel)
theorem dc_M_join_5 : decode b_M_join 5 = .ok (.isub, 1) := dk_row (s := 0) da_M_join_0 5 (by decide +kernel)
theorem dc_M_join_6 : decode b_M_join 6 = .ok (.istore_n 2, 1) := dk_row (s := 0) da_M_join_0 6 (by decide +kernel)
theorem dc_M_join_7 : decode b_M_join 7 = .ok (.iload_n 1, 1) := dk_row (s := 0) da_M_join_0 7 (by decide +kernel)
theorem dc_M_join_8 : decode b_M_join 8 = .ok (.ifCond .eq 8, 3) := dk_row (s := 0) da_M_join_0 8 (by decide +kernel)
theorem dc_M_join_11 : decode b_M_join 11 = .ok (.iload_n 1, 1) := dk_row (s := 0) da_M_join_0 11 (by decide +kernel)
theorem dc_M_join_12 : decode b_M_join 12 = .ok (.iconst 2, 1) := dk_row (s := 0) da_M_join_0 12 (by decide +kernel)
theorem dc_M_join_13 : decode b_M_join 13 = .ok (.if_icmp .ne 7, 3) := dk_row (s := 0) da_M_join_0 13 (by decide +kernel)
theorem dc_M_join_20 : decode b_M_join 20 = .ok (.iconst 0, 1) := dk_row (s := 0) da_M_join_0 20 (by decide +kernel)
theorem dc_M_join_21 : decode b_M_join 21 = .ok (.istore_n 3, 1) := dk_row (s := 0) da_M_join_0 21 (by decide +kernel)
theorem dc_M_join_22 : decode b_M_join 22 = .ok (.iload_n 3, 1) := dk_row (s := 0) da_M_join_0 22 (by decide +kernel)
theorem dc_M_join_23 : decode b_M_join 23 = .ok (.ifCond .eq 22, 3) := dk_row (s := 0) da_M_join_0 23 (by decide +kernel)
def dw_M_join_45 : ByteArray := .mk #[0x2a, 0xb4, 0x00, 0x0d, 0x2a, 0xb4, 0x00, 0x47, 0x2e, 0x2a, 0xb4, 0x00, 0x0d, 0x1c, 0x2e, 0x60]
theorem da_M_join_45 : dkA b_M_join dw_M_join_45 45 := by unfold dkA; decide +kernel
theorem dc_M_join_45 : decode b_M_join 45 = .ok (.aload_n 0, 1) := dk_row (s := 45) da_M_join_45 0 (by decide +kernel)
theorem dc_M_join_46 : decode b_M_join 46 = .ok (.getfield 13, 3) := dk_row (s := 45) da_M_join_45 1 (by decide +kernel)
theorem dc_M_join_49 : decode b_M_join 49 = .ok (.aload_n 0, 1) := dk_row (s := 45) da_M_join_45 4 (by decide +kernel)
theorem dc_M_join_50 : decode b_M_join 50 = .ok (.getfield 71, 3) := dk_row (s := 45) da_M_join_45 5 (by decide +kernel)
theorem dc_M_join_53 : decode b_M_join 53 = .ok (.iaload, 1) := dk_row (s := 45) da_M_join_45 8 (by decide +kernel)
theorem dc_M_join_54 : decode b_M_join 54 = .ok (.aload_n 0, 1) := dk_row (s := 45) da_M_join_45 9 (by decide +kernel)
theorem dc_M_join_55 : decode b_M_join 55 = .ok (.getfield 13, 3) := dk_row (s := 45) da_M_join_45 10 (by decide +kernel)
theorem dc_M_join_58 : decode b_M_join 58 = .ok (.iload_n 2, 1) := dk_row (s := 45) da_M_join_45 13 (by decide +kernel)
theorem dc_M_join_59 : decode b_M_join 59 = .ok (.iaload, 1) := dk_row (s := 45) da_M_join_45 14 (by decide +kernel)
theorem dc_M_join_60 : decode b_M_join 60 = .ok (.iadd, 1) := dk_row (s := 45) da_M_join_45 15 (by decide +kernel)
def dw_M_join_26 : ByteArray := .mk #[0x2a, 0xb4, 0x00, 0x07, 0x2a, 0xb4, 0x00, 0x47, 0x2e, 0x2a, 0xb4, 0x00, 0x07, 0x1c, 0x2e, 0x60, 0xa7, 0x00, 0x13]
theorem da_M_join_26 : dkA b_M_join dw_M_join_26 26 := by unfold dkA; decide +kernel
theorem dc_M_join_26 : decode b_M_join 26 = .ok (.aload_n 0, 1) := dk_row (s := 26) da_M_join_26 0 (by decide +kernel)
theorem dc_M_join_27 : decode b_M_join 27 = .ok (.getfield 7, 3) := dk_row (s := 26) da_M_join_26 1 (by decide +kernel)
theorem dc_M_join_30 : decode b_M_join 30 = .ok (.aload_n 0, 1) := dk_row (s := 26) da_M_join_26 4 (by decide +kernel)
theorem dc_M_join_31 : decode b_M_join 31 = .ok (.getfield 71, 3) := dk_row (s := 26) da_M_join_26 5 (by decide +kernel)
theorem dc_M_join_34 : decode b_M_join 34 = .ok (.iaload, 1) := dk_row (s := 26) da_M_join_26 8 (by decide +kernel)
theorem dc_M_join_35 : decode b_M_join 35 = .ok (.aload_n 0, 1) := dk_row (s := 26) da_M_join_26 9 (by decide +kernel)
theorem dc_M_join_36 : decode b_M_join 36 = .ok (.getfield 7, 3) := dk_row (s := 26) da_M_join_26 10 (by decide +kernel)
theorem dc_M_join_39 : decode b_M_join 39 = .ok (.iload_n 2, 1) := dk_row (s := 26) da_M_join_26 13 (by decide +kernel)
theorem dc_M_join_40 : decode b_M_join 40 = .ok (.iaload, 1) := dk_row (s := 26) da_M_join_26 14 (by decide +kernel)
theorem dc_M_join_41 : decode b_M_join 41 = .ok (.iadd, 1) := dk_row (s := 26) da_M_join_26 15 (by decide +kernel)
theorem dc_M_join_42 : decode b_M_join 42 = .ok (.goto 19, 3) := dk_row (s := 26) da_M_join_26 16 (by decide +kernel)
theorem dc_M_join_61 : decode b_M_join 61 = .ok (.istore 4, 2) := by decide +kernel
theorem dc_M_join_63 : decode b_M_join 63 = .ok (.iload_n 3, 1) := by decide +kernel
theorem dc_M_join_64 : decode b_M_join 64 = .ok (.ifCond .eq 29, 3) := by decide +kernel
def dw_M_join_93 : ByteArray := .mk #[0x2a, 0xb4, 0x00, 0x07, 0x2a, 0xb4, 0x00, 0x47, 0x2e, 0x2a, 0xb4, 0x00, 0x07, 0x1c, 0x2e, 0xa0, 0x00, 0x07, 0x04, 0xa7, 0x00, 0x04, 0x03]
theorem da_M_join_93 : dkA b_M_join dw_M_join_93 93 := by unfold dkA; decide +kernel
theorem dc_M_join_93 : decode b_M_join 93 = .ok (.aload_n 0, 1) := dk_row (s := 93) da_M_join_93 0 (by decide +kernel)
theorem dc_M_join_94 : decode b_M_join 94 = .ok (.getfield 7, 3) := dk_row (s := 93) da_M_join_93 1 (by decide +kernel)
theorem dc_M_join_97 : decode b_M_join 97 = .ok (.aload_n 0, 1) := dk_row (s := 93) da_M_join_93 4 (by decide +kernel)
theorem dc_M_join_98 : decode b_M_join 98 = .ok (.getfield 71, 3) := dk_row (s := 93) da_M_join_93 5 (by decide +kernel)
theorem dc_M_join_101 : decode b_M_join 101 = .ok (.iaload, 1) := dk_row (s := 93) da_M_join_93 8 (by decide +kernel)
theorem dc_M_join_102 : decode b_M_join 102 = .ok (.aload_n 0, 1) := dk_row (s := 93) da_M_join_93 9 (by decide +kernel)
theorem dc_M_join_103 : decode b_M_join 103 = .ok (.getfield 7, 3) := dk_row (s := 93) da_M_join_93 10 (by decide +kernel)
theorem dc_M_join_106 : decode b_M_join 106 = .ok (.iload_n 2, 1) := dk_row (s := 93) da_M_join_93 13 (by decide +kernel)
theorem dc_M_join_107 : decode b_M_join 107 = .ok (.iaload, 1) := dk_row (s := 93) da_M_join_93 14 (by decide +kernel)
theorem dc_M_join_108 : decode b_M_join 108 = .ok (.if_icmp .ne 7, 3) := dk_row (s := 93) da_M_join_93 15 (by decide +kernel)
theorem dc_M_join_115 : decode b_M_join 115 = .ok (.iconst 0, 1) := dk_row (s := 93) da_M_join_93 22 (by decide +kernel)
theorem dc_M_join_111 : decode b_M_join 111 = .ok (.iconst 1, 1) := by decide +kernel
theorem dc_M_join_112 : decode b_M_join 112 = .ok (.goto 4, 3) := by decide +kernel
def dw_M_join_67 : ByteArray := .mk #[0x2a, 0xb4, 0x00, 0x0d, 0x2a, 0xb4, 0x00, 0x47, 0x2e, 0x2a, 0xb4, 0x00, 0x0d, 0x1c, 0x2e, 0xa0, 0x00, 0x07, 0x04, 0xa7, 0x00, 0x1e, 0x03, 0xa7, 0x00, 0x1a]
theorem da_M_join_67 : dkA b_M_join dw_M_join_67 67 := by unfold dkA; decide +kernel
theorem dc_M_join_67 : decode b_M_join 67 = .ok (.aload_n 0, 1) := dk_row (s := 67) da_M_join_67 0 (by decide +kernel)
theorem dc_M_join_68 : decode b_M_join 68 = .ok (.getfield 13, 3) := dk_row (s := 67) da_M_join_67 1 (by decide +kernel)
theorem dc_M_join_71 : decode b_M_join 71 = .ok (.aload_n 0, 1) := dk_row (s := 67) da_M_join_67 4 (by decide +kernel)
theorem dc_M_join_72 : decode b_M_join 72 = .ok (.getfield 71, 3) := dk_row (s := 67) da_M_join_67 5 (by decide +kernel)
theorem dc_M_join_75 : decode b_M_join 75 = .ok (.iaload, 1) := dk_row (s := 67) da_M_join_67 8 (by decide +kernel)
theorem dc_M_join_76 : decode b_M_join 76 = .ok (.aload_n 0, 1) := dk_row (s := 67) da_M_join_67 9 (by decide +kernel)
theorem dc_M_join_77 : decode b_M_join 77 = .ok (.getfield 13, 3) := dk_row (s := 67) da_M_join_67 10 (by decide +kernel)
theorem dc_M_join_80 : decode b_M_join 80 = .ok (.iload_n 2, 1) := dk_row (s := 67) da_M_join_67 13 (by decide +kernel)
theorem dc_M_join_81 : decode b_M_join 81 = .ok (.iaload, 1) := dk_row (s := 67) da_M_join_67 14 (by decide +kernel)
theorem dc_M_join_82 : decode b_M_join 82 = .ok (.if_icmp .ne 7, 3) := dk_row (s := 67) da_M_join_67 15 (by decide +kernel)
theorem dc_M_join_89 : decode b_M_join 89 = .ok (.iconst 0, 1) := dk_row (s := 67) da_M_join_67 22 (by decide +kernel)
theorem dc_M_join_90 : decode b_M_join 90 = .ok (.goto 26, 3) := dk_row (s := 67) da_M_join_67 23 (by decide +kernel)
theorem dc_M_join_85 : decode b_M_join 85 = .ok (.iconst 1, 1) := by decide +kernel
theorem dc_M_join_86 : decode b_M_join 86 = .ok (.goto 30, 3) := by decide +kernel
def dw_M_join_116 : ByteArray := .mk #[0x36, 0x05, 0x2a, 0x1b, 0x03, 0x06, 0xb8, 0x00, 0x54, 0x9a, 0x00, 0x07, 0x04, 0xa7, 0x00, 0x43, 0x15, 0x05, 0x9a, 0x00, 0x07, 0x05, 0xa7, 0x00, 0x3a, 0x15, 0x04, 0x11, 0x01, 0x90]
theorem da_M_join_116 : dkA b_M_join dw_M_join_116 116 := by unfold dkA; decide +kernel
theorem dc_M_join_116 : decode b_M_join 116 = .ok (.istore 5, 2) := dk_row (s := 116) da_M_join_116 0 (by decide +kernel)
theorem dc_M_join_118 : decode b_M_join 118 = .ok (.aload_n 0, 1) := dk_row (s := 116) da_M_join_116 2 (by decide +kernel)
theorem dc_M_join_119 : decode b_M_join 119 = .ok (.iload_n 1, 1) := dk_row (s := 116) da_M_join_116 3 (by decide +kernel)
theorem dc_M_join_120 : decode b_M_join 120 = .ok (.iconst 0, 1) := dk_row (s := 116) da_M_join_116 4 (by decide +kernel)
theorem dc_M_join_121 : decode b_M_join 121 = .ok (.iconst 3, 1) := dk_row (s := 116) da_M_join_116 5 (by decide +kernel)
theorem dc_M_join_122 : decode b_M_join 122 = .ok (.invokestatic 84, 3) := dk_row (s := 116) da_M_join_116 6 (by decide +kernel)
theorem dc_M_join_125 : decode b_M_join 125 = .ok (.ifCond .ne 7, 3) := dk_row (s := 116) da_M_join_116 9 (by decide +kernel)
theorem dc_M_join_132 : decode b_M_join 132 = .ok (.iload 5, 2) := dk_row (s := 116) da_M_join_116 16 (by decide +kernel)
theorem dc_M_join_134 : decode b_M_join 134 = .ok (.ifCond .ne 7, 3) := dk_row (s := 116) da_M_join_116 18 (by decide +kernel)
theorem dc_M_join_141 : decode b_M_join 141 = .ok (.iload 4, 2) := dk_row (s := 116) da_M_join_116 25 (by decide +kernel)
theorem dc_M_join_143 : decode b_M_join 143 = .ok (.sipush 400, 3) := dk_row (s := 116) da_M_join_116 27 (by decide +kernel)
def dw_M_join_146 : ByteArray := .mk #[0xa3, 0x00, 0x2d, 0x2a, 0xb4, 0x00, 0x10, 0x2a, 0xb4, 0x00, 0x47, 0x2e, 0x2a, 0xb4, 0x00, 0x10, 0x1c, 0x2e, 0x60, 0x10, 0x28, 0xa3, 0x00, 0x18, 0x2a, 0xb4, 0x00, 0x13, 0x2a, 0xb4, 0x00, 0x47]
theorem da_M_join_146 : dkA b_M_join dw_M_join_146 146 := by unfold dkA; decide +kernel
theorem dc_M_join_146 : decode b_M_join 146 = .ok (.if_icmp .gt 45, 3) := dk_row (s := 146) da_M_join_146 0 (by decide +kernel)
theorem dc_M_join_149 : decode b_M_join 149 = .ok (.aload_n 0, 1) := dk_row (s := 146) da_M_join_146 3 (by decide +kernel)
theorem dc_M_join_150 : decode b_M_join 150 = .ok (.getfield 16, 3) := dk_row (s := 146) da_M_join_146 4 (by decide +kernel)
theorem dc_M_join_153 : decode b_M_join 153 = .ok (.aload_n 0, 1) := dk_row (s := 146) da_M_join_146 7 (by decide +kernel)
theorem dc_M_join_154 : decode b_M_join 154 = .ok (.getfield 71, 3) := dk_row (s := 146) da_M_join_146 8 (by decide +kernel)
theorem dc_M_join_157 : decode b_M_join 157 = .ok (.iaload, 1) := dk_row (s := 146) da_M_join_146 11 (by decide +kernel)
theorem dc_M_join_158 : decode b_M_join 158 = .ok (.aload_n 0, 1) := dk_row (s := 146) da_M_join_146 12 (by decide +kernel)
theorem dc_M_join_159 : decode b_M_join 159 = .ok (.getfield 16, 3) := dk_row (s := 146) da_M_join_146 13 (by decide +kernel)
theorem dc_M_join_162 : decode b_M_join 162 = .ok (.iload_n 2, 1) := dk_row (s := 146) da_M_join_146 16 (by decide +kernel)
theorem dc_M_join_163 : decode b_M_join 163 = .ok (.iaload, 1) := dk_row (s := 146) da_M_join_146 17 (by decide +kernel)
theorem dc_M_join_164 : decode b_M_join 164 = .ok (.iadd, 1) := dk_row (s := 146) da_M_join_146 18 (by decide +kernel)
theorem dc_M_join_165 : decode b_M_join 165 = .ok (.bipush 40, 2) := dk_row (s := 146) da_M_join_146 19 (by decide +kernel)
theorem dc_M_join_167 : decode b_M_join 167 = .ok (.if_icmp .gt 24, 3) := dk_row (s := 146) da_M_join_146 21 (by decide +kernel)
theorem dc_M_join_170 : decode b_M_join 170 = .ok (.aload_n 0, 1) := dk_row (s := 146) da_M_join_146 24 (by decide +kernel)
theorem dc_M_join_171 : decode b_M_join 171 = .ok (.getfield 19, 3) := dk_row (s := 146) da_M_join_146 25 (by decide +kernel)
theorem dc_M_join_174 : decode b_M_join 174 = .ok (.aload_n 0, 1) := dk_row (s := 146) da_M_join_146 28 (by decide +kernel)
theorem dc_M_join_175 : decode b_M_join 175 = .ok (.getfield 71, 3) := dk_row (s := 146) da_M_join_146 29 (by decide +kernel)
def dw_M_join_178 : ByteArray := .mk #[0x2e, 0x2a, 0xb4, 0x00, 0x13, 0x1c, 0x2e, 0x60, 0x10, 0x14, 0xa4, 0x00, 0x07, 0x06, 0xa7, 0x00, 0x04, 0x03]
theorem da_M_join_178 : dkA b_M_join dw_M_join_178 178 := by unfold dkA; decide +kernel
theorem dc_M_join_178 : decode b_M_join 178 = .ok (.iaload, 1) := dk_row (s := 178) da_M_join_178 0 (by decide +kernel)
theorem dc_M_join_179 : decode b_M_join 179 = .ok (.aload_n 0, 1) := dk_row (s := 178) da_M_join_178 1 (by decide +kernel)
theorem dc_M_join_180 : decode b_M_join 180 = .ok (.getfield 19, 3) := dk_row (s := 178) da_M_join_178 2 (by decide +kernel)
theorem dc_M_join_183 : decode b_M_join 183 = .ok (.iload_n 2, 1) := dk_row (s := 178) da_M_join_178 5 (by decide +kernel)
theorem dc_M_join_184 : decode b_M_join 184 = .ok (.iaload, 1) := dk_row (s := 178) da_M_join_178 6 (by decide +kernel)
theorem dc_M_join_185 : decode b_M_join 185 = .ok (.iadd, 1) := dk_row (s := 178) da_M_join_178 7 (by decide +kernel)
theorem dc_M_join_186 : decode b_M_join 186 = .ok (.bipush 20, 2) := dk_row (s := 178) da_M_join_178 8 (by decide +kernel)
theorem dc_M_join_188 : decode b_M_join 188 = .ok (.if_icmp .le 7, 3) := dk_row (s := 178) da_M_join_178 10 (by decide +kernel)
theorem dc_M_join_195 : decode b_M_join 195 = .ok (.iconst 0, 1) := dk_row (s := 178) da_M_join_178 17 (by decide +kernel)
theorem dc_M_join_137 : decode b_M_join 137 = .ok (.iconst 2, 1) := by decide +kernel
theorem dc_M_join_138 : decode b_M_join 138 = .ok (.goto 58, 3) := by decide +kernel
theorem dc_M_join_128 : decode b_M_join 128 = .ok (.iconst 1, 1) := by decide +kernel
theorem dc_M_join_129 : decode b_M_join 129 = .ok (.goto 67, 3) := by decide +kernel
def dw_M_join_196 : ByteArray := .mk #[0xb5, 0x00, 0x44, 0x2a, 0xb4, 0x00, 0x44, 0x9e, 0x00, 0x05, 0x03, 0xac, 0x1b, 0x9a, 0x00, 0x0c, 0x2a, 0xb4, 0x00, 0x07, 0x1c, 0x2e, 0xa7, 0x00, 0x04, 0x03]
theorem da_M_join_196 : dkA b_M_join dw_M_join_196 196 := by unfold dkA; decide +kernel
theorem dc_M_join_196 : decode b_M_join 196 = .ok (.putfield 68, 3) := dk_row (s := 196) da_M_join_196 0 (by decide +kernel)
theorem dc_M_join_199 : decode b_M_join 199 = .ok (.aload_n 0, 1) := dk_row (s := 196) da_M_join_196 3 (by decide +kernel)
theorem dc_M_join_200 : decode b_M_join 200 = .ok (.getfield 68, 3) := dk_row (s := 196) da_M_join_196 4 (by decide +kernel)
theorem dc_M_join_203 : decode b_M_join 203 = .ok (.ifCond .le 5, 3) := dk_row (s := 196) da_M_join_196 7 (by decide +kernel)
theorem dc_M_join_208 : decode b_M_join 208 = .ok (.iload_n 1, 1) := dk_row (s := 196) da_M_join_196 12 (by decide +kernel)
theorem dc_M_join_209 : decode b_M_join 209 = .ok (.ifCond .ne 12, 3) := dk_row (s := 196) da_M_join_196 13 (by decide +kernel)
theorem dc_M_join_221 : decode b_M_join 221 = .ok (.iconst 0, 1) := dk_row (s := 196) da_M_join_196 25 (by decide +kernel)
def dw_M_join_212 : ByteArray := .mk #[0x2a, 0xb4, 0x00, 0x07, 0x1c, 0x2e, 0xa7, 0x00, 0x04]
theorem da_M_join_212 : dkA b_M_join dw_M_join_212 212 := by unfold dkA; decide +kernel
theorem dc_M_join_212 : decode b_M_join 212 = .ok (.aload_n 0, 1) := dk_row (s := 212) da_M_join_212 0 (by decide +kernel)
theorem dc_M_join_213 : decode b_M_join 213 = .ok (.getfield 7, 3) := dk_row (s := 212) da_M_join_212 1 (by decide +kernel)
theorem dc_M_join_216 : decode b_M_join 216 = .ok (.iload_n 2, 1) := dk_row (s := 212) da_M_join_212 4 (by decide +kernel)
theorem dc_M_join_217 : decode b_M_join 217 = .ok (.iaload, 1) := dk_row (s := 212) da_M_join_212 5 (by decide +kernel)
theorem dc_M_join_218 : decode b_M_join 218 = .ok (.goto 4, 3) := dk_row (s := 212) da_M_join_212 6 (by decide +kernel)
def dw_M_join_206 : ByteArray := .mk #[0x03, 0xac, 0x1b, 0x9a, 0x00, 0x0c, 0x2a, 0xb4, 0x00, 0x07, 0x1c, 0x2e, 0xa7, 0x00, 0x04, 0x03, 0x36, 0x06, 0x1b, 0x04, 0xa0, 0x00, 0x0c]
theorem da_M_join_206 : dkA b_M_join dw_M_join_206 206 := by unfold dkA; decide +kernel
theorem dc_M_join_206 : decode b_M_join 206 = .ok (.iconst 0, 1) := dk_row (s := 206) da_M_join_206 0 (by decide +kernel)
theorem dc_M_join_207 : decode b_M_join 207 = .ok (.ireturn, 1) := dk_row (s := 206) da_M_join_206 1 (by decide +kernel)
theorem dc_M_join_222 : decode b_M_join 222 = .ok (.istore 6, 2) := dk_row (s := 206) da_M_join_206 16 (by decide +kernel)
theorem dc_M_join_224 : decode b_M_join 224 = .ok (.iload_n 1, 1) := dk_row (s := 206) da_M_join_206 18 (by decide +kernel)
theorem dc_M_join_225 : decode b_M_join 225 = .ok (.iconst 1, 1) := dk_row (s := 206) da_M_join_206 19 (by decide +kernel)
theorem dc_M_join_226 : decode b_M_join 226 = .ok (.if_icmp .ne 12, 3) := dk_row (s := 206) da_M_join_206 20 (by decide +kernel)
theorem dc_M_join_238 : decode b_M_join 238 = .ok (.iconst 0, 1) := by decide +kernel
def dw_M_join_229 : ByteArray := .mk #[0x2a, 0xb4, 0x00, 0x0d, 0x1c, 0x2e, 0xa7, 0x00, 0x04, 0x03, 0x36, 0x07, 0x1b, 0x05, 0xa0, 0x00, 0x0f, 0x2a, 0xb4, 0x00, 0x07, 0x2a, 0xb4, 0x00, 0x47, 0x2e, 0xa7, 0x00, 0x04, 0x03]
theorem da_M_join_229 : dkA b_M_join dw_M_join_229 229 := by unfold dkA; decide +kernel
theorem dc_M_join_229 : decode b_M_join 229 = .ok (.aload_n 0, 1) := dk_row (s := 229) da_M_join_229 0 (by decide +kernel)
theorem dc_M_join_230 : decode b_M_join 230 = .ok (.getfield 13, 3) := dk_row (s := 229) da_M_join_229 1 (by decide +kernel)
theorem dc_M_join_233 : decode b_M_join 233 = .ok (.iload_n 2, 1) := dk_row (s := 229) da_M_join_229 4 (by decide +kernel)
theorem dc_M_join_234 : decode b_M_join 234 = .ok (.iaload, 1) := dk_row (s := 229) da_M_join_229 5 (by decide +kernel)
theorem dc_M_join_235 : decode b_M_join 235 = .ok (.goto 4, 3) := dk_row (s := 229) da_M_join_229 6 (by decide +kernel)
theorem dc_M_join_239 : decode b_M_join 239 = .ok (.istore 7, 2) := dk_row (s := 229) da_M_join_229 10 (by decide +kernel)
theorem dc_M_join_241 : decode b_M_join 241 = .ok (.iload_n 1, 1) := dk_row (s := 229) da_M_join_229 12 (by decide +kernel)
theorem dc_M_join_242 : decode b_M_join 242 = .ok (.iconst 2, 1) := dk_row (s := 229) da_M_join_229 13 (by decide +kernel)
theorem dc_M_join_243 : decode b_M_join 243 = .ok (.if_icmp .ne 15, 3) := dk_row (s := 229) da_M_join_229 14 (by decide +kernel)
theorem dc_M_join_258 : decode b_M_join 258 = .ok (.iconst 0, 1) := dk_row (s := 229) da_M_join_229 29 (by decide +kernel)
def dw_M_join_246 : ByteArray := .mk #[0x2a, 0xb4, 0x00, 0x07, 0x2a, 0xb4, 0x00, 0x47, 0x2e, 0xa7, 0x00, 0x04, 0x03, 0x36, 0x08, 0x1b, 0x06, 0xa0, 0x00, 0x0f]
theorem da_M_join_246 : dkA b_M_join dw_M_join_246 246 := by unfold dkA; decide +kernel
theorem dc_M_join_246 : decode b_M_join 246 = .ok (.aload_n 0, 1) := dk_row (s := 246) da_M_join_246 0 (by decide +kernel)
theorem dc_M_join_247 : decode b_M_join 247 = .ok (.getfield 7, 3) := dk_row (s := 246) da_M_join_246 1 (by decide +kernel)
theorem dc_M_join_250 : decode b_M_join 250 = .ok (.aload_n 0, 1) := dk_row (s := 246) da_M_join_246 4 (by decide +kernel)
theorem dc_M_join_251 : decode b_M_join 251 = .ok (.getfield 71, 3) := dk_row (s := 246) da_M_join_246 5 (by decide +kernel)
theorem dc_M_join_254 : decode b_M_join 254 = .ok (.iaload, 1) := dk_row (s := 246) da_M_join_246 8 (by decide +kernel)
theorem dc_M_join_255 : decode b_M_join 255 = .ok (.goto 4, 3) := dk_row (s := 246) da_M_join_246 9 (by decide +kernel)
theorem dc_M_join_259 : decode b_M_join 259 = .ok (.istore 8, 2) := dk_row (s := 246) da_M_join_246 13 (by decide +kernel)
theorem dc_M_join_261 : decode b_M_join 261 = .ok (.iload_n 1, 1) := dk_row (s := 246) da_M_join_246 15 (by decide +kernel)
theorem dc_M_join_262 : decode b_M_join 262 = .ok (.iconst 3, 1) := dk_row (s := 246) da_M_join_246 16 (by decide +kernel)
theorem dc_M_join_263 : decode b_M_join 263 = .ok (.if_icmp .ne 15, 3) := dk_row (s := 246) da_M_join_246 17 (by decide +kernel)
theorem dc_M_join_278 : decode b_M_join 278 = .ok (.iconst 0, 1) := by decide +kernel
def dw_M_join_266 : ByteArray := .mk #[0x2a, 0xb4, 0x00, 0x0d, 0x2a, 0xb4, 0x00, 0x47, 0x2e, 0xa7, 0x00, 0x04, 0x03, 0x36, 0x09, 0x03, 0x36, 0x0a, 0x15, 0x0a, 0x2a, 0xb4, 0x00, 0x10, 0x2a, 0xb4, 0x00, 0x47, 0x2e, 0xa2, 0x00, 0x29]
theorem da_M_join_266 : dkA b_M_join dw_M_join_266 266 := by unfold dkA; decide +kernel
theorem dc_M_join_266 : decode b_M_join 266 = .ok (.aload_n 0, 1) := dk_row (s := 266) da_M_join_266 0 (by decide +kernel)
theorem dc_M_join_267 : decode b_M_join 267 = .ok (.getfield 13, 3) := dk_row (s := 266) da_M_join_266 1 (by decide +kernel)
theorem dc_M_join_270 : decode b_M_join 270 = .ok (.aload_n 0, 1) := dk_row (s := 266) da_M_join_266 4 (by decide +kernel)
theorem dc_M_join_271 : decode b_M_join 271 = .ok (.getfield 71, 3) := dk_row (s := 266) da_M_join_266 5 (by decide +kernel)
theorem dc_M_join_274 : decode b_M_join 274 = .ok (.iaload, 1) := dk_row (s := 266) da_M_join_266 8 (by decide +kernel)
theorem dc_M_join_275 : decode b_M_join 275 = .ok (.goto 4, 3) := dk_row (s := 266) da_M_join_266 9 (by decide +kernel)
theorem dc_M_join_279 : decode b_M_join 279 = .ok (.istore 9, 2) := dk_row (s := 266) da_M_join_266 13 (by decide +kernel)
theorem dc_M_join_281 : decode b_M_join 281 = .ok (.iconst 0, 1) := dk_row (s := 266) da_M_join_266 15 (by decide +kernel)
theorem dc_M_join_282 : decode b_M_join 282 = .ok (.istore 10, 2) := dk_row (s := 266) da_M_join_266 16 (by decide +kernel)
theorem dc_M_join_284 : decode b_M_join 284 = .ok (.iload 10, 2) := dk_row (s := 266) da_M_join_266 18 (by decide +kernel)
theorem dc_M_join_286 : decode b_M_join 286 = .ok (.aload_n 0, 1) := dk_row (s := 266) da_M_join_266 20 (by decide +kernel)
theorem dc_M_join_287 : decode b_M_join 287 = .ok (.getfield 16, 3) := dk_row (s := 266) da_M_join_266 21 (by decide +kernel)
theorem dc_M_join_290 : decode b_M_join 290 = .ok (.aload_n 0, 1) := dk_row (s := 266) da_M_join_266 24 (by decide +kernel)
theorem dc_M_join_291 : decode b_M_join 291 = .ok (.getfield 71, 3) := dk_row (s := 266) da_M_join_266 25 (by decide +kernel)
theorem dc_M_join_294 : decode b_M_join 294 = .ok (.iaload, 1) := dk_row (s := 266) da_M_join_266 28 (by decide +kernel)
theorem dc_M_join_295 : decode b_M_join 295 = .ok (.if_icmp .ge 41, 3) := dk_row (s := 266) da_M_join_266 29 (by decide +kernel)
def dw_M_join_336 : ByteArray := .mk #[0x10, 0x14, 0x2a, 0xb4, 0x00, 0x47, 0x68, 0x36, 0x0a]
theorem da_M_join_336 : dkA b_M_join dw_M_join_336 336 := by unfold dkA; decide +kernel
theorem dc_M_join_336 : decode b_M_join 336 = .ok (.bipush 20, 2) := dk_row (s := 336) da_M_join_336 0 (by decide +kernel)
theorem dc_M_join_338 : decode b_M_join 338 = .ok (.aload_n 0, 1) := dk_row (s := 336) da_M_join_336 2 (by decide +kernel)
theorem dc_M_join_339 : decode b_M_join 339 = .ok (.getfield 71, 3) := dk_row (s := 336) da_M_join_336 3 (by decide +kernel)
theorem dc_M_join_342 : decode b_M_join 342 = .ok (.imul, 1) := dk_row (s := 336) da_M_join_336 6 (by decide +kernel)
theorem dc_M_join_343 : decode b_M_join 343 = .ok (.istore 10, 2) := dk_row (s := 336) da_M_join_336 7 (by decide +kernel)
def dw_M_join_298 : ByteArray := .mk #[0x2a, 0xb4, 0x00, 0x16, 0x2a, 0x15, 0x0a, 0xb6, 0x00, 0x5c, 0x5c, 0x2e, 0x15, 0x06, 0x60, 0x4f, 0x2a, 0xb4, 0x00, 0x19, 0x2a, 0x15, 0x0a, 0xb6, 0x00, 0x5c, 0x5c, 0x2e, 0x15, 0x07, 0x60, 0x4f]
theorem da_M_join_298 : dkA b_M_join dw_M_join_298 298 := by unfold dkA; decide +kernel
theorem dc_M_join_298 : decode b_M_join 298 = .ok (.aload_n 0, 1) := dk_row (s := 298) da_M_join_298 0 (by decide +kernel)
theorem dc_M_join_299 : decode b_M_join 299 = .ok (.getfield 22, 3) := dk_row (s := 298) da_M_join_298 1 (by decide +kernel)
theorem dc_M_join_302 : decode b_M_join 302 = .ok (.aload_n 0, 1) := dk_row (s := 298) da_M_join_298 4 (by decide +kernel)
theorem dc_M_join_303 : decode b_M_join 303 = .ok (.iload 10, 2) := dk_row (s := 298) da_M_join_298 5 (by decide +kernel)
theorem dc_M_join_305 : decode b_M_join 305 = .ok (.invokevirtual 92, 3) := dk_row (s := 298) da_M_join_298 7 (by decide +kernel)
theorem dc_M_join_308 : decode b_M_join 308 = .ok (.dup2, 1) := dk_row (s := 298) da_M_join_298 10 (by decide +kernel)
theorem dc_M_join_309 : decode b_M_join 309 = .ok (.iaload, 1) := dk_row (s := 298) da_M_join_298 11 (by decide +kernel)
theorem dc_M_join_310 : decode b_M_join 310 = .ok (.iload 6, 2) := dk_row (s := 298) da_M_join_298 12 (by decide +kernel)
theorem dc_M_join_312 : decode b_M_join 312 = .ok (.iadd, 1) := dk_row (s := 298) da_M_join_298 14 (by decide +kernel)
theorem dc_M_join_313 : decode b_M_join 313 = .ok (.iastore, 1) := dk_row (s := 298) da_M_join_298 15 (by decide +kernel)
theorem dc_M_join_314 : decode b_M_join 314 = .ok (.aload_n 0, 1) := dk_row (s := 298) da_M_join_298 16 (by decide +kernel)
theorem dc_M_join_315 : decode b_M_join 315 = .ok (.getfield 25, 3) := dk_row (s := 298) da_M_join_298 17 (by decide +kernel)
theorem dc_M_join_318 : decode b_M_join 318 = .ok (.aload_n 0, 1) := dk_row (s := 298) da_M_join_298 20 (by decide +kernel)
theorem dc_M_join_319 : decode b_M_join 319 = .ok (.iload 10, 2) := dk_row (s := 298) da_M_join_298 21 (by decide +kernel)
theorem dc_M_join_321 : decode b_M_join 321 = .ok (.invokevirtual 92, 3) := dk_row (s := 298) da_M_join_298 23 (by decide +kernel)
theorem dc_M_join_324 : decode b_M_join 324 = .ok (.dup2, 1) := dk_row (s := 298) da_M_join_298 26 (by decide +kernel)
theorem dc_M_join_325 : decode b_M_join 325 = .ok (.iaload, 1) := dk_row (s := 298) da_M_join_298 27 (by decide +kernel)
theorem dc_M_join_326 : decode b_M_join 326 = .ok (.iload 7, 2) := dk_row (s := 298) da_M_join_298 28 (by decide +kernel)
theorem dc_M_join_328 : decode b_M_join 328 = .ok (.iadd, 1) := dk_row (s := 298) da_M_join_298 30 (by decide +kernel)
theorem dc_M_join_329 : decode b_M_join 329 = .ok (.iastore, 1) := dk_row (s := 298) da_M_join_298 31 (by decide +kernel)
def dw_M_join_330 : ByteArray := .mk #[0x84, 0x0a, 0x01, 0xa7, 0xff, 0xcf, 0x10, 0x14, 0x2a, 0xb4, 0x00, 0x47, 0x68, 0x36, 0x0a, 0x15, 0x0a, 0x10, 0x14, 0x2a, 0xb4, 0x00, 0x47, 0x68, 0x2a, 0xb4, 0x00, 0x13, 0x2a, 0xb4, 0x00, 0x47]
theorem da_M_join_330 : dkA b_M_join dw_M_join_330 330 := by unfold dkA; decide +kernel
theorem dc_M_join_330 : decode b_M_join 330 = .ok (.iinc 10 1, 3) := dk_row (s := 330) da_M_join_330 0 (by decide +kernel)
theorem dc_M_join_333 : decode b_M_join 333 = .ok (.goto (-49), 3) := dk_row (s := 330) da_M_join_330 3 (by decide +kernel)
theorem dc_M_join_345 : decode b_M_join 345 = .ok (.iload 10, 2) := dk_row (s := 330) da_M_join_330 15 (by decide +kernel)
theorem dc_M_join_347 : decode b_M_join 347 = .ok (.bipush 20, 2) := dk_row (s := 330) da_M_join_330 17 (by decide +kernel)
theorem dc_M_join_349 : decode b_M_join 349 = .ok (.aload_n 0, 1) := dk_row (s := 330) da_M_join_330 19 (by decide +kernel)
theorem dc_M_join_350 : decode b_M_join 350 = .ok (.getfield 71, 3) := dk_row (s := 330) da_M_join_330 20 (by decide +kernel)
theorem dc_M_join_353 : decode b_M_join 353 = .ok (.imul, 1) := dk_row (s := 330) da_M_join_330 23 (by decide +kernel)
theorem dc_M_join_354 : decode b_M_join 354 = .ok (.aload_n 0, 1) := dk_row (s := 330) da_M_join_330 24 (by decide +kernel)
theorem dc_M_join_355 : decode b_M_join 355 = .ok (.getfield 19, 3) := dk_row (s := 330) da_M_join_330 25 (by decide +kernel)
theorem dc_M_join_358 : decode b_M_join 358 = .ok (.aload_n 0, 1) := dk_row (s := 330) da_M_join_330 28 (by decide +kernel)
theorem dc_M_join_359 : decode b_M_join 359 = .ok (.getfield 71, 3) := dk_row (s := 330) da_M_join_330 29 (by decide +kernel)
theorem dc_M_join_362 : decode b_M_join 362 = .ok (.iaload, 1) := by decide +kernel
theorem dc_M_join_363 : decode b_M_join 363 = .ok (.iadd, 1) := by decide +kernel
theorem dc_M_join_364 : decode b_M_join 364 = .ok (.if_icmp .ge 33, 3) := by decide +kernel
theorem dc_M_join_397 : decode b_M_join 397 = .ok (.iconst 0, 1) := by decide +kernel
theorem dc_M_join_398 : decode b_M_join 398 = .ok (.istore 10, 2) := by decide +kernel
def dw_M_join_367 : ByteArray := .mk #[0x2a, 0xb4, 0x00, 0x2b, 0x15, 0x0a, 0x5c, 0x2e, 0x15, 0x06, 0x60, 0x4f, 0x2a, 0xb4, 0x00, 0x2e, 0x15, 0x0a, 0x5c, 0x2e, 0x15, 0x07, 0x60, 0x4f, 0x84, 0x0a, 0x01, 0xa7, 0xff, 0xcf]
theorem da_M_join_367 : dkA b_M_join dw_M_join_367 367 := by unfold dkA; decide +kernel
theorem dc_M_join_367 : decode b_M_join 367 = .ok (.aload_n 0, 1) := dk_row (s := 367) da_M_join_367 0 (by decide +kernel)
theorem dc_M_join_368 : decode b_M_join 368 = .ok (.getfield 43, 3) := dk_row (s := 367) da_M_join_367 1 (by decide +kernel)
theorem dc_M_join_371 : decode b_M_join 371 = .ok (.iload 10, 2) := dk_row (s := 367) da_M_join_367 4 (by decide +kernel)
theorem dc_M_join_373 : decode b_M_join 373 = .ok (.dup2, 1) := dk_row (s := 367) da_M_join_367 6 (by decide +kernel)
theorem dc_M_join_374 : decode b_M_join 374 = .ok (.iaload, 1) := dk_row (s := 367) da_M_join_367 7 (by decide +kernel)
theorem dc_M_join_375 : decode b_M_join 375 = .ok (.iload 6, 2) := dk_row (s := 367) da_M_join_367 8 (by decide +kernel)
theorem dc_M_join_377 : decode b_M_join 377 = .ok (.iadd, 1) := dk_row (s := 367) da_M_join_367 10 (by decide +kernel)
theorem dc_M_join_378 : decode b_M_join 378 = .ok (.iastore, 1) := dk_row (s := 367) da_M_join_367 11 (by decide +kernel)
theorem dc_M_join_379 : decode b_M_join 379 = .ok (.aload_n 0, 1) := dk_row (s := 367) da_M_join_367 12 (by decide +kernel)
theorem dc_M_join_380 : decode b_M_join 380 = .ok (.getfield 46, 3) := dk_row (s := 367) da_M_join_367 13 (by decide +kernel)
theorem dc_M_join_383 : decode b_M_join 383 = .ok (.iload 10, 2) := dk_row (s := 367) da_M_join_367 16 (by decide +kernel)
theorem dc_M_join_385 : decode b_M_join 385 = .ok (.dup2, 1) := dk_row (s := 367) da_M_join_367 18 (by decide +kernel)
theorem dc_M_join_386 : decode b_M_join 386 = .ok (.iaload, 1) := dk_row (s := 367) da_M_join_367 19 (by decide +kernel)
theorem dc_M_join_387 : decode b_M_join 387 = .ok (.iload 7, 2) := dk_row (s := 367) da_M_join_367 20 (by decide +kernel)
theorem dc_M_join_389 : decode b_M_join 389 = .ok (.iadd, 1) := dk_row (s := 367) da_M_join_367 22 (by decide +kernel)
theorem dc_M_join_390 : decode b_M_join 390 = .ok (.iastore, 1) := dk_row (s := 367) da_M_join_367 23 (by decide +kernel)
theorem dc_M_join_391 : decode b_M_join 391 = .ok (.iinc 10 1, 3) := dk_row (s := 367) da_M_join_367 24 (by decide +kernel)
theorem dc_M_join_394 : decode b_M_join 394 = .ok (.goto (-49), 3) := dk_row (s := 367) da_M_join_367 27 (by decide +kernel)
def dw_M_join_400 : ByteArray := .mk #[0x15, 0x0a, 0x2a, 0xb4, 0x00, 0x10, 0x1c, 0x2e, 0xa2, 0x00, 0x4a]
theorem da_M_join_400 : dkA b_M_join dw_M_join_400 400 := by unfold dkA; decide +kernel
theorem dc_M_join_400 : decode b_M_join 400 = .ok (.iload 10, 2) := dk_row (s := 400) da_M_join_400 0 (by decide +kernel)
theorem dc_M_join_402 : decode b_M_join 402 = .ok (.aload_n 0, 1) := dk_row (s := 400) da_M_join_400 2 (by decide +kernel)
theorem dc_M_join_403 : decode b_M_join 403 = .ok (.getfield 16, 3) := dk_row (s := 400) da_M_join_400 3 (by decide +kernel)
theorem dc_M_join_406 : decode b_M_join 406 = .ok (.iload_n 2, 1) := dk_row (s := 400) da_M_join_400 6 (by decide +kernel)
theorem dc_M_join_407 : decode b_M_join 407 = .ok (.iaload, 1) := dk_row (s := 400) da_M_join_400 7 (by decide +kernel)
theorem dc_M_join_408 : decode b_M_join 408 = .ok (.if_icmp .ge 74, 3) := dk_row (s := 400) da_M_join_400 8 (by decide +kernel)
theorem dc_M_join_482 : decode b_M_join 482 = .ok (.iconst 0, 1) := by decide +kernel
theorem dc_M_join_483 : decode b_M_join 483 = .ok (.istore 10, 2) := by decide +kernel
def dw_M_join_411 : ByteArray := .mk #[0x2a, 0x2a, 0xb4, 0x00, 0x10, 0x2a, 0xb4, 0x00, 0x47, 0x2e, 0xb6, 0x00, 0x5c, 0x36, 0x0b, 0x2a, 0x10, 0x28, 0x1c, 0x68, 0x15, 0x0a, 0x60, 0x15, 0x0b, 0xb6, 0x00, 0x70, 0x2a, 0xb4, 0x00, 0x16]
theorem da_M_join_411 : dkA b_M_join dw_M_join_411 411 := by unfold dkA; decide +kernel
theorem dc_M_join_411 : decode b_M_join 411 = .ok (.aload_n 0, 1) := dk_row (s := 411) da_M_join_411 0 (by decide +kernel)
theorem dc_M_join_412 : decode b_M_join 412 = .ok (.aload_n 0, 1) := dk_row (s := 411) da_M_join_411 1 (by decide +kernel)
theorem dc_M_join_413 : decode b_M_join 413 = .ok (.getfield 16, 3) := dk_row (s := 411) da_M_join_411 2 (by decide +kernel)
theorem dc_M_join_416 : decode b_M_join 416 = .ok (.aload_n 0, 1) := dk_row (s := 411) da_M_join_411 5 (by decide +kernel)
theorem dc_M_join_417 : decode b_M_join 417 = .ok (.getfield 71, 3) := dk_row (s := 411) da_M_join_411 6 (by decide +kernel)
theorem dc_M_join_420 : decode b_M_join 420 = .ok (.iaload, 1) := dk_row (s := 411) da_M_join_411 9 (by decide +kernel)
theorem dc_M_join_421 : decode b_M_join 421 = .ok (.invokevirtual 92, 3) := dk_row (s := 411) da_M_join_411 10 (by decide +kernel)
theorem dc_M_join_424 : decode b_M_join 424 = .ok (.istore 11, 2) := dk_row (s := 411) da_M_join_411 13 (by decide +kernel)
theorem dc_M_join_426 : decode b_M_join 426 = .ok (.aload_n 0, 1) := dk_row (s := 411) da_M_join_411 15 (by decide +kernel)
theorem dc_M_join_427 : decode b_M_join 427 = .ok (.bipush 40, 2) := dk_row (s := 411) da_M_join_411 16 (by decide +kernel)
theorem dc_M_join_429 : decode b_M_join 429 = .ok (.iload_n 2, 1) := dk_row (s := 411) da_M_join_411 18 (by decide +kernel)
theorem dc_M_join_430 : decode b_M_join 430 = .ok (.imul, 1) := dk_row (s := 411) da_M_join_411 19 (by decide +kernel)
theorem dc_M_join_431 : decode b_M_join 431 = .ok (.iload 10, 2) := dk_row (s := 411) da_M_join_411 20 (by decide +kernel)
theorem dc_M_join_433 : decode b_M_join 433 = .ok (.iadd, 1) := dk_row (s := 411) da_M_join_411 22 (by decide +kernel)
theorem dc_M_join_434 : decode b_M_join 434 = .ok (.iload 11, 2) := dk_row (s := 411) da_M_join_411 23 (by decide +kernel)
theorem dc_M_join_436 : decode b_M_join 436 = .ok (.invokevirtual 112, 3) := dk_row (s := 411) da_M_join_411 25 (by decide +kernel)
theorem dc_M_join_439 : decode b_M_join 439 = .ok (.aload_n 0, 1) := dk_row (s := 411) da_M_join_411 28 (by decide +kernel)
theorem dc_M_join_440 : decode b_M_join 440 = .ok (.getfield 22, 3) := dk_row (s := 411) da_M_join_411 29 (by decide +kernel)
def dw_M_join_443 : ByteArray := .mk #[0x15, 0x0b, 0x5c, 0x2e, 0x15, 0x08, 0x60, 0x4f, 0x2a, 0xb4, 0x00, 0x19, 0x15, 0x0b, 0x5c, 0x2e, 0x15, 0x09, 0x60, 0x4f, 0x2a, 0xb4, 0x00, 0x10, 0x2a, 0xb4, 0x00, 0x47, 0x5c, 0x2e, 0x04, 0x60]
theorem da_M_join_443 : dkA b_M_join dw_M_join_443 443 := by unfold dkA; decide +kernel
theorem dc_M_join_443 : decode b_M_join 443 = .ok (.iload 11, 2) := dk_row (s := 443) da_M_join_443 0 (by decide +kernel)
theorem dc_M_join_445 : decode b_M_join 445 = .ok (.dup2, 1) := dk_row (s := 443) da_M_join_443 2 (by decide +kernel)
theorem dc_M_join_446 : decode b_M_join 446 = .ok (.iaload, 1) := dk_row (s := 443) da_M_join_443 3 (by decide +kernel)
theorem dc_M_join_447 : decode b_M_join 447 = .ok (.iload 8, 2) := dk_row (s := 443) da_M_join_443 4 (by decide +kernel)
theorem dc_M_join_449 : decode b_M_join 449 = .ok (.iadd, 1) := dk_row (s := 443) da_M_join_443 6 (by decide +kernel)
theorem dc_M_join_450 : decode b_M_join 450 = .ok (.iastore, 1) := dk_row (s := 443) da_M_join_443 7 (by decide +kernel)
theorem dc_M_join_451 : decode b_M_join 451 = .ok (.aload_n 0, 1) := dk_row (s := 443) da_M_join_443 8 (by decide +kernel)
theorem dc_M_join_452 : decode b_M_join 452 = .ok (.getfield 25, 3) := dk_row (s := 443) da_M_join_443 9 (by decide +kernel)
theorem dc_M_join_455 : decode b_M_join 455 = .ok (.iload 11, 2) := dk_row (s := 443) da_M_join_443 12 (by decide +kernel)
theorem dc_M_join_457 : decode b_M_join 457 = .ok (.dup2, 1) := dk_row (s := 443) da_M_join_443 14 (by decide +kernel)
theorem dc_M_join_458 : decode b_M_join 458 = .ok (.iaload, 1) := dk_row (s := 443) da_M_join_443 15 (by decide +kernel)
theorem dc_M_join_459 : decode b_M_join 459 = .ok (.iload 9, 2) := dk_row (s := 443) da_M_join_443 16 (by decide +kernel)
theorem dc_M_join_461 : decode b_M_join 461 = .ok (.iadd, 1) := dk_row (s := 443) da_M_join_443 18 (by decide +kernel)
theorem dc_M_join_462 : decode b_M_join 462 = .ok (.iastore, 1) := dk_row (s := 443) da_M_join_443 19 (by decide +kernel)
theorem dc_M_join_463 : decode b_M_join 463 = .ok (.aload_n 0, 1) := dk_row (s := 443) da_M_join_443 20 (by decide +kernel)
theorem dc_M_join_464 : decode b_M_join 464 = .ok (.getfield 16, 3) := dk_row (s := 443) da_M_join_443 21 (by decide +kernel)
theorem dc_M_join_467 : decode b_M_join 467 = .ok (.aload_n 0, 1) := dk_row (s := 443) da_M_join_443 24 (by decide +kernel)
theorem dc_M_join_468 : decode b_M_join 468 = .ok (.getfield 71, 3) := dk_row (s := 443) da_M_join_443 25 (by decide +kernel)
theorem dc_M_join_471 : decode b_M_join 471 = .ok (.dup2, 1) := dk_row (s := 443) da_M_join_443 28 (by decide +kernel)
theorem dc_M_join_472 : decode b_M_join 472 = .ok (.iaload, 1) := dk_row (s := 443) da_M_join_443 29 (by decide +kernel)
theorem dc_M_join_473 : decode b_M_join 473 = .ok (.iconst 1, 1) := dk_row (s := 443) da_M_join_443 30 (by decide +kernel)
theorem dc_M_join_474 : decode b_M_join 474 = .ok (.iadd, 1) := dk_row (s := 443) da_M_join_443 31 (by decide +kernel)
def dw_M_join_475 : ByteArray := .mk #[0x4f, 0x84, 0x0a, 0x01, 0xa7, 0xff, 0xb1, 0x03, 0x36, 0x0a, 0x15, 0x0a, 0x2a, 0xb4, 0x00, 0x13, 0x1c, 0x2e, 0xa2, 0x00, 0x4e]
theorem da_M_join_475 : dkA b_M_join dw_M_join_475 475 := by unfold dkA; decide +kernel
theorem dc_M_join_475 : decode b_M_join 475 = .ok (.iastore, 1) := dk_row (s := 475) da_M_join_475 0 (by decide +kernel)
theorem dc_M_join_476 : decode b_M_join 476 = .ok (.iinc 10 1, 3) := dk_row (s := 475) da_M_join_475 1 (by decide +kernel)
theorem dc_M_join_479 : decode b_M_join 479 = .ok (.goto (-79), 3) := dk_row (s := 475) da_M_join_475 4 (by decide +kernel)
theorem dc_M_join_485 : decode b_M_join 485 = .ok (.iload 10, 2) := dk_row (s := 475) da_M_join_475 10 (by decide +kernel)
theorem dc_M_join_487 : decode b_M_join 487 = .ok (.aload_n 0, 1) := dk_row (s := 475) da_M_join_475 12 (by decide +kernel)
theorem dc_M_join_488 : decode b_M_join 488 = .ok (.getfield 19, 3) := dk_row (s := 475) da_M_join_475 13 (by decide +kernel)
theorem dc_M_join_491 : decode b_M_join 491 = .ok (.iload_n 2, 1) := dk_row (s := 475) da_M_join_475 16 (by decide +kernel)
theorem dc_M_join_492 : decode b_M_join 492 = .ok (.iaload, 1) := dk_row (s := 475) da_M_join_475 17 (by decide +kernel)
theorem dc_M_join_493 : decode b_M_join 493 = .ok (.if_icmp .ge 78, 3) := dk_row (s := 475) da_M_join_475 18 (by decide +kernel)
def dw_M_join_571 : ByteArray := .mk #[0x2a, 0xb4, 0x00, 0x10, 0x1c, 0x03, 0x4f, 0x2a, 0xb4, 0x00, 0x13, 0x1c, 0x03, 0x4f, 0x2a, 0xb4, 0x00, 0x07, 0x2a, 0xb4, 0x00, 0x47, 0x1d, 0x99, 0x00, 0x08, 0x15, 0x04, 0xa7, 0x00, 0x0c, 0x2a]
theorem da_M_join_571 : dkA b_M_join dw_M_join_571 571 := by unfold dkA; decide +kernel
theorem dc_M_join_571 : decode b_M_join 571 = .ok (.aload_n 0, 1) := dk_row (s := 571) da_M_join_571 0 (by decide +kernel)
theorem dc_M_join_572 : decode b_M_join 572 = .ok (.getfield 16, 3) := dk_row (s := 571) da_M_join_571 1 (by decide +kernel)
theorem dc_M_join_575 : decode b_M_join 575 = .ok (.iload_n 2, 1) := dk_row (s := 571) da_M_join_571 4 (by decide +kernel)
theorem dc_M_join_576 : decode b_M_join 576 = .ok (.iconst 0, 1) := dk_row (s := 571) da_M_join_571 5 (by decide +kernel)
theorem dc_M_join_577 : decode b_M_join 577 = .ok (.iastore, 1) := dk_row (s := 571) da_M_join_571 6 (by decide +kernel)
theorem dc_M_join_578 : decode b_M_join 578 = .ok (.aload_n 0, 1) := dk_row (s := 571) da_M_join_571 7 (by decide +kernel)
theorem dc_M_join_579 : decode b_M_join 579 = .ok (.getfield 19, 3) := dk_row (s := 571) da_M_join_571 8 (by decide +kernel)
theorem dc_M_join_582 : decode b_M_join 582 = .ok (.iload_n 2, 1) := dk_row (s := 571) da_M_join_571 11 (by decide +kernel)
theorem dc_M_join_583 : decode b_M_join 583 = .ok (.iconst 0, 1) := dk_row (s := 571) da_M_join_571 12 (by decide +kernel)
theorem dc_M_join_584 : decode b_M_join 584 = .ok (.iastore, 1) := dk_row (s := 571) da_M_join_571 13 (by decide +kernel)
theorem dc_M_join_585 : decode b_M_join 585 = .ok (.aload_n 0, 1) := dk_row (s := 571) da_M_join_571 14 (by decide +kernel)
theorem dc_M_join_586 : decode b_M_join 586 = .ok (.getfield 7, 3) := dk_row (s := 571) da_M_join_571 15 (by decide +kernel)
theorem dc_M_join_589 : decode b_M_join 589 = .ok (.aload_n 0, 1) := dk_row (s := 571) da_M_join_571 18 (by decide +kernel)
theorem dc_M_join_590 : decode b_M_join 590 = .ok (.getfield 71, 3) := dk_row (s := 571) da_M_join_571 19 (by decide +kernel)
theorem dc_M_join_593 : decode b_M_join 593 = .ok (.iload_n 3, 1) := dk_row (s := 571) da_M_join_571 22 (by decide +kernel)
theorem dc_M_join_594 : decode b_M_join 594 = .ok (.ifCond .eq 8, 3) := dk_row (s := 571) da_M_join_571 23 (by decide +kernel)
theorem dc_M_join_602 : decode b_M_join 602 = .ok (.aload_n 0, 1) := dk_row (s := 571) da_M_join_571 31 (by decide +kernel)
def dw_M_join_603 : ByteArray := .mk #[0xb4, 0x00, 0x07, 0x2a, 0xb4, 0x00, 0x47, 0x2e]
theorem da_M_join_603 : dkA b_M_join dw_M_join_603 603 := by unfold dkA; decide +kernel
theorem dc_M_join_603 : decode b_M_join 603 = .ok (.getfield 7, 3) := dk_row (s := 603) da_M_join_603 0 (by decide +kernel)
theorem dc_M_join_606 : decode b_M_join 606 = .ok (.aload_n 0, 1) := dk_row (s := 603) da_M_join_603 3 (by decide +kernel)
theorem dc_M_join_607 : decode b_M_join 607 = .ok (.getfield 71, 3) := dk_row (s := 603) da_M_join_603 4 (by decide +kernel)
theorem dc_M_join_610 : decode b_M_join 610 = .ok (.iaload, 1) := dk_row (s := 603) da_M_join_603 7 (by decide +kernel)
theorem dc_M_join_597 : decode b_M_join 597 = .ok (.iload 4, 2) := by decide +kernel
theorem dc_M_join_599 : decode b_M_join 599 = .ok (.goto 12, 3) := by decide +kernel
def dw_M_join_496 : ByteArray := .mk #[0x10, 0x14, 0x2a, 0xb4, 0x00, 0x47, 0x68, 0x2a, 0xb4, 0x00, 0x13, 0x2a, 0xb4, 0x00, 0x47, 0x2e, 0x60, 0x36, 0x0b, 0x2a, 0x10, 0x14, 0x1c, 0x68, 0x15, 0x0a, 0x60, 0x15, 0x0b, 0xb6, 0x00, 0x74]
theorem da_M_join_496 : dkA b_M_join dw_M_join_496 496 := by unfold dkA; decide +kernel
theorem dc_M_join_496 : decode b_M_join 496 = .ok (.bipush 20, 2) := dk_row (s := 496) da_M_join_496 0 (by decide +kernel)
theorem dc_M_join_498 : decode b_M_join 498 = .ok (.aload_n 0, 1) := dk_row (s := 496) da_M_join_496 2 (by decide +kernel)
theorem dc_M_join_499 : decode b_M_join 499 = .ok (.getfield 71, 3) := dk_row (s := 496) da_M_join_496 3 (by decide +kernel)
theorem dc_M_join_502 : decode b_M_join 502 = .ok (.imul, 1) := dk_row (s := 496) da_M_join_496 6 (by decide +kernel)
theorem dc_M_join_503 : decode b_M_join 503 = .ok (.aload_n 0, 1) := dk_row (s := 496) da_M_join_496 7 (by decide +kernel)
theorem dc_M_join_504 : decode b_M_join 504 = .ok (.getfield 19, 3) := dk_row (s := 496) da_M_join_496 8 (by decide +kernel)
theorem dc_M_join_507 : decode b_M_join 507 = .ok (.aload_n 0, 1) := dk_row (s := 496) da_M_join_496 11 (by decide +kernel)
theorem dc_M_join_508 : decode b_M_join 508 = .ok (.getfield 71, 3) := dk_row (s := 496) da_M_join_496 12 (by decide +kernel)
theorem dc_M_join_511 : decode b_M_join 511 = .ok (.iaload, 1) := dk_row (s := 496) da_M_join_496 15 (by decide +kernel)
theorem dc_M_join_512 : decode b_M_join 512 = .ok (.iadd, 1) := dk_row (s := 496) da_M_join_496 16 (by decide +kernel)
theorem dc_M_join_513 : decode b_M_join 513 = .ok (.istore 11, 2) := dk_row (s := 496) da_M_join_496 17 (by decide +kernel)
theorem dc_M_join_515 : decode b_M_join 515 = .ok (.aload_n 0, 1) := dk_row (s := 496) da_M_join_496 19 (by decide +kernel)
theorem dc_M_join_516 : decode b_M_join 516 = .ok (.bipush 20, 2) := dk_row (s := 496) da_M_join_496 20 (by decide +kernel)
theorem dc_M_join_518 : decode b_M_join 518 = .ok (.iload_n 2, 1) := dk_row (s := 496) da_M_join_496 22 (by decide +kernel)
theorem dc_M_join_519 : decode b_M_join 519 = .ok (.imul, 1) := dk_row (s := 496) da_M_join_496 23 (by decide +kernel)
theorem dc_M_join_520 : decode b_M_join 520 = .ok (.iload 10, 2) := dk_row (s := 496) da_M_join_496 24 (by decide +kernel)
theorem dc_M_join_522 : decode b_M_join 522 = .ok (.iadd, 1) := dk_row (s := 496) da_M_join_496 26 (by decide +kernel)
theorem dc_M_join_523 : decode b_M_join 523 = .ok (.iload 11, 2) := dk_row (s := 496) da_M_join_496 27 (by decide +kernel)
theorem dc_M_join_525 : decode b_M_join 525 = .ok (.invokevirtual 116, 3) := dk_row (s := 496) da_M_join_496 29 (by decide +kernel)
def dw_M_join_528 : ByteArray := .mk #[0x2a, 0xb4, 0x00, 0x2b, 0x15, 0x0b, 0x5c, 0x2e, 0x15, 0x08, 0x60, 0x4f, 0x2a, 0xb4, 0x00, 0x2e, 0x15, 0x0b, 0x5c, 0x2e, 0x15, 0x09, 0x60, 0x4f, 0x2a, 0xb4, 0x00, 0x13, 0x2a, 0xb4, 0x00, 0x47]
theorem da_M_join_528 : dkA b_M_join dw_M_join_528 528 := by unfold dkA; decide +kernel
theorem dc_M_join_528 : decode b_M_join 528 = .ok (.aload_n 0, 1) := dk_row (s := 528) da_M_join_528 0 (by decide +kernel)
theorem dc_M_join_529 : decode b_M_join 529 = .ok (.getfield 43, 3) := dk_row (s := 528) da_M_join_528 1 (by decide +kernel)
theorem dc_M_join_532 : decode b_M_join 532 = .ok (.iload 11, 2) := dk_row (s := 528) da_M_join_528 4 (by decide +kernel)
theorem dc_M_join_534 : decode b_M_join 534 = .ok (.dup2, 1) := dk_row (s := 528) da_M_join_528 6 (by decide +kernel)
theorem dc_M_join_535 : decode b_M_join 535 = .ok (.iaload, 1) := dk_row (s := 528) da_M_join_528 7 (by decide +kernel)
theorem dc_M_join_536 : decode b_M_join 536 = .ok (.iload 8, 2) := dk_row (s := 528) da_M_join_528 8 (by decide +kernel)
theorem dc_M_join_538 : decode b_M_join 538 = .ok (.iadd, 1) := dk_row (s := 528) da_M_join_528 10 (by decide +kernel)
theorem dc_M_join_539 : decode b_M_join 539 = .ok (.iastore, 1) := dk_row (s := 528) da_M_join_528 11 (by decide +kernel)
theorem dc_M_join_540 : decode b_M_join 540 = .ok (.aload_n 0, 1) := dk_row (s := 528) da_M_join_528 12 (by decide +kernel)
theorem dc_M_join_541 : decode b_M_join 541 = .ok (.getfield 46, 3) := dk_row (s := 528) da_M_join_528 13 (by decide +kernel)
theorem dc_M_join_544 : decode b_M_join 544 = .ok (.iload 11, 2) := dk_row (s := 528) da_M_join_528 16 (by decide +kernel)
theorem dc_M_join_546 : decode b_M_join 546 = .ok (.dup2, 1) := dk_row (s := 528) da_M_join_528 18 (by decide +kernel)
theorem dc_M_join_547 : decode b_M_join 547 = .ok (.iaload, 1) := dk_row (s := 528) da_M_join_528 19 (by decide +kernel)
theorem dc_M_join_548 : decode b_M_join 548 = .ok (.iload 9, 2) := dk_row (s := 528) da_M_join_528 20 (by decide +kernel)
theorem dc_M_join_550 : decode b_M_join 550 = .ok (.iadd, 1) := dk_row (s := 528) da_M_join_528 22 (by decide +kernel)
theorem dc_M_join_551 : decode b_M_join 551 = .ok (.iastore, 1) := dk_row (s := 528) da_M_join_528 23 (by decide +kernel)
theorem dc_M_join_552 : decode b_M_join 552 = .ok (.aload_n 0, 1) := dk_row (s := 528) da_M_join_528 24 (by decide +kernel)
theorem dc_M_join_553 : decode b_M_join 553 = .ok (.getfield 19, 3) := dk_row (s := 528) da_M_join_528 25 (by decide +kernel)
theorem dc_M_join_556 : decode b_M_join 556 = .ok (.aload_n 0, 1) := dk_row (s := 528) da_M_join_528 28 (by decide +kernel)
theorem dc_M_join_557 : decode b_M_join 557 = .ok (.getfield 71, 3) := dk_row (s := 528) da_M_join_528 29 (by decide +kernel)
def dw_M_join_560 : ByteArray := .mk #[0x5c, 0x2e, 0x04, 0x60, 0x4f, 0x84, 0x0a, 0x01, 0xa7, 0xff, 0xad]
theorem da_M_join_560 : dkA b_M_join dw_M_join_560 560 := by unfold dkA; decide +kernel
theorem dc_M_join_560 : decode b_M_join 560 = .ok (.dup2, 1) := dk_row (s := 560) da_M_join_560 0 (by decide +kernel)
theorem dc_M_join_561 : decode b_M_join 561 = .ok (.iaload, 1) := dk_row (s := 560) da_M_join_560 1 (by decide +kernel)
theorem dc_M_join_562 : decode b_M_join 562 = .ok (.iconst 1, 1) := dk_row (s := 560) da_M_join_560 2 (by decide +kernel)
theorem dc_M_join_563 : decode b_M_join 563 = .ok (.iadd, 1) := dk_row (s := 560) da_M_join_560 3 (by decide +kernel)
theorem dc_M_join_564 : decode b_M_join 564 = .ok (.iastore, 1) := dk_row (s := 560) da_M_join_560 4 (by decide +kernel)
theorem dc_M_join_565 : decode b_M_join 565 = .ok (.iinc 10 1, 3) := dk_row (s := 560) da_M_join_560 5 (by decide +kernel)
theorem dc_M_join_568 : decode b_M_join 568 = .ok (.goto (-83), 3) := dk_row (s := 560) da_M_join_560 8 (by decide +kernel)
def dw_M_join_611 : ByteArray := .mk #[0x4f, 0x2a, 0xb4, 0x00, 0x0d, 0x2a, 0xb4, 0x00, 0x47, 0x1d, 0x99, 0x00, 0x0f, 0x2a, 0xb4, 0x00, 0x0d, 0x2a, 0xb4, 0x00, 0x47, 0x2e, 0xa7, 0x00, 0x05, 0x15, 0x04]
theorem da_M_join_611 : dkA b_M_join dw_M_join_611 611 := by unfold dkA; decide +kernel
theorem dc_M_join_611 : decode b_M_join 611 = .ok (.iastore, 1) := dk_row (s := 611) da_M_join_611 0 (by decide +kernel)
theorem dc_M_join_612 : decode b_M_join 612 = .ok (.aload_n 0, 1) := dk_row (s := 611) da_M_join_611 1 (by decide +kernel)
theorem dc_M_join_613 : decode b_M_join 613 = .ok (.getfield 13, 3) := dk_row (s := 611) da_M_join_611 2 (by decide +kernel)
theorem dc_M_join_616 : decode b_M_join 616 = .ok (.aload_n 0, 1) := dk_row (s := 611) da_M_join_611 5 (by decide +kernel)
theorem dc_M_join_617 : decode b_M_join 617 = .ok (.getfield 71, 3) := dk_row (s := 611) da_M_join_611 6 (by decide +kernel)
theorem dc_M_join_620 : decode b_M_join 620 = .ok (.iload_n 3, 1) := dk_row (s := 611) da_M_join_611 9 (by decide +kernel)
theorem dc_M_join_621 : decode b_M_join 621 = .ok (.ifCond .eq 15, 3) := dk_row (s := 611) da_M_join_611 10 (by decide +kernel)
theorem dc_M_join_636 : decode b_M_join 636 = .ok (.iload 4, 2) := dk_row (s := 611) da_M_join_611 25 (by decide +kernel)
def dw_M_join_624 : ByteArray := .mk #[0x2a, 0xb4, 0x00, 0x0d, 0x2a, 0xb4, 0x00, 0x47, 0x2e, 0xa7, 0x00, 0x05, 0x15, 0x04, 0x4f, 0x2a, 0x03, 0xb5, 0x00, 0x4a, 0x2a, 0x03, 0xb5, 0x00, 0x4d, 0x2a, 0xb4, 0x00, 0x10, 0x2a]
theorem da_M_join_624 : dkA b_M_join dw_M_join_624 624 := by unfold dkA; decide +kernel
theorem dc_M_join_624 : decode b_M_join 624 = .ok (.aload_n 0, 1) := dk_row (s := 624) da_M_join_624 0 (by decide +kernel)
theorem dc_M_join_625 : decode b_M_join 625 = .ok (.getfield 13, 3) := dk_row (s := 624) da_M_join_624 1 (by decide +kernel)
theorem dc_M_join_628 : decode b_M_join 628 = .ok (.aload_n 0, 1) := dk_row (s := 624) da_M_join_624 4 (by decide +kernel)
theorem dc_M_join_629 : decode b_M_join 629 = .ok (.getfield 71, 3) := dk_row (s := 624) da_M_join_624 5 (by decide +kernel)
theorem dc_M_join_632 : decode b_M_join 632 = .ok (.iaload, 1) := dk_row (s := 624) da_M_join_624 8 (by decide +kernel)
theorem dc_M_join_633 : decode b_M_join 633 = .ok (.goto 5, 3) := dk_row (s := 624) da_M_join_624 9 (by decide +kernel)
theorem dc_M_join_638 : decode b_M_join 638 = .ok (.iastore, 1) := dk_row (s := 624) da_M_join_624 14 (by decide +kernel)
theorem dc_M_join_639 : decode b_M_join 639 = .ok (.aload_n 0, 1) := dk_row (s := 624) da_M_join_624 15 (by decide +kernel)
theorem dc_M_join_640 : decode b_M_join 640 = .ok (.iconst 0, 1) := dk_row (s := 624) da_M_join_624 16 (by decide +kernel)
theorem dc_M_join_641 : decode b_M_join 641 = .ok (.putfield 74, 3) := dk_row (s := 624) da_M_join_624 17 (by decide +kernel)
theorem dc_M_join_644 : decode b_M_join 644 = .ok (.aload_n 0, 1) := dk_row (s := 624) da_M_join_624 20 (by decide +kernel)
theorem dc_M_join_645 : decode b_M_join 645 = .ok (.iconst 0, 1) := dk_row (s := 624) da_M_join_624 21 (by decide +kernel)
theorem dc_M_join_646 : decode b_M_join 646 = .ok (.putfield 77, 3) := dk_row (s := 624) da_M_join_624 22 (by decide +kernel)
theorem dc_M_join_649 : decode b_M_join 649 = .ok (.aload_n 0, 1) := dk_row (s := 624) da_M_join_624 25 (by decide +kernel)
theorem dc_M_join_650 : decode b_M_join 650 = .ok (.getfield 16, 3) := dk_row (s := 624) da_M_join_624 26 (by decide +kernel)
theorem dc_M_join_653 : decode b_M_join 653 = .ok (.aload_n 0, 1) := dk_row (s := 624) da_M_join_624 29 (by decide +kernel)
theorem dc_M_join_654 : decode b_M_join 654 = .ok (.getfield 71, 3) := by decide +kernel
theorem dc_M_join_657 : decode b_M_join 657 = .ok (.iaload, 1) := by decide +kernel
theorem dc_M_join_658 : decode b_M_join 658 = .ok (.ireturn, 1) := by decide +kernel
theorem dc_M_join_191 : decode b_M_join 191 = .ok (.iconst 3, 1) := by decide +kernel
theorem dc_M_join_192 : decode b_M_join 192 = .ok (.goto 4, 3) := by decide +kernel
theorem dc_M_join_16 : decode b_M_join 16 = .ok (.iconst 1, 1) := by decide +kernel
theorem dc_M_join_17 : decode b_M_join 17 = .ok (.goto 4, 3) := by decide +kernel
theorem dc_M_ownOf_0 : decode b_M_ownOf 0 = .ok (.iconst (-1), 1) := by decide +kernel
theorem dc_M_ownOf_1 : decode b_M_ownOf 1 = .ok (.istore 5, 2) := by decide +kernel
theorem dc_M_ownOf_3 : decode b_M_ownOf 3 = .ok (.iconst 0, 1) := by decide +kernel
theorem dc_M_ownOf_4 : decode b_M_ownOf 4 = .ok (.istore 6, 2) := by decide +kernel
theorem dc_M_ownOf_6 : decode b_M_ownOf 6 = .ok (.iload 6, 2) := by decide +kernel
theorem dc_M_ownOf_8 : decode b_M_ownOf 8 = .ok (.iload_n 3, 1) := by decide +kernel
theorem dc_M_ownOf_9 : decode b_M_ownOf 9 = .ok (.iload 4, 2) := by decide +kernel
theorem dc_M_ownOf_11 : decode b_M_ownOf 11 = .ok (.imul, 1) := by decide +kernel
theorem dc_M_ownOf_12 : decode b_M_ownOf 12 = .ok (.if_icmp .ge 53, 3) := by decide +kernel
theorem dc_M_ownOf_65 : decode b_M_ownOf 65 = .ok (.iload 5, 2) := by decide +kernel
theorem dc_M_ownOf_67 : decode b_M_ownOf 67 = .ok (.ireturn, 1) := by decide +kernel
theorem dc_M_ownOf_15 : decode b_M_ownOf 15 = .ok (.iload_n 0, 1) := by decide +kernel
theorem dc_M_ownOf_16 : decode b_M_ownOf 16 = .ok (.iload 6, 2) := by decide +kernel
theorem dc_M_ownOf_18 : decode b_M_ownOf 18 = .ok (.iload_n 3, 1) := by decide +kernel
theorem dc_M_ownOf_19 : decode b_M_ownOf 19 = .ok (.irem, 1) := by decide +kernel
theorem dc_M_ownOf_20 : decode b_M_ownOf 20 = .ok (.iload 6, 2) := by decide +kernel
theorem dc_M_ownOf_22 : decode b_M_ownOf 22 = .ok (.iload_n 3, 1) := by decide +kernel
theorem dc_M_ownOf_23 : decode b_M_ownOf 23 = .ok (.idiv, 1) := by decide +kernel
theorem dc_M_ownOf_24 : decode b_M_ownOf 24 = .ok (.iload_n 3, 1) := by decide +kernel
theorem dc_M_ownOf_25 : decode b_M_ownOf 25 = .ok (.iload 4, 2) := by decide +kernel
theorem dc_M_ownOf_27 : decode b_M_ownOf 27 = .ok (.invokestatic 119, 3) := by decide +kernel
theorem dc_M_ownOf_30 : decode b_M_ownOf 30 = .ok (.sipush 1000, 3) := by decide +kernel
theorem dc_M_ownOf_33 : decode b_M_ownOf 33 = .ok (.iload_n 2, 1) := by decide +kernel
theorem dc_M_ownOf_34 : decode b_M_ownOf 34 = .ok (.imul, 1) := by decide +kernel
theorem dc_M_ownOf_35 : decode b_M_ownOf 35 = .ok (.iload_n 1, 1) := by decide +kernel
theorem dc_M_ownOf_36 : decode b_M_ownOf 36 = .ok (.iadd, 1) := by decide +kernel
theorem dc_M_ownOf_37 : decode b_M_ownOf 37 = .ok (.if_icmp .ne 18, 3) := by decide +kernel
theorem dc_M_ownOf_55 : decode b_M_ownOf 55 = .ok (.iload 5, 2) := by decide +kernel
theorem dc_M_ownOf_40 : decode b_M_ownOf 40 = .ok (.bipush 64, 2) := by decide +kernel
theorem dc_M_ownOf_42 : decode b_M_ownOf 42 = .ok (.iload 6, 2) := by decide +kernel
theorem dc_M_ownOf_44 : decode b_M_ownOf 44 = .ok (.iload_n 3, 1) := by decide +kernel
theorem dc_M_ownOf_45 : decode b_M_ownOf 45 = .ok (.idiv, 1) := by decide +kernel
theorem dc_M_ownOf_46 : decode b_M_ownOf 46 = .ok (.imul, 1) := by decide +kernel
theorem dc_M_ownOf_47 : decode b_M_ownOf 47 = .ok (.iload 6, 2) := by decide +kernel
theorem dc_M_ownOf_49 : decode b_M_ownOf 49 = .ok (.iload_n 3, 1) := by decide +kernel
theorem dc_M_ownOf_50 : decode b_M_ownOf 50 = .ok (.irem, 1) := by decide +kernel
theorem dc_M_ownOf_51 : decode b_M_ownOf 51 = .ok (.iadd, 1) := by decide +kernel
theorem dc_M_ownOf_52 : decode b_M_ownOf 52 = .ok (.goto 5, 3) := by decide +kernel
theorem dc_M_ownOf_57 : decode b_M_ownOf 57 = .ok (.istore 5, 2) := by decide +kernel
theorem dc_M_ownOf_59 : decode b_M_ownOf 59 = .ok (.iinc 6 1, 3) := by decide +kernel
theorem dc_M_ownOf_62 : decode b_M_ownOf 62 = .ok (.goto (-56), 3) := by decide +kernel
theorem dc_M_noteAt_0 : decode b_M_noteAt 0 = .ok (.aload_n 0, 1) := by decide +kernel
theorem dc_M_noteAt_1 : decode b_M_noteAt 1 = .ok (.iload_n 1, 1) := by decide +kernel
theorem dc_M_noteAt_2 : decode b_M_noteAt 2 = .ok (.iconst 0, 1) := by decide +kernel
theorem dc_M_noteAt_3 : decode b_M_noteAt 3 = .ok (.aload_n 0, 1) := by decide +kernel
theorem dc_M_noteAt_4 : decode b_M_noteAt 4 = .ok (.getfield 19, 3) := by decide +kernel
theorem dc_M_noteAt_7 : decode b_M_noteAt 7 = .ok (.aload_n 0, 1) := by decide +kernel
theorem dc_M_noteAt_8 : decode b_M_noteAt 8 = .ok (.getfield 71, 3) := by decide +kernel
theorem dc_M_noteAt_11 : decode b_M_noteAt 11 = .ok (.iaload, 1) := by decide +kernel
theorem dc_M_noteAt_12 : decode b_M_noteAt 12 = .ok (.iconst 1, 1) := by decide +kernel
theorem dc_M_noteAt_13 : decode b_M_noteAt 13 = .ok (.isub, 1) := by decide +kernel
theorem dc_M_noteAt_14 : decode b_M_noteAt 14 = .ok (.invokestatic 84, 3) := by decide +kernel
theorem dc_M_noteAt_17 : decode b_M_noteAt 17 = .ok (.ifCond .eq 7, 3) := by decide +kernel
theorem dc_M_noteAt_24 : decode b_M_noteAt 24 = .ok (.iconst 1, 1) := by decide +kernel
theorem dc_M_noteAt_20 : decode b_M_noteAt 20 = .ok (.iconst 0, 1) := by decide +kernel
theorem dc_M_noteAt_21 : decode b_M_noteAt 21 = .ok (.goto 4, 3) := by decide +kernel
theorem dc_M_noteAt_25 : decode b_M_noteAt 25 = .ok (.putfield 68, 3) := by decide +kernel
theorem dc_M_noteAt_28 : decode b_M_noteAt 28 = .ok (.bipush 20, 2) := by decide +kernel
theorem dc_M_noteAt_30 : decode b_M_noteAt 30 = .ok (.aload_n 0, 1) := by decide +kernel
theorem dc_M_noteAt_31 : decode b_M_noteAt 31 = .ok (.getfield 71, 3) := by decide +kernel
theorem dc_M_noteAt_34 : decode b_M_noteAt 34 = .ok (.imul, 1) := by decide +kernel
theorem dc_M_noteAt_35 : decode b_M_noteAt 35 = .ok (.iload_n 1, 1) := by decide +kernel
theorem dc_M_noteAt_36 : decode b_M_noteAt 36 = .ok (.iadd, 1) := by decide +kernel
theorem dc_M_noteAt_37 : decode b_M_noteAt 37 = .ok (.istore_n 3, 1) := by decide +kernel
theorem dc_M_noteAt_38 : decode b_M_noteAt 38 = .ok (.aload_n 0, 1) := by decide +kernel
theorem dc_M_noteAt_39 : decode b_M_noteAt 39 = .ok (.getfield 68, 3) := by decide +kernel
theorem dc_M_noteAt_42 : decode b_M_noteAt 42 = .ok (.ifCond .le 7, 3) := by decide +kernel
theorem dc_M_noteAt_49 : decode b_M_noteAt 49 = .ok (.iload_n 2, 1) := by decide +kernel
theorem dc_M_noteAt_50 : decode b_M_noteAt 50 = .ok (.ifCond .ne 12, 3) := by decide +kernel
theorem dc_M_noteAt_62 : decode b_M_noteAt 62 = .ok (.iload_n 2, 1) := by decide +kernel
theorem dc_M_noteAt_63 : decode b_M_noteAt 63 = .ok (.iconst 1, 1) := by decide +kernel
theorem dc_M_noteAt_64 : decode b_M_noteAt 64 = .ok (.if_icmp .ne 12, 3) := by decide +kernel
theorem dc_M_noteAt_76 : decode b_M_noteAt 76 = .ok (.iload_n 2, 1) := by decide +kernel
theorem dc_M_noteAt_77 : decode b_M_noteAt 77 = .ok (.iconst 2, 1) := by decide +kernel
theorem dc_M_noteAt_78 : decode b_M_noteAt 78 = .ok (.if_icmp .ne 12, 3) := by decide +kernel
theorem dc_M_noteAt_90 : decode b_M_noteAt 90 = .ok (.iconst (-1), 1) := by decide +kernel
theorem dc_M_noteAt_91 : decode b_M_noteAt 91 = .ok (.ireturn, 1) := by decide +kernel
theorem dc_M_noteAt_81 : decode b_M_noteAt 81 = .ok (.aload_n 0, 1) := by decide +kernel
theorem dc_M_noteAt_82 : decode b_M_noteAt 82 = .ok (.getfield 49, 3) := by decide +kernel
theorem dc_M_noteAt_85 : decode b_M_noteAt 85 = .ok (.iload_n 3, 1) := by decide +kernel
theorem dc_M_noteAt_86 : decode b_M_noteAt 86 = .ok (.iaload, 1) := by decide +kernel
theorem dc_M_noteAt_87 : decode b_M_noteAt 87 = .ok (.goto 4, 3) := by decide +kernel
theorem dc_M_noteAt_67 : decode b_M_noteAt 67 = .ok (.aload_n 0, 1) := by decide +kernel
theorem dc_M_noteAt_68 : decode b_M_noteAt 68 = .ok (.getfield 46, 3) := by decide +kernel
theorem dc_M_noteAt_71 : decode b_M_noteAt 71 = .ok (.iload_n 3, 1) := by decide +kernel
theorem dc_M_noteAt_72 : decode b_M_noteAt 72 = .ok (.iaload, 1) := by decide +kernel
theorem dc_M_noteAt_73 : decode b_M_noteAt 73 = .ok (.goto 18, 3) := by decide +kernel
theorem dc_M_noteAt_53 : decode b_M_noteAt 53 = .ok (.aload_n 0, 1) := by decide +kernel
theorem dc_M_noteAt_54 : decode b_M_noteAt 54 = .ok (.getfield 43, 3) := by decide +kernel
theorem dc_M_noteAt_57 : decode b_M_noteAt 57 = .ok (.iload_n 3, 1) := by decide +kernel
theorem dc_M_noteAt_58 : decode b_M_noteAt 58 = .ok (.iaload, 1) := by decide +kernel
theorem dc_M_noteAt_59 : decode b_M_noteAt 59 = .ok (.goto 32, 3) := by decide +kernel
theorem dc_M_noteAt_45 : decode b_M_noteAt 45 = .ok (.iconst 0, 1) := by decide +kernel
theorem dc_M_noteAt_46 : decode b_M_noteAt 46 = .ok (.goto 45, 3) := by decide +kernel
theorem dc_M_tellTwo_0 : decode b_M_tellTwo 0 = .ok (.aload_n 0, 1) := by decide +kernel
theorem dc_M_tellTwo_1 : decode b_M_tellTwo 1 = .ok (.iload_n 1, 1) := by decide +kernel
theorem dc_M_tellTwo_2 : decode b_M_tellTwo 2 = .ok (.sipush 256, 3) := by decide +kernel
theorem dc_M_tellTwo_5 : decode b_M_tellTwo 5 = .ok (.irem, 1) := by decide +kernel
theorem dc_M_tellTwo_6 : decode b_M_tellTwo 6 = .ok (.invokevirtual 133, 3) := by decide +kernel
theorem dc_M_tellTwo_9 : decode b_M_tellTwo 9 = .ok (.aload_n 0, 1) := by decide +kernel
theorem dc_M_tellTwo_10 : decode b_M_tellTwo 10 = .ok (.iload_n 1, 1) := by decide +kernel
theorem dc_M_tellTwo_11 : decode b_M_tellTwo 11 = .ok (.sipush 256, 3) := by decide +kernel
theorem dc_M_tellTwo_14 : decode b_M_tellTwo 14 = .ok (.idiv, 1) := by decide +kernel
theorem dc_M_tellTwo_15 : decode b_M_tellTwo 15 = .ok (.invokevirtual 133, 3) := by decide +kernel
theorem dc_M_tellTwo_18 : decode b_M_tellTwo 18 = .ok (.return_, 1) := by decide +kernel
theorem dc_M_pointerOf_0 : decode b_M_pointerOf 0 = .ok (.bipush 8, 2) := by decide +kernel
theorem dc_M_pointerOf_2 : decode b_M_pointerOf 2 = .ok (.iconst 2, 1) := by decide +kernel
theorem dc_M_pointerOf_3 : decode b_M_pointerOf 3 = .ok (.aload_n 0, 1) := by decide +kernel
theorem dc_M_pointerOf_4 : decode b_M_pointerOf 4 = .ok (.getfield 16, 3) := by decide +kernel
theorem dc_M_pointerOf_7 : decode b_M_pointerOf 7 = .ok (.aload_n 0, 1) := by decide +kernel
theorem dc_M_pointerOf_8 : decode b_M_pointerOf 8 = .ok (.getfield 71, 3) := by decide +kernel
theorem dc_M_pointerOf_11 : decode b_M_pointerOf 11 = .ok (.iaload, 1) := by decide +kernel
theorem dc_M_pointerOf_12 : decode b_M_pointerOf 12 = .ok (.imul, 1) := by decide +kernel
theorem dc_M_pointerOf_13 : decode b_M_pointerOf 13 = .ok (.iadd, 1) := by decide +kernel
theorem dc_M_pointerOf_14 : decode b_M_pointerOf 14 = .ok (.iconst 5, 1) := by decide +kernel
theorem dc_M_pointerOf_15 : decode b_M_pointerOf 15 = .ok (.aload_n 0, 1) := by decide +kernel
theorem dc_M_pointerOf_16 : decode b_M_pointerOf 16 = .ok (.getfield 19, 3) := by decide +kernel
theorem dc_M_pointerOf_19 : decode b_M_pointerOf 19 = .ok (.aload_n 0, 1) := by decide +kernel
theorem dc_M_pointerOf_20 : decode b_M_pointerOf 20 = .ok (.getfield 71, 3) := by decide +kernel
theorem dc_M_pointerOf_23 : decode b_M_pointerOf 23 = .ok (.iaload, 1) := by decide +kernel
theorem dc_M_pointerOf_24 : decode b_M_pointerOf 24 = .ok (.imul, 1) := by decide +kernel
theorem dc_M_pointerOf_25 : decode b_M_pointerOf 25 = .ok (.iadd, 1) := by decide +kernel
theorem dc_M_pointerOf_26 : decode b_M_pointerOf 26 = .ok (.istore_n 2, 1) := by decide +kernel
theorem dc_M_pointerOf_27 : decode b_M_pointerOf 27 = .ok (.iconst 0, 1) := by decide +kernel
theorem dc_M_pointerOf_28 : decode b_M_pointerOf 28 = .ok (.istore_n 3, 1) := by decide +kernel
theorem dc_M_pointerOf_29 : decode b_M_pointerOf 29 = .ok (.iload_n 3, 1) := by decide +kernel
theorem dc_M_pointerOf_30 : decode b_M_pointerOf 30 = .ok (.aload_n 0, 1) := by decide +kernel
theorem dc_M_pointerOf_31 : decode b_M_pointerOf 31 = .ok (.getfield 16, 3) := by decide +kernel
theorem dc_M_pointerOf_34 : decode b_M_pointerOf 34 = .ok (.aload_n 0, 1) := by decide +kernel
theorem dc_M_pointerOf_35 : decode b_M_pointerOf 35 = .ok (.getfield 71, 3) := by decide +kernel
theorem dc_M_pointerOf_38 : decode b_M_pointerOf 38 = .ok (.iaload, 1) := by decide +kernel
theorem dc_M_pointerOf_39 : decode b_M_pointerOf 39 = .ok (.if_icmp .ge 46, 3) := by decide +kernel
theorem dc_M_pointerOf_85 : decode b_M_pointerOf 85 = .ok (.iload_n 2, 1) := by decide +kernel
theorem dc_M_pointerOf_86 : decode b_M_pointerOf 86 = .ok (.ireturn, 1) := by decide +kernel
theorem dc_M_pointerOf_42 : decode b_M_pointerOf 42 = .ok (.iload_n 2, 1) := by decide +kernel
theorem dc_M_pointerOf_43 : decode b_M_pointerOf 43 = .ok (.aload_n 0, 1) := by decide +kernel
theorem dc_M_pointerOf_44 : decode b_M_pointerOf 44 = .ok (.aload_n 0, 1) := by decide +kernel
theorem dc_M_pointerOf_45 : decode b_M_pointerOf 45 = .ok (.iload_n 3, 1) := by decide +kernel
theorem dc_M_pointerOf_46 : decode b_M_pointerOf 46 = .ok (.invokevirtual 92, 3) := by decide +kernel
theorem dc_M_pointerOf_49 : decode b_M_pointerOf 49 = .ok (.aload_n 0, 1) := by decide +kernel
theorem dc_M_pointerOf_50 : decode b_M_pointerOf 50 = .ok (.iload_n 1, 1) := by decide +kernel
theorem dc_M_pointerOf_51 : decode b_M_pointerOf 51 = .ok (.invokevirtual 92, 3) := by decide +kernel
theorem dc_M_pointerOf_54 : decode b_M_pointerOf 54 = .ok (.invokevirtual 137, 3) := by decide +kernel
theorem dc_M_pointerOf_57 : decode b_M_pointerOf 57 = .ok (.ifCond .eq 19, 3) := by decide +kernel
theorem dc_M_pointerOf_76 : decode b_M_pointerOf 76 = .ok (.iconst 0, 1) := by decide +kernel
theorem dc_M_pointerOf_60 : decode b_M_pointerOf 60 = .ok (.aload_n 0, 1) := by decide +kernel
theorem dc_M_pointerOf_61 : decode b_M_pointerOf 61 = .ok (.getfield 37, 3) := by decide +kernel
theorem dc_M_pointerOf_64 : decode b_M_pointerOf 64 = .ok (.aload_n 0, 1) := by decide +kernel
theorem dc_M_pointerOf_65 : decode b_M_pointerOf 65 = .ok (.iload_n 3, 1) := by decide +kernel
theorem dc_M_pointerOf_66 : decode b_M_pointerOf 66 = .ok (.invokevirtual 92, 3) := by decide +kernel
theorem dc_M_pointerOf_69 : decode b_M_pointerOf 69 = .ok (.iaload, 1) := by decide +kernel
theorem dc_M_pointerOf_70 : decode b_M_pointerOf 70 = .ok (.invokestatic 140, 3) := by decide +kernel
theorem dc_M_pointerOf_73 : decode b_M_pointerOf 73 = .ok (.goto 4, 3) := by decide +kernel
theorem dc_M_pointerOf_77 : decode b_M_pointerOf 77 = .ok (.iadd, 1) := by decide +kernel
theorem dc_M_pointerOf_78 : decode b_M_pointerOf 78 = .ok (.istore_n 2, 1) := by decide +kernel
theorem dc_M_pointerOf_79 : decode b_M_pointerOf 79 = .ok (.iinc 3 1, 3) := by decide +kernel
theorem dc_M_pointerOf_82 : decode b_M_pointerOf 82 = .ok (.goto (-53), 3) := by decide +kernel
theorem dc_M_streamAt_0 : decode b_M_streamAt 0 = .ok (.aload_n 0, 1) := by decide +kernel
theorem dc_M_streamAt_1 : decode b_M_streamAt 1 = .ok (.iload_n 1, 1) := by decide +kernel
theorem dc_M_streamAt_2 : decode b_M_streamAt 2 = .ok (.iconst 0, 1) := by decide +kernel
theorem dc_M_streamAt_3 : decode b_M_streamAt 3 = .ok (.aload_n 0, 1) := by decide +kernel
theorem dc_M_streamAt_4 : decode b_M_streamAt 4 = .ok (.getfield 81, 3) := by decide +kernel
theorem dc_M_streamAt_7 : decode b_M_streamAt 7 = .ok (.iconst 1, 1) := by decide +kernel
theorem dc_M_streamAt_8 : decode b_M_streamAt 8 = .ok (.isub, 1) := by decide +kernel
theorem dc_M_streamAt_9 : decode b_M_streamAt 9 = .ok (.invokestatic 84, 3) := by decide +kernel
theorem dc_M_streamAt_12 : decode b_M_streamAt 12 = .ok (.ifCond .eq 7, 3) := by decide +kernel
theorem dc_M_streamAt_19 : decode b_M_streamAt 19 = .ok (.iconst 1, 1) := by decide +kernel
theorem dc_M_streamAt_15 : decode b_M_streamAt 15 = .ok (.iconst 0, 1) := by decide +kernel
theorem dc_M_streamAt_16 : decode b_M_streamAt 16 = .ok (.goto 4, 3) := by decide +kernel
theorem dc_M_streamAt_20 : decode b_M_streamAt 20 = .ok (.putfield 68, 3) := by decide +kernel
theorem dc_M_streamAt_23 : decode b_M_streamAt 23 = .ok (.aload_n 0, 1) := by decide +kernel
theorem dc_M_streamAt_24 : decode b_M_streamAt 24 = .ok (.getfield 68, 3) := by decide +kernel
theorem dc_M_streamAt_27 : decode b_M_streamAt 27 = .ok (.ifCond .le 7, 3) := by decide +kernel
theorem dc_M_streamAt_34 : decode b_M_streamAt 34 = .ok (.aload_n 0, 1) := by decide +kernel
theorem dc_M_streamAt_35 : decode b_M_streamAt 35 = .ok (.getfield 55, 3) := by decide +kernel
theorem dc_M_streamAt_38 : decode b_M_streamAt 38 = .ok (.iload_n 1, 1) := by decide +kernel
theorem dc_M_streamAt_39 : decode b_M_streamAt 39 = .ok (.iaload, 1) := by decide +kernel
theorem dc_M_streamAt_40 : decode b_M_streamAt 40 = .ok (.ireturn, 1) := by decide +kernel
theorem dc_M_streamAt_30 : decode b_M_streamAt 30 = .ok (.iconst 0, 1) := by decide +kernel
theorem dc_M_streamAt_31 : decode b_M_streamAt 31 = .ok (.goto 9, 3) := by decide +kernel
def dw_M_byteOf_0 : ByteArray := .mk #[0x2a, 0x2a, 0x1b, 0xb6, 0x00, 0x60, 0x9a, 0x00, 0x07, 0x04, 0xa7, 0x00, 0x26, 0x1c, 0x03, 0x11, 0x00, 0xff, 0xb8, 0x00, 0x54, 0x9a, 0x00, 0x07, 0x05, 0xa7, 0x00, 0x17, 0x2a, 0xb4, 0x00, 0x25]
theorem da_M_byteOf_0 : dkA b_M_byteOf dw_M_byteOf_0 0 := by unfold dkA; decide +kernel
theorem dc_M_byteOf_0 : decode b_M_byteOf 0 = .ok (.aload_n 0, 1) := dk_row (s := 0) da_M_byteOf_0 0 (by decide +kernel)
theorem dc_M_byteOf_1 : decode b_M_byteOf 1 = .ok (.aload_n 0, 1) := dk_row (s := 0) da_M_byteOf_0 1 (by decide +kernel)
theorem dc_M_byteOf_2 : decode b_M_byteOf 2 = .ok (.iload_n 1, 1) := dk_row (s := 0) da_M_byteOf_0 2 (by decide +kernel)
theorem dc_M_byteOf_3 : decode b_M_byteOf 3 = .ok (.invokevirtual 96, 3) := dk_row (s := 0) da_M_byteOf_0 3 (by decide +kernel)
theorem dc_M_byteOf_6 : decode b_M_byteOf 6 = .ok (.ifCond .ne 7, 3) := dk_row (s := 0) da_M_byteOf_0 6 (by decide +kernel)
theorem dc_M_byteOf_13 : decode b_M_byteOf 13 = .ok (.iload_n 2, 1) := dk_row (s := 0) da_M_byteOf_0 13 (by decide +kernel)
theorem dc_M_byteOf_14 : decode b_M_byteOf 14 = .ok (.iconst 0, 1) := dk_row (s := 0) da_M_byteOf_0 14 (by decide +kernel)
theorem dc_M_byteOf_15 : decode b_M_byteOf 15 = .ok (.sipush 255, 3) := dk_row (s := 0) da_M_byteOf_0 15 (by decide +kernel)
theorem dc_M_byteOf_18 : decode b_M_byteOf 18 = .ok (.invokestatic 84, 3) := dk_row (s := 0) da_M_byteOf_0 18 (by decide +kernel)
theorem dc_M_byteOf_21 : decode b_M_byteOf 21 = .ok (.ifCond .ne 7, 3) := dk_row (s := 0) da_M_byteOf_0 21 (by decide +kernel)
theorem dc_M_byteOf_28 : decode b_M_byteOf 28 = .ok (.aload_n 0, 1) := dk_row (s := 0) da_M_byteOf_0 28 (by decide +kernel)
theorem dc_M_byteOf_29 : decode b_M_byteOf 29 = .ok (.getfield 37, 3) := dk_row (s := 0) da_M_byteOf_0 29 (by decide +kernel)
def dw_M_byteOf_32 : ByteArray := .mk #[0x2a, 0x1b, 0xb6, 0x00, 0x5c, 0x2e, 0x10, 0x0c, 0xa0, 0x00, 0x07, 0x06, 0xa7, 0x00, 0x04, 0x03]
theorem da_M_byteOf_32 : dkA b_M_byteOf dw_M_byteOf_32 32 := by unfold dkA; decide +kernel
theorem dc_M_byteOf_32 : decode b_M_byteOf 32 = .ok (.aload_n 0, 1) := dk_row (s := 32) da_M_byteOf_32 0 (by decide +kernel)
theorem dc_M_byteOf_33 : decode b_M_byteOf 33 = .ok (.iload_n 1, 1) := dk_row (s := 32) da_M_byteOf_32 1 (by decide +kernel)
theorem dc_M_byteOf_34 : decode b_M_byteOf 34 = .ok (.invokevirtual 92, 3) := dk_row (s := 32) da_M_byteOf_32 2 (by decide +kernel)
theorem dc_M_byteOf_37 : decode b_M_byteOf 37 = .ok (.iaload, 1) := dk_row (s := 32) da_M_byteOf_32 5 (by decide +kernel)
theorem dc_M_byteOf_38 : decode b_M_byteOf 38 = .ok (.bipush 12, 2) := dk_row (s := 32) da_M_byteOf_32 6 (by decide +kernel)
theorem dc_M_byteOf_40 : decode b_M_byteOf 40 = .ok (.if_icmp .ne 7, 3) := dk_row (s := 32) da_M_byteOf_32 8 (by decide +kernel)
theorem dc_M_byteOf_47 : decode b_M_byteOf 47 = .ok (.iconst 0, 1) := dk_row (s := 32) da_M_byteOf_32 15 (by decide +kernel)
theorem dc_M_byteOf_43 : decode b_M_byteOf 43 = .ok (.iconst 3, 1) := by decide +kernel
theorem dc_M_byteOf_44 : decode b_M_byteOf 44 = .ok (.goto 4, 3) := by decide +kernel
theorem dc_M_byteOf_24 : decode b_M_byteOf 24 = .ok (.iconst 2, 1) := by decide +kernel
theorem dc_M_byteOf_25 : decode b_M_byteOf 25 = .ok (.goto 23, 3) := by decide +kernel
theorem dc_M_byteOf_9 : decode b_M_byteOf 9 = .ok (.iconst 1, 1) := by decide +kernel
theorem dc_M_byteOf_10 : decode b_M_byteOf 10 = .ok (.goto 38, 3) := by decide +kernel
def dw_M_byteOf_48 : ByteArray := .mk #[0xb5, 0x00, 0x44, 0x2a, 0xb4, 0x00, 0x44, 0x9e, 0x00, 0x05, 0x03, 0xac, 0x2a, 0x1b, 0xb6, 0x00, 0x5c, 0x3e, 0x2a, 0xb4, 0x00, 0x28, 0x10, 0x0c, 0x1d, 0x68, 0x2a, 0xb4, 0x00, 0x25, 0x1d, 0x2e]
theorem da_M_byteOf_48 : dkA b_M_byteOf dw_M_byteOf_48 48 := by unfold dkA; decide +kernel
theorem dc_M_byteOf_48 : decode b_M_byteOf 48 = .ok (.putfield 68, 3) := dk_row (s := 48) da_M_byteOf_48 0 (by decide +kernel)
theorem dc_M_byteOf_51 : decode b_M_byteOf 51 = .ok (.aload_n 0, 1) := dk_row (s := 48) da_M_byteOf_48 3 (by decide +kernel)
theorem dc_M_byteOf_52 : decode b_M_byteOf 52 = .ok (.getfield 68, 3) := dk_row (s := 48) da_M_byteOf_48 4 (by decide +kernel)
theorem dc_M_byteOf_55 : decode b_M_byteOf 55 = .ok (.ifCond .le 5, 3) := dk_row (s := 48) da_M_byteOf_48 7 (by decide +kernel)
theorem dc_M_byteOf_60 : decode b_M_byteOf 60 = .ok (.aload_n 0, 1) := dk_row (s := 48) da_M_byteOf_48 12 (by decide +kernel)
theorem dc_M_byteOf_61 : decode b_M_byteOf 61 = .ok (.iload_n 1, 1) := dk_row (s := 48) da_M_byteOf_48 13 (by decide +kernel)
theorem dc_M_byteOf_62 : decode b_M_byteOf 62 = .ok (.invokevirtual 92, 3) := dk_row (s := 48) da_M_byteOf_48 14 (by decide +kernel)
theorem dc_M_byteOf_65 : decode b_M_byteOf 65 = .ok (.istore_n 3, 1) := dk_row (s := 48) da_M_byteOf_48 17 (by decide +kernel)
theorem dc_M_byteOf_66 : decode b_M_byteOf 66 = .ok (.aload_n 0, 1) := dk_row (s := 48) da_M_byteOf_48 18 (by decide +kernel)
theorem dc_M_byteOf_67 : decode b_M_byteOf 67 = .ok (.getfield 40, 3) := dk_row (s := 48) da_M_byteOf_48 19 (by decide +kernel)
theorem dc_M_byteOf_70 : decode b_M_byteOf 70 = .ok (.bipush 12, 2) := dk_row (s := 48) da_M_byteOf_48 22 (by decide +kernel)
theorem dc_M_byteOf_72 : decode b_M_byteOf 72 = .ok (.iload_n 3, 1) := dk_row (s := 48) da_M_byteOf_48 24 (by decide +kernel)
theorem dc_M_byteOf_73 : decode b_M_byteOf 73 = .ok (.imul, 1) := dk_row (s := 48) da_M_byteOf_48 25 (by decide +kernel)
theorem dc_M_byteOf_74 : decode b_M_byteOf 74 = .ok (.aload_n 0, 1) := dk_row (s := 48) da_M_byteOf_48 26 (by decide +kernel)
theorem dc_M_byteOf_75 : decode b_M_byteOf 75 = .ok (.getfield 37, 3) := dk_row (s := 48) da_M_byteOf_48 27 (by decide +kernel)
theorem dc_M_byteOf_78 : decode b_M_byteOf 78 = .ok (.iload_n 3, 1) := dk_row (s := 48) da_M_byteOf_48 30 (by decide +kernel)
theorem dc_M_byteOf_79 : decode b_M_byteOf 79 = .ok (.iaload, 1) := dk_row (s := 48) da_M_byteOf_48 31 (by decide +kernel)
def dw_M_byteOf_80 : ByteArray := .mk #[0x60, 0x1c, 0x4f, 0x2a, 0xb4, 0x00, 0x25, 0x1d, 0x5c, 0x2e, 0x04, 0x60, 0x4f, 0x2a, 0xb4, 0x00, 0x25, 0x1d, 0x2e, 0xac]
theorem da_M_byteOf_80 : dkA b_M_byteOf dw_M_byteOf_80 80 := by unfold dkA; decide +kernel
theorem dc_M_byteOf_80 : decode b_M_byteOf 80 = .ok (.iadd, 1) := dk_row (s := 80) da_M_byteOf_80 0 (by decide +kernel)
theorem dc_M_byteOf_81 : decode b_M_byteOf 81 = .ok (.iload_n 2, 1) := dk_row (s := 80) da_M_byteOf_80 1 (by decide +kernel)
theorem dc_M_byteOf_82 : decode b_M_byteOf 82 = .ok (.iastore, 1) := dk_row (s := 80) da_M_byteOf_80 2 (by decide +kernel)
theorem dc_M_byteOf_83 : decode b_M_byteOf 83 = .ok (.aload_n 0, 1) := dk_row (s := 80) da_M_byteOf_80 3 (by decide +kernel)
theorem dc_M_byteOf_84 : decode b_M_byteOf 84 = .ok (.getfield 37, 3) := dk_row (s := 80) da_M_byteOf_80 4 (by decide +kernel)
theorem dc_M_byteOf_87 : decode b_M_byteOf 87 = .ok (.iload_n 3, 1) := dk_row (s := 80) da_M_byteOf_80 7 (by decide +kernel)
theorem dc_M_byteOf_88 : decode b_M_byteOf 88 = .ok (.dup2, 1) := dk_row (s := 80) da_M_byteOf_80 8 (by decide +kernel)
theorem dc_M_byteOf_89 : decode b_M_byteOf 89 = .ok (.iaload, 1) := dk_row (s := 80) da_M_byteOf_80 9 (by decide +kernel)
theorem dc_M_byteOf_90 : decode b_M_byteOf 90 = .ok (.iconst 1, 1) := dk_row (s := 80) da_M_byteOf_80 10 (by decide +kernel)
theorem dc_M_byteOf_91 : decode b_M_byteOf 91 = .ok (.iadd, 1) := dk_row (s := 80) da_M_byteOf_80 11 (by decide +kernel)
theorem dc_M_byteOf_92 : decode b_M_byteOf 92 = .ok (.iastore, 1) := dk_row (s := 80) da_M_byteOf_80 12 (by decide +kernel)
theorem dc_M_byteOf_93 : decode b_M_byteOf 93 = .ok (.aload_n 0, 1) := dk_row (s := 80) da_M_byteOf_80 13 (by decide +kernel)
theorem dc_M_byteOf_94 : decode b_M_byteOf 94 = .ok (.getfield 37, 3) := dk_row (s := 80) da_M_byteOf_80 14 (by decide +kernel)
theorem dc_M_byteOf_97 : decode b_M_byteOf 97 = .ok (.iload_n 3, 1) := dk_row (s := 80) da_M_byteOf_80 17 (by decide +kernel)
theorem dc_M_byteOf_98 : decode b_M_byteOf 98 = .ok (.iaload, 1) := dk_row (s := 80) da_M_byteOf_80 18 (by decide +kernel)
theorem dc_M_byteOf_99 : decode b_M_byteOf 99 = .ok (.ireturn, 1) := dk_row (s := 80) da_M_byteOf_80 19 (by decide +kernel)
theorem dc_M_byteOf_58 : decode b_M_byteOf 58 = .ok (.iconst 0, 1) := by decide +kernel
theorem dc_M_byteOf_59 : decode b_M_byteOf 59 = .ok (.ireturn, 1) := by decide +kernel
def dw_M_note_0 : ByteArray := .mk #[0x2a, 0x2a, 0x1b, 0x1c, 0xb6, 0x00, 0x64, 0x9a, 0x00, 0x07, 0x04, 0xa7, 0x00, 0x25, 0x1d, 0x03, 0x11, 0x00, 0xff, 0xb8, 0x00, 0x54, 0x9a, 0x00, 0x07, 0x05, 0xa7, 0x00, 0x16, 0x2a]
theorem da_M_note_0 : dkA b_M_note dw_M_note_0 0 := by unfold dkA; decide +kernel
theorem dc_M_note_0 : decode b_M_note 0 = .ok (.aload_n 0, 1) := dk_row (s := 0) da_M_note_0 0 (by decide +kernel)
theorem dc_M_note_1 : decode b_M_note 1 = .ok (.aload_n 0, 1) := dk_row (s := 0) da_M_note_0 1 (by decide +kernel)
theorem dc_M_note_2 : decode b_M_note 2 = .ok (.iload_n 1, 1) := dk_row (s := 0) da_M_note_0 2 (by decide +kernel)
theorem dc_M_note_3 : decode b_M_note 3 = .ok (.iload_n 2, 1) := dk_row (s := 0) da_M_note_0 3 (by decide +kernel)
theorem dc_M_note_4 : decode b_M_note 4 = .ok (.invokevirtual 100, 3) := dk_row (s := 0) da_M_note_0 4 (by decide +kernel)
theorem dc_M_note_7 : decode b_M_note 7 = .ok (.ifCond .ne 7, 3) := dk_row (s := 0) da_M_note_0 7 (by decide +kernel)
theorem dc_M_note_14 : decode b_M_note 14 = .ok (.iload_n 3, 1) := dk_row (s := 0) da_M_note_0 14 (by decide +kernel)
theorem dc_M_note_15 : decode b_M_note 15 = .ok (.iconst 0, 1) := dk_row (s := 0) da_M_note_0 15 (by decide +kernel)
theorem dc_M_note_16 : decode b_M_note 16 = .ok (.sipush 255, 3) := dk_row (s := 0) da_M_note_0 16 (by decide +kernel)
theorem dc_M_note_19 : decode b_M_note 19 = .ok (.invokestatic 84, 3) := dk_row (s := 0) da_M_note_0 19 (by decide +kernel)
theorem dc_M_note_22 : decode b_M_note 22 = .ok (.ifCond .ne 7, 3) := dk_row (s := 0) da_M_note_0 22 (by decide +kernel)
theorem dc_M_note_29 : decode b_M_note 29 = .ok (.aload_n 0, 1) := dk_row (s := 0) da_M_note_0 29 (by decide +kernel)
def dw_M_note_30 : ByteArray := .mk #[0xb4, 0x00, 0x13, 0x2a, 0xb4, 0x00, 0x47, 0x2e, 0x10, 0x14, 0xa0, 0x00, 0x07, 0x06, 0xa7, 0x00, 0x04, 0x03]
theorem da_M_note_30 : dkA b_M_note dw_M_note_30 30 := by unfold dkA; decide +kernel
theorem dc_M_note_30 : decode b_M_note 30 = .ok (.getfield 19, 3) := dk_row (s := 30) da_M_note_30 0 (by decide +kernel)
theorem dc_M_note_33 : decode b_M_note 33 = .ok (.aload_n 0, 1) := dk_row (s := 30) da_M_note_30 3 (by decide +kernel)
theorem dc_M_note_34 : decode b_M_note 34 = .ok (.getfield 71, 3) := dk_row (s := 30) da_M_note_30 4 (by decide +kernel)
theorem dc_M_note_37 : decode b_M_note 37 = .ok (.iaload, 1) := dk_row (s := 30) da_M_note_30 7 (by decide +kernel)
theorem dc_M_note_38 : decode b_M_note 38 = .ok (.bipush 20, 2) := dk_row (s := 30) da_M_note_30 8 (by decide +kernel)
theorem dc_M_note_40 : decode b_M_note 40 = .ok (.if_icmp .ne 7, 3) := dk_row (s := 30) da_M_note_30 10 (by decide +kernel)
theorem dc_M_note_47 : decode b_M_note 47 = .ok (.iconst 0, 1) := dk_row (s := 30) da_M_note_30 17 (by decide +kernel)
theorem dc_M_note_43 : decode b_M_note 43 = .ok (.iconst 3, 1) := by decide +kernel
theorem dc_M_note_44 : decode b_M_note 44 = .ok (.goto 4, 3) := by decide +kernel
theorem dc_M_note_25 : decode b_M_note 25 = .ok (.iconst 2, 1) := by decide +kernel
theorem dc_M_note_26 : decode b_M_note 26 = .ok (.goto 22, 3) := by decide +kernel
theorem dc_M_note_10 : decode b_M_note 10 = .ok (.iconst 1, 1) := by decide +kernel
theorem dc_M_note_11 : decode b_M_note 11 = .ok (.goto 37, 3) := by decide +kernel
def dw_M_note_48 : ByteArray := .mk #[0xb5, 0x00, 0x44, 0x2a, 0xb4, 0x00, 0x44, 0x9e, 0x00, 0x05, 0x03, 0xac, 0x10, 0x14, 0x2a, 0xb4, 0x00, 0x47, 0x68, 0x2a, 0xb4, 0x00, 0x13, 0x2a, 0xb4, 0x00, 0x47, 0x2e, 0x60, 0x36, 0x04, 0x2a]
theorem da_M_note_48 : dkA b_M_note dw_M_note_48 48 := by unfold dkA; decide +kernel
theorem dc_M_note_48 : decode b_M_note 48 = .ok (.putfield 68, 3) := dk_row (s := 48) da_M_note_48 0 (by decide +kernel)
theorem dc_M_note_51 : decode b_M_note 51 = .ok (.aload_n 0, 1) := dk_row (s := 48) da_M_note_48 3 (by decide +kernel)
theorem dc_M_note_52 : decode b_M_note 52 = .ok (.getfield 68, 3) := dk_row (s := 48) da_M_note_48 4 (by decide +kernel)
theorem dc_M_note_55 : decode b_M_note 55 = .ok (.ifCond .le 5, 3) := dk_row (s := 48) da_M_note_48 7 (by decide +kernel)
theorem dc_M_note_60 : decode b_M_note 60 = .ok (.bipush 20, 2) := dk_row (s := 48) da_M_note_48 12 (by decide +kernel)
theorem dc_M_note_62 : decode b_M_note 62 = .ok (.aload_n 0, 1) := dk_row (s := 48) da_M_note_48 14 (by decide +kernel)
theorem dc_M_note_63 : decode b_M_note 63 = .ok (.getfield 71, 3) := dk_row (s := 48) da_M_note_48 15 (by decide +kernel)
theorem dc_M_note_66 : decode b_M_note 66 = .ok (.imul, 1) := dk_row (s := 48) da_M_note_48 18 (by decide +kernel)
theorem dc_M_note_67 : decode b_M_note 67 = .ok (.aload_n 0, 1) := dk_row (s := 48) da_M_note_48 19 (by decide +kernel)
theorem dc_M_note_68 : decode b_M_note 68 = .ok (.getfield 19, 3) := dk_row (s := 48) da_M_note_48 20 (by decide +kernel)
theorem dc_M_note_71 : decode b_M_note 71 = .ok (.aload_n 0, 1) := dk_row (s := 48) da_M_note_48 23 (by decide +kernel)
theorem dc_M_note_72 : decode b_M_note 72 = .ok (.getfield 71, 3) := dk_row (s := 48) da_M_note_48 24 (by decide +kernel)
theorem dc_M_note_75 : decode b_M_note 75 = .ok (.iaload, 1) := dk_row (s := 48) da_M_note_48 27 (by decide +kernel)
theorem dc_M_note_76 : decode b_M_note 76 = .ok (.iadd, 1) := dk_row (s := 48) da_M_note_48 28 (by decide +kernel)
theorem dc_M_note_77 : decode b_M_note 77 = .ok (.istore 4, 2) := dk_row (s := 48) da_M_note_48 29 (by decide +kernel)
theorem dc_M_note_79 : decode b_M_note 79 = .ok (.aload_n 0, 1) := dk_row (s := 48) da_M_note_48 31 (by decide +kernel)
def dw_M_note_80 : ByteArray := .mk #[0xb4, 0x00, 0x2b, 0x15, 0x04, 0x1b, 0x4f, 0x2a, 0xb4, 0x00, 0x2e, 0x15, 0x04, 0x1c, 0x4f, 0x2a, 0xb4, 0x00, 0x31, 0x15, 0x04, 0x1d, 0x4f, 0x2a, 0xb4, 0x00, 0x13, 0x2a, 0xb4, 0x00, 0x47, 0x5c]
theorem da_M_note_80 : dkA b_M_note dw_M_note_80 80 := by unfold dkA; decide +kernel
theorem dc_M_note_80 : decode b_M_note 80 = .ok (.getfield 43, 3) := dk_row (s := 80) da_M_note_80 0 (by decide +kernel)
theorem dc_M_note_83 : decode b_M_note 83 = .ok (.iload 4, 2) := dk_row (s := 80) da_M_note_80 3 (by decide +kernel)
theorem dc_M_note_85 : decode b_M_note 85 = .ok (.iload_n 1, 1) := dk_row (s := 80) da_M_note_80 5 (by decide +kernel)
theorem dc_M_note_86 : decode b_M_note 86 = .ok (.iastore, 1) := dk_row (s := 80) da_M_note_80 6 (by decide +kernel)
theorem dc_M_note_87 : decode b_M_note 87 = .ok (.aload_n 0, 1) := dk_row (s := 80) da_M_note_80 7 (by decide +kernel)
theorem dc_M_note_88 : decode b_M_note 88 = .ok (.getfield 46, 3) := dk_row (s := 80) da_M_note_80 8 (by decide +kernel)
theorem dc_M_note_91 : decode b_M_note 91 = .ok (.iload 4, 2) := dk_row (s := 80) da_M_note_80 11 (by decide +kernel)
theorem dc_M_note_93 : decode b_M_note 93 = .ok (.iload_n 2, 1) := dk_row (s := 80) da_M_note_80 13 (by decide +kernel)
theorem dc_M_note_94 : decode b_M_note 94 = .ok (.iastore, 1) := dk_row (s := 80) da_M_note_80 14 (by decide +kernel)
theorem dc_M_note_95 : decode b_M_note 95 = .ok (.aload_n 0, 1) := dk_row (s := 80) da_M_note_80 15 (by decide +kernel)
theorem dc_M_note_96 : decode b_M_note 96 = .ok (.getfield 49, 3) := dk_row (s := 80) da_M_note_80 16 (by decide +kernel)
theorem dc_M_note_99 : decode b_M_note 99 = .ok (.iload 4, 2) := dk_row (s := 80) da_M_note_80 19 (by decide +kernel)
theorem dc_M_note_101 : decode b_M_note 101 = .ok (.iload_n 3, 1) := dk_row (s := 80) da_M_note_80 21 (by decide +kernel)
theorem dc_M_note_102 : decode b_M_note 102 = .ok (.iastore, 1) := dk_row (s := 80) da_M_note_80 22 (by decide +kernel)
theorem dc_M_note_103 : decode b_M_note 103 = .ok (.aload_n 0, 1) := dk_row (s := 80) da_M_note_80 23 (by decide +kernel)
theorem dc_M_note_104 : decode b_M_note 104 = .ok (.getfield 19, 3) := dk_row (s := 80) da_M_note_80 24 (by decide +kernel)
theorem dc_M_note_107 : decode b_M_note 107 = .ok (.aload_n 0, 1) := dk_row (s := 80) da_M_note_80 27 (by decide +kernel)
theorem dc_M_note_108 : decode b_M_note 108 = .ok (.getfield 71, 3) := dk_row (s := 80) da_M_note_80 28 (by decide +kernel)
theorem dc_M_note_111 : decode b_M_note 111 = .ok (.dup2, 1) := dk_row (s := 80) da_M_note_80 31 (by decide +kernel)
def dw_M_note_112 : ByteArray := .mk #[0x2e, 0x04, 0x60, 0x4f, 0x2a, 0xb4, 0x00, 0x13, 0x2a, 0xb4, 0x00, 0x47, 0x2e, 0xac]
theorem da_M_note_112 : dkA b_M_note dw_M_note_112 112 := by unfold dkA; decide +kernel
theorem dc_M_note_112 : decode b_M_note 112 = .ok (.iaload, 1) := dk_row (s := 112) da_M_note_112 0 (by decide +kernel)
theorem dc_M_note_113 : decode b_M_note 113 = .ok (.iconst 1, 1) := dk_row (s := 112) da_M_note_112 1 (by decide +kernel)
theorem dc_M_note_114 : decode b_M_note 114 = .ok (.iadd, 1) := dk_row (s := 112) da_M_note_112 2 (by decide +kernel)
theorem dc_M_note_115 : decode b_M_note 115 = .ok (.iastore, 1) := dk_row (s := 112) da_M_note_112 3 (by decide +kernel)
theorem dc_M_note_116 : decode b_M_note 116 = .ok (.aload_n 0, 1) := dk_row (s := 112) da_M_note_112 4 (by decide +kernel)
theorem dc_M_note_117 : decode b_M_note 117 = .ok (.getfield 19, 3) := dk_row (s := 112) da_M_note_112 5 (by decide +kernel)
theorem dc_M_note_120 : decode b_M_note 120 = .ok (.aload_n 0, 1) := dk_row (s := 112) da_M_note_112 8 (by decide +kernel)
theorem dc_M_note_121 : decode b_M_note 121 = .ok (.getfield 71, 3) := dk_row (s := 112) da_M_note_112 9 (by decide +kernel)
theorem dc_M_note_124 : decode b_M_note 124 = .ok (.iaload, 1) := dk_row (s := 112) da_M_note_112 12 (by decide +kernel)
theorem dc_M_note_125 : decode b_M_note 125 = .ok (.ireturn, 1) := dk_row (s := 112) da_M_note_112 13 (by decide +kernel)
theorem dc_M_note_58 : decode b_M_note 58 = .ok (.iconst 0, 1) := by decide +kernel
theorem dc_M_note_59 : decode b_M_note 59 = .ok (.ireturn, 1) := by decide +kernel
def dw_M_nearest_0 : ByteArray := .mk #[0x1b, 0x99, 0x00, 0x0f, 0x2a, 0xb4, 0x00, 0x07, 0x2a, 0xb4, 0x00, 0x47, 0x2e, 0xa7, 0x00, 0x0c, 0x2a, 0xb4, 0x00, 0x0d, 0x2a, 0xb4, 0x00, 0x47, 0x2e]
theorem da_M_nearest_0 : dkA b_M_nearest dw_M_nearest_0 0 := by unfold dkA; decide +kernel
theorem dc_M_nearest_0 : decode b_M_nearest 0 = .ok (.iload_n 1, 1) := dk_row (s := 0) da_M_nearest_0 0 (by decide +kernel)
theorem dc_M_nearest_1 : decode b_M_nearest 1 = .ok (.ifCond .eq 15, 3) := dk_row (s := 0) da_M_nearest_0 1 (by decide +kernel)
theorem dc_M_nearest_16 : decode b_M_nearest 16 = .ok (.aload_n 0, 1) := dk_row (s := 0) da_M_nearest_0 16 (by decide +kernel)
theorem dc_M_nearest_17 : decode b_M_nearest 17 = .ok (.getfield 13, 3) := dk_row (s := 0) da_M_nearest_0 17 (by decide +kernel)
theorem dc_M_nearest_20 : decode b_M_nearest 20 = .ok (.aload_n 0, 1) := dk_row (s := 0) da_M_nearest_0 20 (by decide +kernel)
theorem dc_M_nearest_21 : decode b_M_nearest 21 = .ok (.getfield 71, 3) := dk_row (s := 0) da_M_nearest_0 21 (by decide +kernel)
theorem dc_M_nearest_24 : decode b_M_nearest 24 = .ok (.iaload, 1) := dk_row (s := 0) da_M_nearest_0 24 (by decide +kernel)
def dw_M_nearest_4 : ByteArray := .mk #[0x2a, 0xb4, 0x00, 0x07, 0x2a, 0xb4, 0x00, 0x47, 0x2e, 0xa7, 0x00, 0x0c, 0x2a, 0xb4, 0x00, 0x0d, 0x2a, 0xb4, 0x00, 0x47, 0x2e, 0x3e, 0x03, 0x36, 0x04, 0x03, 0x36, 0x05, 0x15, 0x05, 0x1d]
theorem da_M_nearest_4 : dkA b_M_nearest dw_M_nearest_4 4 := by unfold dkA; decide +kernel
theorem dc_M_nearest_4 : decode b_M_nearest 4 = .ok (.aload_n 0, 1) := dk_row (s := 4) da_M_nearest_4 0 (by decide +kernel)
theorem dc_M_nearest_5 : decode b_M_nearest 5 = .ok (.getfield 7, 3) := dk_row (s := 4) da_M_nearest_4 1 (by decide +kernel)
theorem dc_M_nearest_8 : decode b_M_nearest 8 = .ok (.aload_n 0, 1) := dk_row (s := 4) da_M_nearest_4 4 (by decide +kernel)
theorem dc_M_nearest_9 : decode b_M_nearest 9 = .ok (.getfield 71, 3) := dk_row (s := 4) da_M_nearest_4 5 (by decide +kernel)
theorem dc_M_nearest_12 : decode b_M_nearest 12 = .ok (.iaload, 1) := dk_row (s := 4) da_M_nearest_4 8 (by decide +kernel)
theorem dc_M_nearest_13 : decode b_M_nearest 13 = .ok (.goto 12, 3) := dk_row (s := 4) da_M_nearest_4 9 (by decide +kernel)
theorem dc_M_nearest_25 : decode b_M_nearest 25 = .ok (.istore_n 3, 1) := dk_row (s := 4) da_M_nearest_4 21 (by decide +kernel)
theorem dc_M_nearest_26 : decode b_M_nearest 26 = .ok (.iconst 0, 1) := dk_row (s := 4) da_M_nearest_4 22 (by decide +kernel)
theorem dc_M_nearest_27 : decode b_M_nearest 27 = .ok (.istore 4, 2) := dk_row (s := 4) da_M_nearest_4 23 (by decide +kernel)
theorem dc_M_nearest_29 : decode b_M_nearest 29 = .ok (.iconst 0, 1) := dk_row (s := 4) da_M_nearest_4 25 (by decide +kernel)
theorem dc_M_nearest_30 : decode b_M_nearest 30 = .ok (.istore 5, 2) := dk_row (s := 4) da_M_nearest_4 26 (by decide +kernel)
theorem dc_M_nearest_32 : decode b_M_nearest 32 = .ok (.iload 5, 2) := dk_row (s := 4) da_M_nearest_4 28 (by decide +kernel)
theorem dc_M_nearest_34 : decode b_M_nearest 34 = .ok (.iload_n 3, 1) := dk_row (s := 4) da_M_nearest_4 30 (by decide +kernel)
theorem dc_M_nearest_35 : decode b_M_nearest 35 = .ok (.if_icmp .gt 73, 3) := by decide +kernel
theorem dc_M_nearest_108 : decode b_M_nearest 108 = .ok (.iload 4, 2) := by decide +kernel
theorem dc_M_nearest_110 : decode b_M_nearest 110 = .ok (.ireturn, 1) := by decide +kernel
def dw_M_nearest_38 : ByteArray := .mk #[0x15, 0x05, 0x1c, 0xa2, 0x00, 0x0a, 0x1c, 0x15, 0x05, 0x64, 0xa7, 0x00, 0x07, 0x15, 0x05, 0x1c, 0x64]
theorem da_M_nearest_38 : dkA b_M_nearest dw_M_nearest_38 38 := by unfold dkA; decide +kernel
theorem dc_M_nearest_38 : decode b_M_nearest 38 = .ok (.iload 5, 2) := dk_row (s := 38) da_M_nearest_38 0 (by decide +kernel)
theorem dc_M_nearest_40 : decode b_M_nearest 40 = .ok (.iload_n 2, 1) := dk_row (s := 38) da_M_nearest_38 2 (by decide +kernel)
theorem dc_M_nearest_41 : decode b_M_nearest 41 = .ok (.if_icmp .ge 10, 3) := dk_row (s := 38) da_M_nearest_38 3 (by decide +kernel)
theorem dc_M_nearest_51 : decode b_M_nearest 51 = .ok (.iload 5, 2) := dk_row (s := 38) da_M_nearest_38 13 (by decide +kernel)
theorem dc_M_nearest_53 : decode b_M_nearest 53 = .ok (.iload_n 2, 1) := dk_row (s := 38) da_M_nearest_38 15 (by decide +kernel)
theorem dc_M_nearest_54 : decode b_M_nearest 54 = .ok (.isub, 1) := dk_row (s := 38) da_M_nearest_38 16 (by decide +kernel)
def dw_M_nearest_44 : ByteArray := .mk #[0x1c, 0x15, 0x05, 0x64, 0xa7, 0x00, 0x07, 0x15, 0x05, 0x1c, 0x64, 0x36, 0x06, 0x15, 0x04, 0x1c, 0xa2, 0x00, 0x0a, 0x1c, 0x15, 0x04, 0x64, 0xa7, 0x00, 0x07, 0x15, 0x04, 0x1c, 0x64]
theorem da_M_nearest_44 : dkA b_M_nearest dw_M_nearest_44 44 := by unfold dkA; decide +kernel
theorem dc_M_nearest_44 : decode b_M_nearest 44 = .ok (.iload_n 2, 1) := dk_row (s := 44) da_M_nearest_44 0 (by decide +kernel)
theorem dc_M_nearest_45 : decode b_M_nearest 45 = .ok (.iload 5, 2) := dk_row (s := 44) da_M_nearest_44 1 (by decide +kernel)
theorem dc_M_nearest_47 : decode b_M_nearest 47 = .ok (.isub, 1) := dk_row (s := 44) da_M_nearest_44 3 (by decide +kernel)
theorem dc_M_nearest_48 : decode b_M_nearest 48 = .ok (.goto 7, 3) := dk_row (s := 44) da_M_nearest_44 4 (by decide +kernel)
theorem dc_M_nearest_55 : decode b_M_nearest 55 = .ok (.istore 6, 2) := dk_row (s := 44) da_M_nearest_44 11 (by decide +kernel)
theorem dc_M_nearest_57 : decode b_M_nearest 57 = .ok (.iload 4, 2) := dk_row (s := 44) da_M_nearest_44 13 (by decide +kernel)
theorem dc_M_nearest_59 : decode b_M_nearest 59 = .ok (.iload_n 2, 1) := dk_row (s := 44) da_M_nearest_44 15 (by decide +kernel)
theorem dc_M_nearest_60 : decode b_M_nearest 60 = .ok (.if_icmp .ge 10, 3) := dk_row (s := 44) da_M_nearest_44 16 (by decide +kernel)
theorem dc_M_nearest_70 : decode b_M_nearest 70 = .ok (.iload 4, 2) := dk_row (s := 44) da_M_nearest_44 26 (by decide +kernel)
theorem dc_M_nearest_72 : decode b_M_nearest 72 = .ok (.iload_n 2, 1) := dk_row (s := 44) da_M_nearest_44 28 (by decide +kernel)
theorem dc_M_nearest_73 : decode b_M_nearest 73 = .ok (.isub, 1) := dk_row (s := 44) da_M_nearest_44 29 (by decide +kernel)
def dw_M_nearest_63 : ByteArray := .mk #[0x1c, 0x15, 0x04, 0x64, 0xa7, 0x00, 0x07, 0x15, 0x04, 0x1c, 0x64, 0x36, 0x07, 0x2a, 0x1b, 0x15, 0x05, 0xb6, 0x00, 0x68, 0x99, 0x00, 0x0f, 0x15, 0x06, 0x15, 0x07, 0xa2, 0x00, 0x08, 0x15, 0x05]
theorem da_M_nearest_63 : dkA b_M_nearest dw_M_nearest_63 63 := by unfold dkA; decide +kernel
theorem dc_M_nearest_63 : decode b_M_nearest 63 = .ok (.iload_n 2, 1) := dk_row (s := 63) da_M_nearest_63 0 (by decide +kernel)
theorem dc_M_nearest_64 : decode b_M_nearest 64 = .ok (.iload 4, 2) := dk_row (s := 63) da_M_nearest_63 1 (by decide +kernel)
theorem dc_M_nearest_66 : decode b_M_nearest 66 = .ok (.isub, 1) := dk_row (s := 63) da_M_nearest_63 3 (by decide +kernel)
theorem dc_M_nearest_67 : decode b_M_nearest 67 = .ok (.goto 7, 3) := dk_row (s := 63) da_M_nearest_63 4 (by decide +kernel)
theorem dc_M_nearest_74 : decode b_M_nearest 74 = .ok (.istore 7, 2) := dk_row (s := 63) da_M_nearest_63 11 (by decide +kernel)
theorem dc_M_nearest_76 : decode b_M_nearest 76 = .ok (.aload_n 0, 1) := dk_row (s := 63) da_M_nearest_63 13 (by decide +kernel)
theorem dc_M_nearest_77 : decode b_M_nearest 77 = .ok (.iload_n 1, 1) := dk_row (s := 63) da_M_nearest_63 14 (by decide +kernel)
theorem dc_M_nearest_78 : decode b_M_nearest 78 = .ok (.iload 5, 2) := dk_row (s := 63) da_M_nearest_63 15 (by decide +kernel)
theorem dc_M_nearest_80 : decode b_M_nearest 80 = .ok (.invokevirtual 104, 3) := dk_row (s := 63) da_M_nearest_63 17 (by decide +kernel)
theorem dc_M_nearest_83 : decode b_M_nearest 83 = .ok (.ifCond .eq 15, 3) := dk_row (s := 63) da_M_nearest_63 20 (by decide +kernel)
theorem dc_M_nearest_86 : decode b_M_nearest 86 = .ok (.iload 6, 2) := dk_row (s := 63) da_M_nearest_63 23 (by decide +kernel)
theorem dc_M_nearest_88 : decode b_M_nearest 88 = .ok (.iload 7, 2) := dk_row (s := 63) da_M_nearest_63 25 (by decide +kernel)
theorem dc_M_nearest_90 : decode b_M_nearest 90 = .ok (.if_icmp .ge 8, 3) := dk_row (s := 63) da_M_nearest_63 27 (by decide +kernel)
theorem dc_M_nearest_93 : decode b_M_nearest 93 = .ok (.iload 5, 2) := dk_row (s := 63) da_M_nearest_63 30 (by decide +kernel)
def dw_M_nearest_95 : ByteArray := .mk #[0xa7, 0x00, 0x05, 0x15, 0x04, 0x36, 0x04, 0x84, 0x05, 0x01, 0xa7, 0xff, 0xb7]
theorem da_M_nearest_95 : dkA b_M_nearest dw_M_nearest_95 95 := by unfold dkA; decide +kernel
theorem dc_M_nearest_95 : decode b_M_nearest 95 = .ok (.goto 5, 3) := dk_row (s := 95) da_M_nearest_95 0 (by decide +kernel)
theorem dc_M_nearest_100 : decode b_M_nearest 100 = .ok (.istore 4, 2) := dk_row (s := 95) da_M_nearest_95 5 (by decide +kernel)
theorem dc_M_nearest_102 : decode b_M_nearest 102 = .ok (.iinc 5 1, 3) := dk_row (s := 95) da_M_nearest_95 7 (by decide +kernel)
theorem dc_M_nearest_105 : decode b_M_nearest 105 = .ok (.goto (-73), 3) := dk_row (s := 95) da_M_nearest_95 10 (by decide +kernel)
theorem dc_M_nearest_98 : decode b_M_nearest 98 = .ok (.iload 4, 2) := by decide +kernel
def dw_M_turn_0 : ByteArray := .mk #[0x2a, 0x1b, 0x03, 0x10, 0x07, 0xb8, 0x00, 0x54, 0x99, 0x00, 0x07, 0x03, 0xa7, 0x00, 0x04, 0x04]
theorem da_M_turn_0 : dkA b_M_turn dw_M_turn_0 0 := by unfold dkA; decide +kernel
theorem dc_M_turn_0 : decode b_M_turn 0 = .ok (.aload_n 0, 1) := dk_row (s := 0) da_M_turn_0 0 (by decide +kernel)
theorem dc_M_turn_1 : decode b_M_turn 1 = .ok (.iload_n 1, 1) := dk_row (s := 0) da_M_turn_0 1 (by decide +kernel)
theorem dc_M_turn_2 : decode b_M_turn 2 = .ok (.iconst 0, 1) := dk_row (s := 0) da_M_turn_0 2 (by decide +kernel)
theorem dc_M_turn_3 : decode b_M_turn 3 = .ok (.bipush 7, 2) := dk_row (s := 0) da_M_turn_0 3 (by decide +kernel)
theorem dc_M_turn_5 : decode b_M_turn 5 = .ok (.invokestatic 84, 3) := dk_row (s := 0) da_M_turn_0 5 (by decide +kernel)
theorem dc_M_turn_8 : decode b_M_turn 8 = .ok (.ifCond .eq 7, 3) := dk_row (s := 0) da_M_turn_0 8 (by decide +kernel)
theorem dc_M_turn_15 : decode b_M_turn 15 = .ok (.iconst 1, 1) := dk_row (s := 0) da_M_turn_0 15 (by decide +kernel)
def dw_M_turn_11 : ByteArray := .mk #[0x03, 0xa7, 0x00, 0x04, 0x04, 0xb5, 0x00, 0x44, 0x2a, 0xb4, 0x00, 0x44, 0x9e, 0x00, 0x05, 0x03, 0xac, 0x2a, 0xb4, 0x00, 0x07, 0x2a, 0xb4, 0x00, 0x47, 0x2e, 0x3d, 0x2a, 0xb4, 0x00, 0x0d, 0x2a]
theorem da_M_turn_11 : dkA b_M_turn dw_M_turn_11 11 := by unfold dkA; decide +kernel
theorem dc_M_turn_11 : decode b_M_turn 11 = .ok (.iconst 0, 1) := dk_row (s := 11) da_M_turn_11 0 (by decide +kernel)
theorem dc_M_turn_12 : decode b_M_turn 12 = .ok (.goto 4, 3) := dk_row (s := 11) da_M_turn_11 1 (by decide +kernel)
theorem dc_M_turn_16 : decode b_M_turn 16 = .ok (.putfield 68, 3) := dk_row (s := 11) da_M_turn_11 5 (by decide +kernel)
theorem dc_M_turn_19 : decode b_M_turn 19 = .ok (.aload_n 0, 1) := dk_row (s := 11) da_M_turn_11 8 (by decide +kernel)
theorem dc_M_turn_20 : decode b_M_turn 20 = .ok (.getfield 68, 3) := dk_row (s := 11) da_M_turn_11 9 (by decide +kernel)
theorem dc_M_turn_23 : decode b_M_turn 23 = .ok (.ifCond .le 5, 3) := dk_row (s := 11) da_M_turn_11 12 (by decide +kernel)
theorem dc_M_turn_28 : decode b_M_turn 28 = .ok (.aload_n 0, 1) := dk_row (s := 11) da_M_turn_11 17 (by decide +kernel)
theorem dc_M_turn_29 : decode b_M_turn 29 = .ok (.getfield 7, 3) := dk_row (s := 11) da_M_turn_11 18 (by decide +kernel)
theorem dc_M_turn_32 : decode b_M_turn 32 = .ok (.aload_n 0, 1) := dk_row (s := 11) da_M_turn_11 21 (by decide +kernel)
theorem dc_M_turn_33 : decode b_M_turn 33 = .ok (.getfield 71, 3) := dk_row (s := 11) da_M_turn_11 22 (by decide +kernel)
theorem dc_M_turn_36 : decode b_M_turn 36 = .ok (.iaload, 1) := dk_row (s := 11) da_M_turn_11 25 (by decide +kernel)
theorem dc_M_turn_37 : decode b_M_turn 37 = .ok (.istore_n 2, 1) := dk_row (s := 11) da_M_turn_11 26 (by decide +kernel)
theorem dc_M_turn_38 : decode b_M_turn 38 = .ok (.aload_n 0, 1) := dk_row (s := 11) da_M_turn_11 27 (by decide +kernel)
theorem dc_M_turn_39 : decode b_M_turn 39 = .ok (.getfield 13, 3) := dk_row (s := 11) da_M_turn_11 28 (by decide +kernel)
theorem dc_M_turn_42 : decode b_M_turn 42 = .ok (.aload_n 0, 1) := dk_row (s := 11) da_M_turn_11 31 (by decide +kernel)
def dw_M_turn_43 : ByteArray := .mk #[0xb4, 0x00, 0x47, 0x2e, 0x3e, 0x03, 0x36, 0x04]
theorem da_M_turn_43 : dkA b_M_turn dw_M_turn_43 43 := by unfold dkA; decide +kernel
theorem dc_M_turn_43 : decode b_M_turn 43 = .ok (.getfield 71, 3) := dk_row (s := 43) da_M_turn_43 0 (by decide +kernel)
theorem dc_M_turn_46 : decode b_M_turn 46 = .ok (.iaload, 1) := dk_row (s := 43) da_M_turn_43 3 (by decide +kernel)
theorem dc_M_turn_47 : decode b_M_turn 47 = .ok (.istore_n 3, 1) := dk_row (s := 43) da_M_turn_43 4 (by decide +kernel)
theorem dc_M_turn_48 : decode b_M_turn 48 = .ok (.iconst 0, 1) := dk_row (s := 43) da_M_turn_43 5 (by decide +kernel)
theorem dc_M_turn_49 : decode b_M_turn 49 = .ok (.istore 4, 2) := dk_row (s := 43) da_M_turn_43 6 (by decide +kernel)
def dw_M_turn_26 : ByteArray := .mk #[0x03, 0xac, 0x2a, 0xb4, 0x00, 0x07, 0x2a, 0xb4, 0x00, 0x47, 0x2e, 0x3d, 0x2a, 0xb4, 0x00, 0x0d, 0x2a, 0xb4, 0x00, 0x47, 0x2e, 0x3e, 0x03, 0x36, 0x04, 0x15, 0x04, 0x2a, 0xb4, 0x00, 0x10, 0x2a]
theorem da_M_turn_26 : dkA b_M_turn dw_M_turn_26 26 := by unfold dkA; decide +kernel
theorem dc_M_turn_26 : decode b_M_turn 26 = .ok (.iconst 0, 1) := dk_row (s := 26) da_M_turn_26 0 (by decide +kernel)
theorem dc_M_turn_27 : decode b_M_turn 27 = .ok (.ireturn, 1) := dk_row (s := 26) da_M_turn_26 1 (by decide +kernel)
theorem dc_M_turn_51 : decode b_M_turn 51 = .ok (.iload 4, 2) := dk_row (s := 26) da_M_turn_26 25 (by decide +kernel)
theorem dc_M_turn_53 : decode b_M_turn 53 = .ok (.aload_n 0, 1) := dk_row (s := 26) da_M_turn_26 27 (by decide +kernel)
theorem dc_M_turn_54 : decode b_M_turn 54 = .ok (.getfield 16, 3) := dk_row (s := 26) da_M_turn_26 28 (by decide +kernel)
theorem dc_M_turn_57 : decode b_M_turn 57 = .ok (.aload_n 0, 1) := dk_row (s := 26) da_M_turn_26 31 (by decide +kernel)
theorem dc_M_turn_58 : decode b_M_turn 58 = .ok (.getfield 71, 3) := by decide +kernel
theorem dc_M_turn_61 : decode b_M_turn 61 = .ok (.iaload, 1) := by decide +kernel
theorem dc_M_turn_62 : decode b_M_turn 62 = .ok (.if_icmp .ge 234, 3) := by decide +kernel
def dw_M_turn_296 : ByteArray := .mk #[0x10, 0x14, 0x2a, 0xb4, 0x00, 0x47, 0x68, 0x36, 0x04]
theorem da_M_turn_296 : dkA b_M_turn dw_M_turn_296 296 := by unfold dkA; decide +kernel
theorem dc_M_turn_296 : decode b_M_turn 296 = .ok (.bipush 20, 2) := dk_row (s := 296) da_M_turn_296 0 (by decide +kernel)
theorem dc_M_turn_298 : decode b_M_turn 298 = .ok (.aload_n 0, 1) := dk_row (s := 296) da_M_turn_296 2 (by decide +kernel)
theorem dc_M_turn_299 : decode b_M_turn 299 = .ok (.getfield 71, 3) := dk_row (s := 296) da_M_turn_296 3 (by decide +kernel)
theorem dc_M_turn_302 : decode b_M_turn 302 = .ok (.imul, 1) := dk_row (s := 296) da_M_turn_296 6 (by decide +kernel)
theorem dc_M_turn_303 : decode b_M_turn 303 = .ok (.istore 4, 2) := dk_row (s := 296) da_M_turn_296 7 (by decide +kernel)
def dw_M_turn_65 : ByteArray := .mk #[0x2a, 0x15, 0x04, 0xb6, 0x00, 0x5c, 0x36, 0x05, 0x1b, 0x2a, 0xb4, 0x00, 0x16, 0x15, 0x05, 0x2e, 0x2a, 0xb4, 0x00, 0x19, 0x15, 0x05, 0x2e, 0x1c, 0x1d, 0xb8, 0x00, 0x77, 0x36, 0x06, 0x1b, 0x2a]
theorem da_M_turn_65 : dkA b_M_turn dw_M_turn_65 65 := by unfold dkA; decide +kernel
theorem dc_M_turn_65 : decode b_M_turn 65 = .ok (.aload_n 0, 1) := dk_row (s := 65) da_M_turn_65 0 (by decide +kernel)
theorem dc_M_turn_66 : decode b_M_turn 66 = .ok (.iload 4, 2) := dk_row (s := 65) da_M_turn_65 1 (by decide +kernel)
theorem dc_M_turn_68 : decode b_M_turn 68 = .ok (.invokevirtual 92, 3) := dk_row (s := 65) da_M_turn_65 3 (by decide +kernel)
theorem dc_M_turn_71 : decode b_M_turn 71 = .ok (.istore 5, 2) := dk_row (s := 65) da_M_turn_65 6 (by decide +kernel)
theorem dc_M_turn_73 : decode b_M_turn 73 = .ok (.iload_n 1, 1) := dk_row (s := 65) da_M_turn_65 8 (by decide +kernel)
theorem dc_M_turn_74 : decode b_M_turn 74 = .ok (.aload_n 0, 1) := dk_row (s := 65) da_M_turn_65 9 (by decide +kernel)
theorem dc_M_turn_75 : decode b_M_turn 75 = .ok (.getfield 22, 3) := dk_row (s := 65) da_M_turn_65 10 (by decide +kernel)
theorem dc_M_turn_78 : decode b_M_turn 78 = .ok (.iload 5, 2) := dk_row (s := 65) da_M_turn_65 13 (by decide +kernel)
theorem dc_M_turn_80 : decode b_M_turn 80 = .ok (.iaload, 1) := dk_row (s := 65) da_M_turn_65 15 (by decide +kernel)
theorem dc_M_turn_81 : decode b_M_turn 81 = .ok (.aload_n 0, 1) := dk_row (s := 65) da_M_turn_65 16 (by decide +kernel)
theorem dc_M_turn_82 : decode b_M_turn 82 = .ok (.getfield 25, 3) := dk_row (s := 65) da_M_turn_65 17 (by decide +kernel)
theorem dc_M_turn_85 : decode b_M_turn 85 = .ok (.iload 5, 2) := dk_row (s := 65) da_M_turn_65 20 (by decide +kernel)
theorem dc_M_turn_87 : decode b_M_turn 87 = .ok (.iaload, 1) := dk_row (s := 65) da_M_turn_65 22 (by decide +kernel)
theorem dc_M_turn_88 : decode b_M_turn 88 = .ok (.iload_n 2, 1) := dk_row (s := 65) da_M_turn_65 23 (by decide +kernel)
theorem dc_M_turn_89 : decode b_M_turn 89 = .ok (.iload_n 3, 1) := dk_row (s := 65) da_M_turn_65 24 (by decide +kernel)
theorem dc_M_turn_90 : decode b_M_turn 90 = .ok (.invokestatic 119, 3) := dk_row (s := 65) da_M_turn_65 25 (by decide +kernel)
theorem dc_M_turn_93 : decode b_M_turn 93 = .ok (.istore 6, 2) := dk_row (s := 65) da_M_turn_65 28 (by decide +kernel)
theorem dc_M_turn_95 : decode b_M_turn 95 = .ok (.iload_n 1, 1) := dk_row (s := 65) da_M_turn_65 30 (by decide +kernel)
theorem dc_M_turn_96 : decode b_M_turn 96 = .ok (.aload_n 0, 1) := dk_row (s := 65) da_M_turn_65 31 (by decide +kernel)
def dw_M_turn_97 : ByteArray := .mk #[0xb4, 0x00, 0x16, 0x15, 0x05, 0x2e, 0x2a, 0xb4, 0x00, 0x1c, 0x15, 0x05, 0x2e, 0x60, 0x04, 0x64, 0x2a, 0xb4, 0x00, 0x19, 0x15, 0x05, 0x2e, 0x2a, 0xb4, 0x00, 0x1f, 0x15, 0x05, 0x2e, 0x60, 0x04]
theorem da_M_turn_97 : dkA b_M_turn dw_M_turn_97 97 := by unfold dkA; decide +kernel
theorem dc_M_turn_97 : decode b_M_turn 97 = .ok (.getfield 22, 3) := dk_row (s := 97) da_M_turn_97 0 (by decide +kernel)
theorem dc_M_turn_100 : decode b_M_turn 100 = .ok (.iload 5, 2) := dk_row (s := 97) da_M_turn_97 3 (by decide +kernel)
theorem dc_M_turn_102 : decode b_M_turn 102 = .ok (.iaload, 1) := dk_row (s := 97) da_M_turn_97 5 (by decide +kernel)
theorem dc_M_turn_103 : decode b_M_turn 103 = .ok (.aload_n 0, 1) := dk_row (s := 97) da_M_turn_97 6 (by decide +kernel)
theorem dc_M_turn_104 : decode b_M_turn 104 = .ok (.getfield 28, 3) := dk_row (s := 97) da_M_turn_97 7 (by decide +kernel)
theorem dc_M_turn_107 : decode b_M_turn 107 = .ok (.iload 5, 2) := dk_row (s := 97) da_M_turn_97 10 (by decide +kernel)
theorem dc_M_turn_109 : decode b_M_turn 109 = .ok (.iaload, 1) := dk_row (s := 97) da_M_turn_97 12 (by decide +kernel)
theorem dc_M_turn_110 : decode b_M_turn 110 = .ok (.iadd, 1) := dk_row (s := 97) da_M_turn_97 13 (by decide +kernel)
theorem dc_M_turn_111 : decode b_M_turn 111 = .ok (.iconst 1, 1) := dk_row (s := 97) da_M_turn_97 14 (by decide +kernel)
theorem dc_M_turn_112 : decode b_M_turn 112 = .ok (.isub, 1) := dk_row (s := 97) da_M_turn_97 15 (by decide +kernel)
theorem dc_M_turn_113 : decode b_M_turn 113 = .ok (.aload_n 0, 1) := dk_row (s := 97) da_M_turn_97 16 (by decide +kernel)
theorem dc_M_turn_114 : decode b_M_turn 114 = .ok (.getfield 25, 3) := dk_row (s := 97) da_M_turn_97 17 (by decide +kernel)
theorem dc_M_turn_117 : decode b_M_turn 117 = .ok (.iload 5, 2) := dk_row (s := 97) da_M_turn_97 20 (by decide +kernel)
theorem dc_M_turn_119 : decode b_M_turn 119 = .ok (.iaload, 1) := dk_row (s := 97) da_M_turn_97 22 (by decide +kernel)
theorem dc_M_turn_120 : decode b_M_turn 120 = .ok (.aload_n 0, 1) := dk_row (s := 97) da_M_turn_97 23 (by decide +kernel)
theorem dc_M_turn_121 : decode b_M_turn 121 = .ok (.getfield 31, 3) := dk_row (s := 97) da_M_turn_97 24 (by decide +kernel)
theorem dc_M_turn_124 : decode b_M_turn 124 = .ok (.iload 5, 2) := dk_row (s := 97) da_M_turn_97 27 (by decide +kernel)
theorem dc_M_turn_126 : decode b_M_turn 126 = .ok (.iaload, 1) := dk_row (s := 97) da_M_turn_97 29 (by decide +kernel)
theorem dc_M_turn_127 : decode b_M_turn 127 = .ok (.iadd, 1) := dk_row (s := 97) da_M_turn_97 30 (by decide +kernel)
theorem dc_M_turn_128 : decode b_M_turn 128 = .ok (.iconst 1, 1) := dk_row (s := 97) da_M_turn_97 31 (by decide +kernel)
def dw_M_turn_129 : ByteArray := .mk #[0x64, 0x1c, 0x1d, 0xb8, 0x00, 0x77, 0x36, 0x07, 0x2a, 0xb4, 0x00, 0x16, 0x15, 0x05, 0x15, 0x06, 0x11, 0x03, 0xe8, 0x70, 0x15, 0x07, 0x11, 0x03, 0xe8, 0x70, 0xa2, 0x00, 0x0c]
theorem da_M_turn_129 : dkA b_M_turn dw_M_turn_129 129 := by unfold dkA; decide +kernel
theorem dc_M_turn_129 : decode b_M_turn 129 = .ok (.isub, 1) := dk_row (s := 129) da_M_turn_129 0 (by decide +kernel)
theorem dc_M_turn_130 : decode b_M_turn 130 = .ok (.iload_n 2, 1) := dk_row (s := 129) da_M_turn_129 1 (by decide +kernel)
theorem dc_M_turn_131 : decode b_M_turn 131 = .ok (.iload_n 3, 1) := dk_row (s := 129) da_M_turn_129 2 (by decide +kernel)
theorem dc_M_turn_132 : decode b_M_turn 132 = .ok (.invokestatic 119, 3) := dk_row (s := 129) da_M_turn_129 3 (by decide +kernel)
theorem dc_M_turn_135 : decode b_M_turn 135 = .ok (.istore 7, 2) := dk_row (s := 129) da_M_turn_129 6 (by decide +kernel)
theorem dc_M_turn_137 : decode b_M_turn 137 = .ok (.aload_n 0, 1) := dk_row (s := 129) da_M_turn_129 8 (by decide +kernel)
theorem dc_M_turn_138 : decode b_M_turn 138 = .ok (.getfield 22, 3) := dk_row (s := 129) da_M_turn_129 9 (by decide +kernel)
theorem dc_M_turn_141 : decode b_M_turn 141 = .ok (.iload 5, 2) := dk_row (s := 129) da_M_turn_129 12 (by decide +kernel)
theorem dc_M_turn_143 : decode b_M_turn 143 = .ok (.iload 6, 2) := dk_row (s := 129) da_M_turn_129 14 (by decide +kernel)
theorem dc_M_turn_145 : decode b_M_turn 145 = .ok (.sipush 1000, 3) := dk_row (s := 129) da_M_turn_129 16 (by decide +kernel)
theorem dc_M_turn_148 : decode b_M_turn 148 = .ok (.irem, 1) := dk_row (s := 129) da_M_turn_129 19 (by decide +kernel)
theorem dc_M_turn_149 : decode b_M_turn 149 = .ok (.iload 7, 2) := dk_row (s := 129) da_M_turn_129 20 (by decide +kernel)
theorem dc_M_turn_151 : decode b_M_turn 151 = .ok (.sipush 1000, 3) := dk_row (s := 129) da_M_turn_129 22 (by decide +kernel)
theorem dc_M_turn_154 : decode b_M_turn 154 = .ok (.irem, 1) := dk_row (s := 129) da_M_turn_129 25 (by decide +kernel)
theorem dc_M_turn_155 : decode b_M_turn 155 = .ok (.if_icmp .ge 12, 3) := dk_row (s := 129) da_M_turn_129 26 (by decide +kernel)
theorem dc_M_turn_167 : decode b_M_turn 167 = .ok (.iload 7, 2) := by decide +kernel
theorem dc_M_turn_169 : decode b_M_turn 169 = .ok (.sipush 1000, 3) := by decide +kernel
theorem dc_M_turn_172 : decode b_M_turn 172 = .ok (.irem, 1) := by decide +kernel
def dw_M_turn_158 : ByteArray := .mk #[0x15, 0x06, 0x11, 0x03, 0xe8, 0x70, 0xa7, 0x00, 0x09, 0x15, 0x07, 0x11, 0x03, 0xe8, 0x70, 0x4f, 0x2a, 0xb4, 0x00, 0x19, 0x15, 0x05, 0x15, 0x06, 0x11, 0x03, 0xe8, 0x6c, 0x15, 0x07]
theorem da_M_turn_158 : dkA b_M_turn dw_M_turn_158 158 := by unfold dkA; decide +kernel
theorem dc_M_turn_158 : decode b_M_turn 158 = .ok (.iload 6, 2) := dk_row (s := 158) da_M_turn_158 0 (by decide +kernel)
theorem dc_M_turn_160 : decode b_M_turn 160 = .ok (.sipush 1000, 3) := dk_row (s := 158) da_M_turn_158 2 (by decide +kernel)
theorem dc_M_turn_163 : decode b_M_turn 163 = .ok (.irem, 1) := dk_row (s := 158) da_M_turn_158 5 (by decide +kernel)
theorem dc_M_turn_164 : decode b_M_turn 164 = .ok (.goto 9, 3) := dk_row (s := 158) da_M_turn_158 6 (by decide +kernel)
theorem dc_M_turn_173 : decode b_M_turn 173 = .ok (.iastore, 1) := dk_row (s := 158) da_M_turn_158 15 (by decide +kernel)
theorem dc_M_turn_174 : decode b_M_turn 174 = .ok (.aload_n 0, 1) := dk_row (s := 158) da_M_turn_158 16 (by decide +kernel)
theorem dc_M_turn_175 : decode b_M_turn 175 = .ok (.getfield 25, 3) := dk_row (s := 158) da_M_turn_158 17 (by decide +kernel)
theorem dc_M_turn_178 : decode b_M_turn 178 = .ok (.iload 5, 2) := dk_row (s := 158) da_M_turn_158 20 (by decide +kernel)
theorem dc_M_turn_180 : decode b_M_turn 180 = .ok (.iload 6, 2) := dk_row (s := 158) da_M_turn_158 22 (by decide +kernel)
theorem dc_M_turn_182 : decode b_M_turn 182 = .ok (.sipush 1000, 3) := dk_row (s := 158) da_M_turn_158 24 (by decide +kernel)
theorem dc_M_turn_185 : decode b_M_turn 185 = .ok (.idiv, 1) := dk_row (s := 158) da_M_turn_158 27 (by decide +kernel)
theorem dc_M_turn_186 : decode b_M_turn 186 = .ok (.iload 7, 2) := dk_row (s := 158) da_M_turn_158 28 (by decide +kernel)
def dw_M_turn_188 : ByteArray := .mk #[0x11, 0x03, 0xe8, 0x6c, 0xa2, 0x00, 0x0c, 0x15, 0x06, 0x11, 0x03, 0xe8, 0x6c, 0xa7, 0x00, 0x09, 0x15, 0x07, 0x11, 0x03, 0xe8, 0x6c]
theorem da_M_turn_188 : dkA b_M_turn dw_M_turn_188 188 := by unfold dkA; decide +kernel
theorem dc_M_turn_188 : decode b_M_turn 188 = .ok (.sipush 1000, 3) := dk_row (s := 188) da_M_turn_188 0 (by decide +kernel)
theorem dc_M_turn_191 : decode b_M_turn 191 = .ok (.idiv, 1) := dk_row (s := 188) da_M_turn_188 3 (by decide +kernel)
theorem dc_M_turn_192 : decode b_M_turn 192 = .ok (.if_icmp .ge 12, 3) := dk_row (s := 188) da_M_turn_188 4 (by decide +kernel)
theorem dc_M_turn_204 : decode b_M_turn 204 = .ok (.iload 7, 2) := dk_row (s := 188) da_M_turn_188 16 (by decide +kernel)
theorem dc_M_turn_206 : decode b_M_turn 206 = .ok (.sipush 1000, 3) := dk_row (s := 188) da_M_turn_188 18 (by decide +kernel)
theorem dc_M_turn_209 : decode b_M_turn 209 = .ok (.idiv, 1) := dk_row (s := 188) da_M_turn_188 21 (by decide +kernel)
def dw_M_turn_195 : ByteArray := .mk #[0x15, 0x06, 0x11, 0x03, 0xe8, 0x6c, 0xa7, 0x00, 0x09, 0x15, 0x07, 0x11, 0x03, 0xe8, 0x6c, 0x4f, 0x2a, 0xb4, 0x00, 0x1c, 0x15, 0x05, 0x2e, 0x36, 0x08, 0x2a, 0xb4, 0x00, 0x1c, 0x15, 0x05, 0x1b]
theorem da_M_turn_195 : dkA b_M_turn dw_M_turn_195 195 := by unfold dkA; decide +kernel
theorem dc_M_turn_195 : decode b_M_turn 195 = .ok (.iload 6, 2) := dk_row (s := 195) da_M_turn_195 0 (by decide +kernel)
theorem dc_M_turn_197 : decode b_M_turn 197 = .ok (.sipush 1000, 3) := dk_row (s := 195) da_M_turn_195 2 (by decide +kernel)
theorem dc_M_turn_200 : decode b_M_turn 200 = .ok (.idiv, 1) := dk_row (s := 195) da_M_turn_195 5 (by decide +kernel)
theorem dc_M_turn_201 : decode b_M_turn 201 = .ok (.goto 9, 3) := dk_row (s := 195) da_M_turn_195 6 (by decide +kernel)
theorem dc_M_turn_210 : decode b_M_turn 210 = .ok (.iastore, 1) := dk_row (s := 195) da_M_turn_195 15 (by decide +kernel)
theorem dc_M_turn_211 : decode b_M_turn 211 = .ok (.aload_n 0, 1) := dk_row (s := 195) da_M_turn_195 16 (by decide +kernel)
theorem dc_M_turn_212 : decode b_M_turn 212 = .ok (.getfield 28, 3) := dk_row (s := 195) da_M_turn_195 17 (by decide +kernel)
theorem dc_M_turn_215 : decode b_M_turn 215 = .ok (.iload 5, 2) := dk_row (s := 195) da_M_turn_195 20 (by decide +kernel)
theorem dc_M_turn_217 : decode b_M_turn 217 = .ok (.iaload, 1) := dk_row (s := 195) da_M_turn_195 22 (by decide +kernel)
theorem dc_M_turn_218 : decode b_M_turn 218 = .ok (.istore 8, 2) := dk_row (s := 195) da_M_turn_195 23 (by decide +kernel)
theorem dc_M_turn_220 : decode b_M_turn 220 = .ok (.aload_n 0, 1) := dk_row (s := 195) da_M_turn_195 25 (by decide +kernel)
theorem dc_M_turn_221 : decode b_M_turn 221 = .ok (.getfield 28, 3) := dk_row (s := 195) da_M_turn_195 26 (by decide +kernel)
theorem dc_M_turn_224 : decode b_M_turn 224 = .ok (.iload 5, 2) := dk_row (s := 195) da_M_turn_195 29 (by decide +kernel)
theorem dc_M_turn_226 : decode b_M_turn 226 = .ok (.iload_n 1, 1) := dk_row (s := 195) da_M_turn_195 31 (by decide +kernel)
theorem dc_M_turn_227 : decode b_M_turn 227 = .ok (.invokestatic 123, 3) := by decide +kernel
theorem dc_M_turn_230 : decode b_M_turn 230 = .ok (.ifCond .eq 13, 3) := by decide +kernel
theorem dc_M_turn_243 : decode b_M_turn 243 = .ok (.iload 8, 2) := by decide +kernel
def dw_M_turn_233 : ByteArray := .mk #[0x2a, 0xb4, 0x00, 0x1f, 0x15, 0x05, 0x2e, 0xa7, 0x00, 0x05, 0x15, 0x08, 0x4f, 0x2a, 0xb4, 0x00, 0x1f, 0x15, 0x05, 0x1b, 0xb8, 0x00, 0x7b, 0x99, 0x00, 0x08, 0x15, 0x08, 0xa7, 0x00, 0x0a, 0x2a]
theorem da_M_turn_233 : dkA b_M_turn dw_M_turn_233 233 := by unfold dkA; decide +kernel
theorem dc_M_turn_233 : decode b_M_turn 233 = .ok (.aload_n 0, 1) := dk_row (s := 233) da_M_turn_233 0 (by decide +kernel)
theorem dc_M_turn_234 : decode b_M_turn 234 = .ok (.getfield 31, 3) := dk_row (s := 233) da_M_turn_233 1 (by decide +kernel)
theorem dc_M_turn_237 : decode b_M_turn 237 = .ok (.iload 5, 2) := dk_row (s := 233) da_M_turn_233 4 (by decide +kernel)
theorem dc_M_turn_239 : decode b_M_turn 239 = .ok (.iaload, 1) := dk_row (s := 233) da_M_turn_233 6 (by decide +kernel)
theorem dc_M_turn_240 : decode b_M_turn 240 = .ok (.goto 5, 3) := dk_row (s := 233) da_M_turn_233 7 (by decide +kernel)
theorem dc_M_turn_245 : decode b_M_turn 245 = .ok (.iastore, 1) := dk_row (s := 233) da_M_turn_233 12 (by decide +kernel)
theorem dc_M_turn_246 : decode b_M_turn 246 = .ok (.aload_n 0, 1) := dk_row (s := 233) da_M_turn_233 13 (by decide +kernel)
theorem dc_M_turn_247 : decode b_M_turn 247 = .ok (.getfield 31, 3) := dk_row (s := 233) da_M_turn_233 14 (by decide +kernel)
theorem dc_M_turn_250 : decode b_M_turn 250 = .ok (.iload 5, 2) := dk_row (s := 233) da_M_turn_233 17 (by decide +kernel)
theorem dc_M_turn_252 : decode b_M_turn 252 = .ok (.iload_n 1, 1) := dk_row (s := 233) da_M_turn_233 19 (by decide +kernel)
theorem dc_M_turn_253 : decode b_M_turn 253 = .ok (.invokestatic 123, 3) := dk_row (s := 233) da_M_turn_233 20 (by decide +kernel)
theorem dc_M_turn_256 : decode b_M_turn 256 = .ok (.ifCond .eq 8, 3) := dk_row (s := 233) da_M_turn_233 23 (by decide +kernel)
theorem dc_M_turn_264 : decode b_M_turn 264 = .ok (.aload_n 0, 1) := dk_row (s := 233) da_M_turn_233 31 (by decide +kernel)
theorem dc_M_turn_265 : decode b_M_turn 265 = .ok (.getfield 31, 3) := by decide +kernel
theorem dc_M_turn_268 : decode b_M_turn 268 = .ok (.iload 5, 2) := by decide +kernel
theorem dc_M_turn_270 : decode b_M_turn 270 = .ok (.iaload, 1) := by decide +kernel
def dw_M_turn_259 : ByteArray := .mk #[0x15, 0x08, 0xa7, 0x00, 0x0a, 0x2a, 0xb4, 0x00, 0x1f, 0x15, 0x05, 0x2e, 0x4f, 0x2a, 0xb4, 0x00, 0x22, 0x15, 0x05, 0x2a, 0xb4, 0x00, 0x22, 0x15, 0x05, 0x2e, 0x1b, 0xb8, 0x00, 0x7e, 0x4f]
theorem da_M_turn_259 : dkA b_M_turn dw_M_turn_259 259 := by unfold dkA; decide +kernel
theorem dc_M_turn_259 : decode b_M_turn 259 = .ok (.iload 8, 2) := dk_row (s := 259) da_M_turn_259 0 (by decide +kernel)
theorem dc_M_turn_261 : decode b_M_turn 261 = .ok (.goto 10, 3) := dk_row (s := 259) da_M_turn_259 2 (by decide +kernel)
theorem dc_M_turn_271 : decode b_M_turn 271 = .ok (.iastore, 1) := dk_row (s := 259) da_M_turn_259 12 (by decide +kernel)
theorem dc_M_turn_272 : decode b_M_turn 272 = .ok (.aload_n 0, 1) := dk_row (s := 259) da_M_turn_259 13 (by decide +kernel)
theorem dc_M_turn_273 : decode b_M_turn 273 = .ok (.getfield 34, 3) := dk_row (s := 259) da_M_turn_259 14 (by decide +kernel)
theorem dc_M_turn_276 : decode b_M_turn 276 = .ok (.iload 5, 2) := dk_row (s := 259) da_M_turn_259 17 (by decide +kernel)
theorem dc_M_turn_278 : decode b_M_turn 278 = .ok (.aload_n 0, 1) := dk_row (s := 259) da_M_turn_259 19 (by decide +kernel)
theorem dc_M_turn_279 : decode b_M_turn 279 = .ok (.getfield 34, 3) := dk_row (s := 259) da_M_turn_259 20 (by decide +kernel)
theorem dc_M_turn_282 : decode b_M_turn 282 = .ok (.iload 5, 2) := dk_row (s := 259) da_M_turn_259 23 (by decide +kernel)
theorem dc_M_turn_284 : decode b_M_turn 284 = .ok (.iaload, 1) := dk_row (s := 259) da_M_turn_259 25 (by decide +kernel)
theorem dc_M_turn_285 : decode b_M_turn 285 = .ok (.iload_n 1, 1) := dk_row (s := 259) da_M_turn_259 26 (by decide +kernel)
theorem dc_M_turn_286 : decode b_M_turn 286 = .ok (.invokestatic 126, 3) := dk_row (s := 259) da_M_turn_259 27 (by decide +kernel)
theorem dc_M_turn_289 : decode b_M_turn 289 = .ok (.iastore, 1) := dk_row (s := 259) da_M_turn_259 30 (by decide +kernel)
def dw_M_turn_290 : ByteArray := .mk #[0x84, 0x04, 0x01, 0xa7, 0xff, 0x0e, 0x10, 0x14, 0x2a, 0xb4, 0x00, 0x47, 0x68, 0x36, 0x04, 0x15, 0x04, 0x10, 0x14, 0x2a, 0xb4, 0x00, 0x47, 0x68, 0x2a, 0xb4, 0x00, 0x13, 0x2a, 0xb4, 0x00, 0x47]
theorem da_M_turn_290 : dkA b_M_turn dw_M_turn_290 290 := by unfold dkA; decide +kernel
theorem dc_M_turn_290 : decode b_M_turn 290 = .ok (.iinc 4 1, 3) := dk_row (s := 290) da_M_turn_290 0 (by decide +kernel)
theorem dc_M_turn_293 : decode b_M_turn 293 = .ok (.goto (-242), 3) := dk_row (s := 290) da_M_turn_290 3 (by decide +kernel)
theorem dc_M_turn_305 : decode b_M_turn 305 = .ok (.iload 4, 2) := dk_row (s := 290) da_M_turn_290 15 (by decide +kernel)
theorem dc_M_turn_307 : decode b_M_turn 307 = .ok (.bipush 20, 2) := dk_row (s := 290) da_M_turn_290 17 (by decide +kernel)
theorem dc_M_turn_309 : decode b_M_turn 309 = .ok (.aload_n 0, 1) := dk_row (s := 290) da_M_turn_290 19 (by decide +kernel)
theorem dc_M_turn_310 : decode b_M_turn 310 = .ok (.getfield 71, 3) := dk_row (s := 290) da_M_turn_290 20 (by decide +kernel)
theorem dc_M_turn_313 : decode b_M_turn 313 = .ok (.imul, 1) := dk_row (s := 290) da_M_turn_290 23 (by decide +kernel)
theorem dc_M_turn_314 : decode b_M_turn 314 = .ok (.aload_n 0, 1) := dk_row (s := 290) da_M_turn_290 24 (by decide +kernel)
theorem dc_M_turn_315 : decode b_M_turn 315 = .ok (.getfield 19, 3) := dk_row (s := 290) da_M_turn_290 25 (by decide +kernel)
theorem dc_M_turn_318 : decode b_M_turn 318 = .ok (.aload_n 0, 1) := dk_row (s := 290) da_M_turn_290 28 (by decide +kernel)
theorem dc_M_turn_319 : decode b_M_turn 319 = .ok (.getfield 71, 3) := dk_row (s := 290) da_M_turn_290 29 (by decide +kernel)
theorem dc_M_turn_322 : decode b_M_turn 322 = .ok (.iaload, 1) := by decide +kernel
theorem dc_M_turn_323 : decode b_M_turn 323 = .ok (.iadd, 1) := by decide +kernel
theorem dc_M_turn_324 : decode b_M_turn 324 = .ok (.if_icmp .ge 57, 3) := by decide +kernel
def dw_M_turn_381 : ByteArray := .mk #[0x2a, 0xb4, 0x00, 0x07, 0x2a, 0xb4, 0x00, 0x47, 0x1b, 0xb8, 0x00, 0x7b, 0x99, 0x00, 0x07, 0x1d, 0xa7, 0x00, 0x04, 0x1c]
theorem da_M_turn_381 : dkA b_M_turn dw_M_turn_381 381 := by unfold dkA; decide +kernel
theorem dc_M_turn_381 : decode b_M_turn 381 = .ok (.aload_n 0, 1) := dk_row (s := 381) da_M_turn_381 0 (by decide +kernel)
theorem dc_M_turn_382 : decode b_M_turn 382 = .ok (.getfield 7, 3) := dk_row (s := 381) da_M_turn_381 1 (by decide +kernel)
theorem dc_M_turn_385 : decode b_M_turn 385 = .ok (.aload_n 0, 1) := dk_row (s := 381) da_M_turn_381 4 (by decide +kernel)
theorem dc_M_turn_386 : decode b_M_turn 386 = .ok (.getfield 71, 3) := dk_row (s := 381) da_M_turn_381 5 (by decide +kernel)
theorem dc_M_turn_389 : decode b_M_turn 389 = .ok (.iload_n 1, 1) := dk_row (s := 381) da_M_turn_381 8 (by decide +kernel)
theorem dc_M_turn_390 : decode b_M_turn 390 = .ok (.invokestatic 123, 3) := dk_row (s := 381) da_M_turn_381 9 (by decide +kernel)
theorem dc_M_turn_393 : decode b_M_turn 393 = .ok (.ifCond .eq 7, 3) := dk_row (s := 381) da_M_turn_381 12 (by decide +kernel)
theorem dc_M_turn_400 : decode b_M_turn 400 = .ok (.iload_n 2, 1) := dk_row (s := 381) da_M_turn_381 19 (by decide +kernel)
theorem dc_M_turn_396 : decode b_M_turn 396 = .ok (.iload_n 3, 1) := by decide +kernel
theorem dc_M_turn_397 : decode b_M_turn 397 = .ok (.goto 4, 3) := by decide +kernel
def dw_M_turn_327 : ByteArray := .mk #[0x1b, 0x2a, 0xb4, 0x00, 0x2b, 0x15, 0x04, 0x2e, 0x2a, 0xb4, 0x00, 0x2e, 0x15, 0x04, 0x2e, 0x1c, 0x1d, 0xb8, 0x00, 0x77, 0x36, 0x05, 0x2a, 0xb4, 0x00, 0x2b, 0x15, 0x04, 0x15, 0x05]
theorem da_M_turn_327 : dkA b_M_turn dw_M_turn_327 327 := by unfold dkA; decide +kernel
theorem dc_M_turn_327 : decode b_M_turn 327 = .ok (.iload_n 1, 1) := dk_row (s := 327) da_M_turn_327 0 (by decide +kernel)
theorem dc_M_turn_328 : decode b_M_turn 328 = .ok (.aload_n 0, 1) := dk_row (s := 327) da_M_turn_327 1 (by decide +kernel)
theorem dc_M_turn_329 : decode b_M_turn 329 = .ok (.getfield 43, 3) := dk_row (s := 327) da_M_turn_327 2 (by decide +kernel)
theorem dc_M_turn_332 : decode b_M_turn 332 = .ok (.iload 4, 2) := dk_row (s := 327) da_M_turn_327 5 (by decide +kernel)
theorem dc_M_turn_334 : decode b_M_turn 334 = .ok (.iaload, 1) := dk_row (s := 327) da_M_turn_327 7 (by decide +kernel)
theorem dc_M_turn_335 : decode b_M_turn 335 = .ok (.aload_n 0, 1) := dk_row (s := 327) da_M_turn_327 8 (by decide +kernel)
theorem dc_M_turn_336 : decode b_M_turn 336 = .ok (.getfield 46, 3) := dk_row (s := 327) da_M_turn_327 9 (by decide +kernel)
theorem dc_M_turn_339 : decode b_M_turn 339 = .ok (.iload 4, 2) := dk_row (s := 327) da_M_turn_327 12 (by decide +kernel)
theorem dc_M_turn_341 : decode b_M_turn 341 = .ok (.iaload, 1) := dk_row (s := 327) da_M_turn_327 14 (by decide +kernel)
theorem dc_M_turn_342 : decode b_M_turn 342 = .ok (.iload_n 2, 1) := dk_row (s := 327) da_M_turn_327 15 (by decide +kernel)
theorem dc_M_turn_343 : decode b_M_turn 343 = .ok (.iload_n 3, 1) := dk_row (s := 327) da_M_turn_327 16 (by decide +kernel)
theorem dc_M_turn_344 : decode b_M_turn 344 = .ok (.invokestatic 119, 3) := dk_row (s := 327) da_M_turn_327 17 (by decide +kernel)
theorem dc_M_turn_347 : decode b_M_turn 347 = .ok (.istore 5, 2) := dk_row (s := 327) da_M_turn_327 20 (by decide +kernel)
theorem dc_M_turn_349 : decode b_M_turn 349 = .ok (.aload_n 0, 1) := dk_row (s := 327) da_M_turn_327 22 (by decide +kernel)
theorem dc_M_turn_350 : decode b_M_turn 350 = .ok (.getfield 43, 3) := dk_row (s := 327) da_M_turn_327 23 (by decide +kernel)
theorem dc_M_turn_353 : decode b_M_turn 353 = .ok (.iload 4, 2) := dk_row (s := 327) da_M_turn_327 26 (by decide +kernel)
theorem dc_M_turn_355 : decode b_M_turn 355 = .ok (.iload 5, 2) := dk_row (s := 327) da_M_turn_327 28 (by decide +kernel)
def dw_M_turn_357 : ByteArray := .mk #[0x11, 0x03, 0xe8, 0x70, 0x4f, 0x2a, 0xb4, 0x00, 0x2e, 0x15, 0x04, 0x15, 0x05, 0x11, 0x03, 0xe8, 0x6c, 0x4f, 0x84, 0x04, 0x01, 0xa7, 0xff, 0xb7]
theorem da_M_turn_357 : dkA b_M_turn dw_M_turn_357 357 := by unfold dkA; decide +kernel
theorem dc_M_turn_357 : decode b_M_turn 357 = .ok (.sipush 1000, 3) := dk_row (s := 357) da_M_turn_357 0 (by decide +kernel)
theorem dc_M_turn_360 : decode b_M_turn 360 = .ok (.irem, 1) := dk_row (s := 357) da_M_turn_357 3 (by decide +kernel)
theorem dc_M_turn_361 : decode b_M_turn 361 = .ok (.iastore, 1) := dk_row (s := 357) da_M_turn_357 4 (by decide +kernel)
theorem dc_M_turn_362 : decode b_M_turn 362 = .ok (.aload_n 0, 1) := dk_row (s := 357) da_M_turn_357 5 (by decide +kernel)
theorem dc_M_turn_363 : decode b_M_turn 363 = .ok (.getfield 46, 3) := dk_row (s := 357) da_M_turn_357 6 (by decide +kernel)
theorem dc_M_turn_366 : decode b_M_turn 366 = .ok (.iload 4, 2) := dk_row (s := 357) da_M_turn_357 9 (by decide +kernel)
theorem dc_M_turn_368 : decode b_M_turn 368 = .ok (.iload 5, 2) := dk_row (s := 357) da_M_turn_357 11 (by decide +kernel)
theorem dc_M_turn_370 : decode b_M_turn 370 = .ok (.sipush 1000, 3) := dk_row (s := 357) da_M_turn_357 13 (by decide +kernel)
theorem dc_M_turn_373 : decode b_M_turn 373 = .ok (.idiv, 1) := dk_row (s := 357) da_M_turn_357 16 (by decide +kernel)
theorem dc_M_turn_374 : decode b_M_turn 374 = .ok (.iastore, 1) := dk_row (s := 357) da_M_turn_357 17 (by decide +kernel)
theorem dc_M_turn_375 : decode b_M_turn 375 = .ok (.iinc 4 1, 3) := dk_row (s := 357) da_M_turn_357 18 (by decide +kernel)
theorem dc_M_turn_378 : decode b_M_turn 378 = .ok (.goto (-73), 3) := dk_row (s := 357) da_M_turn_357 21 (by decide +kernel)
def dw_M_turn_401 : ByteArray := .mk #[0x4f, 0x2a, 0xb4, 0x00, 0x0d, 0x2a, 0xb4, 0x00, 0x47, 0x1b, 0xb8, 0x00, 0x7b, 0x99, 0x00, 0x07, 0x1c, 0xa7, 0x00, 0x04, 0x1d]
theorem da_M_turn_401 : dkA b_M_turn dw_M_turn_401 401 := by unfold dkA; decide +kernel
theorem dc_M_turn_401 : decode b_M_turn 401 = .ok (.iastore, 1) := dk_row (s := 401) da_M_turn_401 0 (by decide +kernel)
theorem dc_M_turn_402 : decode b_M_turn 402 = .ok (.aload_n 0, 1) := dk_row (s := 401) da_M_turn_401 1 (by decide +kernel)
theorem dc_M_turn_403 : decode b_M_turn 403 = .ok (.getfield 13, 3) := dk_row (s := 401) da_M_turn_401 2 (by decide +kernel)
theorem dc_M_turn_406 : decode b_M_turn 406 = .ok (.aload_n 0, 1) := dk_row (s := 401) da_M_turn_401 5 (by decide +kernel)
theorem dc_M_turn_407 : decode b_M_turn 407 = .ok (.getfield 71, 3) := dk_row (s := 401) da_M_turn_401 6 (by decide +kernel)
theorem dc_M_turn_410 : decode b_M_turn 410 = .ok (.iload_n 1, 1) := dk_row (s := 401) da_M_turn_401 9 (by decide +kernel)
theorem dc_M_turn_411 : decode b_M_turn 411 = .ok (.invokestatic 123, 3) := dk_row (s := 401) da_M_turn_401 10 (by decide +kernel)
theorem dc_M_turn_414 : decode b_M_turn 414 = .ok (.ifCond .eq 7, 3) := dk_row (s := 401) da_M_turn_401 13 (by decide +kernel)
theorem dc_M_turn_421 : decode b_M_turn 421 = .ok (.iload_n 3, 1) := dk_row (s := 401) da_M_turn_401 20 (by decide +kernel)
def dw_M_turn_417 : ByteArray := .mk #[0x1c, 0xa7, 0x00, 0x04, 0x1d, 0x4f, 0x2a, 0x2a, 0xb4, 0x00, 0x4a, 0x1b, 0xb8, 0x00, 0x7e, 0xb5, 0x00, 0x4a, 0x2a, 0x03, 0xb5, 0x00, 0x4d, 0x2a, 0xb4, 0x00, 0x4a, 0xac]
theorem da_M_turn_417 : dkA b_M_turn dw_M_turn_417 417 := by unfold dkA; decide +kernel
theorem dc_M_turn_417 : decode b_M_turn 417 = .ok (.iload_n 2, 1) := dk_row (s := 417) da_M_turn_417 0 (by decide +kernel)
theorem dc_M_turn_418 : decode b_M_turn 418 = .ok (.goto 4, 3) := dk_row (s := 417) da_M_turn_417 1 (by decide +kernel)
theorem dc_M_turn_422 : decode b_M_turn 422 = .ok (.iastore, 1) := dk_row (s := 417) da_M_turn_417 5 (by decide +kernel)
theorem dc_M_turn_423 : decode b_M_turn 423 = .ok (.aload_n 0, 1) := dk_row (s := 417) da_M_turn_417 6 (by decide +kernel)
theorem dc_M_turn_424 : decode b_M_turn 424 = .ok (.aload_n 0, 1) := dk_row (s := 417) da_M_turn_417 7 (by decide +kernel)
theorem dc_M_turn_425 : decode b_M_turn 425 = .ok (.getfield 74, 3) := dk_row (s := 417) da_M_turn_417 8 (by decide +kernel)
theorem dc_M_turn_428 : decode b_M_turn 428 = .ok (.iload_n 1, 1) := dk_row (s := 417) da_M_turn_417 11 (by decide +kernel)
theorem dc_M_turn_429 : decode b_M_turn 429 = .ok (.invokestatic 126, 3) := dk_row (s := 417) da_M_turn_417 12 (by decide +kernel)
theorem dc_M_turn_432 : decode b_M_turn 432 = .ok (.putfield 74, 3) := dk_row (s := 417) da_M_turn_417 15 (by decide +kernel)
theorem dc_M_turn_435 : decode b_M_turn 435 = .ok (.aload_n 0, 1) := dk_row (s := 417) da_M_turn_417 18 (by decide +kernel)
theorem dc_M_turn_436 : decode b_M_turn 436 = .ok (.iconst 0, 1) := dk_row (s := 417) da_M_turn_417 19 (by decide +kernel)
theorem dc_M_turn_437 : decode b_M_turn 437 = .ok (.putfield 77, 3) := dk_row (s := 417) da_M_turn_417 20 (by decide +kernel)
theorem dc_M_turn_440 : decode b_M_turn 440 = .ok (.aload_n 0, 1) := dk_row (s := 417) da_M_turn_417 23 (by decide +kernel)
theorem dc_M_turn_441 : decode b_M_turn 441 = .ok (.getfield 74, 3) := dk_row (s := 417) da_M_turn_417 24 (by decide +kernel)
theorem dc_M_turn_444 : decode b_M_turn 444 = .ok (.ireturn, 1) := dk_row (s := 417) da_M_turn_417 27 (by decide +kernel)
def dw_M_at_0 : ByteArray := .mk #[0x2a, 0x2a, 0x1b, 0xb6, 0x00, 0x60, 0x99, 0x00, 0x07, 0x03, 0xa7, 0x00, 0x04, 0x04]
theorem da_M_at_0 : dkA b_M_at dw_M_at_0 0 := by unfold dkA; decide +kernel
theorem dc_M_at_0 : decode b_M_at 0 = .ok (.aload_n 0, 1) := dk_row (s := 0) da_M_at_0 0 (by decide +kernel)
theorem dc_M_at_1 : decode b_M_at 1 = .ok (.aload_n 0, 1) := dk_row (s := 0) da_M_at_0 1 (by decide +kernel)
theorem dc_M_at_2 : decode b_M_at 2 = .ok (.iload_n 1, 1) := dk_row (s := 0) da_M_at_0 2 (by decide +kernel)
theorem dc_M_at_3 : decode b_M_at 3 = .ok (.invokevirtual 96, 3) := dk_row (s := 0) da_M_at_0 3 (by decide +kernel)
theorem dc_M_at_6 : decode b_M_at 6 = .ok (.ifCond .eq 7, 3) := dk_row (s := 0) da_M_at_0 6 (by decide +kernel)
theorem dc_M_at_13 : decode b_M_at 13 = .ok (.iconst 1, 1) := dk_row (s := 0) da_M_at_0 13 (by decide +kernel)
def dw_M_at_9 : ByteArray := .mk #[0x03, 0xa7, 0x00, 0x04, 0x04, 0xb5, 0x00, 0x44, 0x2a, 0xb4, 0x00, 0x44, 0x9e, 0x00, 0x05, 0x03, 0xac, 0x2a, 0x1b, 0xb6, 0x00, 0x5c, 0x3e, 0x2a, 0xb4, 0x00, 0x22, 0x1d, 0x2e, 0xb8, 0x00, 0x7b]
theorem da_M_at_9 : dkA b_M_at dw_M_at_9 9 := by unfold dkA; decide +kernel
theorem dc_M_at_9 : decode b_M_at 9 = .ok (.iconst 0, 1) := dk_row (s := 9) da_M_at_9 0 (by decide +kernel)
theorem dc_M_at_10 : decode b_M_at 10 = .ok (.goto 4, 3) := dk_row (s := 9) da_M_at_9 1 (by decide +kernel)
theorem dc_M_at_14 : decode b_M_at 14 = .ok (.putfield 68, 3) := dk_row (s := 9) da_M_at_9 5 (by decide +kernel)
theorem dc_M_at_17 : decode b_M_at 17 = .ok (.aload_n 0, 1) := dk_row (s := 9) da_M_at_9 8 (by decide +kernel)
theorem dc_M_at_18 : decode b_M_at 18 = .ok (.getfield 68, 3) := dk_row (s := 9) da_M_at_9 9 (by decide +kernel)
theorem dc_M_at_21 : decode b_M_at 21 = .ok (.ifCond .le 5, 3) := dk_row (s := 9) da_M_at_9 12 (by decide +kernel)
theorem dc_M_at_26 : decode b_M_at 26 = .ok (.aload_n 0, 1) := dk_row (s := 9) da_M_at_9 17 (by decide +kernel)
theorem dc_M_at_27 : decode b_M_at 27 = .ok (.iload_n 1, 1) := dk_row (s := 9) da_M_at_9 18 (by decide +kernel)
theorem dc_M_at_28 : decode b_M_at 28 = .ok (.invokevirtual 92, 3) := dk_row (s := 9) da_M_at_9 19 (by decide +kernel)
theorem dc_M_at_31 : decode b_M_at 31 = .ok (.istore_n 3, 1) := dk_row (s := 9) da_M_at_9 22 (by decide +kernel)
theorem dc_M_at_32 : decode b_M_at 32 = .ok (.aload_n 0, 1) := dk_row (s := 9) da_M_at_9 23 (by decide +kernel)
theorem dc_M_at_33 : decode b_M_at 33 = .ok (.getfield 34, 3) := dk_row (s := 9) da_M_at_9 24 (by decide +kernel)
theorem dc_M_at_36 : decode b_M_at 36 = .ok (.iload_n 3, 1) := dk_row (s := 9) da_M_at_9 27 (by decide +kernel)
theorem dc_M_at_37 : decode b_M_at 37 = .ok (.iaload, 1) := dk_row (s := 9) da_M_at_9 28 (by decide +kernel)
theorem dc_M_at_38 : decode b_M_at 38 = .ok (.invokestatic 123, 3) := dk_row (s := 9) da_M_at_9 29 (by decide +kernel)
theorem dc_M_at_41 : decode b_M_at 41 = .ok (.istore 4, 2) := by decide +kernel
theorem dc_M_at_43 : decode b_M_at 43 = .ok (.iload_n 2, 1) := by decide +kernel
theorem dc_M_at_44 : decode b_M_at 44 = .ok (.tableswitch 132 0 7 #[48, 55, 62, 69, 76, 83, 90, 111], 48) := by decide +kernel
def dw_M_at_92 : ByteArray := .mk #[0x2a, 0xb4, 0x00, 0x16, 0x1d, 0x2e, 0xac, 0x2a, 0xb4, 0x00, 0x19, 0x1d, 0x2e, 0xac, 0x2a, 0xb4, 0x00, 0x1c, 0x1d, 0x2e, 0xac, 0x2a, 0xb4, 0x00, 0x1f, 0x1d, 0x2e, 0xac, 0x2a, 0xb4, 0x00, 0x22]
theorem da_M_at_92 : dkA b_M_at dw_M_at_92 92 := by unfold dkA; decide +kernel
theorem dc_M_at_92 : decode b_M_at 92 = .ok (.aload_n 0, 1) := dk_row (s := 92) da_M_at_92 0 (by decide +kernel)
theorem dc_M_at_93 : decode b_M_at 93 = .ok (.getfield 22, 3) := dk_row (s := 92) da_M_at_92 1 (by decide +kernel)
theorem dc_M_at_96 : decode b_M_at 96 = .ok (.iload_n 3, 1) := dk_row (s := 92) da_M_at_92 4 (by decide +kernel)
theorem dc_M_at_97 : decode b_M_at 97 = .ok (.iaload, 1) := dk_row (s := 92) da_M_at_92 5 (by decide +kernel)
theorem dc_M_at_98 : decode b_M_at 98 = .ok (.ireturn, 1) := dk_row (s := 92) da_M_at_92 6 (by decide +kernel)
theorem dc_M_at_99 : decode b_M_at 99 = .ok (.aload_n 0, 1) := dk_row (s := 92) da_M_at_92 7 (by decide +kernel)
theorem dc_M_at_100 : decode b_M_at 100 = .ok (.getfield 25, 3) := dk_row (s := 92) da_M_at_92 8 (by decide +kernel)
theorem dc_M_at_103 : decode b_M_at 103 = .ok (.iload_n 3, 1) := dk_row (s := 92) da_M_at_92 11 (by decide +kernel)
theorem dc_M_at_104 : decode b_M_at 104 = .ok (.iaload, 1) := dk_row (s := 92) da_M_at_92 12 (by decide +kernel)
theorem dc_M_at_105 : decode b_M_at 105 = .ok (.ireturn, 1) := dk_row (s := 92) da_M_at_92 13 (by decide +kernel)
theorem dc_M_at_106 : decode b_M_at 106 = .ok (.aload_n 0, 1) := dk_row (s := 92) da_M_at_92 14 (by decide +kernel)
theorem dc_M_at_107 : decode b_M_at 107 = .ok (.getfield 28, 3) := dk_row (s := 92) da_M_at_92 15 (by decide +kernel)
theorem dc_M_at_110 : decode b_M_at 110 = .ok (.iload_n 3, 1) := dk_row (s := 92) da_M_at_92 18 (by decide +kernel)
theorem dc_M_at_111 : decode b_M_at 111 = .ok (.iaload, 1) := dk_row (s := 92) da_M_at_92 19 (by decide +kernel)
theorem dc_M_at_112 : decode b_M_at 112 = .ok (.ireturn, 1) := dk_row (s := 92) da_M_at_92 20 (by decide +kernel)
theorem dc_M_at_113 : decode b_M_at 113 = .ok (.aload_n 0, 1) := dk_row (s := 92) da_M_at_92 21 (by decide +kernel)
theorem dc_M_at_114 : decode b_M_at 114 = .ok (.getfield 31, 3) := dk_row (s := 92) da_M_at_92 22 (by decide +kernel)
theorem dc_M_at_117 : decode b_M_at 117 = .ok (.iload_n 3, 1) := dk_row (s := 92) da_M_at_92 25 (by decide +kernel)
theorem dc_M_at_118 : decode b_M_at 118 = .ok (.iaload, 1) := dk_row (s := 92) da_M_at_92 26 (by decide +kernel)
theorem dc_M_at_119 : decode b_M_at 119 = .ok (.ireturn, 1) := dk_row (s := 92) da_M_at_92 27 (by decide +kernel)
theorem dc_M_at_120 : decode b_M_at 120 = .ok (.aload_n 0, 1) := dk_row (s := 92) da_M_at_92 28 (by decide +kernel)
theorem dc_M_at_121 : decode b_M_at 121 = .ok (.getfield 34, 3) := dk_row (s := 92) da_M_at_92 29 (by decide +kernel)
def dw_M_at_124 : ByteArray := .mk #[0x1d, 0x2e, 0xac, 0x2a, 0xb4, 0x00, 0x25, 0x1d, 0x2e, 0xac, 0x15, 0x04, 0x99, 0x00, 0x0c, 0x2a, 0xb4, 0x00, 0x1f, 0x1d, 0x2e, 0xa7, 0x00, 0x09, 0x2a, 0xb4, 0x00, 0x1c, 0x1d, 0x2e, 0xac]
theorem da_M_at_124 : dkA b_M_at dw_M_at_124 124 := by unfold dkA; decide +kernel
theorem dc_M_at_124 : decode b_M_at 124 = .ok (.iload_n 3, 1) := dk_row (s := 124) da_M_at_124 0 (by decide +kernel)
theorem dc_M_at_125 : decode b_M_at 125 = .ok (.iaload, 1) := dk_row (s := 124) da_M_at_124 1 (by decide +kernel)
theorem dc_M_at_126 : decode b_M_at 126 = .ok (.ireturn, 1) := dk_row (s := 124) da_M_at_124 2 (by decide +kernel)
theorem dc_M_at_127 : decode b_M_at 127 = .ok (.aload_n 0, 1) := dk_row (s := 124) da_M_at_124 3 (by decide +kernel)
theorem dc_M_at_128 : decode b_M_at 128 = .ok (.getfield 37, 3) := dk_row (s := 124) da_M_at_124 4 (by decide +kernel)
theorem dc_M_at_131 : decode b_M_at 131 = .ok (.iload_n 3, 1) := dk_row (s := 124) da_M_at_124 7 (by decide +kernel)
theorem dc_M_at_132 : decode b_M_at 132 = .ok (.iaload, 1) := dk_row (s := 124) da_M_at_124 8 (by decide +kernel)
theorem dc_M_at_133 : decode b_M_at 133 = .ok (.ireturn, 1) := dk_row (s := 124) da_M_at_124 9 (by decide +kernel)
theorem dc_M_at_134 : decode b_M_at 134 = .ok (.iload 4, 2) := dk_row (s := 124) da_M_at_124 10 (by decide +kernel)
theorem dc_M_at_136 : decode b_M_at 136 = .ok (.ifCond .eq 12, 3) := dk_row (s := 124) da_M_at_124 12 (by decide +kernel)
theorem dc_M_at_148 : decode b_M_at 148 = .ok (.aload_n 0, 1) := dk_row (s := 124) da_M_at_124 24 (by decide +kernel)
theorem dc_M_at_149 : decode b_M_at 149 = .ok (.getfield 28, 3) := dk_row (s := 124) da_M_at_124 25 (by decide +kernel)
theorem dc_M_at_152 : decode b_M_at 152 = .ok (.iload_n 3, 1) := dk_row (s := 124) da_M_at_124 28 (by decide +kernel)
theorem dc_M_at_153 : decode b_M_at 153 = .ok (.iaload, 1) := dk_row (s := 124) da_M_at_124 29 (by decide +kernel)
theorem dc_M_at_154 : decode b_M_at 154 = .ok (.ireturn, 1) := dk_row (s := 124) da_M_at_124 30 (by decide +kernel)
def dw_M_at_139 : ByteArray := .mk #[0x2a, 0xb4, 0x00, 0x1f, 0x1d, 0x2e, 0xa7, 0x00, 0x09, 0x2a, 0xb4, 0x00, 0x1c, 0x1d, 0x2e, 0xac, 0x15, 0x04, 0x99, 0x00, 0x0c, 0x2a, 0xb4, 0x00, 0x1c, 0x1d, 0x2e, 0xa7, 0x00, 0x09, 0x2a]
theorem da_M_at_139 : dkA b_M_at dw_M_at_139 139 := by unfold dkA; decide +kernel
theorem dc_M_at_139 : decode b_M_at 139 = .ok (.aload_n 0, 1) := dk_row (s := 139) da_M_at_139 0 (by decide +kernel)
theorem dc_M_at_140 : decode b_M_at 140 = .ok (.getfield 31, 3) := dk_row (s := 139) da_M_at_139 1 (by decide +kernel)
theorem dc_M_at_143 : decode b_M_at 143 = .ok (.iload_n 3, 1) := dk_row (s := 139) da_M_at_139 4 (by decide +kernel)
theorem dc_M_at_144 : decode b_M_at 144 = .ok (.iaload, 1) := dk_row (s := 139) da_M_at_139 5 (by decide +kernel)
theorem dc_M_at_145 : decode b_M_at 145 = .ok (.goto 9, 3) := dk_row (s := 139) da_M_at_139 6 (by decide +kernel)
theorem dc_M_at_155 : decode b_M_at 155 = .ok (.iload 4, 2) := dk_row (s := 139) da_M_at_139 16 (by decide +kernel)
theorem dc_M_at_157 : decode b_M_at 157 = .ok (.ifCond .eq 12, 3) := dk_row (s := 139) da_M_at_139 18 (by decide +kernel)
theorem dc_M_at_169 : decode b_M_at 169 = .ok (.aload_n 0, 1) := dk_row (s := 139) da_M_at_139 30 (by decide +kernel)
def dw_M_at_170 : ByteArray := .mk #[0xb4, 0x00, 0x1f, 0x1d, 0x2e, 0xac]
theorem da_M_at_170 : dkA b_M_at dw_M_at_170 170 := by unfold dkA; decide +kernel
theorem dc_M_at_170 : decode b_M_at 170 = .ok (.getfield 31, 3) := dk_row (s := 170) da_M_at_170 0 (by decide +kernel)
theorem dc_M_at_173 : decode b_M_at 173 = .ok (.iload_n 3, 1) := dk_row (s := 170) da_M_at_170 3 (by decide +kernel)
theorem dc_M_at_174 : decode b_M_at 174 = .ok (.iaload, 1) := dk_row (s := 170) da_M_at_170 4 (by decide +kernel)
theorem dc_M_at_175 : decode b_M_at 175 = .ok (.ireturn, 1) := dk_row (s := 170) da_M_at_170 5 (by decide +kernel)
def dw_M_at_160 : ByteArray := .mk #[0x2a, 0xb4, 0x00, 0x1c, 0x1d, 0x2e, 0xa7, 0x00, 0x09, 0x2a, 0xb4, 0x00, 0x1f, 0x1d, 0x2e, 0xac, 0x02, 0xac]
theorem da_M_at_160 : dkA b_M_at dw_M_at_160 160 := by unfold dkA; decide +kernel
theorem dc_M_at_160 : decode b_M_at 160 = .ok (.aload_n 0, 1) := dk_row (s := 160) da_M_at_160 0 (by decide +kernel)
theorem dc_M_at_161 : decode b_M_at 161 = .ok (.getfield 28, 3) := dk_row (s := 160) da_M_at_160 1 (by decide +kernel)
theorem dc_M_at_164 : decode b_M_at 164 = .ok (.iload_n 3, 1) := dk_row (s := 160) da_M_at_160 4 (by decide +kernel)
theorem dc_M_at_165 : decode b_M_at 165 = .ok (.iaload, 1) := dk_row (s := 160) da_M_at_160 5 (by decide +kernel)
theorem dc_M_at_166 : decode b_M_at 166 = .ok (.goto 9, 3) := dk_row (s := 160) da_M_at_160 6 (by decide +kernel)
theorem dc_M_at_176 : decode b_M_at 176 = .ok (.iconst (-1), 1) := dk_row (s := 160) da_M_at_160 16 (by decide +kernel)
theorem dc_M_at_177 : decode b_M_at 177 = .ok (.ireturn, 1) := dk_row (s := 160) da_M_at_160 17 (by decide +kernel)
theorem dc_M_at_24 : decode b_M_at 24 = .ok (.iconst 0, 1) := by decide +kernel
theorem dc_M_at_25 : decode b_M_at 25 = .ok (.ireturn, 1) := by decide +kernel
theorem dc_M_byteAt_0 : decode b_M_byteAt 0 = .ok (.aload_n 0, 1) := by decide +kernel
theorem dc_M_byteAt_1 : decode b_M_byteAt 1 = .ok (.aload_n 0, 1) := by decide +kernel
theorem dc_M_byteAt_2 : decode b_M_byteAt 2 = .ok (.iload_n 1, 1) := by decide +kernel
theorem dc_M_byteAt_3 : decode b_M_byteAt 3 = .ok (.invokevirtual 96, 3) := by decide +kernel
theorem dc_M_byteAt_6 : decode b_M_byteAt 6 = .ok (.ifCond .eq 23, 3) := by decide +kernel
theorem dc_M_byteAt_9 : decode b_M_byteAt 9 = .ok (.iload_n 2, 1) := by decide +kernel
theorem dc_M_byteAt_10 : decode b_M_byteAt 10 = .ok (.iconst 0, 1) := by decide +kernel
theorem dc_M_byteAt_11 : decode b_M_byteAt 11 = .ok (.aload_n 0, 1) := by decide +kernel
theorem dc_M_byteAt_12 : decode b_M_byteAt 12 = .ok (.getfield 37, 3) := by decide +kernel
theorem dc_M_byteAt_15 : decode b_M_byteAt 15 = .ok (.aload_n 0, 1) := by decide +kernel
theorem dc_M_byteAt_16 : decode b_M_byteAt 16 = .ok (.iload_n 1, 1) := by decide +kernel
theorem dc_M_byteAt_17 : decode b_M_byteAt 17 = .ok (.invokevirtual 92, 3) := by decide +kernel
theorem dc_M_byteAt_20 : decode b_M_byteAt 20 = .ok (.iaload, 1) := by decide +kernel
theorem dc_M_byteAt_21 : decode b_M_byteAt 21 = .ok (.iconst 1, 1) := by decide +kernel
theorem dc_M_byteAt_22 : decode b_M_byteAt 22 = .ok (.isub, 1) := by decide +kernel
theorem dc_M_byteAt_23 : decode b_M_byteAt 23 = .ok (.invokestatic 84, 3) := by decide +kernel
theorem dc_M_byteAt_26 : decode b_M_byteAt 26 = .ok (.ifCond .ne 7, 3) := by decide +kernel
theorem dc_M_byteAt_33 : decode b_M_byteAt 33 = .ok (.iconst 0, 1) := by decide +kernel
theorem dc_M_byteAt_34 : decode b_M_byteAt 34 = .ok (.putfield 68, 3) := by decide +kernel
theorem dc_M_byteAt_37 : decode b_M_byteAt 37 = .ok (.aload_n 0, 1) := by decide +kernel
theorem dc_M_byteAt_38 : decode b_M_byteAt 38 = .ok (.getfield 68, 3) := by decide +kernel
theorem dc_M_byteAt_41 : decode b_M_byteAt 41 = .ok (.ifCond .le 7, 3) := by decide +kernel
theorem dc_M_byteAt_48 : decode b_M_byteAt 48 = .ok (.aload_n 0, 1) := by decide +kernel
theorem dc_M_byteAt_49 : decode b_M_byteAt 49 = .ok (.getfield 40, 3) := by decide +kernel
theorem dc_M_byteAt_52 : decode b_M_byteAt 52 = .ok (.bipush 12, 2) := by decide +kernel
theorem dc_M_byteAt_54 : decode b_M_byteAt 54 = .ok (.aload_n 0, 1) := by decide +kernel
theorem dc_M_byteAt_55 : decode b_M_byteAt 55 = .ok (.iload_n 1, 1) := by decide +kernel
theorem dc_M_byteAt_56 : decode b_M_byteAt 56 = .ok (.invokevirtual 92, 3) := by decide +kernel
theorem dc_M_byteAt_59 : decode b_M_byteAt 59 = .ok (.imul, 1) := by decide +kernel
theorem dc_M_byteAt_60 : decode b_M_byteAt 60 = .ok (.iload_n 2, 1) := by decide +kernel
theorem dc_M_byteAt_61 : decode b_M_byteAt 61 = .ok (.iadd, 1) := by decide +kernel
theorem dc_M_byteAt_62 : decode b_M_byteAt 62 = .ok (.iaload, 1) := by decide +kernel
theorem dc_M_byteAt_63 : decode b_M_byteAt 63 = .ok (.ireturn, 1) := by decide +kernel
theorem dc_M_byteAt_44 : decode b_M_byteAt 44 = .ok (.iconst 0, 1) := by decide +kernel
theorem dc_M_byteAt_45 : decode b_M_byteAt 45 = .ok (.goto 18, 3) := by decide +kernel
theorem dc_M_byteAt_29 : decode b_M_byteAt 29 = .ok (.iconst 1, 1) := by decide +kernel
theorem dc_M_byteAt_30 : decode b_M_byteAt 30 = .ok (.goto 4, 3) := by decide +kernel
def dw_M_shown_0 : ByteArray := .mk #[0x2a, 0x2a, 0x1b, 0x1c, 0xb6, 0x00, 0x64, 0x99, 0x00, 0x07, 0x03, 0xa7, 0x00, 0x04, 0x04]
theorem da_M_shown_0 : dkA b_M_shown dw_M_shown_0 0 := by unfold dkA; decide +kernel
theorem dc_M_shown_0 : decode b_M_shown 0 = .ok (.aload_n 0, 1) := dk_row (s := 0) da_M_shown_0 0 (by decide +kernel)
theorem dc_M_shown_1 : decode b_M_shown 1 = .ok (.aload_n 0, 1) := dk_row (s := 0) da_M_shown_0 1 (by decide +kernel)
theorem dc_M_shown_2 : decode b_M_shown 2 = .ok (.iload_n 1, 1) := dk_row (s := 0) da_M_shown_0 2 (by decide +kernel)
theorem dc_M_shown_3 : decode b_M_shown 3 = .ok (.iload_n 2, 1) := dk_row (s := 0) da_M_shown_0 3 (by decide +kernel)
theorem dc_M_shown_4 : decode b_M_shown 4 = .ok (.invokevirtual 100, 3) := dk_row (s := 0) da_M_shown_0 4 (by decide +kernel)
theorem dc_M_shown_7 : decode b_M_shown 7 = .ok (.ifCond .eq 7, 3) := dk_row (s := 0) da_M_shown_0 7 (by decide +kernel)
theorem dc_M_shown_14 : decode b_M_shown 14 = .ok (.iconst 1, 1) := dk_row (s := 0) da_M_shown_0 14 (by decide +kernel)
def dw_M_shown_10 : ByteArray := .mk #[0x03, 0xa7, 0x00, 0x04, 0x04, 0xb5, 0x00, 0x44, 0x03, 0x3e, 0x1d, 0x2a, 0xb4, 0x00, 0x10, 0x2a, 0xb4, 0x00, 0x47, 0x2e, 0xa2, 0x00, 0xbc, 0x2a, 0xb4, 0x00, 0x44, 0x9a, 0x00, 0xb5, 0x2a, 0x1d]
theorem da_M_shown_10 : dkA b_M_shown dw_M_shown_10 10 := by unfold dkA; decide +kernel
theorem dc_M_shown_10 : decode b_M_shown 10 = .ok (.iconst 0, 1) := dk_row (s := 10) da_M_shown_10 0 (by decide +kernel)
theorem dc_M_shown_11 : decode b_M_shown 11 = .ok (.goto 4, 3) := dk_row (s := 10) da_M_shown_10 1 (by decide +kernel)
theorem dc_M_shown_15 : decode b_M_shown 15 = .ok (.putfield 68, 3) := dk_row (s := 10) da_M_shown_10 5 (by decide +kernel)
theorem dc_M_shown_18 : decode b_M_shown 18 = .ok (.iconst 0, 1) := dk_row (s := 10) da_M_shown_10 8 (by decide +kernel)
theorem dc_M_shown_19 : decode b_M_shown 19 = .ok (.istore_n 3, 1) := dk_row (s := 10) da_M_shown_10 9 (by decide +kernel)
theorem dc_M_shown_20 : decode b_M_shown 20 = .ok (.iload_n 3, 1) := dk_row (s := 10) da_M_shown_10 10 (by decide +kernel)
theorem dc_M_shown_21 : decode b_M_shown 21 = .ok (.aload_n 0, 1) := dk_row (s := 10) da_M_shown_10 11 (by decide +kernel)
theorem dc_M_shown_22 : decode b_M_shown 22 = .ok (.getfield 16, 3) := dk_row (s := 10) da_M_shown_10 12 (by decide +kernel)
theorem dc_M_shown_25 : decode b_M_shown 25 = .ok (.aload_n 0, 1) := dk_row (s := 10) da_M_shown_10 15 (by decide +kernel)
theorem dc_M_shown_26 : decode b_M_shown 26 = .ok (.getfield 71, 3) := dk_row (s := 10) da_M_shown_10 16 (by decide +kernel)
theorem dc_M_shown_29 : decode b_M_shown 29 = .ok (.iaload, 1) := dk_row (s := 10) da_M_shown_10 19 (by decide +kernel)
theorem dc_M_shown_30 : decode b_M_shown 30 = .ok (.if_icmp .ge 188, 3) := dk_row (s := 10) da_M_shown_10 20 (by decide +kernel)
theorem dc_M_shown_33 : decode b_M_shown 33 = .ok (.aload_n 0, 1) := dk_row (s := 10) da_M_shown_10 23 (by decide +kernel)
theorem dc_M_shown_34 : decode b_M_shown 34 = .ok (.getfield 68, 3) := dk_row (s := 10) da_M_shown_10 24 (by decide +kernel)
theorem dc_M_shown_37 : decode b_M_shown 37 = .ok (.ifCond .ne 181, 3) := dk_row (s := 10) da_M_shown_10 27 (by decide +kernel)
theorem dc_M_shown_40 : decode b_M_shown 40 = .ok (.aload_n 0, 1) := dk_row (s := 10) da_M_shown_10 30 (by decide +kernel)
theorem dc_M_shown_41 : decode b_M_shown 41 = .ok (.iload_n 3, 1) := dk_row (s := 10) da_M_shown_10 31 (by decide +kernel)
def dw_M_shown_42 : ByteArray := .mk #[0xb6, 0x00, 0x5c, 0x36, 0x04, 0x1b, 0x2a, 0xb4, 0x00, 0x16, 0x15, 0x04, 0x2e, 0x2a, 0xb4, 0x00, 0x16, 0x15, 0x04, 0x2e, 0x2a, 0xb4, 0x00, 0x1c, 0x15, 0x04, 0x2e, 0x60, 0x04, 0x64]
theorem da_M_shown_42 : dkA b_M_shown dw_M_shown_42 42 := by unfold dkA; decide +kernel
theorem dc_M_shown_42 : decode b_M_shown 42 = .ok (.invokevirtual 92, 3) := dk_row (s := 42) da_M_shown_42 0 (by decide +kernel)
theorem dc_M_shown_45 : decode b_M_shown 45 = .ok (.istore 4, 2) := dk_row (s := 42) da_M_shown_42 3 (by decide +kernel)
theorem dc_M_shown_47 : decode b_M_shown 47 = .ok (.iload_n 1, 1) := dk_row (s := 42) da_M_shown_42 5 (by decide +kernel)
theorem dc_M_shown_48 : decode b_M_shown 48 = .ok (.aload_n 0, 1) := dk_row (s := 42) da_M_shown_42 6 (by decide +kernel)
theorem dc_M_shown_49 : decode b_M_shown 49 = .ok (.getfield 22, 3) := dk_row (s := 42) da_M_shown_42 7 (by decide +kernel)
theorem dc_M_shown_52 : decode b_M_shown 52 = .ok (.iload 4, 2) := dk_row (s := 42) da_M_shown_42 10 (by decide +kernel)
theorem dc_M_shown_54 : decode b_M_shown 54 = .ok (.iaload, 1) := dk_row (s := 42) da_M_shown_42 12 (by decide +kernel)
theorem dc_M_shown_55 : decode b_M_shown 55 = .ok (.aload_n 0, 1) := dk_row (s := 42) da_M_shown_42 13 (by decide +kernel)
theorem dc_M_shown_56 : decode b_M_shown 56 = .ok (.getfield 22, 3) := dk_row (s := 42) da_M_shown_42 14 (by decide +kernel)
theorem dc_M_shown_59 : decode b_M_shown 59 = .ok (.iload 4, 2) := dk_row (s := 42) da_M_shown_42 17 (by decide +kernel)
theorem dc_M_shown_61 : decode b_M_shown 61 = .ok (.iaload, 1) := dk_row (s := 42) da_M_shown_42 19 (by decide +kernel)
theorem dc_M_shown_62 : decode b_M_shown 62 = .ok (.aload_n 0, 1) := dk_row (s := 42) da_M_shown_42 20 (by decide +kernel)
theorem dc_M_shown_63 : decode b_M_shown 63 = .ok (.getfield 28, 3) := dk_row (s := 42) da_M_shown_42 21 (by decide +kernel)
theorem dc_M_shown_66 : decode b_M_shown 66 = .ok (.iload 4, 2) := dk_row (s := 42) da_M_shown_42 24 (by decide +kernel)
theorem dc_M_shown_68 : decode b_M_shown 68 = .ok (.iaload, 1) := dk_row (s := 42) da_M_shown_42 26 (by decide +kernel)
theorem dc_M_shown_69 : decode b_M_shown 69 = .ok (.iadd, 1) := dk_row (s := 42) da_M_shown_42 27 (by decide +kernel)
theorem dc_M_shown_70 : decode b_M_shown 70 = .ok (.iconst 1, 1) := dk_row (s := 42) da_M_shown_42 28 (by decide +kernel)
theorem dc_M_shown_71 : decode b_M_shown 71 = .ok (.isub, 1) := dk_row (s := 42) da_M_shown_42 29 (by decide +kernel)
def dw_M_shown_72 : ByteArray := .mk #[0xb8, 0x00, 0x54, 0x99, 0x00, 0x89, 0x1c, 0x2a, 0xb4, 0x00, 0x19, 0x15, 0x04, 0x2e, 0x2a, 0xb4, 0x00, 0x19, 0x15, 0x04, 0x2e, 0x2a, 0xb4, 0x00, 0x1f, 0x15, 0x04, 0x2e, 0x60, 0x04, 0x64]
theorem da_M_shown_72 : dkA b_M_shown dw_M_shown_72 72 := by unfold dkA; decide +kernel
theorem dc_M_shown_72 : decode b_M_shown 72 = .ok (.invokestatic 84, 3) := dk_row (s := 72) da_M_shown_72 0 (by decide +kernel)
theorem dc_M_shown_75 : decode b_M_shown 75 = .ok (.ifCond .eq 137, 3) := dk_row (s := 72) da_M_shown_72 3 (by decide +kernel)
theorem dc_M_shown_78 : decode b_M_shown 78 = .ok (.iload_n 2, 1) := dk_row (s := 72) da_M_shown_72 6 (by decide +kernel)
theorem dc_M_shown_79 : decode b_M_shown 79 = .ok (.aload_n 0, 1) := dk_row (s := 72) da_M_shown_72 7 (by decide +kernel)
theorem dc_M_shown_80 : decode b_M_shown 80 = .ok (.getfield 25, 3) := dk_row (s := 72) da_M_shown_72 8 (by decide +kernel)
theorem dc_M_shown_83 : decode b_M_shown 83 = .ok (.iload 4, 2) := dk_row (s := 72) da_M_shown_72 11 (by decide +kernel)
theorem dc_M_shown_85 : decode b_M_shown 85 = .ok (.iaload, 1) := dk_row (s := 72) da_M_shown_72 13 (by decide +kernel)
theorem dc_M_shown_86 : decode b_M_shown 86 = .ok (.aload_n 0, 1) := dk_row (s := 72) da_M_shown_72 14 (by decide +kernel)
theorem dc_M_shown_87 : decode b_M_shown 87 = .ok (.getfield 25, 3) := dk_row (s := 72) da_M_shown_72 15 (by decide +kernel)
theorem dc_M_shown_90 : decode b_M_shown 90 = .ok (.iload 4, 2) := dk_row (s := 72) da_M_shown_72 18 (by decide +kernel)
theorem dc_M_shown_92 : decode b_M_shown 92 = .ok (.iaload, 1) := dk_row (s := 72) da_M_shown_72 20 (by decide +kernel)
theorem dc_M_shown_93 : decode b_M_shown 93 = .ok (.aload_n 0, 1) := dk_row (s := 72) da_M_shown_72 21 (by decide +kernel)
theorem dc_M_shown_94 : decode b_M_shown 94 = .ok (.getfield 31, 3) := dk_row (s := 72) da_M_shown_72 22 (by decide +kernel)
theorem dc_M_shown_97 : decode b_M_shown 97 = .ok (.iload 4, 2) := dk_row (s := 72) da_M_shown_72 25 (by decide +kernel)
theorem dc_M_shown_99 : decode b_M_shown 99 = .ok (.iaload, 1) := dk_row (s := 72) da_M_shown_72 27 (by decide +kernel)
theorem dc_M_shown_100 : decode b_M_shown 100 = .ok (.iadd, 1) := dk_row (s := 72) da_M_shown_72 28 (by decide +kernel)
theorem dc_M_shown_101 : decode b_M_shown 101 = .ok (.iconst 1, 1) := dk_row (s := 72) da_M_shown_72 29 (by decide +kernel)
theorem dc_M_shown_102 : decode b_M_shown 102 = .ok (.isub, 1) := dk_row (s := 72) da_M_shown_72 30 (by decide +kernel)
def dw_M_shown_103 : ByteArray := .mk #[0xb8, 0x00, 0x54, 0x99, 0x00, 0x6a, 0x2a, 0xb4, 0x00, 0x22, 0x15, 0x04, 0x2e, 0xb8, 0x00, 0x7b, 0x99, 0x00, 0x0d, 0x2a, 0xb4, 0x00, 0x1f, 0x15, 0x04, 0x2e, 0xa7, 0x00, 0x0a, 0x2a]
theorem da_M_shown_103 : dkA b_M_shown dw_M_shown_103 103 := by unfold dkA; decide +kernel
theorem dc_M_shown_103 : decode b_M_shown 103 = .ok (.invokestatic 84, 3) := dk_row (s := 103) da_M_shown_103 0 (by decide +kernel)
theorem dc_M_shown_106 : decode b_M_shown 106 = .ok (.ifCond .eq 106, 3) := dk_row (s := 103) da_M_shown_103 3 (by decide +kernel)
theorem dc_M_shown_109 : decode b_M_shown 109 = .ok (.aload_n 0, 1) := dk_row (s := 103) da_M_shown_103 6 (by decide +kernel)
theorem dc_M_shown_110 : decode b_M_shown 110 = .ok (.getfield 34, 3) := dk_row (s := 103) da_M_shown_103 7 (by decide +kernel)
theorem dc_M_shown_113 : decode b_M_shown 113 = .ok (.iload 4, 2) := dk_row (s := 103) da_M_shown_103 10 (by decide +kernel)
theorem dc_M_shown_115 : decode b_M_shown 115 = .ok (.iaload, 1) := dk_row (s := 103) da_M_shown_103 12 (by decide +kernel)
theorem dc_M_shown_116 : decode b_M_shown 116 = .ok (.invokestatic 123, 3) := dk_row (s := 103) da_M_shown_103 13 (by decide +kernel)
theorem dc_M_shown_119 : decode b_M_shown 119 = .ok (.ifCond .eq 13, 3) := dk_row (s := 103) da_M_shown_103 16 (by decide +kernel)
theorem dc_M_shown_132 : decode b_M_shown 132 = .ok (.aload_n 0, 1) := dk_row (s := 103) da_M_shown_103 29 (by decide +kernel)
theorem dc_M_shown_133 : decode b_M_shown 133 = .ok (.getfield 28, 3) := by decide +kernel
theorem dc_M_shown_136 : decode b_M_shown 136 = .ok (.iload 4, 2) := by decide +kernel
theorem dc_M_shown_138 : decode b_M_shown 138 = .ok (.iaload, 1) := by decide +kernel
def dw_M_shown_122 : ByteArray := .mk #[0x2a, 0xb4, 0x00, 0x1f, 0x15, 0x04, 0x2e, 0xa7, 0x00, 0x0a, 0x2a, 0xb4, 0x00, 0x1c, 0x15, 0x04, 0x2e, 0x36, 0x05, 0x2a, 0xb4, 0x00, 0x22, 0x15, 0x04, 0x2e, 0xb8, 0x00, 0x7b, 0x99, 0x00, 0x0d]
theorem da_M_shown_122 : dkA b_M_shown dw_M_shown_122 122 := by unfold dkA; decide +kernel
theorem dc_M_shown_122 : decode b_M_shown 122 = .ok (.aload_n 0, 1) := dk_row (s := 122) da_M_shown_122 0 (by decide +kernel)
theorem dc_M_shown_123 : decode b_M_shown 123 = .ok (.getfield 31, 3) := dk_row (s := 122) da_M_shown_122 1 (by decide +kernel)
theorem dc_M_shown_126 : decode b_M_shown 126 = .ok (.iload 4, 2) := dk_row (s := 122) da_M_shown_122 4 (by decide +kernel)
theorem dc_M_shown_128 : decode b_M_shown 128 = .ok (.iaload, 1) := dk_row (s := 122) da_M_shown_122 6 (by decide +kernel)
theorem dc_M_shown_129 : decode b_M_shown 129 = .ok (.goto 10, 3) := dk_row (s := 122) da_M_shown_122 7 (by decide +kernel)
theorem dc_M_shown_139 : decode b_M_shown 139 = .ok (.istore 5, 2) := dk_row (s := 122) da_M_shown_122 17 (by decide +kernel)
theorem dc_M_shown_141 : decode b_M_shown 141 = .ok (.aload_n 0, 1) := dk_row (s := 122) da_M_shown_122 19 (by decide +kernel)
theorem dc_M_shown_142 : decode b_M_shown 142 = .ok (.getfield 34, 3) := dk_row (s := 122) da_M_shown_122 20 (by decide +kernel)
theorem dc_M_shown_145 : decode b_M_shown 145 = .ok (.iload 4, 2) := dk_row (s := 122) da_M_shown_122 23 (by decide +kernel)
theorem dc_M_shown_147 : decode b_M_shown 147 = .ok (.iaload, 1) := dk_row (s := 122) da_M_shown_122 25 (by decide +kernel)
theorem dc_M_shown_148 : decode b_M_shown 148 = .ok (.invokestatic 123, 3) := dk_row (s := 122) da_M_shown_122 26 (by decide +kernel)
theorem dc_M_shown_151 : decode b_M_shown 151 = .ok (.ifCond .eq 13, 3) := dk_row (s := 122) da_M_shown_122 29 (by decide +kernel)
def dw_M_shown_164 : ByteArray := .mk #[0x2a, 0xb4, 0x00, 0x1f, 0x15, 0x04, 0x2e]
theorem da_M_shown_164 : dkA b_M_shown dw_M_shown_164 164 := by unfold dkA; decide +kernel
theorem dc_M_shown_164 : decode b_M_shown 164 = .ok (.aload_n 0, 1) := dk_row (s := 164) da_M_shown_164 0 (by decide +kernel)
theorem dc_M_shown_165 : decode b_M_shown 165 = .ok (.getfield 31, 3) := dk_row (s := 164) da_M_shown_164 1 (by decide +kernel)
theorem dc_M_shown_168 : decode b_M_shown 168 = .ok (.iload 4, 2) := dk_row (s := 164) da_M_shown_164 4 (by decide +kernel)
theorem dc_M_shown_170 : decode b_M_shown 170 = .ok (.iaload, 1) := dk_row (s := 164) da_M_shown_164 6 (by decide +kernel)
def dw_M_shown_154 : ByteArray := .mk #[0x2a, 0xb4, 0x00, 0x1c, 0x15, 0x04, 0x2e, 0xa7, 0x00, 0x0a, 0x2a, 0xb4, 0x00, 0x1f, 0x15, 0x04, 0x2e, 0x36, 0x06, 0x11, 0x10, 0x00, 0x1d, 0x68, 0x2a, 0xb4, 0x00, 0x22, 0x15, 0x04, 0x2e, 0x1b]
theorem da_M_shown_154 : dkA b_M_shown dw_M_shown_154 154 := by unfold dkA; decide +kernel
theorem dc_M_shown_154 : decode b_M_shown 154 = .ok (.aload_n 0, 1) := dk_row (s := 154) da_M_shown_154 0 (by decide +kernel)
theorem dc_M_shown_155 : decode b_M_shown 155 = .ok (.getfield 28, 3) := dk_row (s := 154) da_M_shown_154 1 (by decide +kernel)
theorem dc_M_shown_158 : decode b_M_shown 158 = .ok (.iload 4, 2) := dk_row (s := 154) da_M_shown_154 4 (by decide +kernel)
theorem dc_M_shown_160 : decode b_M_shown 160 = .ok (.iaload, 1) := dk_row (s := 154) da_M_shown_154 6 (by decide +kernel)
theorem dc_M_shown_161 : decode b_M_shown 161 = .ok (.goto 10, 3) := dk_row (s := 154) da_M_shown_154 7 (by decide +kernel)
theorem dc_M_shown_171 : decode b_M_shown 171 = .ok (.istore 6, 2) := dk_row (s := 154) da_M_shown_154 17 (by decide +kernel)
theorem dc_M_shown_173 : decode b_M_shown 173 = .ok (.sipush 4096, 3) := dk_row (s := 154) da_M_shown_154 19 (by decide +kernel)
theorem dc_M_shown_176 : decode b_M_shown 176 = .ok (.iload_n 3, 1) := dk_row (s := 154) da_M_shown_154 22 (by decide +kernel)
theorem dc_M_shown_177 : decode b_M_shown 177 = .ok (.imul, 1) := dk_row (s := 154) da_M_shown_154 23 (by decide +kernel)
theorem dc_M_shown_178 : decode b_M_shown 178 = .ok (.aload_n 0, 1) := dk_row (s := 154) da_M_shown_154 24 (by decide +kernel)
theorem dc_M_shown_179 : decode b_M_shown 179 = .ok (.getfield 34, 3) := dk_row (s := 154) da_M_shown_154 25 (by decide +kernel)
theorem dc_M_shown_182 : decode b_M_shown 182 = .ok (.iload 4, 2) := dk_row (s := 154) da_M_shown_154 28 (by decide +kernel)
theorem dc_M_shown_184 : decode b_M_shown 184 = .ok (.iaload, 1) := dk_row (s := 154) da_M_shown_154 30 (by decide +kernel)
theorem dc_M_shown_185 : decode b_M_shown 185 = .ok (.iload_n 1, 1) := dk_row (s := 154) da_M_shown_154 31 (by decide +kernel)
def dw_M_shown_186 : ByteArray := .mk #[0x2a, 0xb4, 0x00, 0x16, 0x15, 0x04, 0x2e, 0x64, 0x1c, 0x2a, 0xb4, 0x00, 0x19, 0x15, 0x04, 0x2e, 0x64, 0x15, 0x05, 0x15, 0x06, 0xb8, 0x00, 0x82, 0x60, 0xac, 0x84, 0x03, 0x01, 0xa7, 0xff, 0x3d]
theorem da_M_shown_186 : dkA b_M_shown dw_M_shown_186 186 := by unfold dkA; decide +kernel
theorem dc_M_shown_186 : decode b_M_shown 186 = .ok (.aload_n 0, 1) := dk_row (s := 186) da_M_shown_186 0 (by decide +kernel)
theorem dc_M_shown_187 : decode b_M_shown 187 = .ok (.getfield 22, 3) := dk_row (s := 186) da_M_shown_186 1 (by decide +kernel)
theorem dc_M_shown_190 : decode b_M_shown 190 = .ok (.iload 4, 2) := dk_row (s := 186) da_M_shown_186 4 (by decide +kernel)
theorem dc_M_shown_192 : decode b_M_shown 192 = .ok (.iaload, 1) := dk_row (s := 186) da_M_shown_186 6 (by decide +kernel)
theorem dc_M_shown_193 : decode b_M_shown 193 = .ok (.isub, 1) := dk_row (s := 186) da_M_shown_186 7 (by decide +kernel)
theorem dc_M_shown_194 : decode b_M_shown 194 = .ok (.iload_n 2, 1) := dk_row (s := 186) da_M_shown_186 8 (by decide +kernel)
theorem dc_M_shown_195 : decode b_M_shown 195 = .ok (.aload_n 0, 1) := dk_row (s := 186) da_M_shown_186 9 (by decide +kernel)
theorem dc_M_shown_196 : decode b_M_shown 196 = .ok (.getfield 25, 3) := dk_row (s := 186) da_M_shown_186 10 (by decide +kernel)
theorem dc_M_shown_199 : decode b_M_shown 199 = .ok (.iload 4, 2) := dk_row (s := 186) da_M_shown_186 13 (by decide +kernel)
theorem dc_M_shown_201 : decode b_M_shown 201 = .ok (.iaload, 1) := dk_row (s := 186) da_M_shown_186 15 (by decide +kernel)
theorem dc_M_shown_202 : decode b_M_shown 202 = .ok (.isub, 1) := dk_row (s := 186) da_M_shown_186 16 (by decide +kernel)
theorem dc_M_shown_203 : decode b_M_shown 203 = .ok (.iload 5, 2) := dk_row (s := 186) da_M_shown_186 17 (by decide +kernel)
theorem dc_M_shown_205 : decode b_M_shown 205 = .ok (.iload 6, 2) := dk_row (s := 186) da_M_shown_186 19 (by decide +kernel)
theorem dc_M_shown_207 : decode b_M_shown 207 = .ok (.invokestatic 130, 3) := dk_row (s := 186) da_M_shown_186 21 (by decide +kernel)
theorem dc_M_shown_210 : decode b_M_shown 210 = .ok (.iadd, 1) := dk_row (s := 186) da_M_shown_186 24 (by decide +kernel)
theorem dc_M_shown_211 : decode b_M_shown 211 = .ok (.ireturn, 1) := dk_row (s := 186) da_M_shown_186 25 (by decide +kernel)
theorem dc_M_shown_212 : decode b_M_shown 212 = .ok (.iinc 3 1, 3) := dk_row (s := 186) da_M_shown_186 26 (by decide +kernel)
theorem dc_M_shown_215 : decode b_M_shown 215 = .ok (.goto (-195), 3) := dk_row (s := 186) da_M_shown_186 29 (by decide +kernel)
def dw_M_shown_218 : ByteArray := .mk #[0x2a, 0xb4, 0x00, 0x44, 0x9e, 0x00, 0x07, 0x03, 0xa7, 0x00, 0x04, 0x02, 0xac]
theorem da_M_shown_218 : dkA b_M_shown dw_M_shown_218 218 := by unfold dkA; decide +kernel
theorem dc_M_shown_218 : decode b_M_shown 218 = .ok (.aload_n 0, 1) := dk_row (s := 218) da_M_shown_218 0 (by decide +kernel)
theorem dc_M_shown_219 : decode b_M_shown 219 = .ok (.getfield 68, 3) := dk_row (s := 218) da_M_shown_218 1 (by decide +kernel)
theorem dc_M_shown_222 : decode b_M_shown 222 = .ok (.ifCond .le 7, 3) := dk_row (s := 218) da_M_shown_218 4 (by decide +kernel)
theorem dc_M_shown_229 : decode b_M_shown 229 = .ok (.iconst (-1), 1) := dk_row (s := 218) da_M_shown_218 11 (by decide +kernel)
theorem dc_M_shown_230 : decode b_M_shown 230 = .ok (.ireturn, 1) := dk_row (s := 218) da_M_shown_218 12 (by decide +kernel)
theorem dc_M_shown_225 : decode b_M_shown 225 = .ok (.iconst 0, 1) := by decide +kernel
theorem dc_M_shown_226 : decode b_M_shown 226 = .ok (.goto 4, 3) := by decide +kernel
theorem dc_M_pointer_0 : decode b_M_pointer 0 = .ok (.aload_n 0, 1) := by decide +kernel
theorem dc_M_pointer_1 : decode b_M_pointer 1 = .ok (.aload_n 0, 1) := by decide +kernel
theorem dc_M_pointer_2 : decode b_M_pointer 2 = .ok (.iload_n 1, 1) := by decide +kernel
theorem dc_M_pointer_3 : decode b_M_pointer 3 = .ok (.invokevirtual 96, 3) := by decide +kernel
theorem dc_M_pointer_6 : decode b_M_pointer 6 = .ok (.ifCond .eq 7, 3) := by decide +kernel
theorem dc_M_pointer_13 : decode b_M_pointer 13 = .ok (.iconst 1, 1) := by decide +kernel
theorem dc_M_pointer_9 : decode b_M_pointer 9 = .ok (.iconst 0, 1) := by decide +kernel
theorem dc_M_pointer_10 : decode b_M_pointer 10 = .ok (.goto 4, 3) := by decide +kernel
theorem dc_M_pointer_14 : decode b_M_pointer 14 = .ok (.putfield 68, 3) := by decide +kernel
theorem dc_M_pointer_17 : decode b_M_pointer 17 = .ok (.aload_n 0, 1) := by decide +kernel
theorem dc_M_pointer_18 : decode b_M_pointer 18 = .ok (.getfield 68, 3) := by decide +kernel
theorem dc_M_pointer_21 : decode b_M_pointer 21 = .ok (.ifCond .le 7, 3) := by decide +kernel
theorem dc_M_pointer_28 : decode b_M_pointer 28 = .ok (.aload_n 0, 1) := by decide +kernel
theorem dc_M_pointer_29 : decode b_M_pointer 29 = .ok (.iload_n 1, 1) := by decide +kernel
theorem dc_M_pointer_30 : decode b_M_pointer 30 = .ok (.invokevirtual 143, 3) := by decide +kernel
theorem dc_M_pointer_33 : decode b_M_pointer 33 = .ok (.ireturn, 1) := by decide +kernel
theorem dc_M_pointer_24 : decode b_M_pointer 24 = .ok (.iconst 0, 1) := by decide +kernel
theorem dc_M_pointer_25 : decode b_M_pointer 25 = .ok (.goto 8, 3) := by decide +kernel
def dw_M_tellPart_0 : ByteArray := .mk #[0x2a, 0xb4, 0x00, 0x51, 0x3d, 0x2a, 0x2a, 0xb4, 0x00, 0x16, 0x1b, 0x2e, 0xb6, 0x00, 0x92, 0x2a, 0x2a, 0xb4, 0x00, 0x19, 0x1b, 0x2e, 0xb6, 0x00, 0x92, 0x2a, 0x2a, 0xb4, 0x00, 0x1c, 0x1b, 0x2e]
theorem da_M_tellPart_0 : dkA b_M_tellPart dw_M_tellPart_0 0 := by unfold dkA; decide +kernel
theorem dc_M_tellPart_0 : decode b_M_tellPart 0 = .ok (.aload_n 0, 1) := dk_row (s := 0) da_M_tellPart_0 0 (by decide +kernel)
theorem dc_M_tellPart_1 : decode b_M_tellPart 1 = .ok (.getfield 81, 3) := dk_row (s := 0) da_M_tellPart_0 1 (by decide +kernel)
theorem dc_M_tellPart_4 : decode b_M_tellPart 4 = .ok (.istore_n 2, 1) := dk_row (s := 0) da_M_tellPart_0 4 (by decide +kernel)
theorem dc_M_tellPart_5 : decode b_M_tellPart 5 = .ok (.aload_n 0, 1) := dk_row (s := 0) da_M_tellPart_0 5 (by decide +kernel)
theorem dc_M_tellPart_6 : decode b_M_tellPart 6 = .ok (.aload_n 0, 1) := dk_row (s := 0) da_M_tellPart_0 6 (by decide +kernel)
theorem dc_M_tellPart_7 : decode b_M_tellPart 7 = .ok (.getfield 22, 3) := dk_row (s := 0) da_M_tellPart_0 7 (by decide +kernel)
theorem dc_M_tellPart_10 : decode b_M_tellPart 10 = .ok (.iload_n 1, 1) := dk_row (s := 0) da_M_tellPart_0 10 (by decide +kernel)
theorem dc_M_tellPart_11 : decode b_M_tellPart 11 = .ok (.iaload, 1) := dk_row (s := 0) da_M_tellPart_0 11 (by decide +kernel)
theorem dc_M_tellPart_12 : decode b_M_tellPart 12 = .ok (.invokevirtual 146, 3) := dk_row (s := 0) da_M_tellPart_0 12 (by decide +kernel)
theorem dc_M_tellPart_15 : decode b_M_tellPart 15 = .ok (.aload_n 0, 1) := dk_row (s := 0) da_M_tellPart_0 15 (by decide +kernel)
theorem dc_M_tellPart_16 : decode b_M_tellPart 16 = .ok (.aload_n 0, 1) := dk_row (s := 0) da_M_tellPart_0 16 (by decide +kernel)
theorem dc_M_tellPart_17 : decode b_M_tellPart 17 = .ok (.getfield 25, 3) := dk_row (s := 0) da_M_tellPart_0 17 (by decide +kernel)
theorem dc_M_tellPart_20 : decode b_M_tellPart 20 = .ok (.iload_n 1, 1) := dk_row (s := 0) da_M_tellPart_0 20 (by decide +kernel)
theorem dc_M_tellPart_21 : decode b_M_tellPart 21 = .ok (.iaload, 1) := dk_row (s := 0) da_M_tellPart_0 21 (by decide +kernel)
theorem dc_M_tellPart_22 : decode b_M_tellPart 22 = .ok (.invokevirtual 146, 3) := dk_row (s := 0) da_M_tellPart_0 22 (by decide +kernel)
theorem dc_M_tellPart_25 : decode b_M_tellPart 25 = .ok (.aload_n 0, 1) := dk_row (s := 0) da_M_tellPart_0 25 (by decide +kernel)
theorem dc_M_tellPart_26 : decode b_M_tellPart 26 = .ok (.aload_n 0, 1) := dk_row (s := 0) da_M_tellPart_0 26 (by decide +kernel)
theorem dc_M_tellPart_27 : decode b_M_tellPart 27 = .ok (.getfield 28, 3) := dk_row (s := 0) da_M_tellPart_0 27 (by decide +kernel)
theorem dc_M_tellPart_30 : decode b_M_tellPart 30 = .ok (.iload_n 1, 1) := dk_row (s := 0) da_M_tellPart_0 30 (by decide +kernel)
theorem dc_M_tellPart_31 : decode b_M_tellPart 31 = .ok (.iaload, 1) := dk_row (s := 0) da_M_tellPart_0 31 (by decide +kernel)
def dw_M_tellPart_32 : ByteArray := .mk #[0xb6, 0x00, 0x92, 0x2a, 0x2a, 0xb4, 0x00, 0x1f, 0x1b, 0x2e, 0xb6, 0x00, 0x92, 0x2a, 0x2a, 0xb4, 0x00, 0x22, 0x1b, 0x2e, 0xb6, 0x00, 0x85, 0x2a, 0x2a, 0xb4, 0x00, 0x25, 0x1b, 0x2e]
theorem da_M_tellPart_32 : dkA b_M_tellPart dw_M_tellPart_32 32 := by unfold dkA; decide +kernel
theorem dc_M_tellPart_32 : decode b_M_tellPart 32 = .ok (.invokevirtual 146, 3) := dk_row (s := 32) da_M_tellPart_32 0 (by decide +kernel)
theorem dc_M_tellPart_35 : decode b_M_tellPart 35 = .ok (.aload_n 0, 1) := dk_row (s := 32) da_M_tellPart_32 3 (by decide +kernel)
theorem dc_M_tellPart_36 : decode b_M_tellPart 36 = .ok (.aload_n 0, 1) := dk_row (s := 32) da_M_tellPart_32 4 (by decide +kernel)
theorem dc_M_tellPart_37 : decode b_M_tellPart 37 = .ok (.getfield 31, 3) := dk_row (s := 32) da_M_tellPart_32 5 (by decide +kernel)
theorem dc_M_tellPart_40 : decode b_M_tellPart 40 = .ok (.iload_n 1, 1) := dk_row (s := 32) da_M_tellPart_32 8 (by decide +kernel)
theorem dc_M_tellPart_41 : decode b_M_tellPart 41 = .ok (.iaload, 1) := dk_row (s := 32) da_M_tellPart_32 9 (by decide +kernel)
theorem dc_M_tellPart_42 : decode b_M_tellPart 42 = .ok (.invokevirtual 146, 3) := dk_row (s := 32) da_M_tellPart_32 10 (by decide +kernel)
theorem dc_M_tellPart_45 : decode b_M_tellPart 45 = .ok (.aload_n 0, 1) := dk_row (s := 32) da_M_tellPart_32 13 (by decide +kernel)
theorem dc_M_tellPart_46 : decode b_M_tellPart 46 = .ok (.aload_n 0, 1) := dk_row (s := 32) da_M_tellPart_32 14 (by decide +kernel)
theorem dc_M_tellPart_47 : decode b_M_tellPart 47 = .ok (.getfield 34, 3) := dk_row (s := 32) da_M_tellPart_32 15 (by decide +kernel)
theorem dc_M_tellPart_50 : decode b_M_tellPart 50 = .ok (.iload_n 1, 1) := dk_row (s := 32) da_M_tellPart_32 18 (by decide +kernel)
theorem dc_M_tellPart_51 : decode b_M_tellPart 51 = .ok (.iaload, 1) := dk_row (s := 32) da_M_tellPart_32 19 (by decide +kernel)
theorem dc_M_tellPart_52 : decode b_M_tellPart 52 = .ok (.invokevirtual 133, 3) := dk_row (s := 32) da_M_tellPart_32 20 (by decide +kernel)
theorem dc_M_tellPart_55 : decode b_M_tellPart 55 = .ok (.aload_n 0, 1) := dk_row (s := 32) da_M_tellPart_32 23 (by decide +kernel)
theorem dc_M_tellPart_56 : decode b_M_tellPart 56 = .ok (.aload_n 0, 1) := dk_row (s := 32) da_M_tellPart_32 24 (by decide +kernel)
theorem dc_M_tellPart_57 : decode b_M_tellPart 57 = .ok (.getfield 37, 3) := dk_row (s := 32) da_M_tellPart_32 25 (by decide +kernel)
theorem dc_M_tellPart_60 : decode b_M_tellPart 60 = .ok (.iload_n 1, 1) := dk_row (s := 32) da_M_tellPart_32 28 (by decide +kernel)
theorem dc_M_tellPart_61 : decode b_M_tellPart 61 = .ok (.iaload, 1) := dk_row (s := 32) da_M_tellPart_32 29 (by decide +kernel)
def dw_M_tellPart_62 : ByteArray := .mk #[0xb6, 0x00, 0x85, 0x03, 0x3e, 0x1d, 0x2a, 0xb4, 0x00, 0x25, 0x1b, 0x2e, 0xa2, 0x00, 0x18]
theorem da_M_tellPart_62 : dkA b_M_tellPart dw_M_tellPart_62 62 := by unfold dkA; decide +kernel
theorem dc_M_tellPart_62 : decode b_M_tellPart 62 = .ok (.invokevirtual 133, 3) := dk_row (s := 62) da_M_tellPart_62 0 (by decide +kernel)
theorem dc_M_tellPart_65 : decode b_M_tellPart 65 = .ok (.iconst 0, 1) := dk_row (s := 62) da_M_tellPart_62 3 (by decide +kernel)
theorem dc_M_tellPart_66 : decode b_M_tellPart 66 = .ok (.istore_n 3, 1) := dk_row (s := 62) da_M_tellPart_62 4 (by decide +kernel)
theorem dc_M_tellPart_67 : decode b_M_tellPart 67 = .ok (.iload_n 3, 1) := dk_row (s := 62) da_M_tellPart_62 5 (by decide +kernel)
theorem dc_M_tellPart_68 : decode b_M_tellPart 68 = .ok (.aload_n 0, 1) := dk_row (s := 62) da_M_tellPart_62 6 (by decide +kernel)
theorem dc_M_tellPart_69 : decode b_M_tellPart 69 = .ok (.getfield 37, 3) := dk_row (s := 62) da_M_tellPart_62 7 (by decide +kernel)
theorem dc_M_tellPart_72 : decode b_M_tellPart 72 = .ok (.iload_n 1, 1) := dk_row (s := 62) da_M_tellPart_62 10 (by decide +kernel)
theorem dc_M_tellPart_73 : decode b_M_tellPart 73 = .ok (.iaload, 1) := dk_row (s := 62) da_M_tellPart_62 11 (by decide +kernel)
theorem dc_M_tellPart_74 : decode b_M_tellPart 74 = .ok (.if_icmp .ge 24, 3) := dk_row (s := 62) da_M_tellPart_62 12 (by decide +kernel)
def dw_M_tellPart_98 : ByteArray := .mk #[0x04, 0x3e, 0x1c, 0x36, 0x04]
theorem da_M_tellPart_98 : dkA b_M_tellPart dw_M_tellPart_98 98 := by unfold dkA; decide +kernel
theorem dc_M_tellPart_98 : decode b_M_tellPart 98 = .ok (.iconst 1, 1) := dk_row (s := 98) da_M_tellPart_98 0 (by decide +kernel)
theorem dc_M_tellPart_99 : decode b_M_tellPart 99 = .ok (.istore_n 3, 1) := dk_row (s := 98) da_M_tellPart_98 1 (by decide +kernel)
theorem dc_M_tellPart_100 : decode b_M_tellPart 100 = .ok (.iload_n 2, 1) := dk_row (s := 98) da_M_tellPart_98 2 (by decide +kernel)
theorem dc_M_tellPart_101 : decode b_M_tellPart 101 = .ok (.istore 4, 2) := dk_row (s := 98) da_M_tellPart_98 3 (by decide +kernel)
def dw_M_tellPart_77 : ByteArray := .mk #[0x2a, 0x2a, 0xb4, 0x00, 0x28, 0x10, 0x0c, 0x1b, 0x68, 0x1d, 0x60, 0x2e, 0xb6, 0x00, 0x85, 0x84, 0x03, 0x01, 0xa7, 0xff, 0xe4, 0x04, 0x3e, 0x1c, 0x36, 0x04, 0x15, 0x04, 0x2a, 0xb4, 0x00, 0x51]
theorem da_M_tellPart_77 : dkA b_M_tellPart dw_M_tellPart_77 77 := by unfold dkA; decide +kernel
theorem dc_M_tellPart_77 : decode b_M_tellPart 77 = .ok (.aload_n 0, 1) := dk_row (s := 77) da_M_tellPart_77 0 (by decide +kernel)
theorem dc_M_tellPart_78 : decode b_M_tellPart 78 = .ok (.aload_n 0, 1) := dk_row (s := 77) da_M_tellPart_77 1 (by decide +kernel)
theorem dc_M_tellPart_79 : decode b_M_tellPart 79 = .ok (.getfield 40, 3) := dk_row (s := 77) da_M_tellPart_77 2 (by decide +kernel)
theorem dc_M_tellPart_82 : decode b_M_tellPart 82 = .ok (.bipush 12, 2) := dk_row (s := 77) da_M_tellPart_77 5 (by decide +kernel)
theorem dc_M_tellPart_84 : decode b_M_tellPart 84 = .ok (.iload_n 1, 1) := dk_row (s := 77) da_M_tellPart_77 7 (by decide +kernel)
theorem dc_M_tellPart_85 : decode b_M_tellPart 85 = .ok (.imul, 1) := dk_row (s := 77) da_M_tellPart_77 8 (by decide +kernel)
theorem dc_M_tellPart_86 : decode b_M_tellPart 86 = .ok (.iload_n 3, 1) := dk_row (s := 77) da_M_tellPart_77 9 (by decide +kernel)
theorem dc_M_tellPart_87 : decode b_M_tellPart 87 = .ok (.iadd, 1) := dk_row (s := 77) da_M_tellPart_77 10 (by decide +kernel)
theorem dc_M_tellPart_88 : decode b_M_tellPart 88 = .ok (.iaload, 1) := dk_row (s := 77) da_M_tellPart_77 11 (by decide +kernel)
theorem dc_M_tellPart_89 : decode b_M_tellPart 89 = .ok (.invokevirtual 133, 3) := dk_row (s := 77) da_M_tellPart_77 12 (by decide +kernel)
theorem dc_M_tellPart_92 : decode b_M_tellPart 92 = .ok (.iinc 3 1, 3) := dk_row (s := 77) da_M_tellPart_77 15 (by decide +kernel)
theorem dc_M_tellPart_95 : decode b_M_tellPart 95 = .ok (.goto (-28), 3) := dk_row (s := 77) da_M_tellPart_77 18 (by decide +kernel)
theorem dc_M_tellPart_103 : decode b_M_tellPart 103 = .ok (.iload 4, 2) := dk_row (s := 77) da_M_tellPart_77 26 (by decide +kernel)
theorem dc_M_tellPart_105 : decode b_M_tellPart 105 = .ok (.aload_n 0, 1) := dk_row (s := 77) da_M_tellPart_77 28 (by decide +kernel)
theorem dc_M_tellPart_106 : decode b_M_tellPart 106 = .ok (.getfield 81, 3) := dk_row (s := 77) da_M_tellPart_77 29 (by decide +kernel)
def dw_M_tellPart_109 : ByteArray := .mk #[0xa2, 0x00, 0x19, 0x10, 0x1f, 0x1d, 0x68, 0x2a, 0xb4, 0x00, 0x37, 0x15, 0x04, 0x2e, 0x60, 0x12, 0x95, 0x70, 0x3e, 0x84, 0x04, 0x01, 0xa7, 0xff, 0xe4, 0x2a, 0x1d, 0xb6, 0x00, 0x92, 0xb1]
theorem da_M_tellPart_109 : dkA b_M_tellPart dw_M_tellPart_109 109 := by unfold dkA; decide +kernel
theorem dc_M_tellPart_109 : decode b_M_tellPart 109 = .ok (.if_icmp .ge 25, 3) := dk_row (s := 109) da_M_tellPart_109 0 (by decide +kernel)
theorem dc_M_tellPart_134 : decode b_M_tellPart 134 = .ok (.aload_n 0, 1) := dk_row (s := 109) da_M_tellPart_109 25 (by decide +kernel)
theorem dc_M_tellPart_135 : decode b_M_tellPart 135 = .ok (.iload_n 3, 1) := dk_row (s := 109) da_M_tellPart_109 26 (by decide +kernel)
theorem dc_M_tellPart_136 : decode b_M_tellPart 136 = .ok (.invokevirtual 146, 3) := dk_row (s := 109) da_M_tellPart_109 27 (by decide +kernel)
theorem dc_M_tellPart_139 : decode b_M_tellPart 139 = .ok (.return_, 1) := dk_row (s := 109) da_M_tellPart_109 30 (by decide +kernel)
def dw_M_tellPart_112 : ByteArray := .mk #[0x10, 0x1f, 0x1d, 0x68, 0x2a, 0xb4, 0x00, 0x37, 0x15, 0x04, 0x2e, 0x60, 0x12, 0x95, 0x70, 0x3e, 0x84, 0x04, 0x01, 0xa7, 0xff, 0xe4]
theorem da_M_tellPart_112 : dkA b_M_tellPart dw_M_tellPart_112 112 := by unfold dkA; decide +kernel
theorem dc_M_tellPart_112 : decode b_M_tellPart 112 = .ok (.bipush 31, 2) := dk_row (s := 112) da_M_tellPart_112 0 (by decide +kernel)
theorem dc_M_tellPart_114 : decode b_M_tellPart 114 = .ok (.iload_n 3, 1) := dk_row (s := 112) da_M_tellPart_112 2 (by decide +kernel)
theorem dc_M_tellPart_115 : decode b_M_tellPart 115 = .ok (.imul, 1) := dk_row (s := 112) da_M_tellPart_112 3 (by decide +kernel)
theorem dc_M_tellPart_116 : decode b_M_tellPart 116 = .ok (.aload_n 0, 1) := dk_row (s := 112) da_M_tellPart_112 4 (by decide +kernel)
theorem dc_M_tellPart_117 : decode b_M_tellPart 117 = .ok (.getfield 55, 3) := dk_row (s := 112) da_M_tellPart_112 5 (by decide +kernel)
theorem dc_M_tellPart_120 : decode b_M_tellPart 120 = .ok (.iload 4, 2) := dk_row (s := 112) da_M_tellPart_112 8 (by decide +kernel)
theorem dc_M_tellPart_122 : decode b_M_tellPart 122 = .ok (.iaload, 1) := dk_row (s := 112) da_M_tellPart_112 10 (by decide +kernel)
theorem dc_M_tellPart_123 : decode b_M_tellPart 123 = .ok (.iadd, 1) := dk_row (s := 112) da_M_tellPart_112 11 (by decide +kernel)
theorem dc_M_tellPart_124 : decode b_M_tellPart 124 = .ok (.ldc 149, 2) := dk_row (s := 112) da_M_tellPart_112 12 (by decide +kernel)
theorem dc_M_tellPart_126 : decode b_M_tellPart 126 = .ok (.irem, 1) := dk_row (s := 112) da_M_tellPart_112 14 (by decide +kernel)
theorem dc_M_tellPart_127 : decode b_M_tellPart 127 = .ok (.istore_n 3, 1) := dk_row (s := 112) da_M_tellPart_112 15 (by decide +kernel)
theorem dc_M_tellPart_128 : decode b_M_tellPart 128 = .ok (.iinc 4 1, 3) := dk_row (s := 112) da_M_tellPart_112 16 (by decide +kernel)
theorem dc_M_tellPart_131 : decode b_M_tellPart 131 = .ok (.goto (-28), 3) := dk_row (s := 112) da_M_tellPart_112 19 (by decide +kernel)
def dw_M_crop_0 : ByteArray := .mk #[0x2a, 0x1d, 0x04, 0xa1, 0x00, 0x15, 0x15, 0x04, 0x04, 0xa1, 0x00, 0x0f, 0x2a, 0x1b, 0x1c, 0x1d, 0x15, 0x04, 0xb6, 0x00, 0x58, 0x9a, 0x00, 0x07, 0x04, 0xa7, 0x00, 0x04, 0x03, 0xb5, 0x00, 0x44]
theorem da_M_crop_0 : dkA b_M_crop dw_M_crop_0 0 := by unfold dkA; decide +kernel
theorem dc_M_crop_0 : decode b_M_crop 0 = .ok (.aload_n 0, 1) := dk_row (s := 0) da_M_crop_0 0 (by decide +kernel)
theorem dc_M_crop_1 : decode b_M_crop 1 = .ok (.iload_n 3, 1) := dk_row (s := 0) da_M_crop_0 1 (by decide +kernel)
theorem dc_M_crop_2 : decode b_M_crop 2 = .ok (.iconst 1, 1) := dk_row (s := 0) da_M_crop_0 2 (by decide +kernel)
theorem dc_M_crop_3 : decode b_M_crop 3 = .ok (.if_icmp .lt 21, 3) := dk_row (s := 0) da_M_crop_0 3 (by decide +kernel)
theorem dc_M_crop_6 : decode b_M_crop 6 = .ok (.iload 4, 2) := dk_row (s := 0) da_M_crop_0 6 (by decide +kernel)
theorem dc_M_crop_8 : decode b_M_crop 8 = .ok (.iconst 1, 1) := dk_row (s := 0) da_M_crop_0 8 (by decide +kernel)
theorem dc_M_crop_9 : decode b_M_crop 9 = .ok (.if_icmp .lt 15, 3) := dk_row (s := 0) da_M_crop_0 9 (by decide +kernel)
theorem dc_M_crop_12 : decode b_M_crop 12 = .ok (.aload_n 0, 1) := dk_row (s := 0) da_M_crop_0 12 (by decide +kernel)
theorem dc_M_crop_13 : decode b_M_crop 13 = .ok (.iload_n 1, 1) := dk_row (s := 0) da_M_crop_0 13 (by decide +kernel)
theorem dc_M_crop_14 : decode b_M_crop 14 = .ok (.iload_n 2, 1) := dk_row (s := 0) da_M_crop_0 14 (by decide +kernel)
theorem dc_M_crop_15 : decode b_M_crop 15 = .ok (.iload_n 3, 1) := dk_row (s := 0) da_M_crop_0 15 (by decide +kernel)
theorem dc_M_crop_16 : decode b_M_crop 16 = .ok (.iload 4, 2) := dk_row (s := 0) da_M_crop_0 16 (by decide +kernel)
theorem dc_M_crop_18 : decode b_M_crop 18 = .ok (.invokevirtual 88, 3) := dk_row (s := 0) da_M_crop_0 18 (by decide +kernel)
theorem dc_M_crop_21 : decode b_M_crop 21 = .ok (.ifCond .ne 7, 3) := dk_row (s := 0) da_M_crop_0 21 (by decide +kernel)
theorem dc_M_crop_28 : decode b_M_crop 28 = .ok (.iconst 0, 1) := dk_row (s := 0) da_M_crop_0 28 (by decide +kernel)
theorem dc_M_crop_29 : decode b_M_crop 29 = .ok (.putfield 68, 3) := dk_row (s := 0) da_M_crop_0 29 (by decide +kernel)
def dw_M_crop_32 : ByteArray := .mk #[0x2a, 0xb4, 0x00, 0x44, 0x9e, 0x00, 0x05, 0x03, 0xac, 0x2a, 0x2a, 0x04, 0x1b, 0xb6, 0x00, 0x68, 0x99, 0x00, 0x23, 0x2a, 0x03, 0x1c, 0xb6, 0x00, 0x68, 0x99, 0x00, 0x1a, 0x2a, 0x04, 0x1b, 0x1d]
theorem da_M_crop_32 : dkA b_M_crop dw_M_crop_32 32 := by unfold dkA; decide +kernel
theorem dc_M_crop_32 : decode b_M_crop 32 = .ok (.aload_n 0, 1) := dk_row (s := 32) da_M_crop_32 0 (by decide +kernel)
theorem dc_M_crop_33 : decode b_M_crop 33 = .ok (.getfield 68, 3) := dk_row (s := 32) da_M_crop_32 1 (by decide +kernel)
theorem dc_M_crop_36 : decode b_M_crop 36 = .ok (.ifCond .le 5, 3) := dk_row (s := 32) da_M_crop_32 4 (by decide +kernel)
theorem dc_M_crop_41 : decode b_M_crop 41 = .ok (.aload_n 0, 1) := dk_row (s := 32) da_M_crop_32 9 (by decide +kernel)
theorem dc_M_crop_42 : decode b_M_crop 42 = .ok (.aload_n 0, 1) := dk_row (s := 32) da_M_crop_32 10 (by decide +kernel)
theorem dc_M_crop_43 : decode b_M_crop 43 = .ok (.iconst 1, 1) := dk_row (s := 32) da_M_crop_32 11 (by decide +kernel)
theorem dc_M_crop_44 : decode b_M_crop 44 = .ok (.iload_n 1, 1) := dk_row (s := 32) da_M_crop_32 12 (by decide +kernel)
theorem dc_M_crop_45 : decode b_M_crop 45 = .ok (.invokevirtual 104, 3) := dk_row (s := 32) da_M_crop_32 13 (by decide +kernel)
theorem dc_M_crop_48 : decode b_M_crop 48 = .ok (.ifCond .eq 35, 3) := dk_row (s := 32) da_M_crop_32 16 (by decide +kernel)
theorem dc_M_crop_51 : decode b_M_crop 51 = .ok (.aload_n 0, 1) := dk_row (s := 32) da_M_crop_32 19 (by decide +kernel)
theorem dc_M_crop_52 : decode b_M_crop 52 = .ok (.iconst 0, 1) := dk_row (s := 32) da_M_crop_32 20 (by decide +kernel)
theorem dc_M_crop_53 : decode b_M_crop 53 = .ok (.iload_n 2, 1) := dk_row (s := 32) da_M_crop_32 21 (by decide +kernel)
theorem dc_M_crop_54 : decode b_M_crop 54 = .ok (.invokevirtual 104, 3) := dk_row (s := 32) da_M_crop_32 22 (by decide +kernel)
theorem dc_M_crop_57 : decode b_M_crop 57 = .ok (.ifCond .eq 26, 3) := dk_row (s := 32) da_M_crop_32 25 (by decide +kernel)
theorem dc_M_crop_60 : decode b_M_crop 60 = .ok (.aload_n 0, 1) := dk_row (s := 32) da_M_crop_32 28 (by decide +kernel)
theorem dc_M_crop_61 : decode b_M_crop 61 = .ok (.iconst 1, 1) := dk_row (s := 32) da_M_crop_32 29 (by decide +kernel)
theorem dc_M_crop_62 : decode b_M_crop 62 = .ok (.iload_n 1, 1) := dk_row (s := 32) da_M_crop_32 30 (by decide +kernel)
theorem dc_M_crop_63 : decode b_M_crop 63 = .ok (.iload_n 3, 1) := dk_row (s := 32) da_M_crop_32 31 (by decide +kernel)
def dw_M_crop_64 : ByteArray := .mk #[0x60, 0xb6, 0x00, 0x68, 0x99, 0x00, 0x0f, 0x2a, 0x03, 0x1c, 0x15, 0x04, 0x60, 0xb6, 0x00, 0x68, 0x9a, 0x00, 0x07, 0x04, 0xa7, 0x00, 0x04, 0x03]
theorem da_M_crop_64 : dkA b_M_crop dw_M_crop_64 64 := by unfold dkA; decide +kernel
theorem dc_M_crop_64 : decode b_M_crop 64 = .ok (.iadd, 1) := dk_row (s := 64) da_M_crop_64 0 (by decide +kernel)
theorem dc_M_crop_65 : decode b_M_crop 65 = .ok (.invokevirtual 104, 3) := dk_row (s := 64) da_M_crop_64 1 (by decide +kernel)
theorem dc_M_crop_68 : decode b_M_crop 68 = .ok (.ifCond .eq 15, 3) := dk_row (s := 64) da_M_crop_64 4 (by decide +kernel)
theorem dc_M_crop_71 : decode b_M_crop 71 = .ok (.aload_n 0, 1) := dk_row (s := 64) da_M_crop_64 7 (by decide +kernel)
theorem dc_M_crop_72 : decode b_M_crop 72 = .ok (.iconst 0, 1) := dk_row (s := 64) da_M_crop_64 8 (by decide +kernel)
theorem dc_M_crop_73 : decode b_M_crop 73 = .ok (.iload_n 2, 1) := dk_row (s := 64) da_M_crop_64 9 (by decide +kernel)
theorem dc_M_crop_74 : decode b_M_crop 74 = .ok (.iload 4, 2) := dk_row (s := 64) da_M_crop_64 10 (by decide +kernel)
theorem dc_M_crop_76 : decode b_M_crop 76 = .ok (.iadd, 1) := dk_row (s := 64) da_M_crop_64 12 (by decide +kernel)
theorem dc_M_crop_77 : decode b_M_crop 77 = .ok (.invokevirtual 104, 3) := dk_row (s := 64) da_M_crop_64 13 (by decide +kernel)
theorem dc_M_crop_80 : decode b_M_crop 80 = .ok (.ifCond .ne 7, 3) := dk_row (s := 64) da_M_crop_64 16 (by decide +kernel)
theorem dc_M_crop_87 : decode b_M_crop 87 = .ok (.iconst 0, 1) := dk_row (s := 64) da_M_crop_64 23 (by decide +kernel)
theorem dc_M_crop_39 : decode b_M_crop 39 = .ok (.iconst 0, 1) := by decide +kernel
theorem dc_M_crop_40 : decode b_M_crop 40 = .ok (.ireturn, 1) := by decide +kernel
def dw_M_crop_88 : ByteArray := .mk #[0xb5, 0x00, 0x4d, 0x2a, 0xb4, 0x00, 0x4d, 0x99, 0x00, 0x3a]
theorem da_M_crop_88 : dkA b_M_crop dw_M_crop_88 88 := by unfold dkA; decide +kernel
theorem dc_M_crop_88 : decode b_M_crop 88 = .ok (.putfield 77, 3) := dk_row (s := 88) da_M_crop_88 0 (by decide +kernel)
theorem dc_M_crop_91 : decode b_M_crop 91 = .ok (.aload_n 0, 1) := dk_row (s := 88) da_M_crop_88 3 (by decide +kernel)
theorem dc_M_crop_92 : decode b_M_crop 92 = .ok (.getfield 77, 3) := dk_row (s := 88) da_M_crop_88 4 (by decide +kernel)
theorem dc_M_crop_95 : decode b_M_crop 95 = .ok (.ifCond .eq 58, 3) := dk_row (s := 88) da_M_crop_88 7 (by decide +kernel)
def dw_M_crop_153 : ByteArray := .mk #[0x03, 0x36, 0x05, 0x03, 0x36, 0x06]
theorem da_M_crop_153 : dkA b_M_crop dw_M_crop_153 153 := by unfold dkA; decide +kernel
theorem dc_M_crop_153 : decode b_M_crop 153 = .ok (.iconst 0, 1) := dk_row (s := 153) da_M_crop_153 0 (by decide +kernel)
theorem dc_M_crop_154 : decode b_M_crop 154 = .ok (.istore 5, 2) := dk_row (s := 153) da_M_crop_153 1 (by decide +kernel)
theorem dc_M_crop_156 : decode b_M_crop 156 = .ok (.iconst 0, 1) := dk_row (s := 153) da_M_crop_153 3 (by decide +kernel)
theorem dc_M_crop_157 : decode b_M_crop 157 = .ok (.istore 6, 2) := dk_row (s := 153) da_M_crop_153 4 (by decide +kernel)
def dw_M_crop_98 : ByteArray := .mk #[0x2a, 0xb4, 0x00, 0x34, 0x03, 0x2a, 0x04, 0x1b, 0xb6, 0x00, 0x6c, 0x4f, 0x2a, 0xb4, 0x00, 0x34, 0x04, 0x2a, 0x03, 0x1c, 0xb6, 0x00, 0x6c, 0x4f, 0x2a, 0xb4, 0x00, 0x34, 0x05, 0x2a, 0x04, 0x1b]
theorem da_M_crop_98 : dkA b_M_crop dw_M_crop_98 98 := by unfold dkA; decide +kernel
theorem dc_M_crop_98 : decode b_M_crop 98 = .ok (.aload_n 0, 1) := dk_row (s := 98) da_M_crop_98 0 (by decide +kernel)
theorem dc_M_crop_99 : decode b_M_crop 99 = .ok (.getfield 52, 3) := dk_row (s := 98) da_M_crop_98 1 (by decide +kernel)
theorem dc_M_crop_102 : decode b_M_crop 102 = .ok (.iconst 0, 1) := dk_row (s := 98) da_M_crop_98 4 (by decide +kernel)
theorem dc_M_crop_103 : decode b_M_crop 103 = .ok (.aload_n 0, 1) := dk_row (s := 98) da_M_crop_98 5 (by decide +kernel)
theorem dc_M_crop_104 : decode b_M_crop 104 = .ok (.iconst 1, 1) := dk_row (s := 98) da_M_crop_98 6 (by decide +kernel)
theorem dc_M_crop_105 : decode b_M_crop 105 = .ok (.iload_n 1, 1) := dk_row (s := 98) da_M_crop_98 7 (by decide +kernel)
theorem dc_M_crop_106 : decode b_M_crop 106 = .ok (.invokevirtual 108, 3) := dk_row (s := 98) da_M_crop_98 8 (by decide +kernel)
theorem dc_M_crop_109 : decode b_M_crop 109 = .ok (.iastore, 1) := dk_row (s := 98) da_M_crop_98 11 (by decide +kernel)
theorem dc_M_crop_110 : decode b_M_crop 110 = .ok (.aload_n 0, 1) := dk_row (s := 98) da_M_crop_98 12 (by decide +kernel)
theorem dc_M_crop_111 : decode b_M_crop 111 = .ok (.getfield 52, 3) := dk_row (s := 98) da_M_crop_98 13 (by decide +kernel)
theorem dc_M_crop_114 : decode b_M_crop 114 = .ok (.iconst 1, 1) := dk_row (s := 98) da_M_crop_98 16 (by decide +kernel)
theorem dc_M_crop_115 : decode b_M_crop 115 = .ok (.aload_n 0, 1) := dk_row (s := 98) da_M_crop_98 17 (by decide +kernel)
theorem dc_M_crop_116 : decode b_M_crop 116 = .ok (.iconst 0, 1) := dk_row (s := 98) da_M_crop_98 18 (by decide +kernel)
theorem dc_M_crop_117 : decode b_M_crop 117 = .ok (.iload_n 2, 1) := dk_row (s := 98) da_M_crop_98 19 (by decide +kernel)
theorem dc_M_crop_118 : decode b_M_crop 118 = .ok (.invokevirtual 108, 3) := dk_row (s := 98) da_M_crop_98 20 (by decide +kernel)
theorem dc_M_crop_121 : decode b_M_crop 121 = .ok (.iastore, 1) := dk_row (s := 98) da_M_crop_98 23 (by decide +kernel)
theorem dc_M_crop_122 : decode b_M_crop 122 = .ok (.aload_n 0, 1) := dk_row (s := 98) da_M_crop_98 24 (by decide +kernel)
theorem dc_M_crop_123 : decode b_M_crop 123 = .ok (.getfield 52, 3) := dk_row (s := 98) da_M_crop_98 25 (by decide +kernel)
theorem dc_M_crop_126 : decode b_M_crop 126 = .ok (.iconst 2, 1) := dk_row (s := 98) da_M_crop_98 28 (by decide +kernel)
theorem dc_M_crop_127 : decode b_M_crop 127 = .ok (.aload_n 0, 1) := dk_row (s := 98) da_M_crop_98 29 (by decide +kernel)
theorem dc_M_crop_128 : decode b_M_crop 128 = .ok (.iconst 1, 1) := dk_row (s := 98) da_M_crop_98 30 (by decide +kernel)
theorem dc_M_crop_129 : decode b_M_crop 129 = .ok (.iload_n 1, 1) := dk_row (s := 98) da_M_crop_98 31 (by decide +kernel)
def dw_M_crop_130 : ByteArray := .mk #[0x1d, 0x60, 0xb6, 0x00, 0x6c, 0x4f, 0x2a, 0xb4, 0x00, 0x34, 0x06, 0x2a, 0x03, 0x1c, 0x15, 0x04, 0x60, 0xb6, 0x00, 0x6c, 0x4f, 0x02, 0xac, 0x03, 0x36, 0x05, 0x03, 0x36, 0x06, 0x15, 0x06, 0x2a]
theorem da_M_crop_130 : dkA b_M_crop dw_M_crop_130 130 := by unfold dkA; decide +kernel
theorem dc_M_crop_130 : decode b_M_crop 130 = .ok (.iload_n 3, 1) := dk_row (s := 130) da_M_crop_130 0 (by decide +kernel)
theorem dc_M_crop_131 : decode b_M_crop 131 = .ok (.iadd, 1) := dk_row (s := 130) da_M_crop_130 1 (by decide +kernel)
theorem dc_M_crop_132 : decode b_M_crop 132 = .ok (.invokevirtual 108, 3) := dk_row (s := 130) da_M_crop_130 2 (by decide +kernel)
theorem dc_M_crop_135 : decode b_M_crop 135 = .ok (.iastore, 1) := dk_row (s := 130) da_M_crop_130 5 (by decide +kernel)
theorem dc_M_crop_136 : decode b_M_crop 136 = .ok (.aload_n 0, 1) := dk_row (s := 130) da_M_crop_130 6 (by decide +kernel)
theorem dc_M_crop_137 : decode b_M_crop 137 = .ok (.getfield 52, 3) := dk_row (s := 130) da_M_crop_130 7 (by decide +kernel)
theorem dc_M_crop_140 : decode b_M_crop 140 = .ok (.iconst 3, 1) := dk_row (s := 130) da_M_crop_130 10 (by decide +kernel)
theorem dc_M_crop_141 : decode b_M_crop 141 = .ok (.aload_n 0, 1) := dk_row (s := 130) da_M_crop_130 11 (by decide +kernel)
theorem dc_M_crop_142 : decode b_M_crop 142 = .ok (.iconst 0, 1) := dk_row (s := 130) da_M_crop_130 12 (by decide +kernel)
theorem dc_M_crop_143 : decode b_M_crop 143 = .ok (.iload_n 2, 1) := dk_row (s := 130) da_M_crop_130 13 (by decide +kernel)
theorem dc_M_crop_144 : decode b_M_crop 144 = .ok (.iload 4, 2) := dk_row (s := 130) da_M_crop_130 14 (by decide +kernel)
theorem dc_M_crop_146 : decode b_M_crop 146 = .ok (.iadd, 1) := dk_row (s := 130) da_M_crop_130 16 (by decide +kernel)
theorem dc_M_crop_147 : decode b_M_crop 147 = .ok (.invokevirtual 108, 3) := dk_row (s := 130) da_M_crop_130 17 (by decide +kernel)
theorem dc_M_crop_150 : decode b_M_crop 150 = .ok (.iastore, 1) := dk_row (s := 130) da_M_crop_130 20 (by decide +kernel)
theorem dc_M_crop_151 : decode b_M_crop 151 = .ok (.iconst (-1), 1) := dk_row (s := 130) da_M_crop_130 21 (by decide +kernel)
theorem dc_M_crop_152 : decode b_M_crop 152 = .ok (.ireturn, 1) := dk_row (s := 130) da_M_crop_130 22 (by decide +kernel)
theorem dc_M_crop_159 : decode b_M_crop 159 = .ok (.iload 6, 2) := dk_row (s := 130) da_M_crop_130 29 (by decide +kernel)
theorem dc_M_crop_161 : decode b_M_crop 161 = .ok (.aload_n 0, 1) := dk_row (s := 130) da_M_crop_130 31 (by decide +kernel)
def dw_M_crop_162 : ByteArray := .mk #[0xb4, 0x00, 0x10, 0x2a, 0xb4, 0x00, 0x47, 0x2e, 0xa2, 0x00, 0x6f]
theorem da_M_crop_162 : dkA b_M_crop dw_M_crop_162 162 := by unfold dkA; decide +kernel
theorem dc_M_crop_162 : decode b_M_crop 162 = .ok (.getfield 16, 3) := dk_row (s := 162) da_M_crop_162 0 (by decide +kernel)
theorem dc_M_crop_165 : decode b_M_crop 165 = .ok (.aload_n 0, 1) := dk_row (s := 162) da_M_crop_162 3 (by decide +kernel)
theorem dc_M_crop_166 : decode b_M_crop 166 = .ok (.getfield 71, 3) := dk_row (s := 162) da_M_crop_162 4 (by decide +kernel)
theorem dc_M_crop_169 : decode b_M_crop 169 = .ok (.iaload, 1) := dk_row (s := 162) da_M_crop_162 7 (by decide +kernel)
theorem dc_M_crop_170 : decode b_M_crop 170 = .ok (.if_icmp .ge 111, 3) := dk_row (s := 162) da_M_crop_162 8 (by decide +kernel)
def dw_M_crop_281 : ByteArray := .mk #[0x2a, 0xb4, 0x00, 0x10, 0x2a, 0xb4, 0x00, 0x47, 0x15, 0x05, 0x4f, 0x03, 0x36, 0x06, 0x10, 0x14, 0x2a, 0xb4, 0x00, 0x47, 0x68, 0x36, 0x07]
theorem da_M_crop_281 : dkA b_M_crop dw_M_crop_281 281 := by unfold dkA; decide +kernel
theorem dc_M_crop_281 : decode b_M_crop 281 = .ok (.aload_n 0, 1) := dk_row (s := 281) da_M_crop_281 0 (by decide +kernel)
theorem dc_M_crop_282 : decode b_M_crop 282 = .ok (.getfield 16, 3) := dk_row (s := 281) da_M_crop_281 1 (by decide +kernel)
theorem dc_M_crop_285 : decode b_M_crop 285 = .ok (.aload_n 0, 1) := dk_row (s := 281) da_M_crop_281 4 (by decide +kernel)
theorem dc_M_crop_286 : decode b_M_crop 286 = .ok (.getfield 71, 3) := dk_row (s := 281) da_M_crop_281 5 (by decide +kernel)
theorem dc_M_crop_289 : decode b_M_crop 289 = .ok (.iload 5, 2) := dk_row (s := 281) da_M_crop_281 8 (by decide +kernel)
theorem dc_M_crop_291 : decode b_M_crop 291 = .ok (.iastore, 1) := dk_row (s := 281) da_M_crop_281 10 (by decide +kernel)
theorem dc_M_crop_292 : decode b_M_crop 292 = .ok (.iconst 0, 1) := dk_row (s := 281) da_M_crop_281 11 (by decide +kernel)
theorem dc_M_crop_293 : decode b_M_crop 293 = .ok (.istore 6, 2) := dk_row (s := 281) da_M_crop_281 12 (by decide +kernel)
theorem dc_M_crop_295 : decode b_M_crop 295 = .ok (.bipush 20, 2) := dk_row (s := 281) da_M_crop_281 14 (by decide +kernel)
theorem dc_M_crop_297 : decode b_M_crop 297 = .ok (.aload_n 0, 1) := dk_row (s := 281) da_M_crop_281 16 (by decide +kernel)
theorem dc_M_crop_298 : decode b_M_crop 298 = .ok (.getfield 71, 3) := dk_row (s := 281) da_M_crop_281 17 (by decide +kernel)
theorem dc_M_crop_301 : decode b_M_crop 301 = .ok (.imul, 1) := dk_row (s := 281) da_M_crop_281 20 (by decide +kernel)
theorem dc_M_crop_302 : decode b_M_crop 302 = .ok (.istore 7, 2) := dk_row (s := 281) da_M_crop_281 21 (by decide +kernel)
def dw_M_crop_173 : ByteArray := .mk #[0x2a, 0x15, 0x06, 0xb6, 0x00, 0x5c, 0x36, 0x07, 0x2a, 0xb4, 0x00, 0x16, 0x15, 0x07, 0x2e, 0x1b, 0xa1, 0x00, 0x56, 0x2a, 0xb4, 0x00, 0x16, 0x15, 0x07, 0x2e, 0x1b, 0x1d, 0x60, 0xa2, 0x00, 0x49]
theorem da_M_crop_173 : dkA b_M_crop dw_M_crop_173 173 := by unfold dkA; decide +kernel
theorem dc_M_crop_173 : decode b_M_crop 173 = .ok (.aload_n 0, 1) := dk_row (s := 173) da_M_crop_173 0 (by decide +kernel)
theorem dc_M_crop_174 : decode b_M_crop 174 = .ok (.iload 6, 2) := dk_row (s := 173) da_M_crop_173 1 (by decide +kernel)
theorem dc_M_crop_176 : decode b_M_crop 176 = .ok (.invokevirtual 92, 3) := dk_row (s := 173) da_M_crop_173 3 (by decide +kernel)
theorem dc_M_crop_179 : decode b_M_crop 179 = .ok (.istore 7, 2) := dk_row (s := 173) da_M_crop_173 6 (by decide +kernel)
theorem dc_M_crop_181 : decode b_M_crop 181 = .ok (.aload_n 0, 1) := dk_row (s := 173) da_M_crop_173 8 (by decide +kernel)
theorem dc_M_crop_182 : decode b_M_crop 182 = .ok (.getfield 22, 3) := dk_row (s := 173) da_M_crop_173 9 (by decide +kernel)
theorem dc_M_crop_185 : decode b_M_crop 185 = .ok (.iload 7, 2) := dk_row (s := 173) da_M_crop_173 12 (by decide +kernel)
theorem dc_M_crop_187 : decode b_M_crop 187 = .ok (.iaload, 1) := dk_row (s := 173) da_M_crop_173 14 (by decide +kernel)
theorem dc_M_crop_188 : decode b_M_crop 188 = .ok (.iload_n 1, 1) := dk_row (s := 173) da_M_crop_173 15 (by decide +kernel)
theorem dc_M_crop_189 : decode b_M_crop 189 = .ok (.if_icmp .lt 86, 3) := dk_row (s := 173) da_M_crop_173 16 (by decide +kernel)
theorem dc_M_crop_192 : decode b_M_crop 192 = .ok (.aload_n 0, 1) := dk_row (s := 173) da_M_crop_173 19 (by decide +kernel)
theorem dc_M_crop_193 : decode b_M_crop 193 = .ok (.getfield 22, 3) := dk_row (s := 173) da_M_crop_173 20 (by decide +kernel)
theorem dc_M_crop_196 : decode b_M_crop 196 = .ok (.iload 7, 2) := dk_row (s := 173) da_M_crop_173 23 (by decide +kernel)
theorem dc_M_crop_198 : decode b_M_crop 198 = .ok (.iaload, 1) := dk_row (s := 173) da_M_crop_173 25 (by decide +kernel)
theorem dc_M_crop_199 : decode b_M_crop 199 = .ok (.iload_n 1, 1) := dk_row (s := 173) da_M_crop_173 26 (by decide +kernel)
theorem dc_M_crop_200 : decode b_M_crop 200 = .ok (.iload_n 3, 1) := dk_row (s := 173) da_M_crop_173 27 (by decide +kernel)
theorem dc_M_crop_201 : decode b_M_crop 201 = .ok (.iadd, 1) := dk_row (s := 173) da_M_crop_173 28 (by decide +kernel)
theorem dc_M_crop_202 : decode b_M_crop 202 = .ok (.if_icmp .ge 73, 3) := dk_row (s := 173) da_M_crop_173 29 (by decide +kernel)
def dw_M_crop_205 : ByteArray := .mk #[0x2a, 0xb4, 0x00, 0x19, 0x15, 0x07, 0x2e, 0x1c, 0xa1, 0x00, 0x3e, 0x2a, 0xb4, 0x00, 0x19, 0x15, 0x07, 0x2e, 0x1c, 0x15, 0x04, 0x60, 0xa2, 0x00, 0x30, 0x2a, 0x15, 0x07, 0x2a, 0x15, 0x05]
theorem da_M_crop_205 : dkA b_M_crop dw_M_crop_205 205 := by unfold dkA; decide +kernel
theorem dc_M_crop_205 : decode b_M_crop 205 = .ok (.aload_n 0, 1) := dk_row (s := 205) da_M_crop_205 0 (by decide +kernel)
theorem dc_M_crop_206 : decode b_M_crop 206 = .ok (.getfield 25, 3) := dk_row (s := 205) da_M_crop_205 1 (by decide +kernel)
theorem dc_M_crop_209 : decode b_M_crop 209 = .ok (.iload 7, 2) := dk_row (s := 205) da_M_crop_205 4 (by decide +kernel)
theorem dc_M_crop_211 : decode b_M_crop 211 = .ok (.iaload, 1) := dk_row (s := 205) da_M_crop_205 6 (by decide +kernel)
theorem dc_M_crop_212 : decode b_M_crop 212 = .ok (.iload_n 2, 1) := dk_row (s := 205) da_M_crop_205 7 (by decide +kernel)
theorem dc_M_crop_213 : decode b_M_crop 213 = .ok (.if_icmp .lt 62, 3) := dk_row (s := 205) da_M_crop_205 8 (by decide +kernel)
theorem dc_M_crop_216 : decode b_M_crop 216 = .ok (.aload_n 0, 1) := dk_row (s := 205) da_M_crop_205 11 (by decide +kernel)
theorem dc_M_crop_217 : decode b_M_crop 217 = .ok (.getfield 25, 3) := dk_row (s := 205) da_M_crop_205 12 (by decide +kernel)
theorem dc_M_crop_220 : decode b_M_crop 220 = .ok (.iload 7, 2) := dk_row (s := 205) da_M_crop_205 15 (by decide +kernel)
theorem dc_M_crop_222 : decode b_M_crop 222 = .ok (.iaload, 1) := dk_row (s := 205) da_M_crop_205 17 (by decide +kernel)
theorem dc_M_crop_223 : decode b_M_crop 223 = .ok (.iload_n 2, 1) := dk_row (s := 205) da_M_crop_205 18 (by decide +kernel)
theorem dc_M_crop_224 : decode b_M_crop 224 = .ok (.iload 4, 2) := dk_row (s := 205) da_M_crop_205 19 (by decide +kernel)
theorem dc_M_crop_226 : decode b_M_crop 226 = .ok (.iadd, 1) := dk_row (s := 205) da_M_crop_205 21 (by decide +kernel)
theorem dc_M_crop_227 : decode b_M_crop 227 = .ok (.if_icmp .ge 48, 3) := dk_row (s := 205) da_M_crop_205 22 (by decide +kernel)
theorem dc_M_crop_230 : decode b_M_crop 230 = .ok (.aload_n 0, 1) := dk_row (s := 205) da_M_crop_205 25 (by decide +kernel)
theorem dc_M_crop_231 : decode b_M_crop 231 = .ok (.iload 7, 2) := dk_row (s := 205) da_M_crop_205 26 (by decide +kernel)
theorem dc_M_crop_233 : decode b_M_crop 233 = .ok (.aload_n 0, 1) := dk_row (s := 205) da_M_crop_205 28 (by decide +kernel)
theorem dc_M_crop_234 : decode b_M_crop 234 = .ok (.iload 5, 2) := dk_row (s := 205) da_M_crop_205 29 (by decide +kernel)
def dw_M_crop_236 : ByteArray := .mk #[0xb6, 0x00, 0x5c, 0xb6, 0x00, 0x70, 0x2a, 0xb4, 0x00, 0x16, 0x2a, 0x15, 0x05, 0xb6, 0x00, 0x5c, 0x5c, 0x2e, 0x1b, 0x64, 0x4f, 0x2a, 0xb4, 0x00, 0x19, 0x2a, 0x15, 0x05, 0xb6, 0x00, 0x5c, 0x5c]
theorem da_M_crop_236 : dkA b_M_crop dw_M_crop_236 236 := by unfold dkA; decide +kernel
theorem dc_M_crop_236 : decode b_M_crop 236 = .ok (.invokevirtual 92, 3) := dk_row (s := 236) da_M_crop_236 0 (by decide +kernel)
theorem dc_M_crop_239 : decode b_M_crop 239 = .ok (.invokevirtual 112, 3) := dk_row (s := 236) da_M_crop_236 3 (by decide +kernel)
theorem dc_M_crop_242 : decode b_M_crop 242 = .ok (.aload_n 0, 1) := dk_row (s := 236) da_M_crop_236 6 (by decide +kernel)
theorem dc_M_crop_243 : decode b_M_crop 243 = .ok (.getfield 22, 3) := dk_row (s := 236) da_M_crop_236 7 (by decide +kernel)
theorem dc_M_crop_246 : decode b_M_crop 246 = .ok (.aload_n 0, 1) := dk_row (s := 236) da_M_crop_236 10 (by decide +kernel)
theorem dc_M_crop_247 : decode b_M_crop 247 = .ok (.iload 5, 2) := dk_row (s := 236) da_M_crop_236 11 (by decide +kernel)
theorem dc_M_crop_249 : decode b_M_crop 249 = .ok (.invokevirtual 92, 3) := dk_row (s := 236) da_M_crop_236 13 (by decide +kernel)
theorem dc_M_crop_252 : decode b_M_crop 252 = .ok (.dup2, 1) := dk_row (s := 236) da_M_crop_236 16 (by decide +kernel)
theorem dc_M_crop_253 : decode b_M_crop 253 = .ok (.iaload, 1) := dk_row (s := 236) da_M_crop_236 17 (by decide +kernel)
theorem dc_M_crop_254 : decode b_M_crop 254 = .ok (.iload_n 1, 1) := dk_row (s := 236) da_M_crop_236 18 (by decide +kernel)
theorem dc_M_crop_255 : decode b_M_crop 255 = .ok (.isub, 1) := dk_row (s := 236) da_M_crop_236 19 (by decide +kernel)
theorem dc_M_crop_256 : decode b_M_crop 256 = .ok (.iastore, 1) := dk_row (s := 236) da_M_crop_236 20 (by decide +kernel)
theorem dc_M_crop_257 : decode b_M_crop 257 = .ok (.aload_n 0, 1) := dk_row (s := 236) da_M_crop_236 21 (by decide +kernel)
theorem dc_M_crop_258 : decode b_M_crop 258 = .ok (.getfield 25, 3) := dk_row (s := 236) da_M_crop_236 22 (by decide +kernel)
theorem dc_M_crop_261 : decode b_M_crop 261 = .ok (.aload_n 0, 1) := dk_row (s := 236) da_M_crop_236 25 (by decide +kernel)
theorem dc_M_crop_262 : decode b_M_crop 262 = .ok (.iload 5, 2) := dk_row (s := 236) da_M_crop_236 26 (by decide +kernel)
theorem dc_M_crop_264 : decode b_M_crop 264 = .ok (.invokevirtual 92, 3) := dk_row (s := 236) da_M_crop_236 28 (by decide +kernel)
theorem dc_M_crop_267 : decode b_M_crop 267 = .ok (.dup2, 1) := dk_row (s := 236) da_M_crop_236 31 (by decide +kernel)
def dw_M_crop_268 : ByteArray := .mk #[0x2e, 0x1c, 0x64, 0x4f, 0x84, 0x05, 0x01, 0x84, 0x06, 0x01, 0xa7, 0xff, 0x89]
theorem da_M_crop_268 : dkA b_M_crop dw_M_crop_268 268 := by unfold dkA; decide +kernel
theorem dc_M_crop_268 : decode b_M_crop 268 = .ok (.iaload, 1) := dk_row (s := 268) da_M_crop_268 0 (by decide +kernel)
theorem dc_M_crop_269 : decode b_M_crop 269 = .ok (.iload_n 2, 1) := dk_row (s := 268) da_M_crop_268 1 (by decide +kernel)
theorem dc_M_crop_270 : decode b_M_crop 270 = .ok (.isub, 1) := dk_row (s := 268) da_M_crop_268 2 (by decide +kernel)
theorem dc_M_crop_271 : decode b_M_crop 271 = .ok (.iastore, 1) := dk_row (s := 268) da_M_crop_268 3 (by decide +kernel)
theorem dc_M_crop_272 : decode b_M_crop 272 = .ok (.iinc 5 1, 3) := dk_row (s := 268) da_M_crop_268 4 (by decide +kernel)
theorem dc_M_crop_275 : decode b_M_crop 275 = .ok (.iinc 6 1, 3) := dk_row (s := 268) da_M_crop_268 7 (by decide +kernel)
theorem dc_M_crop_278 : decode b_M_crop 278 = .ok (.goto (-119), 3) := dk_row (s := 268) da_M_crop_268 10 (by decide +kernel)
def dw_M_crop_304 : ByteArray := .mk #[0x15, 0x07, 0x10, 0x14, 0x2a, 0xb4, 0x00, 0x47, 0x68, 0x2a, 0xb4, 0x00, 0x13, 0x2a, 0xb4, 0x00, 0x47, 0x2e, 0x60, 0xa2, 0x00, 0x69]
theorem da_M_crop_304 : dkA b_M_crop dw_M_crop_304 304 := by unfold dkA; decide +kernel
theorem dc_M_crop_304 : decode b_M_crop 304 = .ok (.iload 7, 2) := dk_row (s := 304) da_M_crop_304 0 (by decide +kernel)
theorem dc_M_crop_306 : decode b_M_crop 306 = .ok (.bipush 20, 2) := dk_row (s := 304) da_M_crop_304 2 (by decide +kernel)
theorem dc_M_crop_308 : decode b_M_crop 308 = .ok (.aload_n 0, 1) := dk_row (s := 304) da_M_crop_304 4 (by decide +kernel)
theorem dc_M_crop_309 : decode b_M_crop 309 = .ok (.getfield 71, 3) := dk_row (s := 304) da_M_crop_304 5 (by decide +kernel)
theorem dc_M_crop_312 : decode b_M_crop 312 = .ok (.imul, 1) := dk_row (s := 304) da_M_crop_304 8 (by decide +kernel)
theorem dc_M_crop_313 : decode b_M_crop 313 = .ok (.aload_n 0, 1) := dk_row (s := 304) da_M_crop_304 9 (by decide +kernel)
theorem dc_M_crop_314 : decode b_M_crop 314 = .ok (.getfield 19, 3) := dk_row (s := 304) da_M_crop_304 10 (by decide +kernel)
theorem dc_M_crop_317 : decode b_M_crop 317 = .ok (.aload_n 0, 1) := dk_row (s := 304) da_M_crop_304 13 (by decide +kernel)
theorem dc_M_crop_318 : decode b_M_crop 318 = .ok (.getfield 71, 3) := dk_row (s := 304) da_M_crop_304 14 (by decide +kernel)
theorem dc_M_crop_321 : decode b_M_crop 321 = .ok (.iaload, 1) := dk_row (s := 304) da_M_crop_304 17 (by decide +kernel)
theorem dc_M_crop_322 : decode b_M_crop 322 = .ok (.iadd, 1) := dk_row (s := 304) da_M_crop_304 18 (by decide +kernel)
theorem dc_M_crop_323 : decode b_M_crop 323 = .ok (.if_icmp .ge 105, 3) := dk_row (s := 304) da_M_crop_304 19 (by decide +kernel)
def dw_M_crop_428 : ByteArray := .mk #[0x2a, 0xb4, 0x00, 0x13, 0x2a, 0xb4, 0x00, 0x47, 0x15, 0x06, 0x4f, 0x2a, 0xb4, 0x00, 0x07, 0x2a, 0xb4, 0x00, 0x47, 0x1d, 0x4f, 0x2a, 0xb4, 0x00, 0x0d, 0x2a, 0xb4, 0x00, 0x47, 0x15, 0x04, 0x4f]
theorem da_M_crop_428 : dkA b_M_crop dw_M_crop_428 428 := by unfold dkA; decide +kernel
theorem dc_M_crop_428 : decode b_M_crop 428 = .ok (.aload_n 0, 1) := dk_row (s := 428) da_M_crop_428 0 (by decide +kernel)
theorem dc_M_crop_429 : decode b_M_crop 429 = .ok (.getfield 19, 3) := dk_row (s := 428) da_M_crop_428 1 (by decide +kernel)
theorem dc_M_crop_432 : decode b_M_crop 432 = .ok (.aload_n 0, 1) := dk_row (s := 428) da_M_crop_428 4 (by decide +kernel)
theorem dc_M_crop_433 : decode b_M_crop 433 = .ok (.getfield 71, 3) := dk_row (s := 428) da_M_crop_428 5 (by decide +kernel)
theorem dc_M_crop_436 : decode b_M_crop 436 = .ok (.iload 6, 2) := dk_row (s := 428) da_M_crop_428 8 (by decide +kernel)
theorem dc_M_crop_438 : decode b_M_crop 438 = .ok (.iastore, 1) := dk_row (s := 428) da_M_crop_428 10 (by decide +kernel)
theorem dc_M_crop_439 : decode b_M_crop 439 = .ok (.aload_n 0, 1) := dk_row (s := 428) da_M_crop_428 11 (by decide +kernel)
theorem dc_M_crop_440 : decode b_M_crop 440 = .ok (.getfield 7, 3) := dk_row (s := 428) da_M_crop_428 12 (by decide +kernel)
theorem dc_M_crop_443 : decode b_M_crop 443 = .ok (.aload_n 0, 1) := dk_row (s := 428) da_M_crop_428 15 (by decide +kernel)
theorem dc_M_crop_444 : decode b_M_crop 444 = .ok (.getfield 71, 3) := dk_row (s := 428) da_M_crop_428 16 (by decide +kernel)
theorem dc_M_crop_447 : decode b_M_crop 447 = .ok (.iload_n 3, 1) := dk_row (s := 428) da_M_crop_428 19 (by decide +kernel)
theorem dc_M_crop_448 : decode b_M_crop 448 = .ok (.iastore, 1) := dk_row (s := 428) da_M_crop_428 20 (by decide +kernel)
theorem dc_M_crop_449 : decode b_M_crop 449 = .ok (.aload_n 0, 1) := dk_row (s := 428) da_M_crop_428 21 (by decide +kernel)
theorem dc_M_crop_450 : decode b_M_crop 450 = .ok (.getfield 13, 3) := dk_row (s := 428) da_M_crop_428 22 (by decide +kernel)
theorem dc_M_crop_453 : decode b_M_crop 453 = .ok (.aload_n 0, 1) := dk_row (s := 428) da_M_crop_428 25 (by decide +kernel)
theorem dc_M_crop_454 : decode b_M_crop 454 = .ok (.getfield 71, 3) := dk_row (s := 428) da_M_crop_428 26 (by decide +kernel)
theorem dc_M_crop_457 : decode b_M_crop 457 = .ok (.iload 4, 2) := dk_row (s := 428) da_M_crop_428 29 (by decide +kernel)
theorem dc_M_crop_459 : decode b_M_crop 459 = .ok (.iastore, 1) := dk_row (s := 428) da_M_crop_428 31 (by decide +kernel)
theorem dc_M_crop_460 : decode b_M_crop 460 = .ok (.iload 5, 2) := by decide +kernel
theorem dc_M_crop_462 : decode b_M_crop 462 = .ok (.ireturn, 1) := by decide +kernel
def dw_M_crop_326 : ByteArray := .mk #[0x2a, 0xb4, 0x00, 0x2b, 0x15, 0x07, 0x2e, 0x1b, 0x1b, 0x1d, 0x60, 0x04, 0x64, 0xb8, 0x00, 0x54, 0x99, 0x00, 0x50, 0x2a, 0xb4, 0x00, 0x2e, 0x15, 0x07, 0x2e, 0x1c, 0x1c, 0x15, 0x04, 0x60, 0x04]
theorem da_M_crop_326 : dkA b_M_crop dw_M_crop_326 326 := by unfold dkA; decide +kernel
theorem dc_M_crop_326 : decode b_M_crop 326 = .ok (.aload_n 0, 1) := dk_row (s := 326) da_M_crop_326 0 (by decide +kernel)
theorem dc_M_crop_327 : decode b_M_crop 327 = .ok (.getfield 43, 3) := dk_row (s := 326) da_M_crop_326 1 (by decide +kernel)
theorem dc_M_crop_330 : decode b_M_crop 330 = .ok (.iload 7, 2) := dk_row (s := 326) da_M_crop_326 4 (by decide +kernel)
theorem dc_M_crop_332 : decode b_M_crop 332 = .ok (.iaload, 1) := dk_row (s := 326) da_M_crop_326 6 (by decide +kernel)
theorem dc_M_crop_333 : decode b_M_crop 333 = .ok (.iload_n 1, 1) := dk_row (s := 326) da_M_crop_326 7 (by decide +kernel)
theorem dc_M_crop_334 : decode b_M_crop 334 = .ok (.iload_n 1, 1) := dk_row (s := 326) da_M_crop_326 8 (by decide +kernel)
theorem dc_M_crop_335 : decode b_M_crop 335 = .ok (.iload_n 3, 1) := dk_row (s := 326) da_M_crop_326 9 (by decide +kernel)
theorem dc_M_crop_336 : decode b_M_crop 336 = .ok (.iadd, 1) := dk_row (s := 326) da_M_crop_326 10 (by decide +kernel)
theorem dc_M_crop_337 : decode b_M_crop 337 = .ok (.iconst 1, 1) := dk_row (s := 326) da_M_crop_326 11 (by decide +kernel)
theorem dc_M_crop_338 : decode b_M_crop 338 = .ok (.isub, 1) := dk_row (s := 326) da_M_crop_326 12 (by decide +kernel)
theorem dc_M_crop_339 : decode b_M_crop 339 = .ok (.invokestatic 84, 3) := dk_row (s := 326) da_M_crop_326 13 (by decide +kernel)
theorem dc_M_crop_342 : decode b_M_crop 342 = .ok (.ifCond .eq 80, 3) := dk_row (s := 326) da_M_crop_326 16 (by decide +kernel)
theorem dc_M_crop_345 : decode b_M_crop 345 = .ok (.aload_n 0, 1) := dk_row (s := 326) da_M_crop_326 19 (by decide +kernel)
theorem dc_M_crop_346 : decode b_M_crop 346 = .ok (.getfield 46, 3) := dk_row (s := 326) da_M_crop_326 20 (by decide +kernel)
theorem dc_M_crop_349 : decode b_M_crop 349 = .ok (.iload 7, 2) := dk_row (s := 326) da_M_crop_326 23 (by decide +kernel)
theorem dc_M_crop_351 : decode b_M_crop 351 = .ok (.iaload, 1) := dk_row (s := 326) da_M_crop_326 25 (by decide +kernel)
theorem dc_M_crop_352 : decode b_M_crop 352 = .ok (.iload_n 2, 1) := dk_row (s := 326) da_M_crop_326 26 (by decide +kernel)
theorem dc_M_crop_353 : decode b_M_crop 353 = .ok (.iload_n 2, 1) := dk_row (s := 326) da_M_crop_326 27 (by decide +kernel)
theorem dc_M_crop_354 : decode b_M_crop 354 = .ok (.iload 4, 2) := dk_row (s := 326) da_M_crop_326 28 (by decide +kernel)
theorem dc_M_crop_356 : decode b_M_crop 356 = .ok (.iadd, 1) := dk_row (s := 326) da_M_crop_326 30 (by decide +kernel)
theorem dc_M_crop_357 : decode b_M_crop 357 = .ok (.iconst 1, 1) := dk_row (s := 326) da_M_crop_326 31 (by decide +kernel)
def dw_M_crop_358 : ByteArray := .mk #[0x64, 0xb8, 0x00, 0x54, 0x99, 0x00, 0x3c, 0x2a, 0x15, 0x07, 0x10, 0x14, 0x2a, 0xb4, 0x00, 0x47, 0x68, 0x15, 0x06, 0x60, 0xb6, 0x00, 0x74, 0x2a, 0xb4, 0x00, 0x2b, 0x10, 0x14, 0x2a]
theorem da_M_crop_358 : dkA b_M_crop dw_M_crop_358 358 := by unfold dkA; decide +kernel
theorem dc_M_crop_358 : decode b_M_crop 358 = .ok (.isub, 1) := dk_row (s := 358) da_M_crop_358 0 (by decide +kernel)
theorem dc_M_crop_359 : decode b_M_crop 359 = .ok (.invokestatic 84, 3) := dk_row (s := 358) da_M_crop_358 1 (by decide +kernel)
theorem dc_M_crop_362 : decode b_M_crop 362 = .ok (.ifCond .eq 60, 3) := dk_row (s := 358) da_M_crop_358 4 (by decide +kernel)
theorem dc_M_crop_365 : decode b_M_crop 365 = .ok (.aload_n 0, 1) := dk_row (s := 358) da_M_crop_358 7 (by decide +kernel)
theorem dc_M_crop_366 : decode b_M_crop 366 = .ok (.iload 7, 2) := dk_row (s := 358) da_M_crop_358 8 (by decide +kernel)
theorem dc_M_crop_368 : decode b_M_crop 368 = .ok (.bipush 20, 2) := dk_row (s := 358) da_M_crop_358 10 (by decide +kernel)
theorem dc_M_crop_370 : decode b_M_crop 370 = .ok (.aload_n 0, 1) := dk_row (s := 358) da_M_crop_358 12 (by decide +kernel)
theorem dc_M_crop_371 : decode b_M_crop 371 = .ok (.getfield 71, 3) := dk_row (s := 358) da_M_crop_358 13 (by decide +kernel)
theorem dc_M_crop_374 : decode b_M_crop 374 = .ok (.imul, 1) := dk_row (s := 358) da_M_crop_358 16 (by decide +kernel)
theorem dc_M_crop_375 : decode b_M_crop 375 = .ok (.iload 6, 2) := dk_row (s := 358) da_M_crop_358 17 (by decide +kernel)
theorem dc_M_crop_377 : decode b_M_crop 377 = .ok (.iadd, 1) := dk_row (s := 358) da_M_crop_358 19 (by decide +kernel)
theorem dc_M_crop_378 : decode b_M_crop 378 = .ok (.invokevirtual 116, 3) := dk_row (s := 358) da_M_crop_358 20 (by decide +kernel)
theorem dc_M_crop_381 : decode b_M_crop 381 = .ok (.aload_n 0, 1) := dk_row (s := 358) da_M_crop_358 23 (by decide +kernel)
theorem dc_M_crop_382 : decode b_M_crop 382 = .ok (.getfield 43, 3) := dk_row (s := 358) da_M_crop_358 24 (by decide +kernel)
theorem dc_M_crop_385 : decode b_M_crop 385 = .ok (.bipush 20, 2) := dk_row (s := 358) da_M_crop_358 27 (by decide +kernel)
theorem dc_M_crop_387 : decode b_M_crop 387 = .ok (.aload_n 0, 1) := dk_row (s := 358) da_M_crop_358 29 (by decide +kernel)
def dw_M_crop_388 : ByteArray := .mk #[0xb4, 0x00, 0x47, 0x68, 0x15, 0x06, 0x60, 0x5c, 0x2e, 0x1b, 0x64, 0x4f, 0x2a, 0xb4, 0x00, 0x2e, 0x10, 0x14, 0x2a, 0xb4, 0x00, 0x47, 0x68, 0x15, 0x06, 0x60, 0x5c, 0x2e, 0x1c, 0x64, 0x4f]
theorem da_M_crop_388 : dkA b_M_crop dw_M_crop_388 388 := by unfold dkA; decide +kernel
theorem dc_M_crop_388 : decode b_M_crop 388 = .ok (.getfield 71, 3) := dk_row (s := 388) da_M_crop_388 0 (by decide +kernel)
theorem dc_M_crop_391 : decode b_M_crop 391 = .ok (.imul, 1) := dk_row (s := 388) da_M_crop_388 3 (by decide +kernel)
theorem dc_M_crop_392 : decode b_M_crop 392 = .ok (.iload 6, 2) := dk_row (s := 388) da_M_crop_388 4 (by decide +kernel)
theorem dc_M_crop_394 : decode b_M_crop 394 = .ok (.iadd, 1) := dk_row (s := 388) da_M_crop_388 6 (by decide +kernel)
theorem dc_M_crop_395 : decode b_M_crop 395 = .ok (.dup2, 1) := dk_row (s := 388) da_M_crop_388 7 (by decide +kernel)
theorem dc_M_crop_396 : decode b_M_crop 396 = .ok (.iaload, 1) := dk_row (s := 388) da_M_crop_388 8 (by decide +kernel)
theorem dc_M_crop_397 : decode b_M_crop 397 = .ok (.iload_n 1, 1) := dk_row (s := 388) da_M_crop_388 9 (by decide +kernel)
theorem dc_M_crop_398 : decode b_M_crop 398 = .ok (.isub, 1) := dk_row (s := 388) da_M_crop_388 10 (by decide +kernel)
theorem dc_M_crop_399 : decode b_M_crop 399 = .ok (.iastore, 1) := dk_row (s := 388) da_M_crop_388 11 (by decide +kernel)
theorem dc_M_crop_400 : decode b_M_crop 400 = .ok (.aload_n 0, 1) := dk_row (s := 388) da_M_crop_388 12 (by decide +kernel)
theorem dc_M_crop_401 : decode b_M_crop 401 = .ok (.getfield 46, 3) := dk_row (s := 388) da_M_crop_388 13 (by decide +kernel)
theorem dc_M_crop_404 : decode b_M_crop 404 = .ok (.bipush 20, 2) := dk_row (s := 388) da_M_crop_388 16 (by decide +kernel)
theorem dc_M_crop_406 : decode b_M_crop 406 = .ok (.aload_n 0, 1) := dk_row (s := 388) da_M_crop_388 18 (by decide +kernel)
theorem dc_M_crop_407 : decode b_M_crop 407 = .ok (.getfield 71, 3) := dk_row (s := 388) da_M_crop_388 19 (by decide +kernel)
theorem dc_M_crop_410 : decode b_M_crop 410 = .ok (.imul, 1) := dk_row (s := 388) da_M_crop_388 22 (by decide +kernel)
theorem dc_M_crop_411 : decode b_M_crop 411 = .ok (.iload 6, 2) := dk_row (s := 388) da_M_crop_388 23 (by decide +kernel)
theorem dc_M_crop_413 : decode b_M_crop 413 = .ok (.iadd, 1) := dk_row (s := 388) da_M_crop_388 25 (by decide +kernel)
theorem dc_M_crop_414 : decode b_M_crop 414 = .ok (.dup2, 1) := dk_row (s := 388) da_M_crop_388 26 (by decide +kernel)
theorem dc_M_crop_415 : decode b_M_crop 415 = .ok (.iaload, 1) := dk_row (s := 388) da_M_crop_388 27 (by decide +kernel)
theorem dc_M_crop_416 : decode b_M_crop 416 = .ok (.iload_n 2, 1) := dk_row (s := 388) da_M_crop_388 28 (by decide +kernel)
theorem dc_M_crop_417 : decode b_M_crop 417 = .ok (.isub, 1) := dk_row (s := 388) da_M_crop_388 29 (by decide +kernel)
theorem dc_M_crop_418 : decode b_M_crop 418 = .ok (.iastore, 1) := dk_row (s := 388) da_M_crop_388 30 (by decide +kernel)
theorem dc_M_crop_419 : decode b_M_crop 419 = .ok (.iinc 6 1, 3) := by decide +kernel
theorem dc_M_crop_422 : decode b_M_crop 422 = .ok (.iinc 7 1, 3) := by decide +kernel
theorem dc_M_crop_425 : decode b_M_crop 425 = .ok (.goto (-121), 3) := by decide +kernel
theorem dc_M_crop_83 : decode b_M_crop 83 = .ok (.iconst 1, 1) := by decide +kernel
theorem dc_M_crop_84 : decode b_M_crop 84 = .ok (.goto 4, 3) := by decide +kernel
theorem dc_M_crop_24 : decode b_M_crop 24 = .ok (.iconst 1, 1) := by decide +kernel
theorem dc_M_crop_25 : decode b_M_crop 25 = .ok (.goto 4, 3) := by decide +kernel
def dw_M_write_0 : ByteArray := .mk #[0x2a, 0x03, 0xb5, 0x00, 0x44, 0x2a, 0x03, 0xb5, 0x00, 0x51, 0x2a, 0x10, 0x4c, 0xb6, 0x00, 0x85, 0x2a, 0x10, 0x46, 0xb6, 0x00, 0x85, 0x2a, 0x2a, 0xb4, 0x00, 0x07, 0x2a, 0xb4, 0x00, 0x47, 0x2e]
theorem da_M_write_0 : dkA b_M_write dw_M_write_0 0 := by unfold dkA; decide +kernel
theorem dc_M_write_0 : decode b_M_write 0 = .ok (.aload_n 0, 1) := dk_row (s := 0) da_M_write_0 0 (by decide +kernel)
theorem dc_M_write_1 : decode b_M_write 1 = .ok (.iconst 0, 1) := dk_row (s := 0) da_M_write_0 1 (by decide +kernel)
theorem dc_M_write_2 : decode b_M_write 2 = .ok (.putfield 68, 3) := dk_row (s := 0) da_M_write_0 2 (by decide +kernel)
theorem dc_M_write_5 : decode b_M_write 5 = .ok (.aload_n 0, 1) := dk_row (s := 0) da_M_write_0 5 (by decide +kernel)
theorem dc_M_write_6 : decode b_M_write 6 = .ok (.iconst 0, 1) := dk_row (s := 0) da_M_write_0 6 (by decide +kernel)
theorem dc_M_write_7 : decode b_M_write 7 = .ok (.putfield 81, 3) := dk_row (s := 0) da_M_write_0 7 (by decide +kernel)
theorem dc_M_write_10 : decode b_M_write 10 = .ok (.aload_n 0, 1) := dk_row (s := 0) da_M_write_0 10 (by decide +kernel)
theorem dc_M_write_11 : decode b_M_write 11 = .ok (.bipush 76, 2) := dk_row (s := 0) da_M_write_0 11 (by decide +kernel)
theorem dc_M_write_13 : decode b_M_write 13 = .ok (.invokevirtual 133, 3) := dk_row (s := 0) da_M_write_0 13 (by decide +kernel)
theorem dc_M_write_16 : decode b_M_write 16 = .ok (.aload_n 0, 1) := dk_row (s := 0) da_M_write_0 16 (by decide +kernel)
theorem dc_M_write_17 : decode b_M_write 17 = .ok (.bipush 70, 2) := dk_row (s := 0) da_M_write_0 17 (by decide +kernel)
theorem dc_M_write_19 : decode b_M_write 19 = .ok (.invokevirtual 133, 3) := dk_row (s := 0) da_M_write_0 19 (by decide +kernel)
theorem dc_M_write_22 : decode b_M_write 22 = .ok (.aload_n 0, 1) := dk_row (s := 0) da_M_write_0 22 (by decide +kernel)
theorem dc_M_write_23 : decode b_M_write 23 = .ok (.aload_n 0, 1) := dk_row (s := 0) da_M_write_0 23 (by decide +kernel)
theorem dc_M_write_24 : decode b_M_write 24 = .ok (.getfield 7, 3) := dk_row (s := 0) da_M_write_0 24 (by decide +kernel)
theorem dc_M_write_27 : decode b_M_write 27 = .ok (.aload_n 0, 1) := dk_row (s := 0) da_M_write_0 27 (by decide +kernel)
theorem dc_M_write_28 : decode b_M_write 28 = .ok (.getfield 71, 3) := dk_row (s := 0) da_M_write_0 28 (by decide +kernel)
theorem dc_M_write_31 : decode b_M_write 31 = .ok (.iaload, 1) := dk_row (s := 0) da_M_write_0 31 (by decide +kernel)
def dw_M_write_32 : ByteArray := .mk #[0xb6, 0x00, 0x92, 0x2a, 0x2a, 0xb4, 0x00, 0x0d, 0x2a, 0xb4, 0x00, 0x47, 0x2e, 0xb6, 0x00, 0x92, 0x2a, 0x2a, 0xb4, 0x00, 0x10, 0x2a, 0xb4, 0x00, 0x47, 0x2e, 0xb6, 0x00, 0x85, 0x03, 0x3c, 0x1b]
theorem da_M_write_32 : dkA b_M_write dw_M_write_32 32 := by unfold dkA; decide +kernel
theorem dc_M_write_32 : decode b_M_write 32 = .ok (.invokevirtual 146, 3) := dk_row (s := 32) da_M_write_32 0 (by decide +kernel)
theorem dc_M_write_35 : decode b_M_write 35 = .ok (.aload_n 0, 1) := dk_row (s := 32) da_M_write_32 3 (by decide +kernel)
theorem dc_M_write_36 : decode b_M_write 36 = .ok (.aload_n 0, 1) := dk_row (s := 32) da_M_write_32 4 (by decide +kernel)
theorem dc_M_write_37 : decode b_M_write 37 = .ok (.getfield 13, 3) := dk_row (s := 32) da_M_write_32 5 (by decide +kernel)
theorem dc_M_write_40 : decode b_M_write 40 = .ok (.aload_n 0, 1) := dk_row (s := 32) da_M_write_32 8 (by decide +kernel)
theorem dc_M_write_41 : decode b_M_write 41 = .ok (.getfield 71, 3) := dk_row (s := 32) da_M_write_32 9 (by decide +kernel)
theorem dc_M_write_44 : decode b_M_write 44 = .ok (.iaload, 1) := dk_row (s := 32) da_M_write_32 12 (by decide +kernel)
theorem dc_M_write_45 : decode b_M_write 45 = .ok (.invokevirtual 146, 3) := dk_row (s := 32) da_M_write_32 13 (by decide +kernel)
theorem dc_M_write_48 : decode b_M_write 48 = .ok (.aload_n 0, 1) := dk_row (s := 32) da_M_write_32 16 (by decide +kernel)
theorem dc_M_write_49 : decode b_M_write 49 = .ok (.aload_n 0, 1) := dk_row (s := 32) da_M_write_32 17 (by decide +kernel)
theorem dc_M_write_50 : decode b_M_write 50 = .ok (.getfield 16, 3) := dk_row (s := 32) da_M_write_32 18 (by decide +kernel)
theorem dc_M_write_53 : decode b_M_write 53 = .ok (.aload_n 0, 1) := dk_row (s := 32) da_M_write_32 21 (by decide +kernel)
theorem dc_M_write_54 : decode b_M_write 54 = .ok (.getfield 71, 3) := dk_row (s := 32) da_M_write_32 22 (by decide +kernel)
theorem dc_M_write_57 : decode b_M_write 57 = .ok (.iaload, 1) := dk_row (s := 32) da_M_write_32 25 (by decide +kernel)
theorem dc_M_write_58 : decode b_M_write 58 = .ok (.invokevirtual 133, 3) := dk_row (s := 32) da_M_write_32 26 (by decide +kernel)
theorem dc_M_write_61 : decode b_M_write 61 = .ok (.iconst 0, 1) := dk_row (s := 32) da_M_write_32 29 (by decide +kernel)
theorem dc_M_write_62 : decode b_M_write 62 = .ok (.istore_n 1, 1) := dk_row (s := 32) da_M_write_32 30 (by decide +kernel)
theorem dc_M_write_63 : decode b_M_write 63 = .ok (.iload_n 1, 1) := dk_row (s := 32) da_M_write_32 31 (by decide +kernel)
def dw_M_write_64 : ByteArray := .mk #[0x2a, 0xb4, 0x00, 0x10, 0x2a, 0xb4, 0x00, 0x47, 0x2e, 0xa2, 0x00, 0x12, 0x2a, 0x2a, 0x1b, 0xb6, 0x00, 0x8f, 0xb6, 0x00, 0x92, 0x84, 0x01, 0x01, 0xa7, 0xff, 0xe7, 0x2a, 0x2a, 0xb4, 0x00, 0x13]
theorem da_M_write_64 : dkA b_M_write dw_M_write_64 64 := by unfold dkA; decide +kernel
theorem dc_M_write_64 : decode b_M_write 64 = .ok (.aload_n 0, 1) := dk_row (s := 64) da_M_write_64 0 (by decide +kernel)
theorem dc_M_write_65 : decode b_M_write 65 = .ok (.getfield 16, 3) := dk_row (s := 64) da_M_write_64 1 (by decide +kernel)
theorem dc_M_write_68 : decode b_M_write 68 = .ok (.aload_n 0, 1) := dk_row (s := 64) da_M_write_64 4 (by decide +kernel)
theorem dc_M_write_69 : decode b_M_write 69 = .ok (.getfield 71, 3) := dk_row (s := 64) da_M_write_64 5 (by decide +kernel)
theorem dc_M_write_72 : decode b_M_write 72 = .ok (.iaload, 1) := dk_row (s := 64) da_M_write_64 8 (by decide +kernel)
theorem dc_M_write_73 : decode b_M_write 73 = .ok (.if_icmp .ge 18, 3) := dk_row (s := 64) da_M_write_64 9 (by decide +kernel)
theorem dc_M_write_91 : decode b_M_write 91 = .ok (.aload_n 0, 1) := dk_row (s := 64) da_M_write_64 27 (by decide +kernel)
theorem dc_M_write_92 : decode b_M_write 92 = .ok (.aload_n 0, 1) := dk_row (s := 64) da_M_write_64 28 (by decide +kernel)
theorem dc_M_write_93 : decode b_M_write 93 = .ok (.getfield 19, 3) := dk_row (s := 64) da_M_write_64 29 (by decide +kernel)
def dw_M_write_96 : ByteArray := .mk #[0x2a, 0xb4, 0x00, 0x47, 0x2e, 0xb6, 0x00, 0x85, 0x10, 0x14, 0x2a, 0xb4, 0x00, 0x47, 0x68, 0x3c]
theorem da_M_write_96 : dkA b_M_write dw_M_write_96 96 := by unfold dkA; decide +kernel
theorem dc_M_write_96 : decode b_M_write 96 = .ok (.aload_n 0, 1) := dk_row (s := 96) da_M_write_96 0 (by decide +kernel)
theorem dc_M_write_97 : decode b_M_write 97 = .ok (.getfield 71, 3) := dk_row (s := 96) da_M_write_96 1 (by decide +kernel)
theorem dc_M_write_100 : decode b_M_write 100 = .ok (.iaload, 1) := dk_row (s := 96) da_M_write_96 4 (by decide +kernel)
theorem dc_M_write_101 : decode b_M_write 101 = .ok (.invokevirtual 133, 3) := dk_row (s := 96) da_M_write_96 5 (by decide +kernel)
theorem dc_M_write_104 : decode b_M_write 104 = .ok (.bipush 20, 2) := dk_row (s := 96) da_M_write_96 8 (by decide +kernel)
theorem dc_M_write_106 : decode b_M_write 106 = .ok (.aload_n 0, 1) := dk_row (s := 96) da_M_write_96 10 (by decide +kernel)
theorem dc_M_write_107 : decode b_M_write 107 = .ok (.getfield 71, 3) := dk_row (s := 96) da_M_write_96 11 (by decide +kernel)
theorem dc_M_write_110 : decode b_M_write 110 = .ok (.imul, 1) := dk_row (s := 96) da_M_write_96 14 (by decide +kernel)
theorem dc_M_write_111 : decode b_M_write 111 = .ok (.istore_n 1, 1) := dk_row (s := 96) da_M_write_96 15 (by decide +kernel)
def dw_M_write_76 : ByteArray := .mk #[0x2a, 0x2a, 0x1b, 0xb6, 0x00, 0x8f, 0xb6, 0x00, 0x92, 0x84, 0x01, 0x01, 0xa7, 0xff, 0xe7]
theorem da_M_write_76 : dkA b_M_write dw_M_write_76 76 := by unfold dkA; decide +kernel
theorem dc_M_write_76 : decode b_M_write 76 = .ok (.aload_n 0, 1) := dk_row (s := 76) da_M_write_76 0 (by decide +kernel)
theorem dc_M_write_77 : decode b_M_write 77 = .ok (.aload_n 0, 1) := dk_row (s := 76) da_M_write_76 1 (by decide +kernel)
theorem dc_M_write_78 : decode b_M_write 78 = .ok (.iload_n 1, 1) := dk_row (s := 76) da_M_write_76 2 (by decide +kernel)
theorem dc_M_write_79 : decode b_M_write 79 = .ok (.invokevirtual 143, 3) := dk_row (s := 76) da_M_write_76 3 (by decide +kernel)
theorem dc_M_write_82 : decode b_M_write 82 = .ok (.invokevirtual 146, 3) := dk_row (s := 76) da_M_write_76 6 (by decide +kernel)
theorem dc_M_write_85 : decode b_M_write 85 = .ok (.iinc 1 1, 3) := dk_row (s := 76) da_M_write_76 9 (by decide +kernel)
theorem dc_M_write_88 : decode b_M_write 88 = .ok (.goto (-25), 3) := dk_row (s := 76) da_M_write_76 12 (by decide +kernel)
def dw_M_write_112 : ByteArray := .mk #[0x1b, 0x10, 0x14, 0x2a, 0xb4, 0x00, 0x47, 0x68, 0x2a, 0xb4, 0x00, 0x13, 0x2a, 0xb4, 0x00, 0x47, 0x2e, 0x60, 0xa2, 0x00, 0x27]
theorem da_M_write_112 : dkA b_M_write dw_M_write_112 112 := by unfold dkA; decide +kernel
theorem dc_M_write_112 : decode b_M_write 112 = .ok (.iload_n 1, 1) := dk_row (s := 112) da_M_write_112 0 (by decide +kernel)
theorem dc_M_write_113 : decode b_M_write 113 = .ok (.bipush 20, 2) := dk_row (s := 112) da_M_write_112 1 (by decide +kernel)
theorem dc_M_write_115 : decode b_M_write 115 = .ok (.aload_n 0, 1) := dk_row (s := 112) da_M_write_112 3 (by decide +kernel)
theorem dc_M_write_116 : decode b_M_write 116 = .ok (.getfield 71, 3) := dk_row (s := 112) da_M_write_112 4 (by decide +kernel)
theorem dc_M_write_119 : decode b_M_write 119 = .ok (.imul, 1) := dk_row (s := 112) da_M_write_112 7 (by decide +kernel)
theorem dc_M_write_120 : decode b_M_write 120 = .ok (.aload_n 0, 1) := dk_row (s := 112) da_M_write_112 8 (by decide +kernel)
theorem dc_M_write_121 : decode b_M_write 121 = .ok (.getfield 19, 3) := dk_row (s := 112) da_M_write_112 9 (by decide +kernel)
theorem dc_M_write_124 : decode b_M_write 124 = .ok (.aload_n 0, 1) := dk_row (s := 112) da_M_write_112 12 (by decide +kernel)
theorem dc_M_write_125 : decode b_M_write 125 = .ok (.getfield 71, 3) := dk_row (s := 112) da_M_write_112 13 (by decide +kernel)
theorem dc_M_write_128 : decode b_M_write 128 = .ok (.iaload, 1) := dk_row (s := 112) da_M_write_112 16 (by decide +kernel)
theorem dc_M_write_129 : decode b_M_write 129 = .ok (.iadd, 1) := dk_row (s := 112) da_M_write_112 17 (by decide +kernel)
theorem dc_M_write_130 : decode b_M_write 130 = .ok (.if_icmp .ge 39, 3) := dk_row (s := 112) da_M_write_112 18 (by decide +kernel)
theorem dc_M_write_169 : decode b_M_write 169 = .ok (.iconst 0, 1) := by decide +kernel
theorem dc_M_write_170 : decode b_M_write 170 = .ok (.istore_n 1, 1) := by decide +kernel
def dw_M_write_133 : ByteArray := .mk #[0x2a, 0x2a, 0xb4, 0x00, 0x2b, 0x1b, 0x2e, 0xb6, 0x00, 0x92, 0x2a, 0x2a, 0xb4, 0x00, 0x2e, 0x1b, 0x2e, 0xb6, 0x00, 0x92, 0x2a, 0x2a, 0xb4, 0x00, 0x31, 0x1b, 0x2e, 0xb6, 0x00, 0x85]
theorem da_M_write_133 : dkA b_M_write dw_M_write_133 133 := by unfold dkA; decide +kernel
theorem dc_M_write_133 : decode b_M_write 133 = .ok (.aload_n 0, 1) := dk_row (s := 133) da_M_write_133 0 (by decide +kernel)
theorem dc_M_write_134 : decode b_M_write 134 = .ok (.aload_n 0, 1) := dk_row (s := 133) da_M_write_133 1 (by decide +kernel)
theorem dc_M_write_135 : decode b_M_write 135 = .ok (.getfield 43, 3) := dk_row (s := 133) da_M_write_133 2 (by decide +kernel)
theorem dc_M_write_138 : decode b_M_write 138 = .ok (.iload_n 1, 1) := dk_row (s := 133) da_M_write_133 5 (by decide +kernel)
theorem dc_M_write_139 : decode b_M_write 139 = .ok (.iaload, 1) := dk_row (s := 133) da_M_write_133 6 (by decide +kernel)
theorem dc_M_write_140 : decode b_M_write 140 = .ok (.invokevirtual 146, 3) := dk_row (s := 133) da_M_write_133 7 (by decide +kernel)
theorem dc_M_write_143 : decode b_M_write 143 = .ok (.aload_n 0, 1) := dk_row (s := 133) da_M_write_133 10 (by decide +kernel)
theorem dc_M_write_144 : decode b_M_write 144 = .ok (.aload_n 0, 1) := dk_row (s := 133) da_M_write_133 11 (by decide +kernel)
theorem dc_M_write_145 : decode b_M_write 145 = .ok (.getfield 46, 3) := dk_row (s := 133) da_M_write_133 12 (by decide +kernel)
theorem dc_M_write_148 : decode b_M_write 148 = .ok (.iload_n 1, 1) := dk_row (s := 133) da_M_write_133 15 (by decide +kernel)
theorem dc_M_write_149 : decode b_M_write 149 = .ok (.iaload, 1) := dk_row (s := 133) da_M_write_133 16 (by decide +kernel)
theorem dc_M_write_150 : decode b_M_write 150 = .ok (.invokevirtual 146, 3) := dk_row (s := 133) da_M_write_133 17 (by decide +kernel)
theorem dc_M_write_153 : decode b_M_write 153 = .ok (.aload_n 0, 1) := dk_row (s := 133) da_M_write_133 20 (by decide +kernel)
theorem dc_M_write_154 : decode b_M_write 154 = .ok (.aload_n 0, 1) := dk_row (s := 133) da_M_write_133 21 (by decide +kernel)
theorem dc_M_write_155 : decode b_M_write 155 = .ok (.getfield 49, 3) := dk_row (s := 133) da_M_write_133 22 (by decide +kernel)
theorem dc_M_write_158 : decode b_M_write 158 = .ok (.iload_n 1, 1) := dk_row (s := 133) da_M_write_133 25 (by decide +kernel)
theorem dc_M_write_159 : decode b_M_write 159 = .ok (.iaload, 1) := dk_row (s := 133) da_M_write_133 26 (by decide +kernel)
theorem dc_M_write_160 : decode b_M_write 160 = .ok (.invokevirtual 133, 3) := dk_row (s := 133) da_M_write_133 27 (by decide +kernel)
def dw_M_write_163 : ByteArray := .mk #[0x84, 0x01, 0x01, 0xa7, 0xff, 0xca, 0x03, 0x3c, 0x1b, 0x2a, 0xb4, 0x00, 0x10, 0x2a, 0xb4, 0x00, 0x47, 0x2e, 0xa2, 0x00, 0x33]
theorem da_M_write_163 : dkA b_M_write dw_M_write_163 163 := by unfold dkA; decide +kernel
theorem dc_M_write_163 : decode b_M_write 163 = .ok (.iinc 1 1, 3) := dk_row (s := 163) da_M_write_163 0 (by decide +kernel)
theorem dc_M_write_166 : decode b_M_write 166 = .ok (.goto (-54), 3) := dk_row (s := 163) da_M_write_163 3 (by decide +kernel)
theorem dc_M_write_171 : decode b_M_write 171 = .ok (.iload_n 1, 1) := dk_row (s := 163) da_M_write_163 8 (by decide +kernel)
theorem dc_M_write_172 : decode b_M_write 172 = .ok (.aload_n 0, 1) := dk_row (s := 163) da_M_write_163 9 (by decide +kernel)
theorem dc_M_write_173 : decode b_M_write 173 = .ok (.getfield 16, 3) := dk_row (s := 163) da_M_write_163 10 (by decide +kernel)
theorem dc_M_write_176 : decode b_M_write 176 = .ok (.aload_n 0, 1) := dk_row (s := 163) da_M_write_163 13 (by decide +kernel)
theorem dc_M_write_177 : decode b_M_write 177 = .ok (.getfield 71, 3) := dk_row (s := 163) da_M_write_163 14 (by decide +kernel)
theorem dc_M_write_180 : decode b_M_write 180 = .ok (.iaload, 1) := dk_row (s := 163) da_M_write_163 17 (by decide +kernel)
theorem dc_M_write_181 : decode b_M_write 181 = .ok (.if_icmp .ge 51, 3) := dk_row (s := 163) da_M_write_163 18 (by decide +kernel)
theorem dc_M_write_232 : decode b_M_write 232 = .ok (.aload_n 0, 1) := by decide +kernel
theorem dc_M_write_233 : decode b_M_write 233 = .ok (.getfield 81, 3) := by decide +kernel
theorem dc_M_write_236 : decode b_M_write 236 = .ok (.ireturn, 1) := by decide +kernel
def dw_M_write_184 : ByteArray := .mk #[0x03, 0x3d, 0x1c, 0x2a, 0xb4, 0x00, 0x10, 0x2a, 0xb4, 0x00, 0x47, 0x2e, 0xa2, 0x00, 0x1e]
theorem da_M_write_184 : dkA b_M_write dw_M_write_184 184 := by unfold dkA; decide +kernel
theorem dc_M_write_184 : decode b_M_write 184 = .ok (.iconst 0, 1) := dk_row (s := 184) da_M_write_184 0 (by decide +kernel)
theorem dc_M_write_185 : decode b_M_write 185 = .ok (.istore_n 2, 1) := dk_row (s := 184) da_M_write_184 1 (by decide +kernel)
theorem dc_M_write_186 : decode b_M_write 186 = .ok (.iload_n 2, 1) := dk_row (s := 184) da_M_write_184 2 (by decide +kernel)
theorem dc_M_write_187 : decode b_M_write 187 = .ok (.aload_n 0, 1) := dk_row (s := 184) da_M_write_184 3 (by decide +kernel)
theorem dc_M_write_188 : decode b_M_write 188 = .ok (.getfield 16, 3) := dk_row (s := 184) da_M_write_184 4 (by decide +kernel)
theorem dc_M_write_191 : decode b_M_write 191 = .ok (.aload_n 0, 1) := dk_row (s := 184) da_M_write_184 7 (by decide +kernel)
theorem dc_M_write_192 : decode b_M_write 192 = .ok (.getfield 71, 3) := dk_row (s := 184) da_M_write_184 8 (by decide +kernel)
theorem dc_M_write_195 : decode b_M_write 195 = .ok (.iaload, 1) := dk_row (s := 184) da_M_write_184 11 (by decide +kernel)
theorem dc_M_write_196 : decode b_M_write 196 = .ok (.if_icmp .ge 30, 3) := dk_row (s := 184) da_M_write_184 12 (by decide +kernel)
theorem dc_M_write_226 : decode b_M_write 226 = .ok (.iinc 1 1, 3) := by decide +kernel
theorem dc_M_write_229 : decode b_M_write 229 = .ok (.goto (-58), 3) := by decide +kernel
def dw_M_write_199 : ByteArray := .mk #[0x2a, 0x1c, 0xb6, 0x00, 0x8f, 0x2a, 0xb4, 0x00, 0x51, 0xa0, 0x00, 0x0c, 0x2a, 0x2a, 0x1c, 0xb6, 0x00, 0x5c, 0xb6, 0x00, 0x96, 0x84, 0x02, 0x01, 0xa7, 0xff, 0xdb]
theorem da_M_write_199 : dkA b_M_write dw_M_write_199 199 := by unfold dkA; decide +kernel
theorem dc_M_write_199 : decode b_M_write 199 = .ok (.aload_n 0, 1) := dk_row (s := 199) da_M_write_199 0 (by decide +kernel)
theorem dc_M_write_200 : decode b_M_write 200 = .ok (.iload_n 2, 1) := dk_row (s := 199) da_M_write_199 1 (by decide +kernel)
theorem dc_M_write_201 : decode b_M_write 201 = .ok (.invokevirtual 143, 3) := dk_row (s := 199) da_M_write_199 2 (by decide +kernel)
theorem dc_M_write_204 : decode b_M_write 204 = .ok (.aload_n 0, 1) := dk_row (s := 199) da_M_write_199 5 (by decide +kernel)
theorem dc_M_write_205 : decode b_M_write 205 = .ok (.getfield 81, 3) := dk_row (s := 199) da_M_write_199 6 (by decide +kernel)
theorem dc_M_write_208 : decode b_M_write 208 = .ok (.if_icmp .ne 12, 3) := dk_row (s := 199) da_M_write_199 9 (by decide +kernel)
theorem dc_M_write_211 : decode b_M_write 211 = .ok (.aload_n 0, 1) := dk_row (s := 199) da_M_write_199 12 (by decide +kernel)
theorem dc_M_write_212 : decode b_M_write 212 = .ok (.aload_n 0, 1) := dk_row (s := 199) da_M_write_199 13 (by decide +kernel)
theorem dc_M_write_213 : decode b_M_write 213 = .ok (.iload_n 2, 1) := dk_row (s := 199) da_M_write_199 14 (by decide +kernel)
theorem dc_M_write_214 : decode b_M_write 214 = .ok (.invokevirtual 92, 3) := dk_row (s := 199) da_M_write_199 15 (by decide +kernel)
theorem dc_M_write_217 : decode b_M_write 217 = .ok (.invokevirtual 150, 3) := dk_row (s := 199) da_M_write_199 18 (by decide +kernel)
theorem dc_M_write_220 : decode b_M_write 220 = .ok (.iinc 2 1, 3) := dk_row (s := 199) da_M_write_199 21 (by decide +kernel)
theorem dc_M_write_223 : decode b_M_write 223 = .ok (.goto (-37), 3) := dk_row (s := 199) da_M_write_199 24 (by decide +kernel)
