theorem wf_N_7 : Cond.fieldLink "LossFreeTools$Note" 7 "LossFreeTools$Note" "x" "I" ∈ ax_tb := ax_tb_in (i := 118) (by decide +kernel) (by decide +kernel)
theorem wf_N_13 : Cond.fieldLink "LossFreeTools$Note" 13 "LossFreeTools$Note" "y" "I" ∈ ax_tb := ax_tb_in (i := 121) (by decide +kernel) (by decide +kernel)
theorem wf_N_16 : Cond.fieldLink "LossFreeTools$Note" 16 "LossFreeTools$Note" "value" "I" ∈ ax_tb := ax_tb_in (i := 124) (by decide +kernel) (by decide +kernel)
theorem wf_P_25 : Cond.fieldLink "LossFreeTools$Picture" 25 "LossFreeTools$Picture" "width" "I" ∈ ax_tb := ax_tb_in (i := 142) (by decide +kernel) (by decide +kernel)
theorem wf_P_29 : Cond.fieldLink "LossFreeTools$Picture" 29 "LossFreeTools$Picture" "height" "I" ∈ ax_tb := ax_tb_in (i := 144) (by decide +kernel) (by decide +kernel)
theorem wf_P_32 : Cond.fieldLink "LossFreeTools$Picture" 32 "LossFreeTools$Picture" "tileCount" "I" ∈ ax_tb := ax_tb_in (i := 138) (by decide +kernel) (by decide +kernel)
theorem wf_P_35 : Cond.fieldLink "LossFreeTools$Picture" 35 "LossFreeTools$Picture" "noteCount" "I" ∈ ax_tb := ax_tb_in (i := 140) (by decide +kernel) (by decide +kernel)
theorem wf_T_15 : Cond.fieldLink "LossFreeTools$Tile" 15 "LossFreeTools$Tile" "x" "I" ∈ ax_tb := ax_tb_in (i := 85) (by decide +kernel) (by decide +kernel)
theorem wf_T_22 : Cond.fieldLink "LossFreeTools$Tile" 22 "LossFreeTools$Tile" "w" "I" ∈ ax_tb := ax_tb_in (i := 89) (by decide +kernel) (by decide +kernel)
theorem wf_T_19 : Cond.fieldLink "LossFreeTools$Tile" 19 "LossFreeTools$Tile" "y" "I" ∈ ax_tb := ax_tb_in (i := 87) (by decide +kernel) (by decide +kernel)
theorem wf_T_25 : Cond.fieldLink "LossFreeTools$Tile" 25 "LossFreeTools$Tile" "h" "I" ∈ ax_tb := ax_tb_in (i := 91) (by decide +kernel) (by decide +kernel)
theorem wf_T_28 : Cond.fieldLink "LossFreeTools$Tile" 28 "LossFreeTools$Tile" "way" "I" ∈ ax_tb := ax_tb_in (i := 93) (by decide +kernel) (by decide +kernel)
theorem wf_T_31 : Cond.fieldLink "LossFreeTools$Tile" 31 "LossFreeTools$Tile" "byteCount" "I" ∈ ax_tb := ax_tb_in (i := 83) (by decide +kernel) (by decide +kernel)
theorem wf_P_11 : Cond.fieldLink "LossFreeTools$Picture" 11 "LossFreeTools$Picture" "tiles" "[LLossFreeTools$Tile;" ∈ ax_tb := ax_tb_in (i := 134) (by decide +kernel) (by decide +kernel)
theorem wf_P_20 : Cond.fieldLink "LossFreeTools$Picture" 20 "LossFreeTools$Picture" "notes" "[LLossFreeTools$Note;" ∈ ax_tb := ax_tb_in (i := 136) (by decide +kernel) (by decide +kernel)
theorem wf_S_19 : Cond.fieldLink "LossFreeTools$Stream" 19 "LossFreeTools$Stream" "place" "I" ∈ ax_tb := ax_tb_in (i := 58) (by decide +kernel) (by decide +kernel)
theorem wf_S_9 : Cond.fieldLink "LossFreeTools$Stream" 9 "LossFreeTools$Stream" "bytes" "[I" ∈ ax_tb := ax_tb_in (i := 54) (by decide +kernel) (by decide +kernel)
theorem wf_S_15 : Cond.fieldLink "LossFreeTools$Stream" 15 "LossFreeTools$Stream" "length" "I" ∈ ax_tb := ax_tb_in (i := 56) (by decide +kernel) (by decide +kernel)
theorem wl_S_22 : Cond.methodLink "LossFreeTools$Stream" 22 Lib.Math.max.name ∈ ax_tb := ax_tb_in (i := 204) (by decide +kernel) (by decide +kernel)
theorem wt_math_max : Cond.static Lib.Math.max.name ∈ ax_tb := ax_tb_in (i := 46) (by decide +kernel) (by decide +kernel)
theorem wn_java_lang_Math : Cond.initialized "java/lang/Math" ∈ ax_tb := ax_tb_in (i := 18) (by decide +kernel) (by decide +kernel)
theorem wc_math_max : Cond.code Lib.Math.max.name Lib.Math.max.code 2 (some .int) ∈ ax_tb := ax_tb_in (i := 47) (by decide +kernel) (by decide +kernel)
theorem wk_S_32 : Cond.constant "LossFreeTools$Stream" 32 65521 ∈ ax_tb := ax_tb_in (i := 237) (by decide +kernel) (by decide +kernel)
theorem wf_T_9 : Cond.fieldLink "LossFreeTools$Tile" 9 "LossFreeTools$Tile" "bytes" "[I" ∈ ax_tb := ax_tb_in (i := 81) (by decide +kernel) (by decide +kernel)
theorem wl_K_263 : Cond.methodLink "LossFreeTools" 263 Lib.Math.min.name ∈ ax_tb := ax_tb_in (i := 42) (by decide +kernel) (by decide +kernel)
theorem wt_math_min : Cond.static Lib.Math.min.name ∈ ax_tb := ax_tb_in (i := 43) (by decide +kernel) (by decide +kernel)
theorem wc_math_min : Cond.code Lib.Math.min.name Lib.Math.min.code 2 (some .int) ∈ ax_tb := ax_tb_in (i := 44) (by decide +kernel) (by decide +kernel)
theorem wl_K_268 : Cond.methodLink "LossFreeTools" 268 Lib.Math.max.name ∈ ax_tb := ax_tb_in (i := 45) (by decide +kernel) (by decide +kernel)
theorem wf_K_36 : Cond.fieldLink "LossFreeTools" 36 "LossFreeTools" "here" "LLossFreeTools$Picture;" ∈ ax_tb := ax_tb_in (i := 163) (by decide +kernel) (by decide +kernel)
theorem wf_K_40 : Cond.fieldLink "LossFreeTools" 40 "LossFreeTools" "other" "LLossFreeTools$Picture;" ∈ ax_tb := ax_tb_in (i := 164) (by decide +kernel) (by decide +kernel)
theorem wf_K_43 : Cond.fieldLink "LossFreeTools" 43 "LossFreeTools" "wayDone" "I" ∈ ax_tb := ax_tb_in (i := 165) (by decide +kernel) (by decide +kernel)
theorem wf_K_46 : Cond.fieldLink "LossFreeTools" 46 "LossFreeTools" "refused" "Z" ∈ ax_tb := ax_tb_in (i := 166) (by decide +kernel) (by decide +kernel)
theorem wf_K_69 : Cond.fieldLink "LossFreeTools" 69 "LossFreeTools$Picture" "tileCount" "I" ∈ ax_tb := ax_tb_in (i := 139) (by decide +kernel) (by decide +kernel)
theorem wf_K_243 : Cond.fieldLink "LossFreeTools" 243 "LossFreeTools$Picture" "width" "I" ∈ ax_tb := ax_tb_in (i := 143) (by decide +kernel) (by decide +kernel)
theorem wf_K_246 : Cond.fieldLink "LossFreeTools" 246 "LossFreeTools$Picture" "height" "I" ∈ ax_tb := ax_tb_in (i := 145) (by decide +kernel) (by decide +kernel)
theorem wf_K_115 : Cond.fieldLink "LossFreeTools" 115 "LossFreeTools$Picture" "noteCount" "I" ∈ ax_tb := ax_tb_in (i := 141) (by decide +kernel) (by decide +kernel)
theorem wf_K_23 : Cond.fieldLink "LossFreeTools" 23 "LossFreeTools" "stream" "LLossFreeTools$Stream;" ∈ ax_tb := ax_tb_in (i := 161) (by decide +kernel) (by decide +kernel)
theorem wf_K_239 : Cond.fieldLink "LossFreeTools" 239 "LossFreeTools$Stream" "length" "I" ∈ ax_tb := ax_tb_in (i := 57) (by decide +kernel) (by decide +kernel)
theorem wc_T_overlaps : Cond.code y_T_overlaps b_T_overlaps 5 (some .boolean) ∈ ax_tb := ax_tb_in (i := 343) (by decide +kernel) (by decide +kernel)
theorem wn_LossFreeTools_Tile : Cond.initialized "LossFreeTools$Tile" ∈ ax_tb := ax_tb_in (i := 21) (by decide +kernel) (by decide +kernel)
theorem wl_P_38 : Cond.methodLink "LossFreeTools$Picture" 38 y_T_overlaps ∈ ax_tb := ax_tb_in (i := 340) (by decide +kernel) (by decide +kernel)
theorem wi_T_overlaps : Cond.instanceMethod y_T_overlaps ∈ ax_tb := ax_tb_in (i := 341) (by decide +kernel) (by decide +kernel)
theorem ws_T_overlaps : Cond.selects "LossFreeTools$Tile" y_T_overlaps y_T_overlaps ∈ ax_tb := ax_tb_in (i := 342) (by decide +kernel) (by decide +kernel)
theorem wc_T_startAnew : Cond.code y_T_startAnew b_T_startAnew 5 none ∈ ax_tb := ax_tb_in (i := 383) (by decide +kernel) (by decide +kernel)
theorem wl_P_42 : Cond.methodLink "LossFreeTools$Picture" 42 y_T_startAnew ∈ ax_tb := ax_tb_in (i := 380) (by decide +kernel) (by decide +kernel)
theorem wi_T_startAnew : Cond.instanceMethod y_T_startAnew ∈ ax_tb := ax_tb_in (i := 381) (by decide +kernel) (by decide +kernel)
theorem ws_T_startAnew : Cond.selects "LossFreeTools$Tile" y_T_startAnew y_T_startAnew ∈ ax_tb := ax_tb_in (i := 382) (by decide +kernel) (by decide +kernel)
theorem wc_N_startAnew : Cond.code y_N_startAnew b_N_startAnew 4 none ∈ ax_tb := ax_tb_in (i := 441) (by decide +kernel) (by decide +kernel)
theorem wn_LossFreeTools_Note : Cond.initialized "LossFreeTools$Note" ∈ ax_tb := ax_tb_in (i := 22) (by decide +kernel) (by decide +kernel)
theorem wl_P_46 : Cond.methodLink "LossFreeTools$Picture" 46 y_N_startAnew ∈ ax_tb := ax_tb_in (i := 438) (by decide +kernel) (by decide +kernel)
theorem wi_N_startAnew : Cond.instanceMethod y_N_startAnew ∈ ax_tb := ax_tb_in (i := 439) (by decide +kernel) (by decide +kernel)
theorem ws_N_startAnew : Cond.selects "LossFreeTools$Note" y_N_startAnew y_N_startAnew ∈ ax_tb := ax_tb_in (i := 440) (by decide +kernel) (by decide +kernel)
theorem wc_T_crosses : Cond.code y_T_crosses b_T_crosses 5 (some .boolean) ∈ ax_tb := ax_tb_in (i := 464) (by decide +kernel) (by decide +kernel)
theorem wl_P_49 : Cond.methodLink "LossFreeTools$Picture" 49 y_T_crosses ∈ ax_tb := ax_tb_in (i := 461) (by decide +kernel) (by decide +kernel)
theorem wi_T_crosses : Cond.instanceMethod y_T_crosses ∈ ax_tb := ax_tb_in (i := 462) (by decide +kernel) (by decide +kernel)
theorem ws_T_crosses : Cond.selects "LossFreeTools$Tile" y_T_crosses y_T_crosses ∈ ax_tb := ax_tb_in (i := 463) (by decide +kernel) (by decide +kernel)
theorem wc_T_isWithin : Cond.code y_T_isWithin b_T_isWithin 5 (some .boolean) ∈ ax_tb := ax_tb_in (i := 476) (by decide +kernel) (by decide +kernel)
theorem wl_P_70 : Cond.methodLink "LossFreeTools$Picture" 70 y_T_isWithin ∈ ax_tb := ax_tb_in (i := 473) (by decide +kernel) (by decide +kernel)
theorem wi_T_isWithin : Cond.instanceMethod y_T_isWithin ∈ ax_tb := ax_tb_in (i := 474) (by decide +kernel) (by decide +kernel)
theorem ws_T_isWithin : Cond.selects "LossFreeTools$Tile" y_T_isWithin y_T_isWithin ∈ ax_tb := ax_tb_in (i := 475) (by decide +kernel) (by decide +kernel)
theorem wc_N_isWithin : Cond.code y_N_isWithin b_N_isWithin 5 (some .boolean) ∈ ax_tb := ax_tb_in (i := 484) (by decide +kernel) (by decide +kernel)
theorem wl_P_73 : Cond.methodLink "LossFreeTools$Picture" 73 y_N_isWithin ∈ ax_tb := ax_tb_in (i := 481) (by decide +kernel) (by decide +kernel)
theorem wi_N_isWithin : Cond.instanceMethod y_N_isWithin ∈ ax_tb := ax_tb_in (i := 482) (by decide +kernel) (by decide +kernel)
theorem ws_N_isWithin : Cond.selects "LossFreeTools$Note" y_N_isWithin y_N_isWithin ∈ ax_tb := ax_tb_in (i := 483) (by decide +kernel) (by decide +kernel)
theorem wc_T_moveBy : Cond.code y_T_moveBy b_T_moveBy 3 none ∈ ax_tb := ax_tb_in (i := 492) (by decide +kernel) (by decide +kernel)
theorem wl_P_74 : Cond.methodLink "LossFreeTools$Picture" 74 y_T_moveBy ∈ ax_tb := ax_tb_in (i := 489) (by decide +kernel) (by decide +kernel)
theorem wi_T_moveBy : Cond.instanceMethod y_T_moveBy ∈ ax_tb := ax_tb_in (i := 490) (by decide +kernel) (by decide +kernel)
theorem ws_T_moveBy : Cond.selects "LossFreeTools$Tile" y_T_moveBy y_T_moveBy ∈ ax_tb := ax_tb_in (i := 491) (by decide +kernel) (by decide +kernel)
theorem wc_N_moveBy : Cond.code y_N_moveBy b_N_moveBy 3 none ∈ ax_tb := ax_tb_in (i := 496) (by decide +kernel) (by decide +kernel)
theorem wl_P_75 : Cond.methodLink "LossFreeTools$Picture" 75 y_N_moveBy ∈ ax_tb := ax_tb_in (i := 493) (by decide +kernel) (by decide +kernel)
theorem wi_N_moveBy : Cond.instanceMethod y_N_moveBy ∈ ax_tb := ax_tb_in (i := 494) (by decide +kernel) (by decide +kernel)
theorem ws_N_moveBy : Cond.selects "LossFreeTools$Note" y_N_moveBy y_N_moveBy ∈ ax_tb := ax_tb_in (i := 495) (by decide +kernel) (by decide +kernel)
theorem wc_T_mirrorIn : Cond.code y_T_mirrorIn b_T_mirrorIn 2 none ∈ ax_tb := ax_tb_in (i := 540) (by decide +kernel) (by decide +kernel)
theorem wl_P_97 : Cond.methodLink "LossFreeTools$Picture" 97 y_T_mirrorIn ∈ ax_tb := ax_tb_in (i := 537) (by decide +kernel) (by decide +kernel)
theorem wi_T_mirrorIn : Cond.instanceMethod y_T_mirrorIn ∈ ax_tb := ax_tb_in (i := 538) (by decide +kernel) (by decide +kernel)
theorem ws_T_mirrorIn : Cond.selects "LossFreeTools$Tile" y_T_mirrorIn y_T_mirrorIn ∈ ax_tb := ax_tb_in (i := 539) (by decide +kernel) (by decide +kernel)
theorem wc_N_mirrorIn : Cond.code y_N_mirrorIn b_N_mirrorIn 2 none ∈ ax_tb := ax_tb_in (i := 544) (by decide +kernel) (by decide +kernel)
theorem wl_P_101 : Cond.methodLink "LossFreeTools$Picture" 101 y_N_mirrorIn ∈ ax_tb := ax_tb_in (i := 541) (by decide +kernel) (by decide +kernel)
theorem wi_N_mirrorIn : Cond.instanceMethod y_N_mirrorIn ∈ ax_tb := ax_tb_in (i := 542) (by decide +kernel) (by decide +kernel)
theorem ws_N_mirrorIn : Cond.selects "LossFreeTools$Note" y_N_mirrorIn y_N_mirrorIn ∈ ax_tb := ax_tb_in (i := 543) (by decide +kernel) (by decide +kernel)
theorem wc_T_quarterIn : Cond.code y_T_quarterIn b_T_quarterIn 4 none ∈ ax_tb := ax_tb_in (i := 555) (by decide +kernel) (by decide +kernel)
theorem wl_P_102 : Cond.methodLink "LossFreeTools$Picture" 102 y_T_quarterIn ∈ ax_tb := ax_tb_in (i := 552) (by decide +kernel) (by decide +kernel)
theorem wi_T_quarterIn : Cond.instanceMethod y_T_quarterIn ∈ ax_tb := ax_tb_in (i := 553) (by decide +kernel) (by decide +kernel)
theorem ws_T_quarterIn : Cond.selects "LossFreeTools$Tile" y_T_quarterIn y_T_quarterIn ∈ ax_tb := ax_tb_in (i := 554) (by decide +kernel) (by decide +kernel)
theorem wc_N_quarterIn : Cond.code y_N_quarterIn b_N_quarterIn 3 none ∈ ax_tb := ax_tb_in (i := 559) (by decide +kernel) (by decide +kernel)
theorem wl_P_105 : Cond.methodLink "LossFreeTools$Picture" 105 y_N_quarterIn ∈ ax_tb := ax_tb_in (i := 556) (by decide +kernel) (by decide +kernel)
theorem wi_N_quarterIn : Cond.instanceMethod y_N_quarterIn ∈ ax_tb := ax_tb_in (i := 557) (by decide +kernel) (by decide +kernel)
theorem ws_N_quarterIn : Cond.selects "LossFreeTools$Note" y_N_quarterIn y_N_quarterIn ∈ ax_tb := ax_tb_in (i := 558) (by decide +kernel) (by decide +kernel)
theorem wc_K_mirrors : Cond.code y_K_mirrors b_K_mirrors 1 (some .boolean) ∈ ax_tb := ax_tb_in (i := 532) (by decide +kernel) (by decide +kernel)
theorem wn_LossFreeTools : Cond.initialized "LossFreeTools" ∈ ax_tb := ax_tb_in (i := 17) (by decide +kernel) (by decide +kernel)
theorem wl_K_271 : Cond.methodLink "LossFreeTools" 271 y_K_mirrors ∈ ax_tb := ax_tb_in (i := 563) (by decide +kernel) (by decide +kernel)
theorem wt_K_mirrors : Cond.static y_K_mirrors ∈ ax_tb := ax_tb_in (i := 531) (by decide +kernel) (by decide +kernel)
theorem wc_K_quarters : Cond.code y_K_quarters b_K_quarters 1 (some .int) ∈ ax_tb := ax_tb_in (i := 547) (by decide +kernel) (by decide +kernel)
theorem wl_K_274 : Cond.methodLink "LossFreeTools" 274 y_K_quarters ∈ ax_tb := ax_tb_in (i := 564) (by decide +kernel) (by decide +kernel)
theorem wt_K_quarters : Cond.static y_K_quarters ∈ ax_tb := ax_tb_in (i := 546) (by decide +kernel) (by decide +kernel)
theorem wc_P_sizeAlong : Cond.code y_P_sizeAlong b_P_sizeAlong 2 (some .int) ∈ ax_tb := ax_tb_in (i := 516) (by decide +kernel) (by decide +kernel)
theorem wn_LossFreeTools_Picture : Cond.initialized "LossFreeTools$Picture" ∈ ax_tb := ax_tb_in (i := 20) (by decide +kernel) (by decide +kernel)
theorem wl_P_53 : Cond.methodLink "LossFreeTools$Picture" 53 y_P_sizeAlong ∈ ax_tb := ax_tb_in (i := 513) (by decide +kernel) (by decide +kernel)
theorem wi_P_sizeAlong : Cond.instanceMethod y_P_sizeAlong ∈ ax_tb := ax_tb_in (i := 514) (by decide +kernel) (by decide +kernel)
theorem ws_P_sizeAlong : Cond.selects "LossFreeTools$Picture" y_P_sizeAlong y_P_sizeAlong ∈ ax_tb := ax_tb_in (i := 515) (by decide +kernel) (by decide +kernel)
theorem wc_T_partComesBefore : Cond.code y_T_partComesBefore b_T_partComesBefore 2 (some .boolean) ∈ ax_tb := ax_tb_in (i := 217) (by decide +kernel) (by decide +kernel)
theorem wl_P_106 : Cond.methodLink "LossFreeTools$Picture" 106 y_T_partComesBefore ∈ ax_tb := ax_tb_in (i := 214) (by decide +kernel) (by decide +kernel)
theorem wi_T_partComesBefore : Cond.instanceMethod y_T_partComesBefore ∈ ax_tb := ax_tb_in (i := 215) (by decide +kernel) (by decide +kernel)
theorem ws_T_partComesBefore : Cond.selects "LossFreeTools$Tile" y_T_partComesBefore y_T_partComesBefore ∈ ax_tb := ax_tb_in (i := 216) (by decide +kernel) (by decide +kernel)
theorem wc_T_partLength : Cond.code y_T_partLength b_T_partLength 1 (some .int) ∈ ax_tb := ax_tb_in (i := 221) (by decide +kernel) (by decide +kernel)
theorem wl_P_110 : Cond.methodLink "LossFreeTools$Picture" 110 y_T_partLength ∈ ax_tb := ax_tb_in (i := 218) (by decide +kernel) (by decide +kernel)
theorem wi_T_partLength : Cond.instanceMethod y_T_partLength ∈ ax_tb := ax_tb_in (i := 219) (by decide +kernel) (by decide +kernel)
theorem ws_T_partLength : Cond.selects "LossFreeTools$Tile" y_T_partLength y_T_partLength ∈ ax_tb := ax_tb_in (i := 220) (by decide +kernel) (by decide +kernel)
theorem wc_S_putByte : Cond.code y_S_putByte b_S_putByte 2 none ∈ ax_tb := ax_tb_in (i := 203) (by decide +kernel) (by decide +kernel)
theorem wn_LossFreeTools_Stream : Cond.initialized "LossFreeTools$Stream" ∈ ax_tb := ax_tb_in (i := 19) (by decide +kernel) (by decide +kernel)
theorem wl_S_28 : Cond.methodLink "LossFreeTools$Stream" 28 y_S_putByte ∈ ax_tb := ax_tb_in (i := 209) (by decide +kernel) (by decide +kernel)
theorem wi_S_putByte : Cond.instanceMethod y_S_putByte ∈ ax_tb := ax_tb_in (i := 201) (by decide +kernel) (by decide +kernel)
theorem ws_S_putByte : Cond.selects "LossFreeTools$Stream" y_S_putByte y_S_putByte ∈ ax_tb := ax_tb_in (i := 202) (by decide +kernel) (by decide +kernel)
theorem wf_K_13 : Cond.fieldLink "LossFreeTools" 13 "LossFreeTools" "firstWidth" "I" ∈ ax_tb := ax_tb_in (i := 159) (by decide +kernel) (by decide +kernel)
theorem wf_K_17 : Cond.fieldLink "LossFreeTools" 17 "LossFreeTools" "firstHeight" "I" ∈ ax_tb := ax_tb_in (i := 160) (by decide +kernel) (by decide +kernel)
theorem wc_P_startAnew : Cond.code y_P_startAnew b_P_startAnew 3 none ∈ ax_tb := ax_tb_in (i := 249) (by decide +kernel) (by decide +kernel)
theorem wl_K_249 : Cond.methodLink "LossFreeTools" 249 y_P_startAnew ∈ ax_tb := ax_tb_in (i := 246) (by decide +kernel) (by decide +kernel)
theorem wi_P_startAnew : Cond.instanceMethod y_P_startAnew ∈ ax_tb := ax_tb_in (i := 247) (by decide +kernel) (by decide +kernel)
theorem ws_P_startAnew : Cond.selects "LossFreeTools$Picture" y_P_startAnew y_P_startAnew ∈ ax_tb := ax_tb_in (i := 248) (by decide +kernel) (by decide +kernel)
theorem wc_S_empty : Cond.code y_S_empty b_S_empty 1 none ∈ ax_tb := ax_tb_in (i := 195) (by decide +kernel) (by decide +kernel)
theorem wl_K_222 : Cond.methodLink "LossFreeTools" 222 y_S_empty ∈ ax_tb := ax_tb_in (i := 192) (by decide +kernel) (by decide +kernel)
theorem wi_S_empty : Cond.instanceMethod y_S_empty ∈ ax_tb := ax_tb_in (i := 193) (by decide +kernel) (by decide +kernel)
theorem ws_S_empty : Cond.selects "LossFreeTools$Stream" y_S_empty y_S_empty ∈ ax_tb := ax_tb_in (i := 194) (by decide +kernel) (by decide +kernel)
theorem wc_P_borderFits : Cond.code y_P_borderFits b_P_borderFits 4 (some .boolean) ∈ ax_tb := ax_tb_in (i := 460) (by decide +kernel) (by decide +kernel)
theorem wl_P_57 : Cond.methodLink "LossFreeTools$Picture" 57 y_P_borderFits ∈ ax_tb := ax_tb_in (i := 517) (by decide +kernel) (by decide +kernel)
theorem wi_P_borderFits : Cond.instanceMethod y_P_borderFits ∈ ax_tb := ax_tb_in (i := 458) (by decide +kernel) (by decide +kernel)
theorem ws_P_borderFits : Cond.selects "LossFreeTools$Picture" y_P_borderFits y_P_borderFits ∈ ax_tb := ax_tb_in (i := 459) (by decide +kernel) (by decide +kernel)
theorem wc_P_keepTilesWithin : Cond.code y_P_keepTilesWithin b_P_keepTilesWithin 8 none ∈ ax_tb := ax_tb_in (i := 472) (by decide +kernel) (by decide +kernel)
theorem wl_P_60 : Cond.methodLink "LossFreeTools$Picture" 60 y_P_keepTilesWithin ∈ ax_tb := ax_tb_in (i := 469) (by decide +kernel) (by decide +kernel)
theorem wi_P_keepTilesWithin : Cond.instanceMethod y_P_keepTilesWithin ∈ ax_tb := ax_tb_in (i := 470) (by decide +kernel) (by decide +kernel)
theorem ws_P_keepTilesWithin : Cond.selects "LossFreeTools$Picture" y_P_keepTilesWithin y_P_keepTilesWithin ∈ ax_tb := ax_tb_in (i := 471) (by decide +kernel) (by decide +kernel)
theorem wc_P_keepNotesWithin : Cond.code y_P_keepNotesWithin b_P_keepNotesWithin 8 none ∈ ax_tb := ax_tb_in (i := 480) (by decide +kernel) (by decide +kernel)
theorem wl_P_63 : Cond.methodLink "LossFreeTools$Picture" 63 y_P_keepNotesWithin ∈ ax_tb := ax_tb_in (i := 477) (by decide +kernel) (by decide +kernel)
theorem wi_P_keepNotesWithin : Cond.instanceMethod y_P_keepNotesWithin ∈ ax_tb := ax_tb_in (i := 478) (by decide +kernel) (by decide +kernel)
theorem ws_P_keepNotesWithin : Cond.selects "LossFreeTools$Picture" y_P_keepNotesWithin y_P_keepNotesWithin ∈ ax_tb := ax_tb_in (i := 479) (by decide +kernel) (by decide +kernel)
theorem wc_P_moveBy : Cond.code y_P_moveBy b_P_moveBy 4 none ∈ ax_tb := ax_tb_in (i := 488) (by decide +kernel) (by decide +kernel)
theorem wl_P_66 : Cond.methodLink "LossFreeTools$Picture" 66 y_P_moveBy ∈ ax_tb := ax_tb_in (i := 485) (by decide +kernel) (by decide +kernel)
theorem wi_P_moveBy : Cond.instanceMethod y_P_moveBy ∈ ax_tb := ax_tb_in (i := 486) (by decide +kernel) (by decide +kernel)
theorem ws_P_moveBy : Cond.selects "LossFreeTools$Picture" y_P_moveBy y_P_moveBy ∈ ax_tb := ax_tb_in (i := 487) (by decide +kernel) (by decide +kernel)
theorem wc_P_mirror : Cond.code y_P_mirror b_P_mirror 2 none ∈ ax_tb := ax_tb_in (i := 536) (by decide +kernel) (by decide +kernel)
theorem wl_P_80 : Cond.methodLink "LossFreeTools$Picture" 80 y_P_mirror ∈ ax_tb := ax_tb_in (i := 533) (by decide +kernel) (by decide +kernel)
theorem wi_P_mirror : Cond.instanceMethod y_P_mirror ∈ ax_tb := ax_tb_in (i := 534) (by decide +kernel) (by decide +kernel)
theorem ws_P_mirror : Cond.selects "LossFreeTools$Picture" y_P_mirror y_P_mirror ∈ ax_tb := ax_tb_in (i := 535) (by decide +kernel) (by decide +kernel)
theorem wc_P_turnQuarter : Cond.code y_P_turnQuarter b_P_turnQuarter 2 none ∈ ax_tb := ax_tb_in (i := 551) (by decide +kernel) (by decide +kernel)
theorem wl_P_87 : Cond.methodLink "LossFreeTools$Picture" 87 y_P_turnQuarter ∈ ax_tb := ax_tb_in (i := 548) (by decide +kernel) (by decide +kernel)
theorem wi_P_turnQuarter : Cond.instanceMethod y_P_turnQuarter ∈ ax_tb := ax_tb_in (i := 549) (by decide +kernel) (by decide +kernel)
theorem ws_P_turnQuarter : Cond.selects "LossFreeTools$Picture" y_P_turnQuarter y_P_turnQuarter ∈ ax_tb := ax_tb_in (i := 550) (by decide +kernel) (by decide +kernel)
theorem wf_P_90 : Cond.fieldLink "LossFreeTools$Picture" 90 "LossFreeTools$Tile" "way" "I" ∈ ax_tb := ax_tb_in (i := 95) (by decide +kernel) (by decide +kernel)
theorem wc_K_together : Cond.code y_K_together b_K_together 4 (some .int) ∈ ax_tb := ax_tb_in (i := 562) (by decide +kernel) (by decide +kernel)
theorem wt_K_together : Cond.static y_K_together ∈ ax_tb := ax_tb_in (i := 561) (by decide +kernel) (by decide +kernel)
theorem wl_P_114 : Cond.methodLink "LossFreeTools$Picture" 114 y_S_putByte ∈ ax_tb := ax_tb_in (i := 200) (by decide +kernel) (by decide +kernel)
theorem wc_S_putNumber : Cond.code y_S_putNumber b_S_putNumber 2 none ∈ ax_tb := ax_tb_in (i := 208) (by decide +kernel) (by decide +kernel)
theorem wl_P_119 : Cond.methodLink "LossFreeTools$Picture" 119 y_S_putNumber ∈ ax_tb := ax_tb_in (i := 205) (by decide +kernel) (by decide +kernel)
theorem wi_S_putNumber : Cond.instanceMethod y_S_putNumber ∈ ax_tb := ax_tb_in (i := 206) (by decide +kernel) (by decide +kernel)
theorem ws_S_putNumber : Cond.selects "LossFreeTools$Stream" y_S_putNumber y_S_putNumber ∈ ax_tb := ax_tb_in (i := 207) (by decide +kernel) (by decide +kernel)
theorem wc_P_placeOfPart : Cond.code y_P_placeOfPart b_P_placeOfPart 4 (some .int) ∈ ax_tb := ax_tb_in (i := 213) (by decide +kernel) (by decide +kernel)
theorem wl_P_122 : Cond.methodLink "LossFreeTools$Picture" 122 y_P_placeOfPart ∈ ax_tb := ax_tb_in (i := 210) (by decide +kernel) (by decide +kernel)
theorem wi_P_placeOfPart : Cond.instanceMethod y_P_placeOfPart ∈ ax_tb := ax_tb_in (i := 211) (by decide +kernel) (by decide +kernel)
theorem ws_P_placeOfPart : Cond.selects "LossFreeTools$Picture" y_P_placeOfPart y_P_placeOfPart ∈ ax_tb := ax_tb_in (i := 212) (by decide +kernel) (by decide +kernel)
theorem wf_P_126 : Cond.fieldLink "LossFreeTools$Picture" 126 "LossFreeTools$Note" "x" "I" ∈ ax_tb := ax_tb_in (i := 120) (by decide +kernel) (by decide +kernel)
theorem wf_P_129 : Cond.fieldLink "LossFreeTools$Picture" 129 "LossFreeTools$Note" "y" "I" ∈ ax_tb := ax_tb_in (i := 123) (by decide +kernel) (by decide +kernel)
theorem wf_P_132 : Cond.fieldLink "LossFreeTools$Picture" 132 "LossFreeTools$Note" "value" "I" ∈ ax_tb := ax_tb_in (i := 126) (by decide +kernel) (by decide +kernel)
theorem wc_T_liesOnItsSide : Cond.code y_T_liesOnItsSide b_T_liesOnItsSide 1 (some .boolean) ∈ ax_tb := ax_tb_in (i := 610) (by decide +kernel) (by decide +kernel)
theorem wl_T_38 : Cond.methodLink "LossFreeTools$Tile" 38 y_T_liesOnItsSide ∈ ax_tb := ax_tb_in (i := 607) (by decide +kernel) (by decide +kernel)
theorem wi_T_liesOnItsSide : Cond.instanceMethod y_T_liesOnItsSide ∈ ax_tb := ax_tb_in (i := 608) (by decide +kernel) (by decide +kernel)
theorem ws_T_liesOnItsSide : Cond.selects "LossFreeTools$Tile" y_T_liesOnItsSide y_T_liesOnItsSide ∈ ax_tb := ax_tb_in (i := 609) (by decide +kernel) (by decide +kernel)
theorem wf_T_46 : Cond.fieldLink "LossFreeTools$Tile" 46 "LossFreeTools$Stream" "place" "I" ∈ ax_tb := ax_tb_in (i := 59) (by decide +kernel) (by decide +kernel)
theorem wl_T_51 : Cond.methodLink "LossFreeTools$Tile" 51 y_S_putNumber ∈ ax_tb := ax_tb_in (i := 231) (by decide +kernel) (by decide +kernel)
theorem wl_T_55 : Cond.methodLink "LossFreeTools$Tile" 55 y_S_putByte ∈ ax_tb := ax_tb_in (i := 232) (by decide +kernel) (by decide +kernel)
theorem wc_S_sumFrom : Cond.code y_S_sumFrom b_S_sumFrom 4 (some .int) ∈ ax_tb := ax_tb_in (i := 236) (by decide +kernel) (by decide +kernel)
theorem wl_T_58 : Cond.methodLink "LossFreeTools$Tile" 58 y_S_sumFrom ∈ ax_tb := ax_tb_in (i := 233) (by decide +kernel) (by decide +kernel)
theorem wi_S_sumFrom : Cond.instanceMethod y_S_sumFrom ∈ ax_tb := ax_tb_in (i := 234) (by decide +kernel) (by decide +kernel)
theorem ws_S_sumFrom : Cond.selects "LossFreeTools$Stream" y_S_sumFrom y_S_sumFrom ∈ ax_tb := ax_tb_in (i := 235) (by decide +kernel) (by decide +kernel)
theorem wc_K_isUpright : Cond.code y_K_isUpright b_K_isUpright 1 (some .boolean) ∈ ax_tb := ax_tb_in (i := 456) (by decide +kernel) (by decide +kernel)
theorem wl_K_140 : Cond.methodLink "LossFreeTools" 140 y_K_isUpright ∈ ax_tb := ax_tb_in (i := 454) (by decide +kernel) (by decide +kernel)
theorem wt_K_isUpright : Cond.static y_K_isUpright ∈ ax_tb := ax_tb_in (i := 455) (by decide +kernel) (by decide +kernel)
theorem wf_K_27 : Cond.fieldLink "LossFreeTools" 27 "LossFreeTools" "askedBorders" "[I" ∈ ax_tb := ax_tb_in (i := 162) (by decide +kernel) (by decide +kernel)
theorem wl_K_252 : Cond.methodLink "LossFreeTools" 252 y_P_borderFits ∈ ax_tb := ax_tb_in (i := 457) (by decide +kernel) (by decide +kernel)
theorem wl_K_157 : Cond.methodLink "LossFreeTools" 157 y_P_sizeAlong ∈ ax_tb := ax_tb_in (i := 573) (by decide +kernel) (by decide +kernel)
theorem wc_P_moveAlong : Cond.code y_P_moveAlong b_P_moveAlong 3 none ∈ ax_tb := ax_tb_in (i := 587) (by decide +kernel) (by decide +kernel)
theorem wl_K_256 : Cond.methodLink "LossFreeTools" 256 y_P_moveAlong ∈ ax_tb := ax_tb_in (i := 584) (by decide +kernel) (by decide +kernel)
theorem wi_P_moveAlong : Cond.instanceMethod y_P_moveAlong ∈ ax_tb := ax_tb_in (i := 585) (by decide +kernel) (by decide +kernel)
theorem ws_P_moveAlong : Cond.selects "LossFreeTools$Picture" y_P_moveAlong y_P_moveAlong ∈ ax_tb := ax_tb_in (i := 586) (by decide +kernel) (by decide +kernel)
theorem wc_P_growAlong : Cond.code y_P_growAlong b_P_growAlong 3 none ∈ ax_tb := ax_tb_in (i := 591) (by decide +kernel) (by decide +kernel)
theorem wl_K_260 : Cond.methodLink "LossFreeTools" 260 y_P_growAlong ∈ ax_tb := ax_tb_in (i := 588) (by decide +kernel) (by decide +kernel)
theorem wi_P_growAlong : Cond.instanceMethod y_P_growAlong ∈ ax_tb := ax_tb_in (i := 589) (by decide +kernel) (by decide +kernel)
theorem ws_P_growAlong : Cond.selects "LossFreeTools$Picture" y_P_growAlong y_P_growAlong ∈ ax_tb := ax_tb_in (i := 590) (by decide +kernel) (by decide +kernel)
theorem wc_P_putHead : Cond.code y_P_putHead b_P_putHead 3 none ∈ ax_tb := ax_tb_in (i := 199) (by decide +kernel) (by decide +kernel)
theorem wl_K_225 : Cond.methodLink "LossFreeTools" 225 y_P_putHead ∈ ax_tb := ax_tb_in (i := 196) (by decide +kernel) (by decide +kernel)
theorem wi_P_putHead : Cond.instanceMethod y_P_putHead ∈ ax_tb := ax_tb_in (i := 197) (by decide +kernel) (by decide +kernel)
theorem ws_P_putHead : Cond.selects "LossFreeTools$Picture" y_P_putHead y_P_putHead ∈ ax_tb := ax_tb_in (i := 198) (by decide +kernel) (by decide +kernel)
theorem wf_K_95 : Cond.fieldLink "LossFreeTools" 95 "LossFreeTools$Picture" "tiles" "[LLossFreeTools$Tile;" ∈ ax_tb := ax_tb_in (i := 135) (by decide +kernel) (by decide +kernel)
theorem wl_K_229 : Cond.methodLink "LossFreeTools" 229 y_P_placeOfPart ∈ ax_tb := ax_tb_in (i := 222) (by decide +kernel) (by decide +kernel)
theorem wc_S_goTo : Cond.code y_S_goTo b_S_goTo 2 none ∈ ax_tb := ax_tb_in (i := 226) (by decide +kernel) (by decide +kernel)
theorem wl_K_233 : Cond.methodLink "LossFreeTools" 233 y_S_goTo ∈ ax_tb := ax_tb_in (i := 223) (by decide +kernel) (by decide +kernel)
theorem wi_S_goTo : Cond.instanceMethod y_S_goTo ∈ ax_tb := ax_tb_in (i := 224) (by decide +kernel) (by decide +kernel)
theorem ws_S_goTo : Cond.selects "LossFreeTools$Stream" y_S_goTo y_S_goTo ∈ ax_tb := ax_tb_in (i := 225) (by decide +kernel) (by decide +kernel)
theorem wc_T_putPart : Cond.code y_T_putPart b_T_putPart 4 none ∈ ax_tb := ax_tb_in (i := 230) (by decide +kernel) (by decide +kernel)
theorem wl_K_236 : Cond.methodLink "LossFreeTools" 236 y_T_putPart ∈ ax_tb := ax_tb_in (i := 227) (by decide +kernel) (by decide +kernel)
theorem wi_T_putPart : Cond.instanceMethod y_T_putPart ∈ ax_tb := ax_tb_in (i := 228) (by decide +kernel) (by decide +kernel)
theorem ws_T_putPart : Cond.selects "LossFreeTools$Tile" y_T_putPart y_T_putPart ∈ ax_tb := ax_tb_in (i := 229) (by decide +kernel) (by decide +kernel)
theorem wc_P_holdsRectangle : Cond.code y_P_holdsRectangle b_P_holdsRectangle 5 (some .boolean) ∈ ax_tb := ax_tb_in (i := 266) (by decide +kernel) (by decide +kernel)
theorem wl_K_50 : Cond.methodLink "LossFreeTools" 50 y_P_holdsRectangle ∈ ax_tb := ax_tb_in (i := 263) (by decide +kernel) (by decide +kernel)
theorem wi_P_holdsRectangle : Cond.instanceMethod y_P_holdsRectangle ∈ ax_tb := ax_tb_in (i := 264) (by decide +kernel) (by decide +kernel)
theorem ws_P_holdsRectangle : Cond.selects "LossFreeTools$Picture" y_P_holdsRectangle y_P_holdsRectangle ∈ ax_tb := ax_tb_in (i := 265) (by decide +kernel) (by decide +kernel)
theorem wc_P_overlapsTile : Cond.code y_P_overlapsTile b_P_overlapsTile 6 (some .boolean) ∈ ax_tb := ax_tb_in (i := 339) (by decide +kernel) (by decide +kernel)
theorem wl_K_61 : Cond.methodLink "LossFreeTools" 61 y_P_overlapsTile ∈ ax_tb := ax_tb_in (i := 336) (by decide +kernel) (by decide +kernel)
theorem wi_P_overlapsTile : Cond.instanceMethod y_P_overlapsTile ∈ ax_tb := ax_tb_in (i := 337) (by decide +kernel) (by decide +kernel)
theorem ws_P_overlapsTile : Cond.selects "LossFreeTools$Picture" y_P_overlapsTile y_P_overlapsTile ∈ ax_tb := ax_tb_in (i := 338) (by decide +kernel) (by decide +kernel)
theorem wc_P_addTile : Cond.code y_P_addTile b_P_addTile 5 (some .int) ∈ ax_tb := ax_tb_in (i := 379) (by decide +kernel) (by decide +kernel)
theorem wl_K_77 : Cond.methodLink "LossFreeTools" 77 y_P_addTile ∈ ax_tb := ax_tb_in (i := 376) (by decide +kernel) (by decide +kernel)
theorem wi_P_addTile : Cond.instanceMethod y_P_addTile ∈ ax_tb := ax_tb_in (i := 377) (by decide +kernel) (by decide +kernel)
theorem ws_P_addTile : Cond.selects "LossFreeTools$Picture" y_P_addTile y_P_addTile ∈ ax_tb := ax_tb_in (i := 378) (by decide +kernel) (by decide +kernel)
theorem wq_K_72 : Cond.classLink "LossFreeTools" 72 "java/lang/UnsupportedOperationException" ∈ ax_tb := ax_tb_in (i := 360) (by decide +kernel) (by decide +kernel)
theorem wn_java_lang_UnsupportedOperationException : Cond.initialized "java/lang/UnsupportedOperationException" ∈ ax_tb := ax_tb_in (i := 29) (by decide +kernel) (by decide +kernel)
theorem wq_K_64 : Cond.classLink "LossFreeTools" 64 "java/lang/IllegalStateException" ∈ ax_tb := ax_tb_in (i := 344) (by decide +kernel) (by decide +kernel)
theorem wn_java_lang_IllegalStateException : Cond.initialized "java/lang/IllegalStateException" ∈ ax_tb := ax_tb_in (i := 28) (by decide +kernel) (by decide +kernel)
theorem wq_K_54 : Cond.classLink "LossFreeTools" 54 "java/lang/IllegalArgumentException" ∈ ax_tb := ax_tb_in (i := 267) (by decide +kernel) (by decide +kernel)
theorem wn_java_lang_IllegalArgumentException : Cond.initialized "java/lang/IllegalArgumentException" ∈ ax_tb := ax_tb_in (i := 27) (by decide +kernel) (by decide +kernel)
theorem wc_P_hasTile : Cond.code y_P_hasTile b_P_hasTile 2 (some .boolean) ∈ ax_tb := ax_tb_in (i := 395) (by decide +kernel) (by decide +kernel)
theorem wl_K_81 : Cond.methodLink "LossFreeTools" 81 y_P_hasTile ∈ ax_tb := ax_tb_in (i := 392) (by decide +kernel) (by decide +kernel)
theorem wi_P_hasTile : Cond.instanceMethod y_P_hasTile ∈ ax_tb := ax_tb_in (i := 393) (by decide +kernel) (by decide +kernel)
theorem ws_P_hasTile : Cond.selects "LossFreeTools$Picture" y_P_hasTile y_P_hasTile ∈ ax_tb := ax_tb_in (i := 394) (by decide +kernel) (by decide +kernel)
theorem wc_K_isByte : Cond.code y_K_isByte b_K_isByte 1 (some .boolean) ∈ ax_tb := ax_tb_in (i := 414) (by decide +kernel) (by decide +kernel)
theorem wl_K_90 : Cond.methodLink "LossFreeTools" 90 y_K_isByte ∈ ax_tb := ax_tb_in (i := 412) (by decide +kernel) (by decide +kernel)
theorem wt_K_isByte : Cond.static y_K_isByte ∈ ax_tb := ax_tb_in (i := 413) (by decide +kernel) (by decide +kernel)
theorem wf_K_99 : Cond.fieldLink "LossFreeTools" 99 "LossFreeTools$Tile" "byteCount" "I" ∈ ax_tb := ax_tb_in (i := 84) (by decide +kernel) (by decide +kernel)
theorem wc_T_addByte : Cond.code y_T_addByte b_T_addByte 2 (some .int) ∈ ax_tb := ax_tb_in (i := 420) (by decide +kernel) (by decide +kernel)
theorem wl_K_106 : Cond.methodLink "LossFreeTools" 106 y_T_addByte ∈ ax_tb := ax_tb_in (i := 417) (by decide +kernel) (by decide +kernel)
theorem wi_T_addByte : Cond.instanceMethod y_T_addByte ∈ ax_tb := ax_tb_in (i := 418) (by decide +kernel) (by decide +kernel)
theorem ws_T_addByte : Cond.selects "LossFreeTools$Tile" y_T_addByte y_T_addByte ∈ ax_tb := ax_tb_in (i := 419) (by decide +kernel) (by decide +kernel)
theorem wq_K_85 : Cond.classLink "LossFreeTools" 85 "java/lang/IndexOutOfBoundsException" ∈ ax_tb := ax_tb_in (i := 396) (by decide +kernel) (by decide +kernel)
theorem wn_java_lang_IndexOutOfBoundsException : Cond.initialized "java/lang/IndexOutOfBoundsException" ∈ ax_tb := ax_tb_in (i := 30) (by decide +kernel) (by decide +kernel)
theorem wc_P_hasSample : Cond.code y_P_hasSample b_P_hasSample 3 (some .boolean) ∈ ax_tb := ax_tb_in (i := 431) (by decide +kernel) (by decide +kernel)
theorem wl_K_109 : Cond.methodLink "LossFreeTools" 109 y_P_hasSample ∈ ax_tb := ax_tb_in (i := 428) (by decide +kernel) (by decide +kernel)
theorem wi_P_hasSample : Cond.instanceMethod y_P_hasSample ∈ ax_tb := ax_tb_in (i := 429) (by decide +kernel) (by decide +kernel)
theorem ws_P_hasSample : Cond.selects "LossFreeTools$Picture" y_P_hasSample y_P_hasSample ∈ ax_tb := ax_tb_in (i := 430) (by decide +kernel) (by decide +kernel)
theorem wc_P_addNote : Cond.code y_P_addNote b_P_addNote 4 (some .int) ∈ ax_tb := ax_tb_in (i := 437) (by decide +kernel) (by decide +kernel)
theorem wl_K_120 : Cond.methodLink "LossFreeTools" 120 y_P_addNote ∈ ax_tb := ax_tb_in (i := 434) (by decide +kernel) (by decide +kernel)
theorem wi_P_addNote : Cond.instanceMethod y_P_addNote ∈ ax_tb := ax_tb_in (i := 435) (by decide +kernel) (by decide +kernel)
theorem ws_P_addNote : Cond.selects "LossFreeTools$Picture" y_P_addNote y_P_addNote ∈ ax_tb := ax_tb_in (i := 436) (by decide +kernel) (by decide +kernel)
theorem wc_K_allAskedFit : Cond.code y_K_allAskedFit b_K_allAskedFit 2 (some .boolean) ∈ ax_tb := ax_tb_in (i := 453) (by decide +kernel) (by decide +kernel)
theorem wl_K_126 : Cond.methodLink "LossFreeTools" 126 y_K_allAskedFit ∈ ax_tb := ax_tb_in (i := 450) (by decide +kernel) (by decide +kernel)
theorem wi_K_allAskedFit : Cond.instanceMethod y_K_allAskedFit ∈ ax_tb := ax_tb_in (i := 452) (by decide +kernel) (by decide +kernel)
theorem ws_K_allAskedFit : Cond.selects "LossFreeTools" y_K_allAskedFit y_K_allAskedFit ∈ ax_tb := ax_tb_in (i := 1) (by decide +kernel) (by decide +kernel)
theorem wc_P_cutTo : Cond.code y_P_cutTo b_P_cutTo 5 (some .int) ∈ ax_tb := ax_tb_in (i := 468) (by decide +kernel) (by decide +kernel)
theorem wl_K_130 : Cond.methodLink "LossFreeTools" 130 y_P_cutTo ∈ ax_tb := ax_tb_in (i := 465) (by decide +kernel) (by decide +kernel)
theorem wi_P_cutTo : Cond.instanceMethod y_P_cutTo ∈ ax_tb := ax_tb_in (i := 466) (by decide +kernel) (by decide +kernel)
theorem ws_P_cutTo : Cond.selects "LossFreeTools$Picture" y_P_cutTo y_P_cutTo ∈ ax_tb := ax_tb_in (i := 467) (by decide +kernel) (by decide +kernel)
theorem wc_K_isSide : Cond.code y_K_isSide b_K_isSide 1 (some .boolean) ∈ ax_tb := ax_tb_in (i := 506) (by decide +kernel) (by decide +kernel)
theorem wl_K_133 : Cond.methodLink "LossFreeTools" 133 y_K_isSide ∈ ax_tb := ax_tb_in (i := 504) (by decide +kernel) (by decide +kernel)
theorem wt_K_isSide : Cond.static y_K_isSide ∈ ax_tb := ax_tb_in (i := 505) (by decide +kernel) (by decide +kernel)
theorem wc_P_nearestFit : Cond.code y_P_nearestFit b_P_nearestFit 7 (some .int) ∈ ax_tb := ax_tb_in (i := 512) (by decide +kernel) (by decide +kernel)
theorem wl_K_143 : Cond.methodLink "LossFreeTools" 143 y_P_nearestFit ∈ ax_tb := ax_tb_in (i := 509) (by decide +kernel) (by decide +kernel)
theorem wi_P_nearestFit : Cond.instanceMethod y_P_nearestFit ∈ ax_tb := ax_tb_in (i := 510) (by decide +kernel) (by decide +kernel)
theorem ws_P_nearestFit : Cond.selects "LossFreeTools$Picture" y_P_nearestFit y_P_nearestFit ∈ ax_tb := ax_tb_in (i := 511) (by decide +kernel) (by decide +kernel)
theorem wc_P_showBy : Cond.code y_P_showBy b_P_showBy 3 none ∈ ax_tb := ax_tb_in (i := 529) (by decide +kernel) (by decide +kernel)
theorem wl_K_149 : Cond.methodLink "LossFreeTools" 149 y_P_showBy ∈ ax_tb := ax_tb_in (i := 526) (by decide +kernel) (by decide +kernel)
theorem wi_P_showBy : Cond.instanceMethod y_P_showBy ∈ ax_tb := ax_tb_in (i := 527) (by decide +kernel) (by decide +kernel)
theorem ws_P_showBy : Cond.selects "LossFreeTools$Picture" y_P_showBy y_P_showBy ∈ ax_tb := ax_tb_in (i := 528) (by decide +kernel) (by decide +kernel)
theorem wl_K_153 : Cond.methodLink "LossFreeTools" 153 y_K_together ∈ ax_tb := ax_tb_in (i := 565) (by decide +kernel) (by decide +kernel)
theorem wc_P_hasRoomFor : Cond.code y_P_hasRoomFor b_P_hasRoomFor 3 (some .boolean) ∈ ax_tb := ax_tb_in (i := 578) (by decide +kernel) (by decide +kernel)
theorem wl_K_163 : Cond.methodLink "LossFreeTools" 163 y_P_hasRoomFor ∈ ax_tb := ax_tb_in (i := 575) (by decide +kernel) (by decide +kernel)
theorem wi_P_hasRoomFor : Cond.instanceMethod y_P_hasRoomFor ∈ ax_tb := ax_tb_in (i := 576) (by decide +kernel) (by decide +kernel)
theorem ws_P_hasRoomFor : Cond.selects "LossFreeTools$Picture" y_P_hasRoomFor y_P_hasRoomFor ∈ ax_tb := ax_tb_in (i := 577) (by decide +kernel) (by decide +kernel)
theorem wc_K_makePlaceAt : Cond.code y_K_makePlaceAt b_K_makePlaceAt 5 none ∈ ax_tb := ax_tb_in (i := 583) (by decide +kernel) (by decide +kernel)
theorem wl_K_169 : Cond.methodLink "LossFreeTools" 169 y_K_makePlaceAt ∈ ax_tb := ax_tb_in (i := 580) (by decide +kernel) (by decide +kernel)
theorem wi_K_makePlaceAt : Cond.instanceMethod y_K_makePlaceAt ∈ ax_tb := ax_tb_in (i := 582) (by decide +kernel) (by decide +kernel)
theorem ws_K_makePlaceAt : Cond.selects "LossFreeTools" y_K_makePlaceAt y_K_makePlaceAt ∈ ax_tb := ax_tb_in (i := 2) (by decide +kernel) (by decide +kernel)
theorem wc_P_takeOver : Cond.code y_P_takeOver b_P_takeOver 4 none ∈ ax_tb := ax_tb_in (i := 595) (by decide +kernel) (by decide +kernel)
theorem wl_K_172 : Cond.methodLink "LossFreeTools" 172 y_P_takeOver ∈ ax_tb := ax_tb_in (i := 592) (by decide +kernel) (by decide +kernel)
theorem wi_P_takeOver : Cond.instanceMethod y_P_takeOver ∈ ax_tb := ax_tb_in (i := 593) (by decide +kernel) (by decide +kernel)
theorem ws_P_takeOver : Cond.selects "LossFreeTools$Picture" y_P_takeOver y_P_takeOver ∈ ax_tb := ax_tb_in (i := 594) (by decide +kernel) (by decide +kernel)
theorem wf_K_176 : Cond.fieldLink "LossFreeTools" 176 "LossFreeTools$Tile" "x" "I" ∈ ax_tb := ax_tb_in (i := 86) (by decide +kernel) (by decide +kernel)
theorem wf_K_179 : Cond.fieldLink "LossFreeTools" 179 "LossFreeTools$Tile" "y" "I" ∈ ax_tb := ax_tb_in (i := 88) (by decide +kernel) (by decide +kernel)
theorem wf_K_182 : Cond.fieldLink "LossFreeTools" 182 "LossFreeTools$Tile" "w" "I" ∈ ax_tb := ax_tb_in (i := 90) (by decide +kernel) (by decide +kernel)
theorem wf_K_185 : Cond.fieldLink "LossFreeTools" 185 "LossFreeTools$Tile" "h" "I" ∈ ax_tb := ax_tb_in (i := 92) (by decide +kernel) (by decide +kernel)
theorem wf_K_188 : Cond.fieldLink "LossFreeTools" 188 "LossFreeTools$Tile" "way" "I" ∈ ax_tb := ax_tb_in (i := 94) (by decide +kernel) (by decide +kernel)
theorem wc_T_ownWidth : Cond.code y_T_ownWidth b_T_ownWidth 1 (some .int) ∈ ax_tb := ax_tb_in (i := 606) (by decide +kernel) (by decide +kernel)
theorem wl_K_191 : Cond.methodLink "LossFreeTools" 191 y_T_ownWidth ∈ ax_tb := ax_tb_in (i := 603) (by decide +kernel) (by decide +kernel)
theorem wi_T_ownWidth : Cond.instanceMethod y_T_ownWidth ∈ ax_tb := ax_tb_in (i := 604) (by decide +kernel) (by decide +kernel)
theorem ws_T_ownWidth : Cond.selects "LossFreeTools$Tile" y_T_ownWidth y_T_ownWidth ∈ ax_tb := ax_tb_in (i := 605) (by decide +kernel) (by decide +kernel)
theorem wc_T_ownHeight : Cond.code y_T_ownHeight b_T_ownHeight 1 (some .int) ∈ ax_tb := ax_tb_in (i := 615) (by decide +kernel) (by decide +kernel)
theorem wl_K_195 : Cond.methodLink "LossFreeTools" 195 y_T_ownHeight ∈ ax_tb := ax_tb_in (i := 612) (by decide +kernel) (by decide +kernel)
theorem wi_T_ownHeight : Cond.instanceMethod y_T_ownHeight ∈ ax_tb := ax_tb_in (i := 613) (by decide +kernel) (by decide +kernel)
theorem ws_T_ownHeight : Cond.selects "LossFreeTools$Tile" y_T_ownHeight y_T_ownHeight ∈ ax_tb := ax_tb_in (i := 614) (by decide +kernel) (by decide +kernel)
theorem wf_K_200 : Cond.fieldLink "LossFreeTools" 200 "LossFreeTools$Tile" "bytes" "[I" ∈ ax_tb := ax_tb_in (i := 82) (by decide +kernel) (by decide +kernel)
theorem wc_P_tileOver : Cond.code y_P_tileOver b_P_tileOver 4 (some .int) ∈ ax_tb := ax_tb_in (i := 634) (by decide +kernel) (by decide +kernel)
theorem wl_K_203 : Cond.methodLink "LossFreeTools" 203 y_P_tileOver ∈ ax_tb := ax_tb_in (i := 631) (by decide +kernel) (by decide +kernel)
theorem wi_P_tileOver : Cond.instanceMethod y_P_tileOver ∈ ax_tb := ax_tb_in (i := 632) (by decide +kernel) (by decide +kernel)
theorem ws_P_tileOver : Cond.selects "LossFreeTools$Picture" y_P_tileOver y_P_tileOver ∈ ax_tb := ax_tb_in (i := 633) (by decide +kernel) (by decide +kernel)
theorem wc_T_ownSample : Cond.code y_T_ownSample b_T_ownSample 10 (some .int) ∈ ax_tb := ax_tb_in (i := 638) (by decide +kernel) (by decide +kernel)
theorem wl_K_206 : Cond.methodLink "LossFreeTools" 206 y_T_ownSample ∈ ax_tb := ax_tb_in (i := 635) (by decide +kernel) (by decide +kernel)
theorem wi_T_ownSample : Cond.instanceMethod y_T_ownSample ∈ ax_tb := ax_tb_in (i := 636) (by decide +kernel) (by decide +kernel)
theorem ws_T_ownSample : Cond.selects "LossFreeTools$Tile" y_T_ownSample y_T_ownSample ∈ ax_tb := ax_tb_in (i := 637) (by decide +kernel) (by decide +kernel)
theorem wf_K_211 : Cond.fieldLink "LossFreeTools" 211 "LossFreeTools$Picture" "notes" "[LLossFreeTools$Note;" ∈ ax_tb := ax_tb_in (i := 137) (by decide +kernel) (by decide +kernel)
theorem wf_K_215 : Cond.fieldLink "LossFreeTools" 215 "LossFreeTools$Note" "x" "I" ∈ ax_tb := ax_tb_in (i := 119) (by decide +kernel) (by decide +kernel)
theorem wf_K_218 : Cond.fieldLink "LossFreeTools" 218 "LossFreeTools$Note" "y" "I" ∈ ax_tb := ax_tb_in (i := 122) (by decide +kernel) (by decide +kernel)
theorem wf_K_219 : Cond.fieldLink "LossFreeTools" 219 "LossFreeTools$Note" "value" "I" ∈ ax_tb := ax_tb_in (i := 125) (by decide +kernel) (by decide +kernel)
theorem wf_K_242 : Cond.fieldLink "LossFreeTools" 242 "LossFreeTools$Stream" "bytes" "[I" ∈ ax_tb := ax_tb_in (i := 55) (by decide +kernel) (by decide +kernel)
theorem wf_M_68 : Cond.fieldLink "LossFreeToolsModel" 68 "LossFreeToolsModel" "code" "I" ∈ ax_tb := ax_tb_in (i := 672) (by decide +kernel) (by decide +kernel)
theorem wf_M_71 : Cond.fieldLink "LossFreeToolsModel" 71 "LossFreeToolsModel" "now" "I" ∈ ax_tb := ax_tb_in (i := 675) (by decide +kernel) (by decide +kernel)
theorem wf_M_74 : Cond.fieldLink "LossFreeToolsModel" 74 "LossFreeToolsModel" "since" "I" ∈ ax_tb := ax_tb_in (i := 690) (by decide +kernel) (by decide +kernel)
theorem wf_M_77 : Cond.fieldLink "LossFreeToolsModel" 77 "LossFreeToolsModel" "refused" "Z" ∈ ax_tb := ax_tb_in (i := 691) (by decide +kernel) (by decide +kernel)
theorem wf_M_81 : Cond.fieldLink "LossFreeToolsModel" 81 "LossFreeToolsModel" "streamMany" "I" ∈ ax_tb := ax_tb_in (i := 694) (by decide +kernel) (by decide +kernel)
theorem wf_M_7 : Cond.fieldLink "LossFreeToolsModel" 7 "LossFreeToolsModel" "wide" "[I" ∈ ax_tb := ax_tb_in (i := 676) (by decide +kernel) (by decide +kernel)
theorem wf_M_58 : Cond.fieldLink "LossFreeToolsModel" 58 "LossFreeToolsModel" "firstWide" "I" ∈ ax_tb := ax_tb_in (i := 673) (by decide +kernel) (by decide +kernel)
theorem wf_M_13 : Cond.fieldLink "LossFreeToolsModel" 13 "LossFreeToolsModel" "high" "[I" ∈ ax_tb := ax_tb_in (i := 677) (by decide +kernel) (by decide +kernel)
theorem wf_M_62 : Cond.fieldLink "LossFreeToolsModel" 62 "LossFreeToolsModel" "firstHigh" "I" ∈ ax_tb := ax_tb_in (i := 674) (by decide +kernel) (by decide +kernel)
theorem wf_M_16 : Cond.fieldLink "LossFreeToolsModel" 16 "LossFreeToolsModel" "tiles" "[I" ∈ ax_tb := ax_tb_in (i := 678) (by decide +kernel) (by decide +kernel)
theorem wf_M_19 : Cond.fieldLink "LossFreeToolsModel" 19 "LossFreeToolsModel" "notes" "[I" ∈ ax_tb := ax_tb_in (i := 679) (by decide +kernel) (by decide +kernel)
theorem wf_M_22 : Cond.fieldLink "LossFreeToolsModel" 22 "LossFreeToolsModel" "xs" "[I" ∈ ax_tb := ax_tb_in (i := 680) (by decide +kernel) (by decide +kernel)
theorem wf_M_25 : Cond.fieldLink "LossFreeToolsModel" 25 "LossFreeToolsModel" "ys" "[I" ∈ ax_tb := ax_tb_in (i := 681) (by decide +kernel) (by decide +kernel)
theorem wf_M_28 : Cond.fieldLink "LossFreeToolsModel" 28 "LossFreeToolsModel" "ws" "[I" ∈ ax_tb := ax_tb_in (i := 682) (by decide +kernel) (by decide +kernel)
theorem wf_M_31 : Cond.fieldLink "LossFreeToolsModel" 31 "LossFreeToolsModel" "hs" "[I" ∈ ax_tb := ax_tb_in (i := 683) (by decide +kernel) (by decide +kernel)
theorem wf_M_34 : Cond.fieldLink "LossFreeToolsModel" 34 "LossFreeToolsModel" "ways" "[I" ∈ ax_tb := ax_tb_in (i := 684) (by decide +kernel) (by decide +kernel)
theorem wf_M_37 : Cond.fieldLink "LossFreeToolsModel" 37 "LossFreeToolsModel" "sizes" "[I" ∈ ax_tb := ax_tb_in (i := 685) (by decide +kernel) (by decide +kernel)
theorem wf_M_40 : Cond.fieldLink "LossFreeToolsModel" 40 "LossFreeToolsModel" "bytes" "[I" ∈ ax_tb := ax_tb_in (i := 686) (by decide +kernel) (by decide +kernel)
theorem wf_M_43 : Cond.fieldLink "LossFreeToolsModel" 43 "LossFreeToolsModel" "noteXs" "[I" ∈ ax_tb := ax_tb_in (i := 687) (by decide +kernel) (by decide +kernel)
theorem wf_M_46 : Cond.fieldLink "LossFreeToolsModel" 46 "LossFreeToolsModel" "noteYs" "[I" ∈ ax_tb := ax_tb_in (i := 688) (by decide +kernel) (by decide +kernel)
theorem wf_M_49 : Cond.fieldLink "LossFreeToolsModel" 49 "LossFreeToolsModel" "noteBytes" "[I" ∈ ax_tb := ax_tb_in (i := 689) (by decide +kernel) (by decide +kernel)
theorem wf_M_55 : Cond.fieldLink "LossFreeToolsModel" 55 "LossFreeToolsModel" "stream" "[I" ∈ ax_tb := ax_tb_in (i := 693) (by decide +kernel) (by decide +kernel)
theorem wc_M_in : Cond.code y_M_in b_M_in 3 (some .boolean) ∈ ax_tb := ax_tb_in (i := 753) (by decide +kernel) (by decide +kernel)
theorem wn_LossFreeToolsModel : Cond.initialized "LossFreeToolsModel" ∈ ax_tb := ax_tb_in (i := 23) (by decide +kernel) (by decide +kernel)
theorem wl_M_84 : Cond.methodLink "LossFreeToolsModel" 84 y_M_in ∈ ax_tb := ax_tb_in (i := 751) (by decide +kernel) (by decide +kernel)
theorem wt_M_in : Cond.static y_M_in ∈ ax_tb := ax_tb_in (i := 752) (by decide +kernel) (by decide +kernel)
theorem wc_M_lies : Cond.code y_M_lies b_M_lies 5 (some .boolean) ∈ ax_tb := ax_tb_in (i := 757) (by decide +kernel) (by decide +kernel)
theorem wl_M_88 : Cond.methodLink "LossFreeToolsModel" 88 y_M_lies ∈ ax_tb := ax_tb_in (i := 754) (by decide +kernel) (by decide +kernel)
theorem wi_M_lies : Cond.instanceMethod y_M_lies ∈ ax_tb := ax_tb_in (i := 756) (by decide +kernel) (by decide +kernel)
theorem ws_M_lies : Cond.selects "LossFreeToolsModel" y_M_lies y_M_lies ∈ ax_tb := ax_tb_in (i := 3) (by decide +kernel) (by decide +kernel)
theorem wc_M_tileAt : Cond.code y_M_tileAt b_M_tileAt 2 (some .int) ∈ ax_tb := ax_tb_in (i := 761) (by decide +kernel) (by decide +kernel)
theorem wl_M_92 : Cond.methodLink "LossFreeToolsModel" 92 y_M_tileAt ∈ ax_tb := ax_tb_in (i := 758) (by decide +kernel) (by decide +kernel)
theorem wi_M_tileAt : Cond.instanceMethod y_M_tileAt ∈ ax_tb := ax_tb_in (i := 760) (by decide +kernel) (by decide +kernel)
theorem ws_M_tileAt : Cond.selects "LossFreeToolsModel" y_M_tileAt y_M_tileAt ∈ ax_tb := ax_tb_in (i := 4) (by decide +kernel) (by decide +kernel)
theorem wf_M_52 : Cond.fieldLink "LossFreeToolsModel" 52 "LossFreeToolsModel" "nears" "[I" ∈ ax_tb := ax_tb_in (i := 692) (by decide +kernel) (by decide +kernel)
theorem wc_M_isTurned : Cond.code y_M_isTurned b_M_isTurned 1 (some .boolean) ∈ ax_tb := ax_tb_in (i := 811) (by decide +kernel) (by decide +kernel)
theorem wl_M_123 : Cond.methodLink "LossFreeToolsModel" 123 y_M_isTurned ∈ ax_tb := ax_tb_in (i := 809) (by decide +kernel) (by decide +kernel)
theorem wt_M_isTurned : Cond.static y_M_isTurned ∈ ax_tb := ax_tb_in (i := 810) (by decide +kernel) (by decide +kernel)
theorem wc_M_comes : Cond.code y_M_comes b_M_comes 12 (some .int) ∈ ax_tb := ax_tb_in (i := 808) (by decide +kernel) (by decide +kernel)
theorem wl_M_119 : Cond.methodLink "LossFreeToolsModel" 119 y_M_comes ∈ ax_tb := ax_tb_in (i := 806) (by decide +kernel) (by decide +kernel)
theorem wt_M_comes : Cond.static y_M_comes ∈ ax_tb := ax_tb_in (i := 807) (by decide +kernel) (by decide +kernel)
theorem wc_M_move : Cond.code y_M_move b_M_move 4 none ∈ ax_tb := ax_tb_in (i := 793) (by decide +kernel) (by decide +kernel)
theorem wl_M_112 : Cond.methodLink "LossFreeToolsModel" 112 y_M_move ∈ ax_tb := ax_tb_in (i := 790) (by decide +kernel) (by decide +kernel)
theorem wi_M_move : Cond.instanceMethod y_M_move ∈ ax_tb := ax_tb_in (i := 792) (by decide +kernel) (by decide +kernel)
theorem ws_M_move : Cond.selects "LossFreeToolsModel" y_M_move y_M_move ∈ ax_tb := ax_tb_in (i := 9) (by decide +kernel) (by decide +kernel)
theorem wc_M_moveNote : Cond.code y_M_moveNote b_M_moveNote 3 none ∈ ax_tb := ax_tb_in (i := 797) (by decide +kernel) (by decide +kernel)
theorem wl_M_116 : Cond.methodLink "LossFreeToolsModel" 116 y_M_moveNote ∈ ax_tb := ax_tb_in (i := 794) (by decide +kernel) (by decide +kernel)
theorem wi_M_moveNote : Cond.instanceMethod y_M_moveNote ∈ ax_tb := ax_tb_in (i := 796) (by decide +kernel) (by decide +kernel)
theorem ws_M_moveNote : Cond.selects "LossFreeToolsModel" y_M_moveNote y_M_moveNote ∈ ax_tb := ax_tb_in (i := 10) (by decide +kernel) (by decide +kernel)
theorem wc_M_tell : Cond.code y_M_tell b_M_tell 2 none ∈ ax_tb := ax_tb_in (i := 864) (by decide +kernel) (by decide +kernel)
theorem wl_M_133 : Cond.methodLink "LossFreeToolsModel" 133 y_M_tell ∈ ax_tb := ax_tb_in (i := 861) (by decide +kernel) (by decide +kernel)
theorem wi_M_tell : Cond.instanceMethod y_M_tell ∈ ax_tb := ax_tb_in (i := 863) (by decide +kernel) (by decide +kernel)
theorem ws_M_tell : Cond.selects "LossFreeToolsModel" y_M_tell y_M_tell ∈ ax_tb := ax_tb_in (i := 13) (by decide +kernel) (by decide +kernel)
theorem wc_M_isBefore : Cond.code y_M_isBefore b_M_isBefore 3 (some .boolean) ∈ ax_tb := ax_tb_in (i := 853) (by decide +kernel) (by decide +kernel)
theorem wl_M_137 : Cond.methodLink "LossFreeToolsModel" 137 y_M_isBefore ∈ ax_tb := ax_tb_in (i := 850) (by decide +kernel) (by decide +kernel)
theorem wi_M_isBefore : Cond.instanceMethod y_M_isBefore ∈ ax_tb := ax_tb_in (i := 852) (by decide +kernel) (by decide +kernel)
theorem ws_M_isBefore : Cond.selects "LossFreeToolsModel" y_M_isBefore y_M_isBefore ∈ ax_tb := ax_tb_in (i := 12) (by decide +kernel) (by decide +kernel)
theorem wc_M_partSize : Cond.code y_M_partSize b_M_partSize 1 (some .int) ∈ ax_tb := ax_tb_in (i := 856) (by decide +kernel) (by decide +kernel)
theorem wl_M_140 : Cond.methodLink "LossFreeToolsModel" 140 y_M_partSize ∈ ax_tb := ax_tb_in (i := 854) (by decide +kernel) (by decide +kernel)
theorem wt_M_partSize : Cond.static y_M_partSize ∈ ax_tb := ax_tb_in (i := 855) (by decide +kernel) (by decide +kernel)
theorem wc_M_isTile : Cond.code y_M_isTile b_M_isTile 2 (some .boolean) ∈ ax_tb := ax_tb_in (i := 769) (by decide +kernel) (by decide +kernel)
theorem wl_M_96 : Cond.methodLink "LossFreeToolsModel" 96 y_M_isTile ∈ ax_tb := ax_tb_in (i := 766) (by decide +kernel) (by decide +kernel)
theorem wi_M_isTile : Cond.instanceMethod y_M_isTile ∈ ax_tb := ax_tb_in (i := 768) (by decide +kernel) (by decide +kernel)
theorem ws_M_isTile : Cond.selects "LossFreeToolsModel" y_M_isTile y_M_isTile ∈ ax_tb := ax_tb_in (i := 5) (by decide +kernel) (by decide +kernel)
theorem wc_M_isSample : Cond.code y_M_isSample b_M_isSample 3 (some .boolean) ∈ ax_tb := ax_tb_in (i := 777) (by decide +kernel) (by decide +kernel)
theorem wl_M_100 : Cond.methodLink "LossFreeToolsModel" 100 y_M_isSample ∈ ax_tb := ax_tb_in (i := 774) (by decide +kernel) (by decide +kernel)
theorem wi_M_isSample : Cond.instanceMethod y_M_isSample ∈ ax_tb := ax_tb_in (i := 776) (by decide +kernel) (by decide +kernel)
theorem ws_M_isSample : Cond.selects "LossFreeToolsModel" y_M_isSample y_M_isSample ∈ ax_tb := ax_tb_in (i := 6) (by decide +kernel) (by decide +kernel)
theorem wc_M_fits : Cond.code y_M_fits b_M_fits 8 (some .boolean) ∈ ax_tb := ax_tb_in (i := 785) (by decide +kernel) (by decide +kernel)
theorem wl_M_104 : Cond.methodLink "LossFreeToolsModel" 104 y_M_fits ∈ ax_tb := ax_tb_in (i := 782) (by decide +kernel) (by decide +kernel)
theorem wi_M_fits : Cond.instanceMethod y_M_fits ∈ ax_tb := ax_tb_in (i := 784) (by decide +kernel) (by decide +kernel)
theorem ws_M_fits : Cond.selects "LossFreeToolsModel" y_M_fits y_M_fits ∈ ax_tb := ax_tb_in (i := 7) (by decide +kernel) (by decide +kernel)
theorem wc_M_both : Cond.code y_M_both b_M_both 8 (some .int) ∈ ax_tb := ax_tb_in (i := 814) (by decide +kernel) (by decide +kernel)
theorem wl_M_126 : Cond.methodLink "LossFreeToolsModel" 126 y_M_both ∈ ax_tb := ax_tb_in (i := 812) (by decide +kernel) (by decide +kernel)
theorem wt_M_both : Cond.static y_M_both ∈ ax_tb := ax_tb_in (i := 813) (by decide +kernel) (by decide +kernel)
theorem wc_M_ownOf : Cond.code y_M_ownOf b_M_ownOf 7 (some .int) ∈ ax_tb := ax_tb_in (i := 837) (by decide +kernel) (by decide +kernel)
theorem wl_M_130 : Cond.methodLink "LossFreeToolsModel" 130 y_M_ownOf ∈ ax_tb := ax_tb_in (i := 835) (by decide +kernel) (by decide +kernel)
theorem wt_M_ownOf : Cond.static y_M_ownOf ∈ ax_tb := ax_tb_in (i := 836) (by decide +kernel) (by decide +kernel)
theorem wc_M_pointerOf : Cond.code y_M_pointerOf b_M_pointerOf 4 (some .int) ∈ ax_tb := ax_tb_in (i := 849) (by decide +kernel) (by decide +kernel)
theorem wl_M_143 : Cond.methodLink "LossFreeToolsModel" 143 y_M_pointerOf ∈ ax_tb := ax_tb_in (i := 846) (by decide +kernel) (by decide +kernel)
theorem wi_M_pointerOf : Cond.instanceMethod y_M_pointerOf ∈ ax_tb := ax_tb_in (i := 848) (by decide +kernel) (by decide +kernel)
theorem ws_M_pointerOf : Cond.selects "LossFreeToolsModel" y_M_pointerOf y_M_pointerOf ∈ ax_tb := ax_tb_in (i := 11) (by decide +kernel) (by decide +kernel)
theorem wc_M_tellTwo : Cond.code y_M_tellTwo b_M_tellTwo 2 none ∈ ax_tb := ax_tb_in (i := 868) (by decide +kernel) (by decide +kernel)
theorem wl_M_146 : Cond.methodLink "LossFreeToolsModel" 146 y_M_tellTwo ∈ ax_tb := ax_tb_in (i := 865) (by decide +kernel) (by decide +kernel)
theorem wi_M_tellTwo : Cond.instanceMethod y_M_tellTwo ∈ ax_tb := ax_tb_in (i := 867) (by decide +kernel) (by decide +kernel)
theorem ws_M_tellTwo : Cond.selects "LossFreeToolsModel" y_M_tellTwo y_M_tellTwo ∈ ax_tb := ax_tb_in (i := 14) (by decide +kernel) (by decide +kernel)
theorem wk_M_149 : Cond.constant "LossFreeToolsModel" 149 65521 ∈ ax_tb := ax_tb_in (i := 873) (by decide +kernel) (by decide +kernel)
theorem wc_M_nearest : Cond.code y_M_nearest b_M_nearest 8 (some .int) ∈ ax_tb := ax_tb_in (i := 789) (by decide +kernel) (by decide +kernel)
theorem wl_M_108 : Cond.methodLink "LossFreeToolsModel" 108 y_M_nearest ∈ ax_tb := ax_tb_in (i := 786) (by decide +kernel) (by decide +kernel)
theorem wi_M_nearest : Cond.instanceMethod y_M_nearest ∈ ax_tb := ax_tb_in (i := 788) (by decide +kernel) (by decide +kernel)
theorem ws_M_nearest : Cond.selects "LossFreeToolsModel" y_M_nearest y_M_nearest ∈ ax_tb := ax_tb_in (i := 8) (by decide +kernel) (by decide +kernel)
theorem wc_M_tellPart : Cond.code y_M_tellPart b_M_tellPart 5 none ∈ ax_tb := ax_tb_in (i := 872) (by decide +kernel) (by decide +kernel)
theorem wl_M_150 : Cond.methodLink "LossFreeToolsModel" 150 y_M_tellPart ∈ ax_tb := ax_tb_in (i := 869) (by decide +kernel) (by decide +kernel)
theorem wi_M_tellPart : Cond.instanceMethod y_M_tellPart ∈ ax_tb := ax_tb_in (i := 871) (by decide +kernel) (by decide +kernel)
theorem ws_M_tellPart : Cond.selects "LossFreeToolsModel" y_M_tellPart y_M_tellPart ∈ ax_tb := ax_tb_in (i := 15) (by decide +kernel) (by decide +kernel)
theorem ta_K_76 : ∀ w ∈ Bundle.ownAtoms "LossFreeTools" 76 "java/lang/UnsupportedOperationException" ["java/lang/RuntimeException", "java/lang/Exception"], w ∈ ax_tb ∨ w ∈ ax_nw ∨ w ∈ ax_t4 := by decide +kernel
theorem ta_K_68 : ∀ w ∈ Bundle.ownAtoms "LossFreeTools" 68 "java/lang/IllegalStateException" ["java/lang/RuntimeException", "java/lang/Exception"], w ∈ ax_tb ∨ w ∈ ax_nw ∨ w ∈ ax_t4 := by decide +kernel
theorem ta_K_58 : ∀ w ∈ Bundle.ownAtoms "LossFreeTools" 58 "java/lang/IllegalArgumentException" ["java/lang/RuntimeException", "java/lang/Exception"], w ∈ ax_tb ∨ w ∈ ax_nw ∨ w ∈ ax_t4 := by decide +kernel
theorem ta_K_89 : ∀ w ∈ Bundle.ownAtoms "LossFreeTools" 89 "java/lang/IndexOutOfBoundsException" ["java/lang/RuntimeException", "java/lang/Exception"], w ∈ ax_tb ∨ w ∈ ax_nw ∨ w ∈ ax_t4 := by decide +kernel
theorem fl_N_7 : ax_fl "LossFreeTools$Note" 7 0 0 .int false := ⟨_, rfl, by decide, wf_N_7, by decide +kernel, rfl⟩
theorem fl_N_13 : ax_fl "LossFreeTools$Note" 13 0 1 .int false := ⟨_, rfl, by decide, wf_N_13, by decide +kernel, rfl⟩
theorem fl_N_16 : ax_fl "LossFreeTools$Note" 16 0 2 .int false := ⟨_, rfl, by decide, wf_N_16, by decide +kernel, rfl⟩
theorem fl_P_25 : ax_fl "LossFreeTools$Picture" 25 1 4 .int false := ⟨_, rfl, by decide, wf_P_25, by decide +kernel, rfl⟩
theorem fl_P_29 : ax_fl "LossFreeTools$Picture" 29 1 5 .int false := ⟨_, rfl, by decide, wf_P_29, by decide +kernel, rfl⟩
theorem fl_P_32 : ax_fl "LossFreeTools$Picture" 32 1 2 .int false := ⟨_, rfl, by decide, wf_P_32, by decide +kernel, rfl⟩
theorem fl_P_35 : ax_fl "LossFreeTools$Picture" 35 1 3 .int false := ⟨_, rfl, by decide, wf_P_35, by decide +kernel, rfl⟩
theorem fl_T_15 : ax_fl "LossFreeTools$Tile" 15 3 2 .int false := ⟨_, rfl, by decide, wf_T_15, by decide +kernel, rfl⟩
theorem fl_T_22 : ax_fl "LossFreeTools$Tile" 22 3 4 .int false := ⟨_, rfl, by decide, wf_T_22, by decide +kernel, rfl⟩
theorem fl_T_19 : ax_fl "LossFreeTools$Tile" 19 3 3 .int false := ⟨_, rfl, by decide, wf_T_19, by decide +kernel, rfl⟩
theorem fl_T_25 : ax_fl "LossFreeTools$Tile" 25 3 5 .int false := ⟨_, rfl, by decide, wf_T_25, by decide +kernel, rfl⟩
theorem fl_T_28 : ax_fl "LossFreeTools$Tile" 28 3 6 .int false := ⟨_, rfl, by decide, wf_T_28, by decide +kernel, rfl⟩
theorem fl_T_31 : ax_fl "LossFreeTools$Tile" 31 3 1 .int false := ⟨_, rfl, by decide, wf_T_31, by decide +kernel, rfl⟩
theorem fl_P_11 : ax_fl "LossFreeTools$Picture" 11 1 0 (.array (.object "LossFreeTools$Tile")) true := ⟨_, rfl, by decide, wf_P_11, by decide +kernel, rfl⟩
theorem fl_P_20 : ax_fl "LossFreeTools$Picture" 20 1 1 (.array (.object "LossFreeTools$Note")) true := ⟨_, rfl, by decide, wf_P_20, by decide +kernel, rfl⟩
theorem fl_S_19 : ax_fl "LossFreeTools$Stream" 19 2 2 .int false := ⟨_, rfl, by decide, wf_S_19, by decide +kernel, rfl⟩
theorem fl_S_9 : ax_fl "LossFreeTools$Stream" 9 2 0 (.array .int) true := ⟨_, rfl, by decide, wf_S_9, by decide +kernel, rfl⟩
theorem fl_S_15 : ax_fl "LossFreeTools$Stream" 15 2 1 .int false := ⟨_, rfl, by decide, wf_S_15, by decide +kernel, rfl⟩
theorem fl_T_9 : ax_fl "LossFreeTools$Tile" 9 3 0 (.array .int) true := ⟨_, rfl, by decide, wf_T_9, by decide +kernel, rfl⟩
theorem fl_K_36 : ax_fl "LossFreeTools" 36 4 4 (.object "LossFreeTools$Picture") false := ⟨_, rfl, by decide, wf_K_36, by decide +kernel, rfl⟩
theorem fl_K_40 : ax_fl "LossFreeTools" 40 4 5 (.object "LossFreeTools$Picture") false := ⟨_, rfl, by decide, wf_K_40, by decide +kernel, rfl⟩
theorem fl_K_43 : ax_fl "LossFreeTools" 43 4 6 .int false := ⟨_, rfl, by decide, wf_K_43, by decide +kernel, rfl⟩
theorem fl_K_46 : ax_fl "LossFreeTools" 46 4 7 .boolean false := ⟨_, rfl, by decide, wf_K_46, by decide +kernel, rfl⟩
theorem fl_K_69 : ax_fl "LossFreeTools" 69 1 2 .int false := ⟨_, rfl, by decide, wf_K_69, by decide +kernel, rfl⟩
theorem fl_K_243 : ax_fl "LossFreeTools" 243 1 4 .int false := ⟨_, rfl, by decide, wf_K_243, by decide +kernel, rfl⟩
theorem fl_K_246 : ax_fl "LossFreeTools" 246 1 5 .int false := ⟨_, rfl, by decide, wf_K_246, by decide +kernel, rfl⟩
theorem fl_K_115 : ax_fl "LossFreeTools" 115 1 3 .int false := ⟨_, rfl, by decide, wf_K_115, by decide +kernel, rfl⟩
theorem fl_K_23 : ax_fl "LossFreeTools" 23 4 2 (.object "LossFreeTools$Stream") true := ⟨_, rfl, by decide, wf_K_23, by decide +kernel, rfl⟩
theorem fl_K_239 : ax_fl "LossFreeTools" 239 2 1 .int false := ⟨_, rfl, by decide, wf_K_239, by decide +kernel, rfl⟩
theorem mt_T_overlaps : ax_mt y_T_overlaps b_T_overlaps 5 (some .boolean) 4 := ⟨wc_T_overlaps, wn_LossFreeTools_Tile, by decide +kernel, by decide +kernel, by decide +kernel⟩
theorem mt_T_startAnew : ax_mt y_T_startAnew b_T_startAnew 5 none 4 := ⟨wc_T_startAnew, wn_LossFreeTools_Tile, by decide +kernel, by decide +kernel, by decide +kernel⟩
theorem mt_N_startAnew : ax_mt y_N_startAnew b_N_startAnew 4 none 3 := ⟨wc_N_startAnew, wn_LossFreeTools_Note, by decide +kernel, by decide +kernel, by decide +kernel⟩
theorem mt_T_crosses : ax_mt y_T_crosses b_T_crosses 5 (some .boolean) 2 := ⟨wc_T_crosses, wn_LossFreeTools_Tile, by decide +kernel, by decide +kernel, by decide +kernel⟩
theorem mt_T_isWithin : ax_mt y_T_isWithin b_T_isWithin 5 (some .boolean) 4 := ⟨wc_T_isWithin, wn_LossFreeTools_Tile, by decide +kernel, by decide +kernel, by decide +kernel⟩
theorem mt_N_isWithin : ax_mt y_N_isWithin b_N_isWithin 5 (some .boolean) 4 := ⟨wc_N_isWithin, wn_LossFreeTools_Note, by decide +kernel, by decide +kernel, by decide +kernel⟩
theorem mt_T_moveBy : ax_mt y_T_moveBy b_T_moveBy 3 none 2 := ⟨wc_T_moveBy, wn_LossFreeTools_Tile, by decide +kernel, by decide +kernel, by decide +kernel⟩
theorem mt_N_moveBy : ax_mt y_N_moveBy b_N_moveBy 3 none 2 := ⟨wc_N_moveBy, wn_LossFreeTools_Note, by decide +kernel, by decide +kernel, by decide +kernel⟩
theorem mt_T_mirrorIn : ax_mt y_T_mirrorIn b_T_mirrorIn 2 none 1 := ⟨wc_T_mirrorIn, wn_LossFreeTools_Tile, by decide +kernel, by decide +kernel, by decide +kernel⟩
theorem mt_N_mirrorIn : ax_mt y_N_mirrorIn b_N_mirrorIn 2 none 1 := ⟨wc_N_mirrorIn, wn_LossFreeTools_Note, by decide +kernel, by decide +kernel, by decide +kernel⟩
theorem mt_T_quarterIn : ax_mt y_T_quarterIn b_T_quarterIn 4 none 1 := ⟨wc_T_quarterIn, wn_LossFreeTools_Tile, by decide +kernel, by decide +kernel, by decide +kernel⟩
theorem mt_N_quarterIn : ax_mt y_N_quarterIn b_N_quarterIn 3 none 1 := ⟨wc_N_quarterIn, wn_LossFreeTools_Note, by decide +kernel, by decide +kernel, by decide +kernel⟩
theorem mt_K_mirrors : ax_mt y_K_mirrors b_K_mirrors 1 (some .boolean) 1 := ⟨wc_K_mirrors, wn_LossFreeTools, by decide +kernel, by decide +kernel, by decide +kernel⟩
theorem mt_K_quarters : ax_mt y_K_quarters b_K_quarters 1 (some .int) 1 := ⟨wc_K_quarters, wn_LossFreeTools, by decide +kernel, by decide +kernel, by decide +kernel⟩
theorem mt_P_sizeAlong : ax_mt y_P_sizeAlong b_P_sizeAlong 2 (some .int) 1 := ⟨wc_P_sizeAlong, wn_LossFreeTools_Picture, by decide +kernel, by decide +kernel, by decide +kernel⟩
theorem mt_T_partComesBefore : ax_mt y_T_partComesBefore b_T_partComesBefore 2 (some .boolean) 1 := ⟨wc_T_partComesBefore, wn_LossFreeTools_Tile, by decide +kernel, by decide +kernel, by decide +kernel⟩
theorem mt_T_partLength : ax_mt y_T_partLength b_T_partLength 1 (some .int) 0 := ⟨wc_T_partLength, wn_LossFreeTools_Tile, by decide +kernel, by decide +kernel, by decide +kernel⟩
theorem mt_S_putByte : ax_mt y_S_putByte b_S_putByte 2 none 1 := ⟨wc_S_putByte, wn_LossFreeTools_Stream, by decide +kernel, by decide +kernel, by decide +kernel⟩
theorem fl_K_13 : ax_fl "LossFreeTools" 13 4 0 .int true := ⟨_, rfl, by decide, wf_K_13, by decide +kernel, rfl⟩
theorem fl_K_17 : ax_fl "LossFreeTools" 17 4 1 .int true := ⟨_, rfl, by decide, wf_K_17, by decide +kernel, rfl⟩
theorem mt_P_startAnew : ax_mt y_P_startAnew b_P_startAnew 3 none 2 := ⟨wc_P_startAnew, wn_LossFreeTools_Picture, by decide +kernel, by decide +kernel, by decide +kernel⟩
theorem mt_S_empty : ax_mt y_S_empty b_S_empty 1 none 0 := ⟨wc_S_empty, wn_LossFreeTools_Stream, by decide +kernel, by decide +kernel, by decide +kernel⟩
theorem mt_P_borderFits : ax_mt y_P_borderFits b_P_borderFits 4 (some .boolean) 2 := ⟨wc_P_borderFits, wn_LossFreeTools_Picture, by decide +kernel, by decide +kernel, by decide +kernel⟩
theorem mt_P_keepTilesWithin : ax_mt y_P_keepTilesWithin b_P_keepTilesWithin 8 none 4 := ⟨wc_P_keepTilesWithin, wn_LossFreeTools_Picture, by decide +kernel, by decide +kernel, by decide +kernel⟩
theorem mt_P_keepNotesWithin : ax_mt y_P_keepNotesWithin b_P_keepNotesWithin 8 none 4 := ⟨wc_P_keepNotesWithin, wn_LossFreeTools_Picture, by decide +kernel, by decide +kernel, by decide +kernel⟩
theorem mt_P_moveBy : ax_mt y_P_moveBy b_P_moveBy 4 none 2 := ⟨wc_P_moveBy, wn_LossFreeTools_Picture, by decide +kernel, by decide +kernel, by decide +kernel⟩
theorem mt_P_mirror : ax_mt y_P_mirror b_P_mirror 2 none 0 := ⟨wc_P_mirror, wn_LossFreeTools_Picture, by decide +kernel, by decide +kernel, by decide +kernel⟩
theorem mt_P_turnQuarter : ax_mt y_P_turnQuarter b_P_turnQuarter 2 none 0 := ⟨wc_P_turnQuarter, wn_LossFreeTools_Picture, by decide +kernel, by decide +kernel, by decide +kernel⟩
theorem fl_P_90 : ax_fl "LossFreeTools$Picture" 90 3 6 .int false := ⟨_, rfl, by decide, wf_P_90, by decide +kernel, rfl⟩
theorem mt_K_together : ax_mt y_K_together b_K_together 4 (some .int) 2 := ⟨wc_K_together, wn_LossFreeTools, by decide +kernel, by decide +kernel, by decide +kernel⟩
theorem mt_S_putNumber : ax_mt y_S_putNumber b_S_putNumber 2 none 1 := ⟨wc_S_putNumber, wn_LossFreeTools_Stream, by decide +kernel, by decide +kernel, by decide +kernel⟩
theorem mt_P_placeOfPart : ax_mt y_P_placeOfPart b_P_placeOfPart 4 (some .int) 1 := ⟨wc_P_placeOfPart, wn_LossFreeTools_Picture, by decide +kernel, by decide +kernel, by decide +kernel⟩
theorem fl_P_126 : ax_fl "LossFreeTools$Picture" 126 0 0 .int false := ⟨_, rfl, by decide, wf_P_126, by decide +kernel, rfl⟩
theorem fl_P_129 : ax_fl "LossFreeTools$Picture" 129 0 1 .int false := ⟨_, rfl, by decide, wf_P_129, by decide +kernel, rfl⟩
theorem fl_P_132 : ax_fl "LossFreeTools$Picture" 132 0 2 .int false := ⟨_, rfl, by decide, wf_P_132, by decide +kernel, rfl⟩
theorem mt_T_liesOnItsSide : ax_mt y_T_liesOnItsSide b_T_liesOnItsSide 1 (some .boolean) 0 := ⟨wc_T_liesOnItsSide, wn_LossFreeTools_Tile, by decide +kernel, by decide +kernel, by decide +kernel⟩
theorem fl_T_46 : ax_fl "LossFreeTools$Tile" 46 2 2 .int false := ⟨_, rfl, by decide, wf_T_46, by decide +kernel, rfl⟩
theorem mt_S_sumFrom : ax_mt y_S_sumFrom b_S_sumFrom 4 (some .int) 1 := ⟨wc_S_sumFrom, wn_LossFreeTools_Stream, by decide +kernel, by decide +kernel, by decide +kernel⟩
theorem mt_K_isUpright : ax_mt y_K_isUpright b_K_isUpright 1 (some .boolean) 1 := ⟨wc_K_isUpright, wn_LossFreeTools, by decide +kernel, by decide +kernel, by decide +kernel⟩
theorem fl_K_27 : ax_fl "LossFreeTools" 27 4 3 (.array .int) true := ⟨_, rfl, by decide, wf_K_27, by decide +kernel, rfl⟩
theorem mt_P_moveAlong : ax_mt y_P_moveAlong b_P_moveAlong 3 none 2 := ⟨wc_P_moveAlong, wn_LossFreeTools_Picture, by decide +kernel, by decide +kernel, by decide +kernel⟩
theorem mt_P_growAlong : ax_mt y_P_growAlong b_P_growAlong 3 none 2 := ⟨wc_P_growAlong, wn_LossFreeTools_Picture, by decide +kernel, by decide +kernel, by decide +kernel⟩
theorem mt_P_putHead : ax_mt y_P_putHead b_P_putHead 3 none 1 := ⟨wc_P_putHead, wn_LossFreeTools_Picture, by decide +kernel, by decide +kernel, by decide +kernel⟩
theorem fl_K_95 : ax_fl "LossFreeTools" 95 1 0 (.array (.object "LossFreeTools$Tile")) true := ⟨_, rfl, by decide, wf_K_95, by decide +kernel, rfl⟩
theorem mt_S_goTo : ax_mt y_S_goTo b_S_goTo 2 none 1 := ⟨wc_S_goTo, wn_LossFreeTools_Stream, by decide +kernel, by decide +kernel, by decide +kernel⟩
theorem mt_T_putPart : ax_mt y_T_putPart b_T_putPart 4 none 1 := ⟨wc_T_putPart, wn_LossFreeTools_Tile, by decide +kernel, by decide +kernel, by decide +kernel⟩
theorem mt_P_holdsRectangle : ax_mt y_P_holdsRectangle b_P_holdsRectangle 5 (some .boolean) 4 := ⟨wc_P_holdsRectangle, wn_LossFreeTools_Picture, by decide +kernel, by decide +kernel, by decide +kernel⟩
theorem mt_P_overlapsTile : ax_mt y_P_overlapsTile b_P_overlapsTile 6 (some .boolean) 4 := ⟨wc_P_overlapsTile, wn_LossFreeTools_Picture, by decide +kernel, by decide +kernel, by decide +kernel⟩
theorem mt_P_addTile : ax_mt y_P_addTile b_P_addTile 5 (some .int) 4 := ⟨wc_P_addTile, wn_LossFreeTools_Picture, by decide +kernel, by decide +kernel, by decide +kernel⟩
theorem th_K_74_76 : ax_thr "LossFreeTools" 72 74 76 "java/lang/UnsupportedOperationException" "no room for a tile more" := ⟨by decide +kernel, wq_K_72, wn_java_lang_UnsupportedOperationException, by decide +kernel, ta_K_76⟩
theorem th_K_66_68 : ax_thr "LossFreeTools" 64 66 68 "java/lang/IllegalStateException" "another tile has a sample in common" := ⟨by decide +kernel, wq_K_64, wn_java_lang_IllegalStateException, by decide +kernel, ta_K_68⟩
theorem th_K_56_58 : ax_thr "LossFreeTools" 54 56 58 "java/lang/IllegalArgumentException" "not a tile of the picture" := ⟨by decide +kernel, wq_K_54, wn_java_lang_IllegalArgumentException, by decide +kernel, ta_K_58⟩
theorem mt_P_hasTile : ax_mt y_P_hasTile b_P_hasTile 2 (some .boolean) 1 := ⟨wc_P_hasTile, wn_LossFreeTools_Picture, by decide +kernel, by decide +kernel, by decide +kernel⟩
theorem mt_K_isByte : ax_mt y_K_isByte b_K_isByte 1 (some .boolean) 1 := ⟨wc_K_isByte, wn_LossFreeTools, by decide +kernel, by decide +kernel, by decide +kernel⟩
theorem fl_K_99 : ax_fl "LossFreeTools" 99 3 1 .int false := ⟨_, rfl, by decide, wf_K_99, by decide +kernel, rfl⟩
theorem mt_T_addByte : ax_mt y_T_addByte b_T_addByte 2 (some .int) 1 := ⟨wc_T_addByte, wn_LossFreeTools_Tile, by decide +kernel, by decide +kernel, by decide +kernel⟩
theorem th_K_104_76 : ax_thr "LossFreeTools" 72 104 76 "java/lang/UnsupportedOperationException" "no room for a byte more" := ⟨by decide +kernel, wq_K_72, wn_java_lang_UnsupportedOperationException, by decide +kernel, ta_K_76⟩
theorem th_K_93_58 : ax_thr "LossFreeTools" 54 93 58 "java/lang/IllegalArgumentException" "not a byte" := ⟨by decide +kernel, wq_K_54, wn_java_lang_IllegalArgumentException, by decide +kernel, ta_K_58⟩
theorem th_K_87_89 : ax_thr "LossFreeTools" 85 87 89 "java/lang/IndexOutOfBoundsException" "no such tile" := ⟨by decide +kernel, wq_K_85, wn_java_lang_IndexOutOfBoundsException, by decide +kernel, ta_K_89⟩
theorem mt_P_hasSample : ax_mt y_P_hasSample b_P_hasSample 3 (some .boolean) 2 := ⟨wc_P_hasSample, wn_LossFreeTools_Picture, by decide +kernel, by decide +kernel, by decide +kernel⟩
theorem mt_P_addNote : ax_mt y_P_addNote b_P_addNote 4 (some .int) 3 := ⟨wc_P_addNote, wn_LossFreeTools_Picture, by decide +kernel, by decide +kernel, by decide +kernel⟩
theorem th_K_118_76 : ax_thr "LossFreeTools" 72 118 76 "java/lang/UnsupportedOperationException" "no room for a note more" := ⟨by decide +kernel, wq_K_72, wn_java_lang_UnsupportedOperationException, by decide +kernel, ta_K_76⟩
theorem th_K_113_89 : ax_thr "LossFreeTools" 85 113 89 "java/lang/IndexOutOfBoundsException" "no such sample" := ⟨by decide +kernel, wq_K_85, wn_java_lang_IndexOutOfBoundsException, by decide +kernel, ta_K_89⟩
theorem mt_K_allAskedFit : ax_mt y_K_allAskedFit b_K_allAskedFit 2 (some .boolean) 0 := ⟨wc_K_allAskedFit, wn_LossFreeTools, by decide +kernel, by decide +kernel, by decide +kernel⟩
theorem th_K_124_58 : ax_thr "LossFreeTools" 54 124 58 "java/lang/IllegalArgumentException" "not a rectangle of the picture" := ⟨by decide +kernel, wq_K_54, wn_java_lang_IllegalArgumentException, by decide +kernel, ta_K_58⟩
theorem mt_P_cutTo : ax_mt y_P_cutTo b_P_cutTo 5 (some .int) 4 := ⟨wc_P_cutTo, wn_LossFreeTools_Picture, by decide +kernel, by decide +kernel, by decide +kernel⟩
theorem mt_K_isSide : ax_mt y_K_isSide b_K_isSide 1 (some .boolean) 1 := ⟨wc_K_isSide, wn_LossFreeTools, by decide +kernel, by decide +kernel, by decide +kernel⟩
theorem mt_P_nearestFit : ax_mt y_P_nearestFit b_P_nearestFit 7 (some .int) 2 := ⟨wc_P_nearestFit, wn_LossFreeTools_Picture, by decide +kernel, by decide +kernel, by decide +kernel⟩
theorem th_K_138_68 : ax_thr "LossFreeTools" 64 138 68 "java/lang/IllegalStateException" "no refused crop of the picture as it is" := ⟨by decide +kernel, wq_K_64, wn_java_lang_IllegalStateException, by decide +kernel, ta_K_68⟩
theorem th_K_136_89 : ax_thr "LossFreeTools" 85 136 89 "java/lang/IndexOutOfBoundsException" "no such side" := ⟨by decide +kernel, wq_K_85, wn_java_lang_IndexOutOfBoundsException, by decide +kernel, ta_K_89⟩
theorem mt_P_showBy : ax_mt y_P_showBy b_P_showBy 3 none 1 := ⟨wc_P_showBy, wn_LossFreeTools_Picture, by decide +kernel, by decide +kernel, by decide +kernel⟩
theorem th_K_147_58 : ax_thr "LossFreeTools" 54 147 58 "java/lang/IllegalArgumentException" "no such way" := ⟨by decide +kernel, wq_K_54, wn_java_lang_IllegalArgumentException, by decide +kernel, ta_K_58⟩
theorem mt_P_hasRoomFor : ax_mt y_P_hasRoomFor b_P_hasRoomFor 3 (some .boolean) 2 := ⟨wc_P_hasRoomFor, wn_LossFreeTools_Picture, by decide +kernel, by decide +kernel, by decide +kernel⟩
theorem mt_K_makePlaceAt : ax_mt y_K_makePlaceAt b_K_makePlaceAt 5 none 1 := ⟨wc_K_makePlaceAt, wn_LossFreeTools, by decide +kernel, by decide +kernel, by decide +kernel⟩
theorem mt_P_takeOver : ax_mt y_P_takeOver b_P_takeOver 4 none 1 := ⟨wc_P_takeOver, wn_LossFreeTools_Picture, by decide +kernel, by decide +kernel, by decide +kernel⟩
theorem th_K_167_76 : ax_thr "LossFreeTools" 72 167 76 "java/lang/UnsupportedOperationException" "no room for both pictures in one" := ⟨by decide +kernel, wq_K_72, wn_java_lang_UnsupportedOperationException, by decide +kernel, ta_K_76⟩
theorem th_K_161_68 : ax_thr "LossFreeTools" 64 161 68 "java/lang/IllegalStateException" "the sides that meet are not alike" := ⟨by decide +kernel, wq_K_64, wn_java_lang_IllegalStateException, by decide +kernel, ta_K_68⟩
theorem fl_K_176 : ax_fl "LossFreeTools" 176 3 2 .int false := ⟨_, rfl, by decide, wf_K_176, by decide +kernel, rfl⟩
theorem fl_K_179 : ax_fl "LossFreeTools" 179 3 3 .int false := ⟨_, rfl, by decide, wf_K_179, by decide +kernel, rfl⟩
theorem fl_K_182 : ax_fl "LossFreeTools" 182 3 4 .int false := ⟨_, rfl, by decide, wf_K_182, by decide +kernel, rfl⟩
theorem fl_K_185 : ax_fl "LossFreeTools" 185 3 5 .int false := ⟨_, rfl, by decide, wf_K_185, by decide +kernel, rfl⟩
theorem fl_K_188 : ax_fl "LossFreeTools" 188 3 6 .int false := ⟨_, rfl, by decide, wf_K_188, by decide +kernel, rfl⟩
theorem mt_T_ownWidth : ax_mt y_T_ownWidth b_T_ownWidth 1 (some .int) 0 := ⟨wc_T_ownWidth, wn_LossFreeTools_Tile, by decide +kernel, by decide +kernel, by decide +kernel⟩
theorem mt_T_ownHeight : ax_mt y_T_ownHeight b_T_ownHeight 1 (some .int) 0 := ⟨wc_T_ownHeight, wn_LossFreeTools_Tile, by decide +kernel, by decide +kernel, by decide +kernel⟩
theorem fl_K_200 : ax_fl "LossFreeTools" 200 3 0 (.array .int) true := ⟨_, rfl, by decide, wf_K_200, by decide +kernel, rfl⟩
theorem th_K_198_89 : ax_thr "LossFreeTools" 85 198 89 "java/lang/IndexOutOfBoundsException" "no such byte" := ⟨by decide +kernel, wq_K_85, wn_java_lang_IndexOutOfBoundsException, by decide +kernel, ta_K_89⟩
theorem mt_P_tileOver : ax_mt y_P_tileOver b_P_tileOver 4 (some .int) 2 := ⟨wc_P_tileOver, wn_LossFreeTools_Picture, by decide +kernel, by decide +kernel, by decide +kernel⟩
theorem mt_T_ownSample : ax_mt y_T_ownSample b_T_ownSample 10 (some .int) 2 := ⟨wc_T_ownSample, wn_LossFreeTools_Tile, by decide +kernel, by decide +kernel, by decide +kernel⟩
theorem fl_K_211 : ax_fl "LossFreeTools" 211 1 1 (.array (.object "LossFreeTools$Note")) true := ⟨_, rfl, by decide, wf_K_211, by decide +kernel, rfl⟩
theorem fl_K_215 : ax_fl "LossFreeTools" 215 0 0 .int false := ⟨_, rfl, by decide, wf_K_215, by decide +kernel, rfl⟩
theorem fl_K_218 : ax_fl "LossFreeTools" 218 0 1 .int false := ⟨_, rfl, by decide, wf_K_218, by decide +kernel, rfl⟩
theorem fl_K_219 : ax_fl "LossFreeTools" 219 0 2 .int false := ⟨_, rfl, by decide, wf_K_219, by decide +kernel, rfl⟩
theorem th_K_209_89 : ax_thr "LossFreeTools" 85 209 89 "java/lang/IndexOutOfBoundsException" "no such note" := ⟨by decide +kernel, wq_K_85, wn_java_lang_IndexOutOfBoundsException, by decide +kernel, ta_K_89⟩
theorem fl_K_242 : ax_fl "LossFreeTools" 242 2 0 (.array .int) true := ⟨_, rfl, by decide, wf_K_242, by decide +kernel, rfl⟩
theorem fl_M_68 : ax_fl "LossFreeToolsModel" 68 5 0 .int false := ⟨_, rfl, by decide, wf_M_68, by decide +kernel, rfl⟩
theorem fl_M_71 : ax_fl "LossFreeToolsModel" 71 5 3 .int false := ⟨_, rfl, by decide, wf_M_71, by decide +kernel, rfl⟩
theorem fl_M_74 : ax_fl "LossFreeToolsModel" 74 5 18 .int false := ⟨_, rfl, by decide, wf_M_74, by decide +kernel, rfl⟩
theorem fl_M_77 : ax_fl "LossFreeToolsModel" 77 5 19 .boolean false := ⟨_, rfl, by decide, wf_M_77, by decide +kernel, rfl⟩
theorem fl_M_81 : ax_fl "LossFreeToolsModel" 81 5 22 .int false := ⟨_, rfl, by decide, wf_M_81, by decide +kernel, rfl⟩
theorem fl_M_7 : ax_fl "LossFreeToolsModel" 7 5 4 (.array .int) true := ⟨_, rfl, by decide, wf_M_7, by decide +kernel, rfl⟩
theorem fl_M_58 : ax_fl "LossFreeToolsModel" 58 5 1 .int true := ⟨_, rfl, by decide, wf_M_58, by decide +kernel, rfl⟩
theorem fl_M_13 : ax_fl "LossFreeToolsModel" 13 5 5 (.array .int) true := ⟨_, rfl, by decide, wf_M_13, by decide +kernel, rfl⟩
theorem fl_M_62 : ax_fl "LossFreeToolsModel" 62 5 2 .int true := ⟨_, rfl, by decide, wf_M_62, by decide +kernel, rfl⟩
theorem fl_M_16 : ax_fl "LossFreeToolsModel" 16 5 6 (.array .int) true := ⟨_, rfl, by decide, wf_M_16, by decide +kernel, rfl⟩
theorem fl_M_19 : ax_fl "LossFreeToolsModel" 19 5 7 (.array .int) true := ⟨_, rfl, by decide, wf_M_19, by decide +kernel, rfl⟩
theorem fl_M_22 : ax_fl "LossFreeToolsModel" 22 5 8 (.array .int) true := ⟨_, rfl, by decide, wf_M_22, by decide +kernel, rfl⟩
theorem fl_M_25 : ax_fl "LossFreeToolsModel" 25 5 9 (.array .int) true := ⟨_, rfl, by decide, wf_M_25, by decide +kernel, rfl⟩
theorem fl_M_28 : ax_fl "LossFreeToolsModel" 28 5 10 (.array .int) true := ⟨_, rfl, by decide, wf_M_28, by decide +kernel, rfl⟩
theorem fl_M_31 : ax_fl "LossFreeToolsModel" 31 5 11 (.array .int) true := ⟨_, rfl, by decide, wf_M_31, by decide +kernel, rfl⟩
theorem fl_M_34 : ax_fl "LossFreeToolsModel" 34 5 12 (.array .int) true := ⟨_, rfl, by decide, wf_M_34, by decide +kernel, rfl⟩
theorem fl_M_37 : ax_fl "LossFreeToolsModel" 37 5 13 (.array .int) true := ⟨_, rfl, by decide, wf_M_37, by decide +kernel, rfl⟩
theorem fl_M_40 : ax_fl "LossFreeToolsModel" 40 5 14 (.array .int) true := ⟨_, rfl, by decide, wf_M_40, by decide +kernel, rfl⟩
theorem fl_M_43 : ax_fl "LossFreeToolsModel" 43 5 15 (.array .int) true := ⟨_, rfl, by decide, wf_M_43, by decide +kernel, rfl⟩
theorem fl_M_46 : ax_fl "LossFreeToolsModel" 46 5 16 (.array .int) true := ⟨_, rfl, by decide, wf_M_46, by decide +kernel, rfl⟩
theorem fl_M_49 : ax_fl "LossFreeToolsModel" 49 5 17 (.array .int) true := ⟨_, rfl, by decide, wf_M_49, by decide +kernel, rfl⟩
theorem fl_M_55 : ax_fl "LossFreeToolsModel" 55 5 21 (.array .int) true := ⟨_, rfl, by decide, wf_M_55, by decide +kernel, rfl⟩
theorem mt_M_in : ax_mt y_M_in b_M_in 3 (some .boolean) 3 := ⟨wc_M_in, wn_LossFreeToolsModel, by decide +kernel, by decide +kernel, by decide +kernel⟩
theorem mt_M_lies : ax_mt y_M_lies b_M_lies 5 (some .boolean) 4 := ⟨wc_M_lies, wn_LossFreeToolsModel, by decide +kernel, by decide +kernel, by decide +kernel⟩
theorem mt_M_tileAt : ax_mt y_M_tileAt b_M_tileAt 2 (some .int) 1 := ⟨wc_M_tileAt, wn_LossFreeToolsModel, by decide +kernel, by decide +kernel, by decide +kernel⟩
theorem fl_M_52 : ax_fl "LossFreeToolsModel" 52 5 20 (.array .int) true := ⟨_, rfl, by decide, wf_M_52, by decide +kernel, rfl⟩
theorem mt_M_isTurned : ax_mt y_M_isTurned b_M_isTurned 1 (some .boolean) 1 := ⟨wc_M_isTurned, wn_LossFreeToolsModel, by decide +kernel, by decide +kernel, by decide +kernel⟩
theorem mt_M_comes : ax_mt y_M_comes b_M_comes 12 (some .int) 5 := ⟨wc_M_comes, wn_LossFreeToolsModel, by decide +kernel, by decide +kernel, by decide +kernel⟩
theorem mt_M_move : ax_mt y_M_move b_M_move 4 none 2 := ⟨wc_M_move, wn_LossFreeToolsModel, by decide +kernel, by decide +kernel, by decide +kernel⟩
theorem mt_M_moveNote : ax_mt y_M_moveNote b_M_moveNote 3 none 2 := ⟨wc_M_moveNote, wn_LossFreeToolsModel, by decide +kernel, by decide +kernel, by decide +kernel⟩
theorem mt_M_tell : ax_mt y_M_tell b_M_tell 2 none 1 := ⟨wc_M_tell, wn_LossFreeToolsModel, by decide +kernel, by decide +kernel, by decide +kernel⟩
theorem mt_M_isBefore : ax_mt y_M_isBefore b_M_isBefore 3 (some .boolean) 2 := ⟨wc_M_isBefore, wn_LossFreeToolsModel, by decide +kernel, by decide +kernel, by decide +kernel⟩
theorem mt_M_partSize : ax_mt y_M_partSize b_M_partSize 1 (some .int) 1 := ⟨wc_M_partSize, wn_LossFreeToolsModel, by decide +kernel, by decide +kernel, by decide +kernel⟩
theorem mt_M_isTile : ax_mt y_M_isTile b_M_isTile 2 (some .boolean) 1 := ⟨wc_M_isTile, wn_LossFreeToolsModel, by decide +kernel, by decide +kernel, by decide +kernel⟩
theorem mt_M_isSample : ax_mt y_M_isSample b_M_isSample 3 (some .boolean) 2 := ⟨wc_M_isSample, wn_LossFreeToolsModel, by decide +kernel, by decide +kernel, by decide +kernel⟩
theorem mt_M_fits : ax_mt y_M_fits b_M_fits 8 (some .boolean) 2 := ⟨wc_M_fits, wn_LossFreeToolsModel, by decide +kernel, by decide +kernel, by decide +kernel⟩
theorem mt_M_both : ax_mt y_M_both b_M_both 8 (some .int) 2 := ⟨wc_M_both, wn_LossFreeToolsModel, by decide +kernel, by decide +kernel, by decide +kernel⟩
theorem mt_M_ownOf : ax_mt y_M_ownOf b_M_ownOf 7 (some .int) 5 := ⟨wc_M_ownOf, wn_LossFreeToolsModel, by decide +kernel, by decide +kernel, by decide +kernel⟩
theorem mt_M_pointerOf : ax_mt y_M_pointerOf b_M_pointerOf 4 (some .int) 1 := ⟨wc_M_pointerOf, wn_LossFreeToolsModel, by decide +kernel, by decide +kernel, by decide +kernel⟩
theorem mt_M_tellTwo : ax_mt y_M_tellTwo b_M_tellTwo 2 none 1 := ⟨wc_M_tellTwo, wn_LossFreeToolsModel, by decide +kernel, by decide +kernel, by decide +kernel⟩
theorem mt_M_nearest : ax_mt y_M_nearest b_M_nearest 8 (some .int) 2 := ⟨wc_M_nearest, wn_LossFreeToolsModel, by decide +kernel, by decide +kernel, by decide +kernel⟩
theorem mt_M_tellPart : ax_mt y_M_tellPart b_M_tellPart 5 none 1 := ⟨wc_M_tellPart, wn_LossFreeToolsModel, by decide +kernel, by decide +kernel, by decide +kernel⟩
