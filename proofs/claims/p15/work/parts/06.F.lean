abbrev hh_tile : List (Nat × Nat × Nat × Nat) := [(0, 14, 17, 13), (0, 14, 21, 15), (0, 14, 25, 17)]
abbrev hh_byteOf : List (Nat × Nat × Nat × Nat) := [(0, 10, 13, 23), (0, 10, 17, 13), (0, 10, 21, 17)]
abbrev hh_note : List (Nat × Nat × Nat × Nat) := [(0, 12, 15, 23), (0, 12, 19, 13), (0, 12, 23, 17)]
abbrev hh_crop : List (Nat × Nat × Nat × Nat) := [(0, 14, 17, 13)]
abbrev hh_near : List (Nat × Nat × Nat × Nat) := [(0, 9, 12, 23), (0, 9, 15, 15)]
abbrev hh_turn : List (Nat × Nat × Nat × Nat) := [(0, 9, 12, 13)]
abbrev hh_join : List (Nat × Nat × Nat × Nat) := [(0, 9, 12, 23), (0, 9, 15, 15), (0, 9, 18, 17)]
abbrev hh_at : List (Nat × Nat × Nat × Nat) := [(0, 10, 13, 23)]
abbrev hh_byteAt : List (Nat × Nat × Nat × Nat) := [(0, 10, 13, 23)]
abbrev hh_shown : List (Nat × Nat × Nat × Nat) := [(0, 10, 13, 23)]
abbrev hh_noteAt : List (Nat × Nat × Nat × Nat) := [(0, 10, 13, 23)]
abbrev hh_streamAt : List (Nat × Nat × Nat × Nat) := [(0, 9, 12, 23)]
abbrev hh_pointer : List (Nat × Nat × Nat × Nat) := [(0, 9, 12, 23)]
set_option maxRecDepth 16384 in
theorem wq_L_8 : Cond.classLink "LossFreeToolsLaw" 8 "LossFreeTools" ∈ ax_tb := tx_1 (i := 15) rfl rfl
set_option maxRecDepth 16384 in
theorem wq_L_13 : Cond.classLink "LossFreeToolsLaw" 13 "java/lang/IllegalArgumentException" ∈ ax_tb := tx_2 (i := 0) rfl rfl
set_option maxRecDepth 16384 in
theorem wq_L_15 : Cond.classLink "LossFreeToolsLaw" 15 "java/lang/IllegalStateException" ∈ ax_tb := tx_2 (i := 1) rfl rfl
set_option maxRecDepth 16384 in
theorem wq_L_17 : Cond.classLink "LossFreeToolsLaw" 17 "java/lang/UnsupportedOperationException" ∈ ax_tb := tx_2 (i := 2) rfl rfl
set_option maxRecDepth 16384 in
theorem wq_L_23 : Cond.classLink "LossFreeToolsLaw" 23 "java/lang/IndexOutOfBoundsException" ∈ ax_tb := tx_2 (i := 131) rfl rfl
set_option maxRecDepth 16384 in
theorem wq_L_69 : Cond.classLink "LossFreeToolsLaw" 69 "LossFreeToolsModel" ∈ ax_tb := tx_3 (i := 166) rfl rfl
set_option maxRecDepth 16384 in
theorem wn_LossFreeToolsLaw : Cond.initialized "LossFreeToolsLaw" ∈ ax_tb := tx_1 (i := 0) rfl rfl
set_option maxRecDepth 16384 in
theorem wcw_L_tile : Cond.codeWith y_L_tile b_L_tile 7 (some .int) hh_tile ∈ ax_tb := tx_1 (i := 239) rfl rfl
set_option maxRecDepth 16384 in
theorem wt_L_tile : Cond.static y_L_tile ∈ ax_tb := tx_1 (i := 238) rfl rfl
set_option maxRecDepth 16384 in
theorem wc_K_tile : Cond.code y_K_tile b_K_tile 5 (some .int) ∈ ax_tb := tx_2 (i := 6) rfl rfl
set_option maxRecDepth 16384 in
theorem wi_K_tile : Cond.instanceMethod y_K_tile ∈ ax_tb := tx_2 (i := 4) rfl rfl
set_option maxRecDepth 16384 in
theorem ws_K_tile : Cond.selects "LossFreeTools" y_K_tile y_K_tile ∈ ax_tb := tx_2 (i := 5) rfl rfl
set_option maxRecDepth 16384 in
theorem wl_L_7 : Cond.methodLink "LossFreeToolsLaw" 7 y_K_tile ∈ ax_tb := tx_2 (i := 3) rfl rfl
set_option maxRecDepth 16384 in
theorem wcw_L_byteOf : Cond.codeWith y_L_byteOf b_L_byteOf 5 (some .int) hh_byteOf ∈ ax_tb := tx_2 (i := 130) rfl rfl
set_option maxRecDepth 16384 in
theorem wt_L_byteOf : Cond.static y_L_byteOf ∈ ax_tb := tx_2 (i := 129) rfl rfl
set_option maxRecDepth 16384 in
theorem wc_K_byteOf : Cond.code y_K_byteOf b_K_byteOf 4 (some .int) ∈ ax_tb := tx_2 (i := 135) rfl rfl
set_option maxRecDepth 16384 in
theorem wi_K_byteOf : Cond.instanceMethod y_K_byteOf ∈ ax_tb := tx_2 (i := 133) rfl rfl
set_option maxRecDepth 16384 in
theorem ws_K_byteOf : Cond.selects "LossFreeTools" y_K_byteOf y_K_byteOf ∈ ax_tb := tx_2 (i := 134) rfl rfl
set_option maxRecDepth 16384 in
theorem wl_L_19 : Cond.methodLink "LossFreeToolsLaw" 19 y_K_byteOf ∈ ax_tb := tx_2 (i := 132) rfl rfl
set_option maxRecDepth 16384 in
theorem wcw_L_note : Cond.codeWith y_L_note b_L_note 6 (some .int) hh_note ∈ ax_tb := tx_2 (i := 167) rfl rfl
set_option maxRecDepth 16384 in
theorem wt_L_note : Cond.static y_L_note ∈ ax_tb := tx_2 (i := 166) rfl rfl
set_option maxRecDepth 16384 in
theorem wc_K_note : Cond.code y_K_note b_K_note 4 (some .int) ∈ ax_tb := tx_2 (i := 171) rfl rfl
set_option maxRecDepth 16384 in
theorem wi_K_note : Cond.instanceMethod y_K_note ∈ ax_tb := tx_2 (i := 169) rfl rfl
set_option maxRecDepth 16384 in
theorem ws_K_note : Cond.selects "LossFreeTools" y_K_note y_K_note ∈ ax_tb := tx_2 (i := 170) rfl rfl
set_option maxRecDepth 16384 in
theorem wl_L_25 : Cond.methodLink "LossFreeToolsLaw" 25 y_K_note ∈ ax_tb := tx_2 (i := 168) rfl rfl
set_option maxRecDepth 16384 in
theorem wcw_L_crop : Cond.codeWith y_L_crop b_L_crop 7 (some .int) hh_crop ∈ ax_tb := tx_2 (i := 188) rfl rfl
set_option maxRecDepth 16384 in
theorem wt_L_crop : Cond.static y_L_crop ∈ ax_tb := tx_2 (i := 187) rfl rfl
set_option maxRecDepth 16384 in
theorem wc_K_crop : Cond.code y_K_crop b_K_crop 5 (some .int) ∈ ax_tb := tx_2 (i := 192) rfl rfl
set_option maxRecDepth 16384 in
theorem wi_K_crop : Cond.instanceMethod y_K_crop ∈ ax_tb := tx_2 (i := 190) rfl rfl
set_option maxRecDepth 16384 in
theorem ws_K_crop : Cond.selects "LossFreeTools" y_K_crop y_K_crop ∈ ax_tb := tx_2 (i := 191) rfl rfl
set_option maxRecDepth 16384 in
theorem wl_L_29 : Cond.methodLink "LossFreeToolsLaw" 29 y_K_crop ∈ ax_tb := tx_2 (i := 189) rfl rfl
set_option maxRecDepth 16384 in
theorem wcw_L_near : Cond.codeWith y_L_near b_L_near 4 (some .int) hh_near ∈ ax_tb := tx_3 (i := 3) rfl rfl
set_option maxRecDepth 16384 in
theorem wt_L_near : Cond.static y_L_near ∈ ax_tb := tx_3 (i := 2) rfl rfl
set_option maxRecDepth 16384 in
theorem wc_K_near : Cond.code y_K_near b_K_near 2 (some .int) ∈ ax_tb := tx_3 (i := 7) rfl rfl
set_option maxRecDepth 16384 in
theorem wi_K_near : Cond.instanceMethod y_K_near ∈ ax_tb := tx_3 (i := 5) rfl rfl
set_option maxRecDepth 16384 in
theorem ws_K_near : Cond.selects "LossFreeTools" y_K_near y_K_near ∈ ax_tb := tx_3 (i := 6) rfl rfl
set_option maxRecDepth 16384 in
theorem wl_L_32 : Cond.methodLink "LossFreeToolsLaw" 32 y_K_near ∈ ax_tb := tx_3 (i := 4) rfl rfl
set_option maxRecDepth 16384 in
theorem wcw_L_turn : Cond.codeWith y_L_turn b_L_turn 4 (some .int) hh_turn ∈ ax_tb := tx_3 (i := 24) rfl rfl
set_option maxRecDepth 16384 in
theorem wt_L_turn : Cond.static y_L_turn ∈ ax_tb := tx_3 (i := 23) rfl rfl
set_option maxRecDepth 16384 in
theorem wc_K_turn : Cond.code y_K_turn b_K_turn 2 (some .int) ∈ ax_tb := tx_3 (i := 28) rfl rfl
set_option maxRecDepth 16384 in
theorem wi_K_turn : Cond.instanceMethod y_K_turn ∈ ax_tb := tx_3 (i := 26) rfl rfl
set_option maxRecDepth 16384 in
theorem ws_K_turn : Cond.selects "LossFreeTools" y_K_turn y_K_turn ∈ ax_tb := tx_3 (i := 27) rfl rfl
set_option maxRecDepth 16384 in
theorem wl_L_36 : Cond.methodLink "LossFreeToolsLaw" 36 y_K_turn ∈ ax_tb := tx_3 (i := 25) rfl rfl
set_option maxRecDepth 16384 in
theorem wcw_L_join : Cond.codeWith y_L_join b_L_join 4 (some .int) hh_join ∈ ax_tb := tx_3 (i := 72) rfl rfl
set_option maxRecDepth 16384 in
theorem wt_L_join : Cond.static y_L_join ∈ ax_tb := tx_3 (i := 71) rfl rfl
set_option maxRecDepth 16384 in
theorem wc_K_join : Cond.code y_K_join b_K_join 3 (some .int) ∈ ax_tb := tx_3 (i := 76) rfl rfl
set_option maxRecDepth 16384 in
theorem wi_K_join : Cond.instanceMethod y_K_join ∈ ax_tb := tx_3 (i := 74) rfl rfl
set_option maxRecDepth 16384 in
theorem ws_K_join : Cond.selects "LossFreeTools" y_K_join y_K_join ∈ ax_tb := tx_3 (i := 75) rfl rfl
set_option maxRecDepth 16384 in
theorem wl_L_39 : Cond.methodLink "LossFreeToolsLaw" 39 y_K_join ∈ ax_tb := tx_3 (i := 73) rfl rfl
set_option maxRecDepth 16384 in
theorem wcw_L_at : Cond.codeWith y_L_at b_L_at 5 (some .int) hh_at ∈ ax_tb := tx_3 (i := 102) rfl rfl
set_option maxRecDepth 16384 in
theorem wt_L_at : Cond.static y_L_at ∈ ax_tb := tx_3 (i := 101) rfl rfl
set_option maxRecDepth 16384 in
theorem wc_K_at : Cond.code y_K_at b_K_at 4 (some .int) ∈ ax_tb := tx_3 (i := 106) rfl rfl
set_option maxRecDepth 16384 in
theorem wi_K_at : Cond.instanceMethod y_K_at ∈ ax_tb := tx_3 (i := 104) rfl rfl
set_option maxRecDepth 16384 in
theorem ws_K_at : Cond.selects "LossFreeTools" y_K_at y_K_at ∈ ax_tb := tx_3 (i := 105) rfl rfl
set_option maxRecDepth 16384 in
theorem wl_L_42 : Cond.methodLink "LossFreeToolsLaw" 42 y_K_at ∈ ax_tb := tx_3 (i := 103) rfl rfl
set_option maxRecDepth 16384 in
theorem wcw_L_byteAt : Cond.codeWith y_L_byteAt b_L_byteAt 5 (some .int) hh_byteAt ∈ ax_tb := tx_3 (i := 122) rfl rfl
set_option maxRecDepth 16384 in
theorem wt_L_byteAt : Cond.static y_L_byteAt ∈ ax_tb := tx_3 (i := 121) rfl rfl
set_option maxRecDepth 16384 in
theorem wc_K_byteAt : Cond.code y_K_byteAt b_K_byteAt 4 (some .int) ∈ ax_tb := tx_3 (i := 126) rfl rfl
set_option maxRecDepth 16384 in
theorem wi_K_byteAt : Cond.instanceMethod y_K_byteAt ∈ ax_tb := tx_3 (i := 124) rfl rfl
set_option maxRecDepth 16384 in
theorem ws_K_byteAt : Cond.selects "LossFreeTools" y_K_byteAt y_K_byteAt ∈ ax_tb := tx_3 (i := 125) rfl rfl
set_option maxRecDepth 16384 in
theorem wl_L_45 : Cond.methodLink "LossFreeToolsLaw" 45 y_K_byteAt ∈ ax_tb := tx_3 (i := 123) rfl rfl
set_option maxRecDepth 16384 in
theorem wcw_L_shown : Cond.codeWith y_L_shown b_L_shown 5 (some .int) hh_shown ∈ ax_tb := tx_3 (i := 130) rfl rfl
set_option maxRecDepth 16384 in
theorem wt_L_shown : Cond.static y_L_shown ∈ ax_tb := tx_3 (i := 129) rfl rfl
set_option maxRecDepth 16384 in
theorem wc_K_shown : Cond.code y_K_shown b_K_shown 4 (some .int) ∈ ax_tb := tx_3 (i := 134) rfl rfl
set_option maxRecDepth 16384 in
theorem wi_K_shown : Cond.instanceMethod y_K_shown ∈ ax_tb := tx_3 (i := 132) rfl rfl
set_option maxRecDepth 16384 in
theorem ws_K_shown : Cond.selects "LossFreeTools" y_K_shown y_K_shown ∈ ax_tb := tx_3 (i := 133) rfl rfl
set_option maxRecDepth 16384 in
theorem wl_L_48 : Cond.methodLink "LossFreeToolsLaw" 48 y_K_shown ∈ ax_tb := tx_3 (i := 131) rfl rfl
set_option maxRecDepth 16384 in
theorem wcw_L_noteAt : Cond.codeWith y_L_noteAt b_L_noteAt 5 (some .int) hh_noteAt ∈ ax_tb := tx_3 (i := 146) rfl rfl
set_option maxRecDepth 16384 in
theorem wt_L_noteAt : Cond.static y_L_noteAt ∈ ax_tb := tx_3 (i := 145) rfl rfl
set_option maxRecDepth 16384 in
theorem wc_K_noteAt : Cond.code y_K_noteAt b_K_noteAt 4 (some .int) ∈ ax_tb := tx_3 (i := 150) rfl rfl
set_option maxRecDepth 16384 in
theorem wi_K_noteAt : Cond.instanceMethod y_K_noteAt ∈ ax_tb := tx_3 (i := 148) rfl rfl
set_option maxRecDepth 16384 in
theorem ws_K_noteAt : Cond.selects "LossFreeTools" y_K_noteAt y_K_noteAt ∈ ax_tb := tx_3 (i := 149) rfl rfl
set_option maxRecDepth 16384 in
theorem wl_L_51 : Cond.methodLink "LossFreeToolsLaw" 51 y_K_noteAt ∈ ax_tb := tx_3 (i := 147) rfl rfl
set_option maxRecDepth 16384 in
theorem wcw_L_streamAt : Cond.codeWith y_L_streamAt b_L_streamAt 4 (some .int) hh_streamAt ∈ ax_tb := tx_3 (i := 154) rfl rfl
set_option maxRecDepth 16384 in
theorem wt_L_streamAt : Cond.static y_L_streamAt ∈ ax_tb := tx_3 (i := 153) rfl rfl
set_option maxRecDepth 16384 in
theorem wc_K_streamAt : Cond.code y_K_streamAt b_K_streamAt 2 (some .int) ∈ ax_tb := tx_3 (i := 158) rfl rfl
set_option maxRecDepth 16384 in
theorem wi_K_streamAt : Cond.instanceMethod y_K_streamAt ∈ ax_tb := tx_3 (i := 156) rfl rfl
set_option maxRecDepth 16384 in
theorem ws_K_streamAt : Cond.selects "LossFreeTools" y_K_streamAt y_K_streamAt ∈ ax_tb := tx_3 (i := 157) rfl rfl
set_option maxRecDepth 16384 in
theorem wl_L_54 : Cond.methodLink "LossFreeToolsLaw" 54 y_K_streamAt ∈ ax_tb := tx_3 (i := 155) rfl rfl
set_option maxRecDepth 16384 in
theorem wcw_L_pointer : Cond.codeWith y_L_pointer b_L_pointer 4 (some .int) hh_pointer ∈ ax_tb := tx_3 (i := 161) rfl rfl
set_option maxRecDepth 16384 in
theorem wt_L_pointer : Cond.static y_L_pointer ∈ ax_tb := tx_3 (i := 160) rfl rfl
set_option maxRecDepth 16384 in
theorem wc_K_pointer : Cond.code y_K_pointer b_K_pointer 2 (some .int) ∈ ax_tb := tx_3 (i := 165) rfl rfl
set_option maxRecDepth 16384 in
theorem wi_K_pointer : Cond.instanceMethod y_K_pointer ∈ ax_tb := tx_3 (i := 163) rfl rfl
set_option maxRecDepth 16384 in
theorem ws_K_pointer : Cond.selects "LossFreeTools" y_K_pointer y_K_pointer ∈ ax_tb := tx_3 (i := 164) rfl rfl
set_option maxRecDepth 16384 in
theorem wl_L_57 : Cond.methodLink "LossFreeToolsLaw" 57 y_K_pointer ∈ ax_tb := tx_3 (i := 162) rfl rfl
set_option maxRecDepth 16384 in
theorem wc_L_cell : Cond.code y_L_cell b_L_cell 2 (some .int) ∈ ax_tb := tx_1 (i := 236) rfl rfl
set_option maxRecDepth 16384 in
theorem wt_L_cell : Cond.static y_L_cell ∈ ax_tb := tx_1 (i := 235) rfl rfl
set_option maxRecDepth 16384 in
theorem wl_L_72 : Cond.methodLink "LossFreeToolsLaw" 72 y_L_tile ∈ ax_tb := tx_1 (i := 237) rfl rfl
set_option maxRecDepth 16384 in
theorem wl_L_75 : Cond.methodLink "LossFreeToolsLaw" 75 y_M_tile ∈ ax_tb := tx_4 (i := 11) rfl rfl
set_option maxRecDepth 16384 in
theorem wc_M_tile : Cond.code y_M_tile b_M_tile 8 (some .int) ∈ ax_tb := tx_4 (i := 14) rfl rfl
set_option maxRecDepth 16384 in
theorem wi_M_tile : Cond.instanceMethod y_M_tile ∈ ax_tb := tx_4 (i := 12) rfl rfl
set_option maxRecDepth 16384 in
theorem ws_M_tile : Cond.selects "LossFreeToolsModel" y_M_tile y_M_tile ∈ ax_tb := tx_4 (i := 13) rfl rfl
set_option maxRecDepth 16384 in
theorem wl_L_76 : Cond.methodLink "LossFreeToolsLaw" 76 y_L_byteOf ∈ ax_tb := tx_2 (i := 128) rfl rfl
set_option maxRecDepth 16384 in
theorem wl_L_79 : Cond.methodLink "LossFreeToolsLaw" 79 y_M_byteOf ∈ ax_tb := tx_4 (i := 26) rfl rfl
set_option maxRecDepth 16384 in
theorem wc_M_byteOf : Cond.code y_M_byteOf b_M_byteOf 4 (some .int) ∈ ax_tb := tx_4 (i := 29) rfl rfl
set_option maxRecDepth 16384 in
theorem wi_M_byteOf : Cond.instanceMethod y_M_byteOf ∈ ax_tb := tx_4 (i := 27) rfl rfl
set_option maxRecDepth 16384 in
theorem ws_M_byteOf : Cond.selects "LossFreeToolsModel" y_M_byteOf y_M_byteOf ∈ ax_tb := tx_4 (i := 28) rfl rfl
set_option maxRecDepth 16384 in
theorem wl_L_80 : Cond.methodLink "LossFreeToolsLaw" 80 y_L_note ∈ ax_tb := tx_2 (i := 165) rfl rfl
set_option maxRecDepth 16384 in
theorem wl_L_83 : Cond.methodLink "LossFreeToolsLaw" 83 y_M_note ∈ ax_tb := tx_4 (i := 34) rfl rfl
set_option maxRecDepth 16384 in
theorem wc_M_note : Cond.code y_M_note b_M_note 5 (some .int) ∈ ax_tb := tx_4 (i := 37) rfl rfl
set_option maxRecDepth 16384 in
theorem wi_M_note : Cond.instanceMethod y_M_note ∈ ax_tb := tx_4 (i := 35) rfl rfl
set_option maxRecDepth 16384 in
theorem ws_M_note : Cond.selects "LossFreeToolsModel" y_M_note y_M_note ∈ ax_tb := tx_4 (i := 36) rfl rfl
set_option maxRecDepth 16384 in
theorem wl_L_84 : Cond.methodLink "LossFreeToolsLaw" 84 y_L_crop ∈ ax_tb := tx_2 (i := 186) rfl rfl
set_option maxRecDepth 16384 in
theorem wl_L_86 : Cond.methodLink "LossFreeToolsLaw" 86 y_M_crop ∈ ax_tb := tx_4 (i := 42) rfl rfl
set_option maxRecDepth 16384 in
theorem wc_M_crop : Cond.code y_M_crop b_M_crop 8 (some .int) ∈ ax_tb := tx_4 (i := 45) rfl rfl
set_option maxRecDepth 16384 in
theorem wi_M_crop : Cond.instanceMethod y_M_crop ∈ ax_tb := tx_4 (i := 43) rfl rfl
set_option maxRecDepth 16384 in
theorem ws_M_crop : Cond.selects "LossFreeToolsModel" y_M_crop y_M_crop ∈ ax_tb := tx_4 (i := 44) rfl rfl
set_option maxRecDepth 16384 in
theorem wl_L_87 : Cond.methodLink "LossFreeToolsLaw" 87 y_L_near ∈ ax_tb := tx_3 (i := 1) rfl rfl
set_option maxRecDepth 16384 in
theorem wl_L_90 : Cond.methodLink "LossFreeToolsLaw" 90 y_M_near ∈ ax_tb := tx_4 (i := 62) rfl rfl
set_option maxRecDepth 16384 in
theorem wc_M_near : Cond.code y_M_near b_M_near 2 (some .int) ∈ ax_tb := tx_4 (i := 65) rfl rfl
set_option maxRecDepth 16384 in
theorem wi_M_near : Cond.instanceMethod y_M_near ∈ ax_tb := tx_4 (i := 63) rfl rfl
set_option maxRecDepth 16384 in
theorem ws_M_near : Cond.selects "LossFreeToolsModel" y_M_near y_M_near ∈ ax_tb := tx_4 (i := 64) rfl rfl
set_option maxRecDepth 16384 in
theorem wl_L_91 : Cond.methodLink "LossFreeToolsLaw" 91 y_L_turn ∈ ax_tb := tx_3 (i := 22) rfl rfl
set_option maxRecDepth 16384 in
theorem wl_L_93 : Cond.methodLink "LossFreeToolsLaw" 93 y_M_turn ∈ ax_tb := tx_4 (i := 66) rfl rfl
set_option maxRecDepth 16384 in
theorem wc_M_turn : Cond.code y_M_turn b_M_turn 9 (some .int) ∈ ax_tb := tx_4 (i := 69) rfl rfl
set_option maxRecDepth 16384 in
theorem wi_M_turn : Cond.instanceMethod y_M_turn ∈ ax_tb := tx_4 (i := 67) rfl rfl
set_option maxRecDepth 16384 in
theorem ws_M_turn : Cond.selects "LossFreeToolsModel" y_M_turn y_M_turn ∈ ax_tb := tx_4 (i := 68) rfl rfl
set_option maxRecDepth 16384 in
theorem wl_L_94 : Cond.methodLink "LossFreeToolsLaw" 94 y_K_swap ∈ ax_tb := tx_1 (i := 168) rfl rfl
set_option maxRecDepth 16384 in
theorem wc_K_swap : Cond.code y_K_swap b_K_swap 2 (some .int) ∈ ax_tb := tx_1 (i := 171) rfl rfl
set_option maxRecDepth 16384 in
theorem wi_K_swap : Cond.instanceMethod y_K_swap ∈ ax_tb := tx_1 (i := 169) rfl rfl
set_option maxRecDepth 16384 in
theorem ws_K_swap : Cond.selects "LossFreeTools" y_K_swap y_K_swap ∈ ax_tb := tx_1 (i := 170) rfl rfl
set_option maxRecDepth 16384 in
theorem wl_L_98 : Cond.methodLink "LossFreeToolsLaw" 98 y_M_swap ∈ ax_tb := tx_4 (i := 79) rfl rfl
set_option maxRecDepth 16384 in
theorem wc_M_swap : Cond.code y_M_swap b_M_swap 1 (some .int) ∈ ax_tb := tx_4 (i := 82) rfl rfl
set_option maxRecDepth 16384 in
theorem wi_M_swap : Cond.instanceMethod y_M_swap ∈ ax_tb := tx_4 (i := 80) rfl rfl
set_option maxRecDepth 16384 in
theorem ws_M_swap : Cond.selects "LossFreeToolsModel" y_M_swap y_M_swap ∈ ax_tb := tx_4 (i := 81) rfl rfl
set_option maxRecDepth 16384 in
theorem wl_L_99 : Cond.methodLink "LossFreeToolsLaw" 99 y_L_join ∈ ax_tb := tx_3 (i := 70) rfl rfl
set_option maxRecDepth 16384 in
theorem wl_L_101 : Cond.methodLink "LossFreeToolsLaw" 101 y_M_join ∈ ax_tb := tx_4 (i := 83) rfl rfl
set_option maxRecDepth 100000 in
theorem wc_M_join : Cond.code y_M_join b_M_join 12 (some .int) ∈ ax_tb := ax_tb_in (i := 822) rfl rfl
set_option maxRecDepth 16384 in
theorem wi_M_join : Cond.instanceMethod y_M_join ∈ ax_tb := tx_4 (i := 84) rfl rfl
set_option maxRecDepth 16384 in
theorem ws_M_join : Cond.selects "LossFreeToolsModel" y_M_join y_M_join ∈ ax_tb := tx_4 (i := 85) rfl rfl
set_option maxRecDepth 16384 in
theorem wl_L_102 : Cond.methodLink "LossFreeToolsLaw" 102 y_L_at ∈ ax_tb := tx_3 (i := 100) rfl rfl
set_option maxRecDepth 16384 in
theorem wl_L_104 : Cond.methodLink "LossFreeToolsLaw" 104 y_M_at ∈ ax_tb := tx_4 (i := 87) rfl rfl
set_option maxRecDepth 16384 in
theorem wc_M_at : Cond.code y_M_at b_M_at 5 (some .int) ∈ ax_tb := tx_4 (i := 90) rfl rfl
set_option maxRecDepth 16384 in
theorem wi_M_at : Cond.instanceMethod y_M_at ∈ ax_tb := tx_4 (i := 88) rfl rfl
set_option maxRecDepth 16384 in
theorem ws_M_at : Cond.selects "LossFreeToolsModel" y_M_at y_M_at ∈ ax_tb := tx_4 (i := 89) rfl rfl
set_option maxRecDepth 16384 in
theorem wl_L_105 : Cond.methodLink "LossFreeToolsLaw" 105 y_L_byteAt ∈ ax_tb := tx_3 (i := 120) rfl rfl
set_option maxRecDepth 16384 in
theorem wl_L_107 : Cond.methodLink "LossFreeToolsLaw" 107 y_M_byteAt ∈ ax_tb := tx_4 (i := 91) rfl rfl
set_option maxRecDepth 16384 in
theorem wc_M_byteAt : Cond.code y_M_byteAt b_M_byteAt 3 (some .int) ∈ ax_tb := tx_4 (i := 94) rfl rfl
set_option maxRecDepth 16384 in
theorem wi_M_byteAt : Cond.instanceMethod y_M_byteAt ∈ ax_tb := tx_4 (i := 92) rfl rfl
set_option maxRecDepth 16384 in
theorem ws_M_byteAt : Cond.selects "LossFreeToolsModel" y_M_byteAt y_M_byteAt ∈ ax_tb := tx_4 (i := 93) rfl rfl
set_option maxRecDepth 16384 in
theorem wl_L_108 : Cond.methodLink "LossFreeToolsLaw" 108 y_L_shown ∈ ax_tb := tx_3 (i := 128) rfl rfl
set_option maxRecDepth 16384 in
theorem wl_L_110 : Cond.methodLink "LossFreeToolsLaw" 110 y_M_shown ∈ ax_tb := tx_4 (i := 95) rfl rfl
set_option maxRecDepth 16384 in
theorem wc_M_shown : Cond.code y_M_shown b_M_shown 7 (some .int) ∈ ax_tb := tx_4 (i := 98) rfl rfl
set_option maxRecDepth 16384 in
theorem wi_M_shown : Cond.instanceMethod y_M_shown ∈ ax_tb := tx_4 (i := 96) rfl rfl
set_option maxRecDepth 16384 in
theorem ws_M_shown : Cond.selects "LossFreeToolsModel" y_M_shown y_M_shown ∈ ax_tb := tx_4 (i := 97) rfl rfl
set_option maxRecDepth 16384 in
theorem wl_L_111 : Cond.methodLink "LossFreeToolsLaw" 111 y_L_noteAt ∈ ax_tb := tx_3 (i := 144) rfl rfl
set_option maxRecDepth 16384 in
theorem wl_L_113 : Cond.methodLink "LossFreeToolsLaw" 113 y_M_noteAt ∈ ax_tb := tx_4 (i := 102) rfl rfl
set_option maxRecDepth 16384 in
theorem wc_M_noteAt : Cond.code y_M_noteAt b_M_noteAt 4 (some .int) ∈ ax_tb := tx_4 (i := 105) rfl rfl
set_option maxRecDepth 16384 in
theorem wi_M_noteAt : Cond.instanceMethod y_M_noteAt ∈ ax_tb := tx_4 (i := 103) rfl rfl
set_option maxRecDepth 16384 in
theorem ws_M_noteAt : Cond.selects "LossFreeToolsModel" y_M_noteAt y_M_noteAt ∈ ax_tb := tx_4 (i := 104) rfl rfl
set_option maxRecDepth 16384 in
theorem wl_L_114 : Cond.methodLink "LossFreeToolsLaw" 114 y_K_write ∈ ax_tb := tx_1 (i := 172) rfl rfl
set_option maxRecDepth 16384 in
theorem wc_K_write : Cond.code y_K_write b_K_write 3 (some .int) ∈ ax_tb := tx_1 (i := 175) rfl rfl
set_option maxRecDepth 16384 in
theorem wi_K_write : Cond.instanceMethod y_K_write ∈ ax_tb := tx_1 (i := 173) rfl rfl
set_option maxRecDepth 16384 in
theorem ws_K_write : Cond.selects "LossFreeTools" y_K_write y_K_write ∈ ax_tb := tx_1 (i := 174) rfl rfl
set_option maxRecDepth 16384 in
theorem wl_L_117 : Cond.methodLink "LossFreeToolsLaw" 117 y_M_write ∈ ax_tb := tx_4 (i := 121) rfl rfl
set_option maxRecDepth 16384 in
theorem wc_M_write : Cond.code y_M_write b_M_write 3 (some .int) ∈ ax_tb := tx_4 (i := 124) rfl rfl
set_option maxRecDepth 16384 in
theorem wi_M_write : Cond.instanceMethod y_M_write ∈ ax_tb := tx_4 (i := 122) rfl rfl
set_option maxRecDepth 16384 in
theorem ws_M_write : Cond.selects "LossFreeToolsModel" y_M_write y_M_write ∈ ax_tb := tx_4 (i := 123) rfl rfl
set_option maxRecDepth 16384 in
theorem wl_L_118 : Cond.methodLink "LossFreeToolsLaw" 118 y_L_streamAt ∈ ax_tb := tx_3 (i := 152) rfl rfl
set_option maxRecDepth 16384 in
theorem wl_L_120 : Cond.methodLink "LossFreeToolsLaw" 120 y_M_streamAt ∈ ax_tb := tx_4 (i := 138) rfl rfl
set_option maxRecDepth 16384 in
theorem wc_M_streamAt : Cond.code y_M_streamAt b_M_streamAt 2 (some .int) ∈ ax_tb := tx_4 (i := 141) rfl rfl
set_option maxRecDepth 16384 in
theorem wi_M_streamAt : Cond.instanceMethod y_M_streamAt ∈ ax_tb := tx_4 (i := 139) rfl rfl
set_option maxRecDepth 16384 in
theorem ws_M_streamAt : Cond.selects "LossFreeToolsModel" y_M_streamAt y_M_streamAt ∈ ax_tb := tx_4 (i := 140) rfl rfl
set_option maxRecDepth 16384 in
theorem wl_L_121 : Cond.methodLink "LossFreeToolsLaw" 121 y_M_thrown ∈ ax_tb := tx_4 (i := 6) rfl rfl
set_option maxRecDepth 16384 in
theorem wc_M_thrown : Cond.code y_M_thrown b_M_thrown 1 (some .int) ∈ ax_tb := tx_4 (i := 9) rfl rfl
set_option maxRecDepth 16384 in
theorem wi_M_thrown : Cond.instanceMethod y_M_thrown ∈ ax_tb := tx_4 (i := 7) rfl rfl
set_option maxRecDepth 16384 in
theorem ws_M_thrown : Cond.selects "LossFreeToolsModel" y_M_thrown y_M_thrown ∈ ax_tb := tx_4 (i := 8) rfl rfl
set_option maxRecDepth 16384 in
theorem wl_L_124 : Cond.methodLink "LossFreeToolsLaw" 124 y_L_pointer ∈ ax_tb := tx_3 (i := 159) rfl rfl
set_option maxRecDepth 16384 in
theorem wl_L_126 : Cond.methodLink "LossFreeToolsLaw" 126 y_M_pointer ∈ ax_tb := tx_4 (i := 106) rfl rfl
set_option maxRecDepth 16384 in
theorem wc_M_pointer : Cond.code y_M_pointer b_M_pointer 2 (some .int) ∈ ax_tb := tx_4 (i := 109) rfl rfl
set_option maxRecDepth 16384 in
theorem wi_M_pointer : Cond.instanceMethod y_M_pointer ∈ ax_tb := tx_4 (i := 107) rfl rfl
set_option maxRecDepth 16384 in
theorem ws_M_pointer : Cond.selects "LossFreeToolsModel" y_M_pointer y_M_pointer ∈ ax_tb := tx_4 (i := 108) rfl rfl
set_option maxRecDepth 16384 in
theorem wl_L_127 : Cond.methodLink "LossFreeToolsLaw" 127 y_K_told ∈ ax_tb := tx_1 (i := 222) rfl rfl
set_option maxRecDepth 16384 in
theorem wc_K_told : Cond.code y_K_told b_K_told 2 (some .int) ∈ ax_tb := tx_1 (i := 225) rfl rfl
set_option maxRecDepth 16384 in
theorem wi_K_told : Cond.instanceMethod y_K_told ∈ ax_tb := tx_1 (i := 223) rfl rfl
set_option maxRecDepth 16384 in
theorem ws_K_told : Cond.selects "LossFreeTools" y_K_told y_K_told ∈ ax_tb := tx_1 (i := 224) rfl rfl
set_option maxRecDepth 16384 in
theorem wl_L_130 : Cond.methodLink "LossFreeToolsLaw" 130 y_M_told ∈ ax_tb := tx_4 (i := 142) rfl rfl
set_option maxRecDepth 16384 in
theorem wc_M_told : Cond.code y_M_told b_M_told 3 (some .int) ∈ ax_tb := tx_4 (i := 145) rfl rfl
set_option maxRecDepth 16384 in
theorem wi_M_told : Cond.instanceMethod y_M_told ∈ ax_tb := tx_4 (i := 143) rfl rfl
set_option maxRecDepth 16384 in
theorem ws_M_told : Cond.selects "LossFreeToolsModel" y_M_told y_M_told ∈ ax_tb := tx_4 (i := 144) rfl rfl
set_option maxRecDepth 16384 in
theorem wl_L_131 : Cond.methodLink "LossFreeToolsLaw" 131 y_K_clear ∈ ax_tb := tx_1 (i := 226) rfl rfl
set_option maxRecDepth 16384 in
theorem wc_K_clear : Cond.code y_K_clear b_K_clear 1 none ∈ ax_tb := tx_1 (i := 229) rfl rfl
set_option maxRecDepth 16384 in
theorem wi_K_clear : Cond.instanceMethod y_K_clear ∈ ax_tb := tx_1 (i := 227) rfl rfl
set_option maxRecDepth 16384 in
theorem ws_K_clear : Cond.selects "LossFreeTools" y_K_clear y_K_clear ∈ ax_tb := tx_1 (i := 228) rfl rfl
set_option maxRecDepth 16384 in
theorem wl_L_134 : Cond.methodLink "LossFreeToolsLaw" 134 y_M_clear ∈ ax_tb := tx_4 (i := 10) rfl rfl
set_option maxRecDepth 16384 in
theorem wz_K : Cond.instantiable "LossFreeTools" 8 ∈ ax_tb := tx_1 (i := 16) rfl rfl
set_option maxRecDepth 16384 in
theorem wl_L_60 : Cond.methodLink "LossFreeToolsLaw" 60 y_L_cell ∈ ax_tb := tx_1 (i := 234) rfl rfl
set_option maxRecDepth 16384 in
theorem wc_K_init : Cond.code y_K_init b_K_init 3 none ∈ ax_tb := tx_1 (i := 19) rfl rfl
set_option maxRecDepth 16384 in
theorem wi_K_init : Cond.instanceMethod y_K_init ∈ ax_tb := tx_1 (i := 18) rfl rfl
set_option maxRecDepth 16384 in
theorem wl_L_66 : Cond.methodLink "LossFreeToolsLaw" 66 y_K_init ∈ ax_tb := tx_1 (i := 17) rfl rfl
set_option maxRecDepth 16384 in
theorem wz_M : Cond.instantiable "LossFreeToolsModel" 23 ∈ ax_tb := tx_3 (i := 167) rfl rfl
set_option maxRecDepth 16384 in
theorem wc_M_init : Cond.code y_M_init b_M_init 3 none ∈ ax_tb := tx_3 (i := 170) rfl rfl
set_option maxRecDepth 16384 in
theorem wi_M_init : Cond.instanceMethod y_M_init ∈ ax_tb := tx_3 (i := 169) rfl rfl
set_option maxRecDepth 16384 in
theorem wl_L_71 : Cond.methodLink "LossFreeToolsLaw" 71 y_M_init ∈ ax_tb := tx_3 (i := 168) rfl rfl
theorem mt_K_tile : ax_mt y_K_tile b_K_tile 5 (some .int) 4 := ⟨wc_K_tile, wn_LossFreeTools, by decide +kernel, by decide +kernel, by decide +kernel⟩
theorem mt_K_byteOf : ax_mt y_K_byteOf b_K_byteOf 4 (some .int) 2 := ⟨wc_K_byteOf, wn_LossFreeTools, by decide +kernel, by decide +kernel, by decide +kernel⟩
theorem mt_K_note : ax_mt y_K_note b_K_note 4 (some .int) 3 := ⟨wc_K_note, wn_LossFreeTools, by decide +kernel, by decide +kernel, by decide +kernel⟩
theorem mt_K_crop : ax_mt y_K_crop b_K_crop 5 (some .int) 4 := ⟨wc_K_crop, wn_LossFreeTools, by decide +kernel, by decide +kernel, by decide +kernel⟩
theorem mt_K_near : ax_mt y_K_near b_K_near 2 (some .int) 1 := ⟨wc_K_near, wn_LossFreeTools, by decide +kernel, by decide +kernel, by decide +kernel⟩
theorem mt_K_turn : ax_mt y_K_turn b_K_turn 2 (some .int) 1 := ⟨wc_K_turn, wn_LossFreeTools, by decide +kernel, by decide +kernel, by decide +kernel⟩
theorem mt_K_join : ax_mt y_K_join b_K_join 3 (some .int) 1 := ⟨wc_K_join, wn_LossFreeTools, by decide +kernel, by decide +kernel, by decide +kernel⟩
theorem mt_K_at : ax_mt y_K_at b_K_at 4 (some .int) 2 := ⟨wc_K_at, wn_LossFreeTools, by decide +kernel, by decide +kernel, by decide +kernel⟩
theorem mt_K_byteAt : ax_mt y_K_byteAt b_K_byteAt 4 (some .int) 2 := ⟨wc_K_byteAt, wn_LossFreeTools, by decide +kernel, by decide +kernel, by decide +kernel⟩
theorem mt_K_shown : ax_mt y_K_shown b_K_shown 4 (some .int) 2 := ⟨wc_K_shown, wn_LossFreeTools, by decide +kernel, by decide +kernel, by decide +kernel⟩
theorem mt_K_noteAt : ax_mt y_K_noteAt b_K_noteAt 4 (some .int) 2 := ⟨wc_K_noteAt, wn_LossFreeTools, by decide +kernel, by decide +kernel, by decide +kernel⟩
theorem mt_K_streamAt : ax_mt y_K_streamAt b_K_streamAt 2 (some .int) 1 := ⟨wc_K_streamAt, wn_LossFreeTools, by decide +kernel, by decide +kernel, by decide +kernel⟩
theorem mt_K_pointer : ax_mt y_K_pointer b_K_pointer 2 (some .int) 1 := ⟨wc_K_pointer, wn_LossFreeTools, by decide +kernel, by decide +kernel, by decide +kernel⟩
theorem mt_L_cell : ax_mt y_L_cell b_L_cell 2 (some .int) 2 := ⟨wc_L_cell, wn_LossFreeToolsLaw, by decide +kernel, by decide +kernel, by decide +kernel⟩
theorem mt_M_tile : ax_mt y_M_tile b_M_tile 8 (some .int) 4 := ⟨wc_M_tile, wn_LossFreeToolsModel, by decide +kernel, by decide +kernel, by decide +kernel⟩
theorem mt_M_byteOf : ax_mt y_M_byteOf b_M_byteOf 4 (some .int) 2 := ⟨wc_M_byteOf, wn_LossFreeToolsModel, by decide +kernel, by decide +kernel, by decide +kernel⟩
theorem mt_M_note : ax_mt y_M_note b_M_note 5 (some .int) 3 := ⟨wc_M_note, wn_LossFreeToolsModel, by decide +kernel, by decide +kernel, by decide +kernel⟩
theorem mt_M_crop : ax_mt y_M_crop b_M_crop 8 (some .int) 4 := ⟨wc_M_crop, wn_LossFreeToolsModel, by decide +kernel, by decide +kernel, by decide +kernel⟩
theorem mt_M_near : ax_mt y_M_near b_M_near 2 (some .int) 1 := ⟨wc_M_near, wn_LossFreeToolsModel, by decide +kernel, by decide +kernel, by decide +kernel⟩
theorem mt_M_turn : ax_mt y_M_turn b_M_turn 9 (some .int) 1 := ⟨wc_M_turn, wn_LossFreeToolsModel, by decide +kernel, by decide +kernel, by decide +kernel⟩
theorem mt_K_swap : ax_mt y_K_swap b_K_swap 2 (some .int) 0 := ⟨wc_K_swap, wn_LossFreeTools, by decide +kernel, by decide +kernel, by decide +kernel⟩
theorem mt_M_swap : ax_mt y_M_swap b_M_swap 1 (some .int) 0 := ⟨wc_M_swap, wn_LossFreeToolsModel, by decide +kernel, by decide +kernel, by decide +kernel⟩
theorem mt_M_join : ax_mt y_M_join b_M_join 12 (some .int) 1 := ⟨wc_M_join, wn_LossFreeToolsModel, by decide +kernel, by decide +kernel, by decide +kernel⟩
theorem mt_M_at : ax_mt y_M_at b_M_at 5 (some .int) 2 := ⟨wc_M_at, wn_LossFreeToolsModel, by decide +kernel, by decide +kernel, by decide +kernel⟩
theorem mt_M_byteAt : ax_mt y_M_byteAt b_M_byteAt 3 (some .int) 2 := ⟨wc_M_byteAt, wn_LossFreeToolsModel, by decide +kernel, by decide +kernel, by decide +kernel⟩
theorem mt_M_shown : ax_mt y_M_shown b_M_shown 7 (some .int) 2 := ⟨wc_M_shown, wn_LossFreeToolsModel, by decide +kernel, by decide +kernel, by decide +kernel⟩
theorem mt_M_noteAt : ax_mt y_M_noteAt b_M_noteAt 4 (some .int) 2 := ⟨wc_M_noteAt, wn_LossFreeToolsModel, by decide +kernel, by decide +kernel, by decide +kernel⟩
theorem mt_K_write : ax_mt y_K_write b_K_write 3 (some .int) 0 := ⟨wc_K_write, wn_LossFreeTools, by decide +kernel, by decide +kernel, by decide +kernel⟩
theorem mt_M_write : ax_mt y_M_write b_M_write 3 (some .int) 0 := ⟨wc_M_write, wn_LossFreeToolsModel, by decide +kernel, by decide +kernel, by decide +kernel⟩
theorem mt_M_streamAt : ax_mt y_M_streamAt b_M_streamAt 2 (some .int) 1 := ⟨wc_M_streamAt, wn_LossFreeToolsModel, by decide +kernel, by decide +kernel, by decide +kernel⟩
theorem mt_M_thrown : ax_mt y_M_thrown b_M_thrown 1 (some .int) 0 := ⟨wc_M_thrown, wn_LossFreeToolsModel, by decide +kernel, by decide +kernel, by decide +kernel⟩
theorem mt_M_pointer : ax_mt y_M_pointer b_M_pointer 2 (some .int) 1 := ⟨wc_M_pointer, wn_LossFreeToolsModel, by decide +kernel, by decide +kernel, by decide +kernel⟩
theorem mt_K_told : ax_mt y_K_told b_K_told 2 (some .int) 1 := ⟨wc_K_told, wn_LossFreeTools, by decide +kernel, by decide +kernel, by decide +kernel⟩
theorem mt_M_told : ax_mt y_M_told b_M_told 3 (some .int) 1 := ⟨wc_M_told, wn_LossFreeToolsModel, by decide +kernel, by decide +kernel, by decide +kernel⟩
theorem mt_K_clear : ax_mt y_K_clear b_K_clear 1 none 0 := ⟨wc_K_clear, wn_LossFreeTools, by decide +kernel, by decide +kernel, by decide +kernel⟩
theorem mt_K_init : ax_mt y_K_init b_K_init 3 none 2 := ⟨wc_K_init, wn_LossFreeTools, by decide +kernel, by decide +kernel, by decide +kernel⟩
theorem mt_M_init : ax_mt y_M_init b_M_init 3 none 2 := ⟨wc_M_init, wn_LossFreeToolsModel, by decide +kernel, by decide +kernel, by decide +kernel⟩
theorem dc_L_tile_0 : decode b_L_tile 0 = .ok (.aload 5, 2) := by decide +kernel
theorem dc_L_tile_2 : decode b_L_tile 2 = .ok (.iconst 0, 1) := by decide +kernel
theorem dc_L_tile_3 : decode b_L_tile 3 = .ok (.aload_n 0, 1) := by decide +kernel
theorem dc_L_tile_4 : decode b_L_tile 4 = .ok (.iload_n 1, 1) := by decide +kernel
theorem dc_L_tile_5 : decode b_L_tile 5 = .ok (.iload_n 2, 1) := by decide +kernel
theorem dc_L_tile_6 : decode b_L_tile 6 = .ok (.iload_n 3, 1) := by decide +kernel
theorem dc_L_tile_7 : decode b_L_tile 7 = .ok (.iload 4, 2) := by decide +kernel
theorem dc_L_tile_9 : decode b_L_tile 9 = .ok (.invokevirtual 7, 3) := by decide +kernel
theorem dc_L_tile_12 : decode b_L_tile 12 = .ok (.i2l, 1) := by decide +kernel
theorem dc_L_tile_13 : decode b_L_tile 13 = .ok (.lastore, 1) := by decide +kernel
theorem dc_L_tile_14 : decode b_L_tile 14 = .ok (.goto 15, 3) := by decide +kernel
theorem dc_L_tile_29 : decode b_L_tile 29 = .ok (.iconst 0, 1) := by decide +kernel
theorem dc_L_tile_30 : decode b_L_tile 30 = .ok (.ireturn, 1) := by decide +kernel
theorem dc_L_tile_17 : decode b_L_tile 17 = .ok (.astore 6, 2) := by decide +kernel
theorem dc_L_tile_19 : decode b_L_tile 19 = .ok (.iconst 1, 1) := by decide +kernel
theorem dc_L_tile_20 : decode b_L_tile 20 = .ok (.ireturn, 1) := by decide +kernel
theorem dc_L_tile_21 : decode b_L_tile 21 = .ok (.astore 6, 2) := by decide +kernel
theorem dc_L_tile_23 : decode b_L_tile 23 = .ok (.iconst 2, 1) := by decide +kernel
theorem dc_L_tile_24 : decode b_L_tile 24 = .ok (.ireturn, 1) := by decide +kernel
theorem dc_L_tile_25 : decode b_L_tile 25 = .ok (.astore 6, 2) := by decide +kernel
theorem dc_L_tile_27 : decode b_L_tile 27 = .ok (.iconst 3, 1) := by decide +kernel
theorem dc_L_tile_28 : decode b_L_tile 28 = .ok (.ireturn, 1) := by decide +kernel
theorem dc_L_byteOf_0 : decode b_L_byteOf 0 = .ok (.aload_n 3, 1) := by decide +kernel
theorem dc_L_byteOf_1 : decode b_L_byteOf 1 = .ok (.iconst 0, 1) := by decide +kernel
theorem dc_L_byteOf_2 : decode b_L_byteOf 2 = .ok (.aload_n 0, 1) := by decide +kernel
theorem dc_L_byteOf_3 : decode b_L_byteOf 3 = .ok (.iload_n 1, 1) := by decide +kernel
theorem dc_L_byteOf_4 : decode b_L_byteOf 4 = .ok (.iload_n 2, 1) := by decide +kernel
theorem dc_L_byteOf_5 : decode b_L_byteOf 5 = .ok (.invokevirtual 19, 3) := by decide +kernel
theorem dc_L_byteOf_8 : decode b_L_byteOf 8 = .ok (.i2l, 1) := by decide +kernel
theorem dc_L_byteOf_9 : decode b_L_byteOf 9 = .ok (.lastore, 1) := by decide +kernel
theorem dc_L_byteOf_10 : decode b_L_byteOf 10 = .ok (.goto 15, 3) := by decide +kernel
theorem dc_L_byteOf_25 : decode b_L_byteOf 25 = .ok (.iconst 0, 1) := by decide +kernel
theorem dc_L_byteOf_26 : decode b_L_byteOf 26 = .ok (.ireturn, 1) := by decide +kernel
theorem dc_L_byteOf_13 : decode b_L_byteOf 13 = .ok (.astore 4, 2) := by decide +kernel
theorem dc_L_byteOf_15 : decode b_L_byteOf 15 = .ok (.iconst 1, 1) := by decide +kernel
theorem dc_L_byteOf_16 : decode b_L_byteOf 16 = .ok (.ireturn, 1) := by decide +kernel
theorem dc_L_byteOf_17 : decode b_L_byteOf 17 = .ok (.astore 4, 2) := by decide +kernel
theorem dc_L_byteOf_19 : decode b_L_byteOf 19 = .ok (.iconst 2, 1) := by decide +kernel
theorem dc_L_byteOf_20 : decode b_L_byteOf 20 = .ok (.ireturn, 1) := by decide +kernel
theorem dc_L_byteOf_21 : decode b_L_byteOf 21 = .ok (.astore 4, 2) := by decide +kernel
theorem dc_L_byteOf_23 : decode b_L_byteOf 23 = .ok (.iconst 3, 1) := by decide +kernel
theorem dc_L_byteOf_24 : decode b_L_byteOf 24 = .ok (.ireturn, 1) := by decide +kernel
theorem dc_L_note_0 : decode b_L_note 0 = .ok (.aload 4, 2) := by decide +kernel
theorem dc_L_note_2 : decode b_L_note 2 = .ok (.iconst 0, 1) := by decide +kernel
theorem dc_L_note_3 : decode b_L_note 3 = .ok (.aload_n 0, 1) := by decide +kernel
theorem dc_L_note_4 : decode b_L_note 4 = .ok (.iload_n 1, 1) := by decide +kernel
theorem dc_L_note_5 : decode b_L_note 5 = .ok (.iload_n 2, 1) := by decide +kernel
theorem dc_L_note_6 : decode b_L_note 6 = .ok (.iload_n 3, 1) := by decide +kernel
theorem dc_L_note_7 : decode b_L_note 7 = .ok (.invokevirtual 25, 3) := by decide +kernel
theorem dc_L_note_10 : decode b_L_note 10 = .ok (.i2l, 1) := by decide +kernel
theorem dc_L_note_11 : decode b_L_note 11 = .ok (.lastore, 1) := by decide +kernel
theorem dc_L_note_12 : decode b_L_note 12 = .ok (.goto 15, 3) := by decide +kernel
theorem dc_L_note_27 : decode b_L_note 27 = .ok (.iconst 0, 1) := by decide +kernel
theorem dc_L_note_28 : decode b_L_note 28 = .ok (.ireturn, 1) := by decide +kernel
theorem dc_L_note_15 : decode b_L_note 15 = .ok (.astore 5, 2) := by decide +kernel
theorem dc_L_note_17 : decode b_L_note 17 = .ok (.iconst 1, 1) := by decide +kernel
theorem dc_L_note_18 : decode b_L_note 18 = .ok (.ireturn, 1) := by decide +kernel
theorem dc_L_note_19 : decode b_L_note 19 = .ok (.astore 5, 2) := by decide +kernel
theorem dc_L_note_21 : decode b_L_note 21 = .ok (.iconst 2, 1) := by decide +kernel
theorem dc_L_note_22 : decode b_L_note 22 = .ok (.ireturn, 1) := by decide +kernel
theorem dc_L_note_23 : decode b_L_note 23 = .ok (.astore 5, 2) := by decide +kernel
theorem dc_L_note_25 : decode b_L_note 25 = .ok (.iconst 3, 1) := by decide +kernel
theorem dc_L_note_26 : decode b_L_note 26 = .ok (.ireturn, 1) := by decide +kernel
theorem dc_L_crop_0 : decode b_L_crop 0 = .ok (.aload 5, 2) := by decide +kernel
theorem dc_L_crop_2 : decode b_L_crop 2 = .ok (.iconst 0, 1) := by decide +kernel
theorem dc_L_crop_3 : decode b_L_crop 3 = .ok (.aload_n 0, 1) := by decide +kernel
theorem dc_L_crop_4 : decode b_L_crop 4 = .ok (.iload_n 1, 1) := by decide +kernel
theorem dc_L_crop_5 : decode b_L_crop 5 = .ok (.iload_n 2, 1) := by decide +kernel
theorem dc_L_crop_6 : decode b_L_crop 6 = .ok (.iload_n 3, 1) := by decide +kernel
theorem dc_L_crop_7 : decode b_L_crop 7 = .ok (.iload 4, 2) := by decide +kernel
theorem dc_L_crop_9 : decode b_L_crop 9 = .ok (.invokevirtual 29, 3) := by decide +kernel
theorem dc_L_crop_12 : decode b_L_crop 12 = .ok (.i2l, 1) := by decide +kernel
theorem dc_L_crop_13 : decode b_L_crop 13 = .ok (.lastore, 1) := by decide +kernel
theorem dc_L_crop_14 : decode b_L_crop 14 = .ok (.goto 7, 3) := by decide +kernel
theorem dc_L_crop_21 : decode b_L_crop 21 = .ok (.iconst 0, 1) := by decide +kernel
theorem dc_L_crop_22 : decode b_L_crop 22 = .ok (.ireturn, 1) := by decide +kernel
theorem dc_L_crop_17 : decode b_L_crop 17 = .ok (.astore 6, 2) := by decide +kernel
theorem dc_L_crop_19 : decode b_L_crop 19 = .ok (.iconst 1, 1) := by decide +kernel
theorem dc_L_crop_20 : decode b_L_crop 20 = .ok (.ireturn, 1) := by decide +kernel
theorem dc_L_near_0 : decode b_L_near 0 = .ok (.aload_n 2, 1) := by decide +kernel
theorem dc_L_near_1 : decode b_L_near 1 = .ok (.iconst 0, 1) := by decide +kernel
theorem dc_L_near_2 : decode b_L_near 2 = .ok (.aload_n 0, 1) := by decide +kernel
theorem dc_L_near_3 : decode b_L_near 3 = .ok (.iload_n 1, 1) := by decide +kernel
theorem dc_L_near_4 : decode b_L_near 4 = .ok (.invokevirtual 32, 3) := by decide +kernel
theorem dc_L_near_7 : decode b_L_near 7 = .ok (.i2l, 1) := by decide +kernel
theorem dc_L_near_8 : decode b_L_near 8 = .ok (.lastore, 1) := by decide +kernel
theorem dc_L_near_9 : decode b_L_near 9 = .ok (.goto 9, 3) := by decide +kernel
theorem dc_L_near_18 : decode b_L_near 18 = .ok (.iconst 0, 1) := by decide +kernel
theorem dc_L_near_19 : decode b_L_near 19 = .ok (.ireturn, 1) := by decide +kernel
theorem dc_L_near_12 : decode b_L_near 12 = .ok (.astore_n 3, 1) := by decide +kernel
theorem dc_L_near_13 : decode b_L_near 13 = .ok (.iconst 1, 1) := by decide +kernel
theorem dc_L_near_14 : decode b_L_near 14 = .ok (.ireturn, 1) := by decide +kernel
theorem dc_L_near_15 : decode b_L_near 15 = .ok (.astore_n 3, 1) := by decide +kernel
theorem dc_L_near_16 : decode b_L_near 16 = .ok (.iconst 2, 1) := by decide +kernel
theorem dc_L_near_17 : decode b_L_near 17 = .ok (.ireturn, 1) := by decide +kernel
theorem dc_L_turn_0 : decode b_L_turn 0 = .ok (.aload_n 2, 1) := by decide +kernel
theorem dc_L_turn_1 : decode b_L_turn 1 = .ok (.iconst 0, 1) := by decide +kernel
theorem dc_L_turn_2 : decode b_L_turn 2 = .ok (.aload_n 0, 1) := by decide +kernel
theorem dc_L_turn_3 : decode b_L_turn 3 = .ok (.iload_n 1, 1) := by decide +kernel
theorem dc_L_turn_4 : decode b_L_turn 4 = .ok (.invokevirtual 36, 3) := by decide +kernel
theorem dc_L_turn_7 : decode b_L_turn 7 = .ok (.i2l, 1) := by decide +kernel
theorem dc_L_turn_8 : decode b_L_turn 8 = .ok (.lastore, 1) := by decide +kernel
theorem dc_L_turn_9 : decode b_L_turn 9 = .ok (.goto 6, 3) := by decide +kernel
theorem dc_L_turn_15 : decode b_L_turn 15 = .ok (.iconst 0, 1) := by decide +kernel
theorem dc_L_turn_16 : decode b_L_turn 16 = .ok (.ireturn, 1) := by decide +kernel
theorem dc_L_turn_12 : decode b_L_turn 12 = .ok (.astore_n 3, 1) := by decide +kernel
theorem dc_L_turn_13 : decode b_L_turn 13 = .ok (.iconst 1, 1) := by decide +kernel
theorem dc_L_turn_14 : decode b_L_turn 14 = .ok (.ireturn, 1) := by decide +kernel
theorem dc_L_join_0 : decode b_L_join 0 = .ok (.aload_n 2, 1) := by decide +kernel
theorem dc_L_join_1 : decode b_L_join 1 = .ok (.iconst 0, 1) := by decide +kernel
theorem dc_L_join_2 : decode b_L_join 2 = .ok (.aload_n 0, 1) := by decide +kernel
theorem dc_L_join_3 : decode b_L_join 3 = .ok (.iload_n 1, 1) := by decide +kernel
theorem dc_L_join_4 : decode b_L_join 4 = .ok (.invokevirtual 39, 3) := by decide +kernel
theorem dc_L_join_7 : decode b_L_join 7 = .ok (.i2l, 1) := by decide +kernel
theorem dc_L_join_8 : decode b_L_join 8 = .ok (.lastore, 1) := by decide +kernel
theorem dc_L_join_9 : decode b_L_join 9 = .ok (.goto 12, 3) := by decide +kernel
theorem dc_L_join_21 : decode b_L_join 21 = .ok (.iconst 0, 1) := by decide +kernel
theorem dc_L_join_22 : decode b_L_join 22 = .ok (.ireturn, 1) := by decide +kernel
theorem dc_L_join_12 : decode b_L_join 12 = .ok (.astore_n 3, 1) := by decide +kernel
theorem dc_L_join_13 : decode b_L_join 13 = .ok (.iconst 1, 1) := by decide +kernel
theorem dc_L_join_14 : decode b_L_join 14 = .ok (.ireturn, 1) := by decide +kernel
theorem dc_L_join_15 : decode b_L_join 15 = .ok (.astore_n 3, 1) := by decide +kernel
theorem dc_L_join_16 : decode b_L_join 16 = .ok (.iconst 2, 1) := by decide +kernel
theorem dc_L_join_17 : decode b_L_join 17 = .ok (.ireturn, 1) := by decide +kernel
theorem dc_L_join_18 : decode b_L_join 18 = .ok (.astore_n 3, 1) := by decide +kernel
theorem dc_L_join_19 : decode b_L_join 19 = .ok (.iconst 3, 1) := by decide +kernel
theorem dc_L_join_20 : decode b_L_join 20 = .ok (.ireturn, 1) := by decide +kernel
theorem dc_L_at_0 : decode b_L_at 0 = .ok (.aload_n 3, 1) := by decide +kernel
theorem dc_L_at_1 : decode b_L_at 1 = .ok (.iconst 0, 1) := by decide +kernel
theorem dc_L_at_2 : decode b_L_at 2 = .ok (.aload_n 0, 1) := by decide +kernel
theorem dc_L_at_3 : decode b_L_at 3 = .ok (.iload_n 1, 1) := by decide +kernel
theorem dc_L_at_4 : decode b_L_at 4 = .ok (.iload_n 2, 1) := by decide +kernel
theorem dc_L_at_5 : decode b_L_at 5 = .ok (.invokevirtual 42, 3) := by decide +kernel
theorem dc_L_at_8 : decode b_L_at 8 = .ok (.i2l, 1) := by decide +kernel
theorem dc_L_at_9 : decode b_L_at 9 = .ok (.lastore, 1) := by decide +kernel
theorem dc_L_at_10 : decode b_L_at 10 = .ok (.goto 7, 3) := by decide +kernel
theorem dc_L_at_17 : decode b_L_at 17 = .ok (.iconst 0, 1) := by decide +kernel
theorem dc_L_at_18 : decode b_L_at 18 = .ok (.ireturn, 1) := by decide +kernel
theorem dc_L_at_13 : decode b_L_at 13 = .ok (.astore 4, 2) := by decide +kernel
theorem dc_L_at_15 : decode b_L_at 15 = .ok (.iconst 1, 1) := by decide +kernel
theorem dc_L_at_16 : decode b_L_at 16 = .ok (.ireturn, 1) := by decide +kernel
theorem dc_L_byteAt_0 : decode b_L_byteAt 0 = .ok (.aload_n 3, 1) := by decide +kernel
theorem dc_L_byteAt_1 : decode b_L_byteAt 1 = .ok (.iconst 0, 1) := by decide +kernel
theorem dc_L_byteAt_2 : decode b_L_byteAt 2 = .ok (.aload_n 0, 1) := by decide +kernel
theorem dc_L_byteAt_3 : decode b_L_byteAt 3 = .ok (.iload_n 1, 1) := by decide +kernel
theorem dc_L_byteAt_4 : decode b_L_byteAt 4 = .ok (.iload_n 2, 1) := by decide +kernel
theorem dc_L_byteAt_5 : decode b_L_byteAt 5 = .ok (.invokevirtual 45, 3) := by decide +kernel
theorem dc_L_byteAt_8 : decode b_L_byteAt 8 = .ok (.i2l, 1) := by decide +kernel
theorem dc_L_byteAt_9 : decode b_L_byteAt 9 = .ok (.lastore, 1) := by decide +kernel
theorem dc_L_byteAt_10 : decode b_L_byteAt 10 = .ok (.goto 7, 3) := by decide +kernel
theorem dc_L_byteAt_17 : decode b_L_byteAt 17 = .ok (.iconst 0, 1) := by decide +kernel
theorem dc_L_byteAt_18 : decode b_L_byteAt 18 = .ok (.ireturn, 1) := by decide +kernel
theorem dc_L_byteAt_13 : decode b_L_byteAt 13 = .ok (.astore 4, 2) := by decide +kernel
theorem dc_L_byteAt_15 : decode b_L_byteAt 15 = .ok (.iconst 1, 1) := by decide +kernel
theorem dc_L_byteAt_16 : decode b_L_byteAt 16 = .ok (.ireturn, 1) := by decide +kernel
theorem dc_L_shown_0 : decode b_L_shown 0 = .ok (.aload_n 3, 1) := by decide +kernel
theorem dc_L_shown_1 : decode b_L_shown 1 = .ok (.iconst 0, 1) := by decide +kernel
theorem dc_L_shown_2 : decode b_L_shown 2 = .ok (.aload_n 0, 1) := by decide +kernel
theorem dc_L_shown_3 : decode b_L_shown 3 = .ok (.iload_n 1, 1) := by decide +kernel
theorem dc_L_shown_4 : decode b_L_shown 4 = .ok (.iload_n 2, 1) := by decide +kernel
theorem dc_L_shown_5 : decode b_L_shown 5 = .ok (.invokevirtual 48, 3) := by decide +kernel
theorem dc_L_shown_8 : decode b_L_shown 8 = .ok (.i2l, 1) := by decide +kernel
theorem dc_L_shown_9 : decode b_L_shown 9 = .ok (.lastore, 1) := by decide +kernel
theorem dc_L_shown_10 : decode b_L_shown 10 = .ok (.goto 7, 3) := by decide +kernel
theorem dc_L_shown_17 : decode b_L_shown 17 = .ok (.iconst 0, 1) := by decide +kernel
theorem dc_L_shown_18 : decode b_L_shown 18 = .ok (.ireturn, 1) := by decide +kernel
theorem dc_L_shown_13 : decode b_L_shown 13 = .ok (.astore 4, 2) := by decide +kernel
theorem dc_L_shown_15 : decode b_L_shown 15 = .ok (.iconst 1, 1) := by decide +kernel
theorem dc_L_shown_16 : decode b_L_shown 16 = .ok (.ireturn, 1) := by decide +kernel
theorem dc_L_noteAt_0 : decode b_L_noteAt 0 = .ok (.aload_n 3, 1) := by decide +kernel
theorem dc_L_noteAt_1 : decode b_L_noteAt 1 = .ok (.iconst 0, 1) := by decide +kernel
theorem dc_L_noteAt_2 : decode b_L_noteAt 2 = .ok (.aload_n 0, 1) := by decide +kernel
theorem dc_L_noteAt_3 : decode b_L_noteAt 3 = .ok (.iload_n 1, 1) := by decide +kernel
theorem dc_L_noteAt_4 : decode b_L_noteAt 4 = .ok (.iload_n 2, 1) := by decide +kernel
theorem dc_L_noteAt_5 : decode b_L_noteAt 5 = .ok (.invokevirtual 51, 3) := by decide +kernel
theorem dc_L_noteAt_8 : decode b_L_noteAt 8 = .ok (.i2l, 1) := by decide +kernel
theorem dc_L_noteAt_9 : decode b_L_noteAt 9 = .ok (.lastore, 1) := by decide +kernel
theorem dc_L_noteAt_10 : decode b_L_noteAt 10 = .ok (.goto 7, 3) := by decide +kernel
theorem dc_L_noteAt_17 : decode b_L_noteAt 17 = .ok (.iconst 0, 1) := by decide +kernel
theorem dc_L_noteAt_18 : decode b_L_noteAt 18 = .ok (.ireturn, 1) := by decide +kernel
theorem dc_L_noteAt_13 : decode b_L_noteAt 13 = .ok (.astore 4, 2) := by decide +kernel
theorem dc_L_noteAt_15 : decode b_L_noteAt 15 = .ok (.iconst 1, 1) := by decide +kernel
theorem dc_L_noteAt_16 : decode b_L_noteAt 16 = .ok (.ireturn, 1) := by decide +kernel
theorem dc_L_streamAt_0 : decode b_L_streamAt 0 = .ok (.aload_n 2, 1) := by decide +kernel
theorem dc_L_streamAt_1 : decode b_L_streamAt 1 = .ok (.iconst 0, 1) := by decide +kernel
theorem dc_L_streamAt_2 : decode b_L_streamAt 2 = .ok (.aload_n 0, 1) := by decide +kernel
theorem dc_L_streamAt_3 : decode b_L_streamAt 3 = .ok (.iload_n 1, 1) := by decide +kernel
theorem dc_L_streamAt_4 : decode b_L_streamAt 4 = .ok (.invokevirtual 54, 3) := by decide +kernel
theorem dc_L_streamAt_7 : decode b_L_streamAt 7 = .ok (.i2l, 1) := by decide +kernel
theorem dc_L_streamAt_8 : decode b_L_streamAt 8 = .ok (.lastore, 1) := by decide +kernel
theorem dc_L_streamAt_9 : decode b_L_streamAt 9 = .ok (.goto 6, 3) := by decide +kernel
theorem dc_L_streamAt_15 : decode b_L_streamAt 15 = .ok (.iconst 0, 1) := by decide +kernel
theorem dc_L_streamAt_16 : decode b_L_streamAt 16 = .ok (.ireturn, 1) := by decide +kernel
theorem dc_L_streamAt_12 : decode b_L_streamAt 12 = .ok (.astore_n 3, 1) := by decide +kernel
theorem dc_L_streamAt_13 : decode b_L_streamAt 13 = .ok (.iconst 1, 1) := by decide +kernel
theorem dc_L_streamAt_14 : decode b_L_streamAt 14 = .ok (.ireturn, 1) := by decide +kernel
theorem dc_L_pointer_0 : decode b_L_pointer 0 = .ok (.aload_n 2, 1) := by decide +kernel
theorem dc_L_pointer_1 : decode b_L_pointer 1 = .ok (.iconst 0, 1) := by decide +kernel
theorem dc_L_pointer_2 : decode b_L_pointer 2 = .ok (.aload_n 0, 1) := by decide +kernel
theorem dc_L_pointer_3 : decode b_L_pointer 3 = .ok (.iload_n 1, 1) := by decide +kernel
theorem dc_L_pointer_4 : decode b_L_pointer 4 = .ok (.invokevirtual 57, 3) := by decide +kernel
theorem dc_L_pointer_7 : decode b_L_pointer 7 = .ok (.i2l, 1) := by decide +kernel
theorem dc_L_pointer_8 : decode b_L_pointer 8 = .ok (.lastore, 1) := by decide +kernel
theorem dc_L_pointer_9 : decode b_L_pointer 9 = .ok (.goto 6, 3) := by decide +kernel
theorem dc_L_pointer_15 : decode b_L_pointer 15 = .ok (.iconst 0, 1) := by decide +kernel
theorem dc_L_pointer_16 : decode b_L_pointer 16 = .ok (.ireturn, 1) := by decide +kernel
theorem dc_L_pointer_12 : decode b_L_pointer 12 = .ok (.astore_n 3, 1) := by decide +kernel
theorem dc_L_pointer_13 : decode b_L_pointer 13 = .ok (.iconst 1, 1) := by decide +kernel
theorem dc_L_pointer_14 : decode b_L_pointer 14 = .ok (.ireturn, 1) := by decide +kernel
theorem dc_L_cell_0 : decode b_L_cell 0 = .ok (.iload_n 1, 1) := by decide +kernel
theorem dc_L_cell_1 : decode b_L_cell 1 = .ok (.aload_n 0, 1) := by decide +kernel
theorem dc_L_cell_2 : decode b_L_cell 2 = .ok (.arraylength, 1) := by decide +kernel
theorem dc_L_cell_3 : decode b_L_cell 3 = .ok (.if_icmp .ge 9, 3) := by decide +kernel
theorem dc_L_cell_6 : decode b_L_cell 6 = .ok (.aload_n 0, 1) := by decide +kernel
theorem dc_L_cell_7 : decode b_L_cell 7 = .ok (.iload_n 1, 1) := by decide +kernel
theorem dc_L_cell_8 : decode b_L_cell 8 = .ok (.iaload, 1) := by decide +kernel
theorem dc_L_cell_9 : decode b_L_cell 9 = .ok (.goto 4, 3) := by decide +kernel
theorem dc_L_cell_12 : decode b_L_cell 12 = .ok (.iconst 0, 1) := by decide +kernel
theorem dc_L_cell_13 : decode b_L_cell 13 = .ok (.ireturn, 1) := by decide +kernel
theorem dc_L_law_140 : decode code 140 = .ok (.aload_n 1, 1) := by decide +kernel
def dw_L_law_141 : ByteArray := .mk #[0x2a, 0x15, 0x04, 0x04, 0x60, 0x2e, 0x2a, 0x15, 0x04, 0x05, 0x60, 0x2e, 0x2a, 0x15, 0x04, 0x06, 0x60, 0x2e, 0x2a, 0x15, 0x04, 0x07, 0x60, 0x2e, 0x2d, 0xb8, 0x00, 0x48, 0x36, 0x05, 0x2c, 0x2a]
theorem da_L_law_141 : dkA code dw_L_law_141 141 := by unfold dkA; decide +kernel
theorem dc_L_law_141 : decode code 141 = .ok (.aload_n 0, 1) := dk_row (s := 141) da_L_law_141 0 (by decide +kernel)
theorem dc_L_law_142 : decode code 142 = .ok (.iload 4, 2) := dk_row (s := 141) da_L_law_141 1 (by decide +kernel)
theorem dc_L_law_144 : decode code 144 = .ok (.iconst 1, 1) := dk_row (s := 141) da_L_law_141 3 (by decide +kernel)
theorem dc_L_law_145 : decode code 145 = .ok (.iadd, 1) := dk_row (s := 141) da_L_law_141 4 (by decide +kernel)
theorem dc_L_law_146 : decode code 146 = .ok (.iaload, 1) := dk_row (s := 141) da_L_law_141 5 (by decide +kernel)
theorem dc_L_law_147 : decode code 147 = .ok (.aload_n 0, 1) := dk_row (s := 141) da_L_law_141 6 (by decide +kernel)
theorem dc_L_law_148 : decode code 148 = .ok (.iload 4, 2) := dk_row (s := 141) da_L_law_141 7 (by decide +kernel)
theorem dc_L_law_150 : decode code 150 = .ok (.iconst 2, 1) := dk_row (s := 141) da_L_law_141 9 (by decide +kernel)
theorem dc_L_law_151 : decode code 151 = .ok (.iadd, 1) := dk_row (s := 141) da_L_law_141 10 (by decide +kernel)
theorem dc_L_law_152 : decode code 152 = .ok (.iaload, 1) := dk_row (s := 141) da_L_law_141 11 (by decide +kernel)
theorem dc_L_law_153 : decode code 153 = .ok (.aload_n 0, 1) := dk_row (s := 141) da_L_law_141 12 (by decide +kernel)
theorem dc_L_law_154 : decode code 154 = .ok (.iload 4, 2) := dk_row (s := 141) da_L_law_141 13 (by decide +kernel)
theorem dc_L_law_156 : decode code 156 = .ok (.iconst 3, 1) := dk_row (s := 141) da_L_law_141 15 (by decide +kernel)
theorem dc_L_law_157 : decode code 157 = .ok (.iadd, 1) := dk_row (s := 141) da_L_law_141 16 (by decide +kernel)
theorem dc_L_law_158 : decode code 158 = .ok (.iaload, 1) := dk_row (s := 141) da_L_law_141 17 (by decide +kernel)
theorem dc_L_law_159 : decode code 159 = .ok (.aload_n 0, 1) := dk_row (s := 141) da_L_law_141 18 (by decide +kernel)
theorem dc_L_law_160 : decode code 160 = .ok (.iload 4, 2) := dk_row (s := 141) da_L_law_141 19 (by decide +kernel)
theorem dc_L_law_162 : decode code 162 = .ok (.iconst 4, 1) := dk_row (s := 141) da_L_law_141 21 (by decide +kernel)
theorem dc_L_law_163 : decode code 163 = .ok (.iadd, 1) := dk_row (s := 141) da_L_law_141 22 (by decide +kernel)
theorem dc_L_law_164 : decode code 164 = .ok (.iaload, 1) := dk_row (s := 141) da_L_law_141 23 (by decide +kernel)
theorem dc_L_law_165 : decode code 165 = .ok (.aload_n 3, 1) := dk_row (s := 141) da_L_law_141 24 (by decide +kernel)
theorem dc_L_law_166 : decode code 166 = .ok (.invokestatic 72, 3) := dk_row (s := 141) da_L_law_141 25 (by decide +kernel)
theorem dc_L_law_169 : decode code 169 = .ok (.istore 5, 2) := dk_row (s := 141) da_L_law_141 28 (by decide +kernel)
theorem dc_L_law_171 : decode code 171 = .ok (.aload_n 2, 1) := dk_row (s := 141) da_L_law_141 30 (by decide +kernel)
theorem dc_L_law_172 : decode code 172 = .ok (.aload_n 0, 1) := dk_row (s := 141) da_L_law_141 31 (by decide +kernel)
def dw_L_law_173 : ByteArray := .mk #[0x15, 0x04, 0x04, 0x60, 0x2e, 0x2a, 0x15, 0x04, 0x05, 0x60, 0x2e, 0x2a, 0x15, 0x04, 0x06, 0x60, 0x2e, 0x2a, 0x15, 0x04, 0x07, 0x60, 0x2e, 0xb6, 0x00, 0x4b, 0x36, 0x06, 0xa7, 0x02, 0x25, 0x2b]
theorem da_L_law_173 : dkA code dw_L_law_173 173 := by unfold dkA; decide +kernel
theorem dc_L_law_173 : decode code 173 = .ok (.iload 4, 2) := dk_row (s := 173) da_L_law_173 0 (by decide +kernel)
theorem dc_L_law_175 : decode code 175 = .ok (.iconst 1, 1) := dk_row (s := 173) da_L_law_173 2 (by decide +kernel)
theorem dc_L_law_176 : decode code 176 = .ok (.iadd, 1) := dk_row (s := 173) da_L_law_173 3 (by decide +kernel)
theorem dc_L_law_177 : decode code 177 = .ok (.iaload, 1) := dk_row (s := 173) da_L_law_173 4 (by decide +kernel)
theorem dc_L_law_178 : decode code 178 = .ok (.aload_n 0, 1) := dk_row (s := 173) da_L_law_173 5 (by decide +kernel)
theorem dc_L_law_179 : decode code 179 = .ok (.iload 4, 2) := dk_row (s := 173) da_L_law_173 6 (by decide +kernel)
theorem dc_L_law_181 : decode code 181 = .ok (.iconst 2, 1) := dk_row (s := 173) da_L_law_173 8 (by decide +kernel)
theorem dc_L_law_182 : decode code 182 = .ok (.iadd, 1) := dk_row (s := 173) da_L_law_173 9 (by decide +kernel)
theorem dc_L_law_183 : decode code 183 = .ok (.iaload, 1) := dk_row (s := 173) da_L_law_173 10 (by decide +kernel)
theorem dc_L_law_184 : decode code 184 = .ok (.aload_n 0, 1) := dk_row (s := 173) da_L_law_173 11 (by decide +kernel)
theorem dc_L_law_185 : decode code 185 = .ok (.iload 4, 2) := dk_row (s := 173) da_L_law_173 12 (by decide +kernel)
theorem dc_L_law_187 : decode code 187 = .ok (.iconst 3, 1) := dk_row (s := 173) da_L_law_173 14 (by decide +kernel)
theorem dc_L_law_188 : decode code 188 = .ok (.iadd, 1) := dk_row (s := 173) da_L_law_173 15 (by decide +kernel)
theorem dc_L_law_189 : decode code 189 = .ok (.iaload, 1) := dk_row (s := 173) da_L_law_173 16 (by decide +kernel)
theorem dc_L_law_190 : decode code 190 = .ok (.aload_n 0, 1) := dk_row (s := 173) da_L_law_173 17 (by decide +kernel)
theorem dc_L_law_191 : decode code 191 = .ok (.iload 4, 2) := dk_row (s := 173) da_L_law_173 18 (by decide +kernel)
theorem dc_L_law_193 : decode code 193 = .ok (.iconst 4, 1) := dk_row (s := 173) da_L_law_173 20 (by decide +kernel)
theorem dc_L_law_194 : decode code 194 = .ok (.iadd, 1) := dk_row (s := 173) da_L_law_173 21 (by decide +kernel)
theorem dc_L_law_195 : decode code 195 = .ok (.iaload, 1) := dk_row (s := 173) da_L_law_173 22 (by decide +kernel)
theorem dc_L_law_196 : decode code 196 = .ok (.invokevirtual 75, 3) := dk_row (s := 173) da_L_law_173 23 (by decide +kernel)
theorem dc_L_law_199 : decode code 199 = .ok (.istore 6, 2) := dk_row (s := 173) da_L_law_173 26 (by decide +kernel)
theorem dc_L_law_201 : decode code 201 = .ok (.goto 549, 3) := dk_row (s := 173) da_L_law_173 28 (by decide +kernel)
theorem dc_L_law_204 : decode code 204 = .ok (.aload_n 1, 1) := dk_row (s := 173) da_L_law_173 31 (by decide +kernel)
def dw_L_law_205 : ByteArray := .mk #[0x2a, 0x15, 0x04, 0x04, 0x60, 0x2e, 0x2a, 0x15, 0x04, 0x05, 0x60, 0x2e, 0x2d, 0xb8, 0x00, 0x4c, 0x36, 0x05, 0x2c, 0x2a, 0x15, 0x04, 0x04, 0x60, 0x2e, 0x2a, 0x15, 0x04, 0x05, 0x60, 0x2e]
theorem da_L_law_205 : dkA code dw_L_law_205 205 := by unfold dkA; decide +kernel
theorem dc_L_law_205 : decode code 205 = .ok (.aload_n 0, 1) := dk_row (s := 205) da_L_law_205 0 (by decide +kernel)
theorem dc_L_law_206 : decode code 206 = .ok (.iload 4, 2) := dk_row (s := 205) da_L_law_205 1 (by decide +kernel)
theorem dc_L_law_208 : decode code 208 = .ok (.iconst 1, 1) := dk_row (s := 205) da_L_law_205 3 (by decide +kernel)
theorem dc_L_law_209 : decode code 209 = .ok (.iadd, 1) := dk_row (s := 205) da_L_law_205 4 (by decide +kernel)
theorem dc_L_law_210 : decode code 210 = .ok (.iaload, 1) := dk_row (s := 205) da_L_law_205 5 (by decide +kernel)
theorem dc_L_law_211 : decode code 211 = .ok (.aload_n 0, 1) := dk_row (s := 205) da_L_law_205 6 (by decide +kernel)
theorem dc_L_law_212 : decode code 212 = .ok (.iload 4, 2) := dk_row (s := 205) da_L_law_205 7 (by decide +kernel)
theorem dc_L_law_214 : decode code 214 = .ok (.iconst 2, 1) := dk_row (s := 205) da_L_law_205 9 (by decide +kernel)
theorem dc_L_law_215 : decode code 215 = .ok (.iadd, 1) := dk_row (s := 205) da_L_law_205 10 (by decide +kernel)
theorem dc_L_law_216 : decode code 216 = .ok (.iaload, 1) := dk_row (s := 205) da_L_law_205 11 (by decide +kernel)
theorem dc_L_law_217 : decode code 217 = .ok (.aload_n 3, 1) := dk_row (s := 205) da_L_law_205 12 (by decide +kernel)
theorem dc_L_law_218 : decode code 218 = .ok (.invokestatic 76, 3) := dk_row (s := 205) da_L_law_205 13 (by decide +kernel)
theorem dc_L_law_221 : decode code 221 = .ok (.istore 5, 2) := dk_row (s := 205) da_L_law_205 16 (by decide +kernel)
theorem dc_L_law_223 : decode code 223 = .ok (.aload_n 2, 1) := dk_row (s := 205) da_L_law_205 18 (by decide +kernel)
theorem dc_L_law_224 : decode code 224 = .ok (.aload_n 0, 1) := dk_row (s := 205) da_L_law_205 19 (by decide +kernel)
theorem dc_L_law_225 : decode code 225 = .ok (.iload 4, 2) := dk_row (s := 205) da_L_law_205 20 (by decide +kernel)
theorem dc_L_law_227 : decode code 227 = .ok (.iconst 1, 1) := dk_row (s := 205) da_L_law_205 22 (by decide +kernel)
theorem dc_L_law_228 : decode code 228 = .ok (.iadd, 1) := dk_row (s := 205) da_L_law_205 23 (by decide +kernel)
theorem dc_L_law_229 : decode code 229 = .ok (.iaload, 1) := dk_row (s := 205) da_L_law_205 24 (by decide +kernel)
theorem dc_L_law_230 : decode code 230 = .ok (.aload_n 0, 1) := dk_row (s := 205) da_L_law_205 25 (by decide +kernel)
theorem dc_L_law_231 : decode code 231 = .ok (.iload 4, 2) := dk_row (s := 205) da_L_law_205 26 (by decide +kernel)
theorem dc_L_law_233 : decode code 233 = .ok (.iconst 2, 1) := dk_row (s := 205) da_L_law_205 28 (by decide +kernel)
theorem dc_L_law_234 : decode code 234 = .ok (.iadd, 1) := dk_row (s := 205) da_L_law_205 29 (by decide +kernel)
theorem dc_L_law_235 : decode code 235 = .ok (.iaload, 1) := dk_row (s := 205) da_L_law_205 30 (by decide +kernel)
def dw_L_law_236 : ByteArray := .mk #[0xb6, 0x00, 0x4f, 0x36, 0x06, 0xa7, 0x01, 0xfd, 0x2b, 0x2a, 0x15, 0x04, 0x04, 0x60, 0x2e, 0x2a, 0x15, 0x04, 0x05, 0x60, 0x2e, 0x2a, 0x15, 0x04, 0x06, 0x60, 0x2e, 0x2d, 0xb8, 0x00, 0x50]
theorem da_L_law_236 : dkA code dw_L_law_236 236 := by unfold dkA; decide +kernel
theorem dc_L_law_236 : decode code 236 = .ok (.invokevirtual 79, 3) := dk_row (s := 236) da_L_law_236 0 (by decide +kernel)
theorem dc_L_law_239 : decode code 239 = .ok (.istore 6, 2) := dk_row (s := 236) da_L_law_236 3 (by decide +kernel)
theorem dc_L_law_241 : decode code 241 = .ok (.goto 509, 3) := dk_row (s := 236) da_L_law_236 5 (by decide +kernel)
theorem dc_L_law_244 : decode code 244 = .ok (.aload_n 1, 1) := dk_row (s := 236) da_L_law_236 8 (by decide +kernel)
theorem dc_L_law_245 : decode code 245 = .ok (.aload_n 0, 1) := dk_row (s := 236) da_L_law_236 9 (by decide +kernel)
theorem dc_L_law_246 : decode code 246 = .ok (.iload 4, 2) := dk_row (s := 236) da_L_law_236 10 (by decide +kernel)
theorem dc_L_law_248 : decode code 248 = .ok (.iconst 1, 1) := dk_row (s := 236) da_L_law_236 12 (by decide +kernel)
theorem dc_L_law_249 : decode code 249 = .ok (.iadd, 1) := dk_row (s := 236) da_L_law_236 13 (by decide +kernel)
theorem dc_L_law_250 : decode code 250 = .ok (.iaload, 1) := dk_row (s := 236) da_L_law_236 14 (by decide +kernel)
theorem dc_L_law_251 : decode code 251 = .ok (.aload_n 0, 1) := dk_row (s := 236) da_L_law_236 15 (by decide +kernel)
theorem dc_L_law_252 : decode code 252 = .ok (.iload 4, 2) := dk_row (s := 236) da_L_law_236 16 (by decide +kernel)
theorem dc_L_law_254 : decode code 254 = .ok (.iconst 2, 1) := dk_row (s := 236) da_L_law_236 18 (by decide +kernel)
theorem dc_L_law_255 : decode code 255 = .ok (.iadd, 1) := dk_row (s := 236) da_L_law_236 19 (by decide +kernel)
theorem dc_L_law_256 : decode code 256 = .ok (.iaload, 1) := dk_row (s := 236) da_L_law_236 20 (by decide +kernel)
theorem dc_L_law_257 : decode code 257 = .ok (.aload_n 0, 1) := dk_row (s := 236) da_L_law_236 21 (by decide +kernel)
theorem dc_L_law_258 : decode code 258 = .ok (.iload 4, 2) := dk_row (s := 236) da_L_law_236 22 (by decide +kernel)
theorem dc_L_law_260 : decode code 260 = .ok (.iconst 3, 1) := dk_row (s := 236) da_L_law_236 24 (by decide +kernel)
theorem dc_L_law_261 : decode code 261 = .ok (.iadd, 1) := dk_row (s := 236) da_L_law_236 25 (by decide +kernel)
theorem dc_L_law_262 : decode code 262 = .ok (.iaload, 1) := dk_row (s := 236) da_L_law_236 26 (by decide +kernel)
theorem dc_L_law_263 : decode code 263 = .ok (.aload_n 3, 1) := dk_row (s := 236) da_L_law_236 27 (by decide +kernel)
theorem dc_L_law_264 : decode code 264 = .ok (.invokestatic 80, 3) := dk_row (s := 236) da_L_law_236 28 (by decide +kernel)
def dw_L_law_267 : ByteArray := .mk #[0x36, 0x05, 0x2c, 0x2a, 0x15, 0x04, 0x04, 0x60, 0x2e, 0x2a, 0x15, 0x04, 0x05, 0x60, 0x2e, 0x2a, 0x15, 0x04, 0x06, 0x60, 0x2e, 0xb6, 0x00, 0x53, 0x36, 0x06, 0xa7, 0x01, 0xc9, 0x2b, 0x2a]
theorem da_L_law_267 : dkA code dw_L_law_267 267 := by unfold dkA; decide +kernel
theorem dc_L_law_267 : decode code 267 = .ok (.istore 5, 2) := dk_row (s := 267) da_L_law_267 0 (by decide +kernel)
theorem dc_L_law_269 : decode code 269 = .ok (.aload_n 2, 1) := dk_row (s := 267) da_L_law_267 2 (by decide +kernel)
theorem dc_L_law_270 : decode code 270 = .ok (.aload_n 0, 1) := dk_row (s := 267) da_L_law_267 3 (by decide +kernel)
theorem dc_L_law_271 : decode code 271 = .ok (.iload 4, 2) := dk_row (s := 267) da_L_law_267 4 (by decide +kernel)
theorem dc_L_law_273 : decode code 273 = .ok (.iconst 1, 1) := dk_row (s := 267) da_L_law_267 6 (by decide +kernel)
theorem dc_L_law_274 : decode code 274 = .ok (.iadd, 1) := dk_row (s := 267) da_L_law_267 7 (by decide +kernel)
theorem dc_L_law_275 : decode code 275 = .ok (.iaload, 1) := dk_row (s := 267) da_L_law_267 8 (by decide +kernel)
theorem dc_L_law_276 : decode code 276 = .ok (.aload_n 0, 1) := dk_row (s := 267) da_L_law_267 9 (by decide +kernel)
theorem dc_L_law_277 : decode code 277 = .ok (.iload 4, 2) := dk_row (s := 267) da_L_law_267 10 (by decide +kernel)
theorem dc_L_law_279 : decode code 279 = .ok (.iconst 2, 1) := dk_row (s := 267) da_L_law_267 12 (by decide +kernel)
theorem dc_L_law_280 : decode code 280 = .ok (.iadd, 1) := dk_row (s := 267) da_L_law_267 13 (by decide +kernel)
theorem dc_L_law_281 : decode code 281 = .ok (.iaload, 1) := dk_row (s := 267) da_L_law_267 14 (by decide +kernel)
theorem dc_L_law_282 : decode code 282 = .ok (.aload_n 0, 1) := dk_row (s := 267) da_L_law_267 15 (by decide +kernel)
theorem dc_L_law_283 : decode code 283 = .ok (.iload 4, 2) := dk_row (s := 267) da_L_law_267 16 (by decide +kernel)
theorem dc_L_law_285 : decode code 285 = .ok (.iconst 3, 1) := dk_row (s := 267) da_L_law_267 18 (by decide +kernel)
theorem dc_L_law_286 : decode code 286 = .ok (.iadd, 1) := dk_row (s := 267) da_L_law_267 19 (by decide +kernel)
theorem dc_L_law_287 : decode code 287 = .ok (.iaload, 1) := dk_row (s := 267) da_L_law_267 20 (by decide +kernel)
theorem dc_L_law_288 : decode code 288 = .ok (.invokevirtual 83, 3) := dk_row (s := 267) da_L_law_267 21 (by decide +kernel)
theorem dc_L_law_291 : decode code 291 = .ok (.istore 6, 2) := dk_row (s := 267) da_L_law_267 24 (by decide +kernel)
theorem dc_L_law_293 : decode code 293 = .ok (.goto 457, 3) := dk_row (s := 267) da_L_law_267 26 (by decide +kernel)
theorem dc_L_law_296 : decode code 296 = .ok (.aload_n 1, 1) := dk_row (s := 267) da_L_law_267 29 (by decide +kernel)
theorem dc_L_law_297 : decode code 297 = .ok (.aload_n 0, 1) := dk_row (s := 267) da_L_law_267 30 (by decide +kernel)
def dw_L_law_298 : ByteArray := .mk #[0x15, 0x04, 0x04, 0x60, 0x2e, 0x2a, 0x15, 0x04, 0x05, 0x60, 0x2e, 0x2a, 0x15, 0x04, 0x06, 0x60, 0x2e, 0x2a, 0x15, 0x04, 0x07, 0x60, 0x2e, 0x2d, 0xb8, 0x00, 0x54, 0x36, 0x05, 0x2c, 0x2a]
theorem da_L_law_298 : dkA code dw_L_law_298 298 := by unfold dkA; decide +kernel
theorem dc_L_law_298 : decode code 298 = .ok (.iload 4, 2) := dk_row (s := 298) da_L_law_298 0 (by decide +kernel)
theorem dc_L_law_300 : decode code 300 = .ok (.iconst 1, 1) := dk_row (s := 298) da_L_law_298 2 (by decide +kernel)
theorem dc_L_law_301 : decode code 301 = .ok (.iadd, 1) := dk_row (s := 298) da_L_law_298 3 (by decide +kernel)
theorem dc_L_law_302 : decode code 302 = .ok (.iaload, 1) := dk_row (s := 298) da_L_law_298 4 (by decide +kernel)
theorem dc_L_law_303 : decode code 303 = .ok (.aload_n 0, 1) := dk_row (s := 298) da_L_law_298 5 (by decide +kernel)
theorem dc_L_law_304 : decode code 304 = .ok (.iload 4, 2) := dk_row (s := 298) da_L_law_298 6 (by decide +kernel)
theorem dc_L_law_306 : decode code 306 = .ok (.iconst 2, 1) := dk_row (s := 298) da_L_law_298 8 (by decide +kernel)
theorem dc_L_law_307 : decode code 307 = .ok (.iadd, 1) := dk_row (s := 298) da_L_law_298 9 (by decide +kernel)
theorem dc_L_law_308 : decode code 308 = .ok (.iaload, 1) := dk_row (s := 298) da_L_law_298 10 (by decide +kernel)
theorem dc_L_law_309 : decode code 309 = .ok (.aload_n 0, 1) := dk_row (s := 298) da_L_law_298 11 (by decide +kernel)
theorem dc_L_law_310 : decode code 310 = .ok (.iload 4, 2) := dk_row (s := 298) da_L_law_298 12 (by decide +kernel)
theorem dc_L_law_312 : decode code 312 = .ok (.iconst 3, 1) := dk_row (s := 298) da_L_law_298 14 (by decide +kernel)
theorem dc_L_law_313 : decode code 313 = .ok (.iadd, 1) := dk_row (s := 298) da_L_law_298 15 (by decide +kernel)
theorem dc_L_law_314 : decode code 314 = .ok (.iaload, 1) := dk_row (s := 298) da_L_law_298 16 (by decide +kernel)
theorem dc_L_law_315 : decode code 315 = .ok (.aload_n 0, 1) := dk_row (s := 298) da_L_law_298 17 (by decide +kernel)
theorem dc_L_law_316 : decode code 316 = .ok (.iload 4, 2) := dk_row (s := 298) da_L_law_298 18 (by decide +kernel)
theorem dc_L_law_318 : decode code 318 = .ok (.iconst 4, 1) := dk_row (s := 298) da_L_law_298 20 (by decide +kernel)
theorem dc_L_law_319 : decode code 319 = .ok (.iadd, 1) := dk_row (s := 298) da_L_law_298 21 (by decide +kernel)
theorem dc_L_law_320 : decode code 320 = .ok (.iaload, 1) := dk_row (s := 298) da_L_law_298 22 (by decide +kernel)
theorem dc_L_law_321 : decode code 321 = .ok (.aload_n 3, 1) := dk_row (s := 298) da_L_law_298 23 (by decide +kernel)
theorem dc_L_law_322 : decode code 322 = .ok (.invokestatic 84, 3) := dk_row (s := 298) da_L_law_298 24 (by decide +kernel)
theorem dc_L_law_325 : decode code 325 = .ok (.istore 5, 2) := dk_row (s := 298) da_L_law_298 27 (by decide +kernel)
theorem dc_L_law_327 : decode code 327 = .ok (.aload_n 2, 1) := dk_row (s := 298) da_L_law_298 29 (by decide +kernel)
theorem dc_L_law_328 : decode code 328 = .ok (.aload_n 0, 1) := dk_row (s := 298) da_L_law_298 30 (by decide +kernel)
def dw_L_law_329 : ByteArray := .mk #[0x15, 0x04, 0x04, 0x60, 0x2e, 0x2a, 0x15, 0x04, 0x05, 0x60, 0x2e, 0x2a, 0x15, 0x04, 0x06, 0x60, 0x2e, 0x2a, 0x15, 0x04, 0x07, 0x60, 0x2e, 0xb6, 0x00, 0x56, 0x36, 0x06, 0xa7, 0x01, 0x89, 0x2b]
theorem da_L_law_329 : dkA code dw_L_law_329 329 := by unfold dkA; decide +kernel
theorem dc_L_law_329 : decode code 329 = .ok (.iload 4, 2) := dk_row (s := 329) da_L_law_329 0 (by decide +kernel)
theorem dc_L_law_331 : decode code 331 = .ok (.iconst 1, 1) := dk_row (s := 329) da_L_law_329 2 (by decide +kernel)
theorem dc_L_law_332 : decode code 332 = .ok (.iadd, 1) := dk_row (s := 329) da_L_law_329 3 (by decide +kernel)
theorem dc_L_law_333 : decode code 333 = .ok (.iaload, 1) := dk_row (s := 329) da_L_law_329 4 (by decide +kernel)
theorem dc_L_law_334 : decode code 334 = .ok (.aload_n 0, 1) := dk_row (s := 329) da_L_law_329 5 (by decide +kernel)
theorem dc_L_law_335 : decode code 335 = .ok (.iload 4, 2) := dk_row (s := 329) da_L_law_329 6 (by decide +kernel)
theorem dc_L_law_337 : decode code 337 = .ok (.iconst 2, 1) := dk_row (s := 329) da_L_law_329 8 (by decide +kernel)
theorem dc_L_law_338 : decode code 338 = .ok (.iadd, 1) := dk_row (s := 329) da_L_law_329 9 (by decide +kernel)
theorem dc_L_law_339 : decode code 339 = .ok (.iaload, 1) := dk_row (s := 329) da_L_law_329 10 (by decide +kernel)
theorem dc_L_law_340 : decode code 340 = .ok (.aload_n 0, 1) := dk_row (s := 329) da_L_law_329 11 (by decide +kernel)
theorem dc_L_law_341 : decode code 341 = .ok (.iload 4, 2) := dk_row (s := 329) da_L_law_329 12 (by decide +kernel)
theorem dc_L_law_343 : decode code 343 = .ok (.iconst 3, 1) := dk_row (s := 329) da_L_law_329 14 (by decide +kernel)
theorem dc_L_law_344 : decode code 344 = .ok (.iadd, 1) := dk_row (s := 329) da_L_law_329 15 (by decide +kernel)
theorem dc_L_law_345 : decode code 345 = .ok (.iaload, 1) := dk_row (s := 329) da_L_law_329 16 (by decide +kernel)
theorem dc_L_law_346 : decode code 346 = .ok (.aload_n 0, 1) := dk_row (s := 329) da_L_law_329 17 (by decide +kernel)
theorem dc_L_law_347 : decode code 347 = .ok (.iload 4, 2) := dk_row (s := 329) da_L_law_329 18 (by decide +kernel)
theorem dc_L_law_349 : decode code 349 = .ok (.iconst 4, 1) := dk_row (s := 329) da_L_law_329 20 (by decide +kernel)
theorem dc_L_law_350 : decode code 350 = .ok (.iadd, 1) := dk_row (s := 329) da_L_law_329 21 (by decide +kernel)
theorem dc_L_law_351 : decode code 351 = .ok (.iaload, 1) := dk_row (s := 329) da_L_law_329 22 (by decide +kernel)
theorem dc_L_law_352 : decode code 352 = .ok (.invokevirtual 86, 3) := dk_row (s := 329) da_L_law_329 23 (by decide +kernel)
theorem dc_L_law_355 : decode code 355 = .ok (.istore 6, 2) := dk_row (s := 329) da_L_law_329 26 (by decide +kernel)
theorem dc_L_law_357 : decode code 357 = .ok (.goto 393, 3) := dk_row (s := 329) da_L_law_329 28 (by decide +kernel)
theorem dc_L_law_360 : decode code 360 = .ok (.aload_n 1, 1) := dk_row (s := 329) da_L_law_329 31 (by decide +kernel)
def dw_L_law_361 : ByteArray := .mk #[0x2a, 0x15, 0x04, 0x04, 0x60, 0x2e, 0x2d, 0xb8, 0x00, 0x57, 0x36, 0x05, 0x2c, 0x2a, 0x15, 0x04, 0x04, 0x60, 0x2e, 0xb6, 0x00, 0x5a, 0x36, 0x06, 0xa7, 0x01, 0x6d, 0x2b, 0x2a, 0x15, 0x04, 0x04]
theorem da_L_law_361 : dkA code dw_L_law_361 361 := by unfold dkA; decide +kernel
theorem dc_L_law_361 : decode code 361 = .ok (.aload_n 0, 1) := dk_row (s := 361) da_L_law_361 0 (by decide +kernel)
theorem dc_L_law_362 : decode code 362 = .ok (.iload 4, 2) := dk_row (s := 361) da_L_law_361 1 (by decide +kernel)
theorem dc_L_law_364 : decode code 364 = .ok (.iconst 1, 1) := dk_row (s := 361) da_L_law_361 3 (by decide +kernel)
theorem dc_L_law_365 : decode code 365 = .ok (.iadd, 1) := dk_row (s := 361) da_L_law_361 4 (by decide +kernel)
theorem dc_L_law_366 : decode code 366 = .ok (.iaload, 1) := dk_row (s := 361) da_L_law_361 5 (by decide +kernel)
theorem dc_L_law_367 : decode code 367 = .ok (.aload_n 3, 1) := dk_row (s := 361) da_L_law_361 6 (by decide +kernel)
theorem dc_L_law_368 : decode code 368 = .ok (.invokestatic 87, 3) := dk_row (s := 361) da_L_law_361 7 (by decide +kernel)
theorem dc_L_law_371 : decode code 371 = .ok (.istore 5, 2) := dk_row (s := 361) da_L_law_361 10 (by decide +kernel)
theorem dc_L_law_373 : decode code 373 = .ok (.aload_n 2, 1) := dk_row (s := 361) da_L_law_361 12 (by decide +kernel)
theorem dc_L_law_374 : decode code 374 = .ok (.aload_n 0, 1) := dk_row (s := 361) da_L_law_361 13 (by decide +kernel)
theorem dc_L_law_375 : decode code 375 = .ok (.iload 4, 2) := dk_row (s := 361) da_L_law_361 14 (by decide +kernel)
theorem dc_L_law_377 : decode code 377 = .ok (.iconst 1, 1) := dk_row (s := 361) da_L_law_361 16 (by decide +kernel)
theorem dc_L_law_378 : decode code 378 = .ok (.iadd, 1) := dk_row (s := 361) da_L_law_361 17 (by decide +kernel)
theorem dc_L_law_379 : decode code 379 = .ok (.iaload, 1) := dk_row (s := 361) da_L_law_361 18 (by decide +kernel)
theorem dc_L_law_380 : decode code 380 = .ok (.invokevirtual 90, 3) := dk_row (s := 361) da_L_law_361 19 (by decide +kernel)
theorem dc_L_law_383 : decode code 383 = .ok (.istore 6, 2) := dk_row (s := 361) da_L_law_361 22 (by decide +kernel)
theorem dc_L_law_385 : decode code 385 = .ok (.goto 365, 3) := dk_row (s := 361) da_L_law_361 24 (by decide +kernel)
theorem dc_L_law_388 : decode code 388 = .ok (.aload_n 1, 1) := dk_row (s := 361) da_L_law_361 27 (by decide +kernel)
theorem dc_L_law_389 : decode code 389 = .ok (.aload_n 0, 1) := dk_row (s := 361) da_L_law_361 28 (by decide +kernel)
theorem dc_L_law_390 : decode code 390 = .ok (.iload 4, 2) := dk_row (s := 361) da_L_law_361 29 (by decide +kernel)
theorem dc_L_law_392 : decode code 392 = .ok (.iconst 1, 1) := dk_row (s := 361) da_L_law_361 31 (by decide +kernel)
def dw_L_law_393 : ByteArray := .mk #[0x60, 0x2e, 0x2d, 0xb8, 0x00, 0x5b, 0x36, 0x05, 0x2c, 0x2a, 0x15, 0x04, 0x04, 0x60, 0x2e, 0xb6, 0x00, 0x5d, 0x36, 0x06, 0xa7, 0x01, 0x51, 0x2b, 0xb6, 0x00, 0x5e]
theorem da_L_law_393 : dkA code dw_L_law_393 393 := by unfold dkA; decide +kernel
theorem dc_L_law_393 : decode code 393 = .ok (.iadd, 1) := dk_row (s := 393) da_L_law_393 0 (by decide +kernel)
theorem dc_L_law_394 : decode code 394 = .ok (.iaload, 1) := dk_row (s := 393) da_L_law_393 1 (by decide +kernel)
theorem dc_L_law_395 : decode code 395 = .ok (.aload_n 3, 1) := dk_row (s := 393) da_L_law_393 2 (by decide +kernel)
theorem dc_L_law_396 : decode code 396 = .ok (.invokestatic 91, 3) := dk_row (s := 393) da_L_law_393 3 (by decide +kernel)
theorem dc_L_law_399 : decode code 399 = .ok (.istore 5, 2) := dk_row (s := 393) da_L_law_393 6 (by decide +kernel)
theorem dc_L_law_401 : decode code 401 = .ok (.aload_n 2, 1) := dk_row (s := 393) da_L_law_393 8 (by decide +kernel)
theorem dc_L_law_402 : decode code 402 = .ok (.aload_n 0, 1) := dk_row (s := 393) da_L_law_393 9 (by decide +kernel)
theorem dc_L_law_403 : decode code 403 = .ok (.iload 4, 2) := dk_row (s := 393) da_L_law_393 10 (by decide +kernel)
theorem dc_L_law_405 : decode code 405 = .ok (.iconst 1, 1) := dk_row (s := 393) da_L_law_393 12 (by decide +kernel)
theorem dc_L_law_406 : decode code 406 = .ok (.iadd, 1) := dk_row (s := 393) da_L_law_393 13 (by decide +kernel)
theorem dc_L_law_407 : decode code 407 = .ok (.iaload, 1) := dk_row (s := 393) da_L_law_393 14 (by decide +kernel)
theorem dc_L_law_408 : decode code 408 = .ok (.invokevirtual 93, 3) := dk_row (s := 393) da_L_law_393 15 (by decide +kernel)
theorem dc_L_law_411 : decode code 411 = .ok (.istore 6, 2) := dk_row (s := 393) da_L_law_393 18 (by decide +kernel)
theorem dc_L_law_413 : decode code 413 = .ok (.goto 337, 3) := dk_row (s := 393) da_L_law_393 20 (by decide +kernel)
theorem dc_L_law_416 : decode code 416 = .ok (.aload_n 1, 1) := dk_row (s := 393) da_L_law_393 23 (by decide +kernel)
theorem dc_L_law_417 : decode code 417 = .ok (.invokevirtual 94, 3) := dk_row (s := 393) da_L_law_393 24 (by decide +kernel)
theorem dc_L_law_420 : decode code 420 = .ok (.pop, 1) := by decide +kernel
theorem dc_L_law_421 : decode code 421 = .ok (.aload_n 2, 1) := by decide +kernel
theorem dc_L_law_422 : decode code 422 = .ok (.invokevirtual 98, 3) := by decide +kernel
theorem dc_L_law_425 : decode code 425 = .ok (.pop, 1) := by decide +kernel
def dw_L_law_426 : ByteArray := .mk #[0xa7, 0x01, 0x44, 0x2b, 0x2a, 0x15, 0x04, 0x04, 0x60, 0x2e, 0x2d, 0xb8, 0x00, 0x63, 0x36, 0x05, 0x2c, 0x2a, 0x15, 0x04, 0x04, 0x60, 0x2e, 0xb6, 0x00, 0x65]
theorem da_L_law_426 : dkA code dw_L_law_426 426 := by unfold dkA; decide +kernel
theorem dc_L_law_426 : decode code 426 = .ok (.goto 324, 3) := dk_row (s := 426) da_L_law_426 0 (by decide +kernel)
theorem dc_L_law_429 : decode code 429 = .ok (.aload_n 1, 1) := dk_row (s := 426) da_L_law_426 3 (by decide +kernel)
theorem dc_L_law_430 : decode code 430 = .ok (.aload_n 0, 1) := dk_row (s := 426) da_L_law_426 4 (by decide +kernel)
theorem dc_L_law_431 : decode code 431 = .ok (.iload 4, 2) := dk_row (s := 426) da_L_law_426 5 (by decide +kernel)
theorem dc_L_law_433 : decode code 433 = .ok (.iconst 1, 1) := dk_row (s := 426) da_L_law_426 7 (by decide +kernel)
theorem dc_L_law_434 : decode code 434 = .ok (.iadd, 1) := dk_row (s := 426) da_L_law_426 8 (by decide +kernel)
theorem dc_L_law_435 : decode code 435 = .ok (.iaload, 1) := dk_row (s := 426) da_L_law_426 9 (by decide +kernel)
theorem dc_L_law_436 : decode code 436 = .ok (.aload_n 3, 1) := dk_row (s := 426) da_L_law_426 10 (by decide +kernel)
theorem dc_L_law_437 : decode code 437 = .ok (.invokestatic 99, 3) := dk_row (s := 426) da_L_law_426 11 (by decide +kernel)
theorem dc_L_law_440 : decode code 440 = .ok (.istore 5, 2) := dk_row (s := 426) da_L_law_426 14 (by decide +kernel)
theorem dc_L_law_442 : decode code 442 = .ok (.aload_n 2, 1) := dk_row (s := 426) da_L_law_426 16 (by decide +kernel)
theorem dc_L_law_443 : decode code 443 = .ok (.aload_n 0, 1) := dk_row (s := 426) da_L_law_426 17 (by decide +kernel)
theorem dc_L_law_444 : decode code 444 = .ok (.iload 4, 2) := dk_row (s := 426) da_L_law_426 18 (by decide +kernel)
theorem dc_L_law_446 : decode code 446 = .ok (.iconst 1, 1) := dk_row (s := 426) da_L_law_426 20 (by decide +kernel)
theorem dc_L_law_447 : decode code 447 = .ok (.iadd, 1) := dk_row (s := 426) da_L_law_426 21 (by decide +kernel)
theorem dc_L_law_448 : decode code 448 = .ok (.iaload, 1) := dk_row (s := 426) da_L_law_426 22 (by decide +kernel)
theorem dc_L_law_449 : decode code 449 = .ok (.invokevirtual 101, 3) := dk_row (s := 426) da_L_law_426 23 (by decide +kernel)
def dw_L_law_452 : ByteArray := .mk #[0x36, 0x06, 0xa7, 0x01, 0x28, 0x2b, 0x2a, 0x15, 0x04, 0x04, 0x60, 0x2e, 0x2a, 0x15, 0x04, 0x05, 0x60, 0x2e, 0x2d, 0xb8, 0x00, 0x66, 0x36, 0x05, 0x2c, 0x2a, 0x15, 0x04, 0x04, 0x60, 0x2e, 0x2a]
theorem da_L_law_452 : dkA code dw_L_law_452 452 := by unfold dkA; decide +kernel
theorem dc_L_law_452 : decode code 452 = .ok (.istore 6, 2) := dk_row (s := 452) da_L_law_452 0 (by decide +kernel)
theorem dc_L_law_454 : decode code 454 = .ok (.goto 296, 3) := dk_row (s := 452) da_L_law_452 2 (by decide +kernel)
theorem dc_L_law_457 : decode code 457 = .ok (.aload_n 1, 1) := dk_row (s := 452) da_L_law_452 5 (by decide +kernel)
theorem dc_L_law_458 : decode code 458 = .ok (.aload_n 0, 1) := dk_row (s := 452) da_L_law_452 6 (by decide +kernel)
theorem dc_L_law_459 : decode code 459 = .ok (.iload 4, 2) := dk_row (s := 452) da_L_law_452 7 (by decide +kernel)
theorem dc_L_law_461 : decode code 461 = .ok (.iconst 1, 1) := dk_row (s := 452) da_L_law_452 9 (by decide +kernel)
theorem dc_L_law_462 : decode code 462 = .ok (.iadd, 1) := dk_row (s := 452) da_L_law_452 10 (by decide +kernel)
theorem dc_L_law_463 : decode code 463 = .ok (.iaload, 1) := dk_row (s := 452) da_L_law_452 11 (by decide +kernel)
theorem dc_L_law_464 : decode code 464 = .ok (.aload_n 0, 1) := dk_row (s := 452) da_L_law_452 12 (by decide +kernel)
theorem dc_L_law_465 : decode code 465 = .ok (.iload 4, 2) := dk_row (s := 452) da_L_law_452 13 (by decide +kernel)
theorem dc_L_law_467 : decode code 467 = .ok (.iconst 2, 1) := dk_row (s := 452) da_L_law_452 15 (by decide +kernel)
theorem dc_L_law_468 : decode code 468 = .ok (.iadd, 1) := dk_row (s := 452) da_L_law_452 16 (by decide +kernel)
theorem dc_L_law_469 : decode code 469 = .ok (.iaload, 1) := dk_row (s := 452) da_L_law_452 17 (by decide +kernel)
theorem dc_L_law_470 : decode code 470 = .ok (.aload_n 3, 1) := dk_row (s := 452) da_L_law_452 18 (by decide +kernel)
theorem dc_L_law_471 : decode code 471 = .ok (.invokestatic 102, 3) := dk_row (s := 452) da_L_law_452 19 (by decide +kernel)
theorem dc_L_law_474 : decode code 474 = .ok (.istore 5, 2) := dk_row (s := 452) da_L_law_452 22 (by decide +kernel)
theorem dc_L_law_476 : decode code 476 = .ok (.aload_n 2, 1) := dk_row (s := 452) da_L_law_452 24 (by decide +kernel)
theorem dc_L_law_477 : decode code 477 = .ok (.aload_n 0, 1) := dk_row (s := 452) da_L_law_452 25 (by decide +kernel)
theorem dc_L_law_478 : decode code 478 = .ok (.iload 4, 2) := dk_row (s := 452) da_L_law_452 26 (by decide +kernel)
theorem dc_L_law_480 : decode code 480 = .ok (.iconst 1, 1) := dk_row (s := 452) da_L_law_452 28 (by decide +kernel)
theorem dc_L_law_481 : decode code 481 = .ok (.iadd, 1) := dk_row (s := 452) da_L_law_452 29 (by decide +kernel)
theorem dc_L_law_482 : decode code 482 = .ok (.iaload, 1) := dk_row (s := 452) da_L_law_452 30 (by decide +kernel)
theorem dc_L_law_483 : decode code 483 = .ok (.aload_n 0, 1) := dk_row (s := 452) da_L_law_452 31 (by decide +kernel)
def dw_L_law_484 : ByteArray := .mk #[0x15, 0x04, 0x05, 0x60, 0x2e, 0xb6, 0x00, 0x68, 0x36, 0x06, 0xa7, 0x01, 0x00, 0x2b, 0x2a, 0x15, 0x04, 0x04, 0x60, 0x2e, 0x2a, 0x15, 0x04, 0x05, 0x60, 0x2e, 0x2d, 0xb8, 0x00, 0x69, 0x36, 0x05]
theorem da_L_law_484 : dkA code dw_L_law_484 484 := by unfold dkA; decide +kernel
theorem dc_L_law_484 : decode code 484 = .ok (.iload 4, 2) := dk_row (s := 484) da_L_law_484 0 (by decide +kernel)
theorem dc_L_law_486 : decode code 486 = .ok (.iconst 2, 1) := dk_row (s := 484) da_L_law_484 2 (by decide +kernel)
theorem dc_L_law_487 : decode code 487 = .ok (.iadd, 1) := dk_row (s := 484) da_L_law_484 3 (by decide +kernel)
theorem dc_L_law_488 : decode code 488 = .ok (.iaload, 1) := dk_row (s := 484) da_L_law_484 4 (by decide +kernel)
theorem dc_L_law_489 : decode code 489 = .ok (.invokevirtual 104, 3) := dk_row (s := 484) da_L_law_484 5 (by decide +kernel)
theorem dc_L_law_492 : decode code 492 = .ok (.istore 6, 2) := dk_row (s := 484) da_L_law_484 8 (by decide +kernel)
theorem dc_L_law_494 : decode code 494 = .ok (.goto 256, 3) := dk_row (s := 484) da_L_law_484 10 (by decide +kernel)
theorem dc_L_law_497 : decode code 497 = .ok (.aload_n 1, 1) := dk_row (s := 484) da_L_law_484 13 (by decide +kernel)
theorem dc_L_law_498 : decode code 498 = .ok (.aload_n 0, 1) := dk_row (s := 484) da_L_law_484 14 (by decide +kernel)
theorem dc_L_law_499 : decode code 499 = .ok (.iload 4, 2) := dk_row (s := 484) da_L_law_484 15 (by decide +kernel)
theorem dc_L_law_501 : decode code 501 = .ok (.iconst 1, 1) := dk_row (s := 484) da_L_law_484 17 (by decide +kernel)
theorem dc_L_law_502 : decode code 502 = .ok (.iadd, 1) := dk_row (s := 484) da_L_law_484 18 (by decide +kernel)
theorem dc_L_law_503 : decode code 503 = .ok (.iaload, 1) := dk_row (s := 484) da_L_law_484 19 (by decide +kernel)
theorem dc_L_law_504 : decode code 504 = .ok (.aload_n 0, 1) := dk_row (s := 484) da_L_law_484 20 (by decide +kernel)
theorem dc_L_law_505 : decode code 505 = .ok (.iload 4, 2) := dk_row (s := 484) da_L_law_484 21 (by decide +kernel)
theorem dc_L_law_507 : decode code 507 = .ok (.iconst 2, 1) := dk_row (s := 484) da_L_law_484 23 (by decide +kernel)
theorem dc_L_law_508 : decode code 508 = .ok (.iadd, 1) := dk_row (s := 484) da_L_law_484 24 (by decide +kernel)
theorem dc_L_law_509 : decode code 509 = .ok (.iaload, 1) := dk_row (s := 484) da_L_law_484 25 (by decide +kernel)
theorem dc_L_law_510 : decode code 510 = .ok (.aload_n 3, 1) := dk_row (s := 484) da_L_law_484 26 (by decide +kernel)
theorem dc_L_law_511 : decode code 511 = .ok (.invokestatic 105, 3) := dk_row (s := 484) da_L_law_484 27 (by decide +kernel)
theorem dc_L_law_514 : decode code 514 = .ok (.istore 5, 2) := dk_row (s := 484) da_L_law_484 30 (by decide +kernel)
def dw_L_law_516 : ByteArray := .mk #[0x2c, 0x2a, 0x15, 0x04, 0x04, 0x60, 0x2e, 0x2a, 0x15, 0x04, 0x05, 0x60, 0x2e, 0xb6, 0x00, 0x6b, 0x36, 0x06, 0xa7, 0x00, 0xd8, 0x2b, 0x2a, 0x15, 0x04, 0x04, 0x60, 0x2e, 0x2a, 0x15, 0x04, 0x05]
theorem da_L_law_516 : dkA code dw_L_law_516 516 := by unfold dkA; decide +kernel
theorem dc_L_law_516 : decode code 516 = .ok (.aload_n 2, 1) := dk_row (s := 516) da_L_law_516 0 (by decide +kernel)
theorem dc_L_law_517 : decode code 517 = .ok (.aload_n 0, 1) := dk_row (s := 516) da_L_law_516 1 (by decide +kernel)
theorem dc_L_law_518 : decode code 518 = .ok (.iload 4, 2) := dk_row (s := 516) da_L_law_516 2 (by decide +kernel)
theorem dc_L_law_520 : decode code 520 = .ok (.iconst 1, 1) := dk_row (s := 516) da_L_law_516 4 (by decide +kernel)
theorem dc_L_law_521 : decode code 521 = .ok (.iadd, 1) := dk_row (s := 516) da_L_law_516 5 (by decide +kernel)
theorem dc_L_law_522 : decode code 522 = .ok (.iaload, 1) := dk_row (s := 516) da_L_law_516 6 (by decide +kernel)
theorem dc_L_law_523 : decode code 523 = .ok (.aload_n 0, 1) := dk_row (s := 516) da_L_law_516 7 (by decide +kernel)
theorem dc_L_law_524 : decode code 524 = .ok (.iload 4, 2) := dk_row (s := 516) da_L_law_516 8 (by decide +kernel)
theorem dc_L_law_526 : decode code 526 = .ok (.iconst 2, 1) := dk_row (s := 516) da_L_law_516 10 (by decide +kernel)
theorem dc_L_law_527 : decode code 527 = .ok (.iadd, 1) := dk_row (s := 516) da_L_law_516 11 (by decide +kernel)
theorem dc_L_law_528 : decode code 528 = .ok (.iaload, 1) := dk_row (s := 516) da_L_law_516 12 (by decide +kernel)
theorem dc_L_law_529 : decode code 529 = .ok (.invokevirtual 107, 3) := dk_row (s := 516) da_L_law_516 13 (by decide +kernel)
theorem dc_L_law_532 : decode code 532 = .ok (.istore 6, 2) := dk_row (s := 516) da_L_law_516 16 (by decide +kernel)
theorem dc_L_law_534 : decode code 534 = .ok (.goto 216, 3) := dk_row (s := 516) da_L_law_516 18 (by decide +kernel)
theorem dc_L_law_537 : decode code 537 = .ok (.aload_n 1, 1) := dk_row (s := 516) da_L_law_516 21 (by decide +kernel)
theorem dc_L_law_538 : decode code 538 = .ok (.aload_n 0, 1) := dk_row (s := 516) da_L_law_516 22 (by decide +kernel)
theorem dc_L_law_539 : decode code 539 = .ok (.iload 4, 2) := dk_row (s := 516) da_L_law_516 23 (by decide +kernel)
theorem dc_L_law_541 : decode code 541 = .ok (.iconst 1, 1) := dk_row (s := 516) da_L_law_516 25 (by decide +kernel)
theorem dc_L_law_542 : decode code 542 = .ok (.iadd, 1) := dk_row (s := 516) da_L_law_516 26 (by decide +kernel)
theorem dc_L_law_543 : decode code 543 = .ok (.iaload, 1) := dk_row (s := 516) da_L_law_516 27 (by decide +kernel)
theorem dc_L_law_544 : decode code 544 = .ok (.aload_n 0, 1) := dk_row (s := 516) da_L_law_516 28 (by decide +kernel)
theorem dc_L_law_545 : decode code 545 = .ok (.iload 4, 2) := dk_row (s := 516) da_L_law_516 29 (by decide +kernel)
theorem dc_L_law_547 : decode code 547 = .ok (.iconst 2, 1) := dk_row (s := 516) da_L_law_516 31 (by decide +kernel)
def dw_L_law_548 : ByteArray := .mk #[0x60, 0x2e, 0x2d, 0xb8, 0x00, 0x6c, 0x36, 0x05, 0x2c, 0x2a, 0x15, 0x04, 0x04, 0x60, 0x2e, 0x2a, 0x15, 0x04, 0x05, 0x60, 0x2e, 0xb6, 0x00, 0x6e, 0x36, 0x06, 0xa7, 0x00, 0xb0, 0x2b, 0x2a]
theorem da_L_law_548 : dkA code dw_L_law_548 548 := by unfold dkA; decide +kernel
theorem dc_L_law_548 : decode code 548 = .ok (.iadd, 1) := dk_row (s := 548) da_L_law_548 0 (by decide +kernel)
theorem dc_L_law_549 : decode code 549 = .ok (.iaload, 1) := dk_row (s := 548) da_L_law_548 1 (by decide +kernel)
theorem dc_L_law_550 : decode code 550 = .ok (.aload_n 3, 1) := dk_row (s := 548) da_L_law_548 2 (by decide +kernel)
theorem dc_L_law_551 : decode code 551 = .ok (.invokestatic 108, 3) := dk_row (s := 548) da_L_law_548 3 (by decide +kernel)
theorem dc_L_law_554 : decode code 554 = .ok (.istore 5, 2) := dk_row (s := 548) da_L_law_548 6 (by decide +kernel)
theorem dc_L_law_556 : decode code 556 = .ok (.aload_n 2, 1) := dk_row (s := 548) da_L_law_548 8 (by decide +kernel)
theorem dc_L_law_557 : decode code 557 = .ok (.aload_n 0, 1) := dk_row (s := 548) da_L_law_548 9 (by decide +kernel)
theorem dc_L_law_558 : decode code 558 = .ok (.iload 4, 2) := dk_row (s := 548) da_L_law_548 10 (by decide +kernel)
theorem dc_L_law_560 : decode code 560 = .ok (.iconst 1, 1) := dk_row (s := 548) da_L_law_548 12 (by decide +kernel)
theorem dc_L_law_561 : decode code 561 = .ok (.iadd, 1) := dk_row (s := 548) da_L_law_548 13 (by decide +kernel)
theorem dc_L_law_562 : decode code 562 = .ok (.iaload, 1) := dk_row (s := 548) da_L_law_548 14 (by decide +kernel)
theorem dc_L_law_563 : decode code 563 = .ok (.aload_n 0, 1) := dk_row (s := 548) da_L_law_548 15 (by decide +kernel)
theorem dc_L_law_564 : decode code 564 = .ok (.iload 4, 2) := dk_row (s := 548) da_L_law_548 16 (by decide +kernel)
theorem dc_L_law_566 : decode code 566 = .ok (.iconst 2, 1) := dk_row (s := 548) da_L_law_548 18 (by decide +kernel)
theorem dc_L_law_567 : decode code 567 = .ok (.iadd, 1) := dk_row (s := 548) da_L_law_548 19 (by decide +kernel)
theorem dc_L_law_568 : decode code 568 = .ok (.iaload, 1) := dk_row (s := 548) da_L_law_548 20 (by decide +kernel)
theorem dc_L_law_569 : decode code 569 = .ok (.invokevirtual 110, 3) := dk_row (s := 548) da_L_law_548 21 (by decide +kernel)
theorem dc_L_law_572 : decode code 572 = .ok (.istore 6, 2) := dk_row (s := 548) da_L_law_548 24 (by decide +kernel)
theorem dc_L_law_574 : decode code 574 = .ok (.goto 176, 3) := dk_row (s := 548) da_L_law_548 26 (by decide +kernel)
theorem dc_L_law_577 : decode code 577 = .ok (.aload_n 1, 1) := dk_row (s := 548) da_L_law_548 29 (by decide +kernel)
theorem dc_L_law_578 : decode code 578 = .ok (.aload_n 0, 1) := dk_row (s := 548) da_L_law_548 30 (by decide +kernel)
def dw_L_law_579 : ByteArray := .mk #[0x15, 0x04, 0x04, 0x60, 0x2e, 0x2a, 0x15, 0x04, 0x05, 0x60, 0x2e, 0x2d, 0xb8, 0x00, 0x6f, 0x36, 0x05, 0x2c, 0x2a, 0x15, 0x04, 0x04, 0x60, 0x2e, 0x2a, 0x15, 0x04, 0x05, 0x60, 0x2e]
theorem da_L_law_579 : dkA code dw_L_law_579 579 := by unfold dkA; decide +kernel
theorem dc_L_law_579 : decode code 579 = .ok (.iload 4, 2) := dk_row (s := 579) da_L_law_579 0 (by decide +kernel)
theorem dc_L_law_581 : decode code 581 = .ok (.iconst 1, 1) := dk_row (s := 579) da_L_law_579 2 (by decide +kernel)
theorem dc_L_law_582 : decode code 582 = .ok (.iadd, 1) := dk_row (s := 579) da_L_law_579 3 (by decide +kernel)
theorem dc_L_law_583 : decode code 583 = .ok (.iaload, 1) := dk_row (s := 579) da_L_law_579 4 (by decide +kernel)
theorem dc_L_law_584 : decode code 584 = .ok (.aload_n 0, 1) := dk_row (s := 579) da_L_law_579 5 (by decide +kernel)
theorem dc_L_law_585 : decode code 585 = .ok (.iload 4, 2) := dk_row (s := 579) da_L_law_579 6 (by decide +kernel)
theorem dc_L_law_587 : decode code 587 = .ok (.iconst 2, 1) := dk_row (s := 579) da_L_law_579 8 (by decide +kernel)
theorem dc_L_law_588 : decode code 588 = .ok (.iadd, 1) := dk_row (s := 579) da_L_law_579 9 (by decide +kernel)
theorem dc_L_law_589 : decode code 589 = .ok (.iaload, 1) := dk_row (s := 579) da_L_law_579 10 (by decide +kernel)
theorem dc_L_law_590 : decode code 590 = .ok (.aload_n 3, 1) := dk_row (s := 579) da_L_law_579 11 (by decide +kernel)
theorem dc_L_law_591 : decode code 591 = .ok (.invokestatic 111, 3) := dk_row (s := 579) da_L_law_579 12 (by decide +kernel)
theorem dc_L_law_594 : decode code 594 = .ok (.istore 5, 2) := dk_row (s := 579) da_L_law_579 15 (by decide +kernel)
theorem dc_L_law_596 : decode code 596 = .ok (.aload_n 2, 1) := dk_row (s := 579) da_L_law_579 17 (by decide +kernel)
theorem dc_L_law_597 : decode code 597 = .ok (.aload_n 0, 1) := dk_row (s := 579) da_L_law_579 18 (by decide +kernel)
theorem dc_L_law_598 : decode code 598 = .ok (.iload 4, 2) := dk_row (s := 579) da_L_law_579 19 (by decide +kernel)
theorem dc_L_law_600 : decode code 600 = .ok (.iconst 1, 1) := dk_row (s := 579) da_L_law_579 21 (by decide +kernel)
theorem dc_L_law_601 : decode code 601 = .ok (.iadd, 1) := dk_row (s := 579) da_L_law_579 22 (by decide +kernel)
theorem dc_L_law_602 : decode code 602 = .ok (.iaload, 1) := dk_row (s := 579) da_L_law_579 23 (by decide +kernel)
theorem dc_L_law_603 : decode code 603 = .ok (.aload_n 0, 1) := dk_row (s := 579) da_L_law_579 24 (by decide +kernel)
theorem dc_L_law_604 : decode code 604 = .ok (.iload 4, 2) := dk_row (s := 579) da_L_law_579 25 (by decide +kernel)
theorem dc_L_law_606 : decode code 606 = .ok (.iconst 2, 1) := dk_row (s := 579) da_L_law_579 27 (by decide +kernel)
theorem dc_L_law_607 : decode code 607 = .ok (.iadd, 1) := dk_row (s := 579) da_L_law_579 28 (by decide +kernel)
theorem dc_L_law_608 : decode code 608 = .ok (.iaload, 1) := dk_row (s := 579) da_L_law_579 29 (by decide +kernel)
def dw_L_law_609 : ByteArray := .mk #[0xb6, 0x00, 0x71, 0x36, 0x06, 0xa7, 0x00, 0x88, 0x2b, 0xb6, 0x00, 0x72]
theorem da_L_law_609 : dkA code dw_L_law_609 609 := by unfold dkA; decide +kernel
theorem dc_L_law_609 : decode code 609 = .ok (.invokevirtual 113, 3) := dk_row (s := 609) da_L_law_609 0 (by decide +kernel)
theorem dc_L_law_612 : decode code 612 = .ok (.istore 6, 2) := dk_row (s := 609) da_L_law_609 3 (by decide +kernel)
theorem dc_L_law_614 : decode code 614 = .ok (.goto 136, 3) := dk_row (s := 609) da_L_law_609 5 (by decide +kernel)
theorem dc_L_law_617 : decode code 617 = .ok (.aload_n 1, 1) := dk_row (s := 609) da_L_law_609 8 (by decide +kernel)
theorem dc_L_law_618 : decode code 618 = .ok (.invokevirtual 114, 3) := dk_row (s := 609) da_L_law_609 9 (by decide +kernel)
theorem dc_L_law_621 : decode code 621 = .ok (.pop, 1) := by decide +kernel
theorem dc_L_law_622 : decode code 622 = .ok (.aload_n 2, 1) := by decide +kernel
theorem dc_L_law_623 : decode code 623 = .ok (.invokevirtual 117, 3) := by decide +kernel
theorem dc_L_law_626 : decode code 626 = .ok (.pop, 1) := by decide +kernel
def dw_L_law_627 : ByteArray := .mk #[0xa7, 0x00, 0x7b, 0x2b, 0x2a, 0x15, 0x04, 0x04, 0x60, 0x2e, 0x2d, 0xb8, 0x00, 0x76, 0x36, 0x05, 0x2c, 0x2a, 0x15, 0x04, 0x04, 0x60, 0x2e, 0xb6, 0x00, 0x78, 0x36, 0x06, 0x2c, 0xb6, 0x00, 0x79]
theorem da_L_law_627 : dkA code dw_L_law_627 627 := by unfold dkA; decide +kernel
theorem dc_L_law_627 : decode code 627 = .ok (.goto 123, 3) := dk_row (s := 627) da_L_law_627 0 (by decide +kernel)
theorem dc_L_law_630 : decode code 630 = .ok (.aload_n 1, 1) := dk_row (s := 627) da_L_law_627 3 (by decide +kernel)
theorem dc_L_law_631 : decode code 631 = .ok (.aload_n 0, 1) := dk_row (s := 627) da_L_law_627 4 (by decide +kernel)
theorem dc_L_law_632 : decode code 632 = .ok (.iload 4, 2) := dk_row (s := 627) da_L_law_627 5 (by decide +kernel)
theorem dc_L_law_634 : decode code 634 = .ok (.iconst 1, 1) := dk_row (s := 627) da_L_law_627 7 (by decide +kernel)
theorem dc_L_law_635 : decode code 635 = .ok (.iadd, 1) := dk_row (s := 627) da_L_law_627 8 (by decide +kernel)
theorem dc_L_law_636 : decode code 636 = .ok (.iaload, 1) := dk_row (s := 627) da_L_law_627 9 (by decide +kernel)
theorem dc_L_law_637 : decode code 637 = .ok (.aload_n 3, 1) := dk_row (s := 627) da_L_law_627 10 (by decide +kernel)
theorem dc_L_law_638 : decode code 638 = .ok (.invokestatic 118, 3) := dk_row (s := 627) da_L_law_627 11 (by decide +kernel)
theorem dc_L_law_641 : decode code 641 = .ok (.istore 5, 2) := dk_row (s := 627) da_L_law_627 14 (by decide +kernel)
theorem dc_L_law_643 : decode code 643 = .ok (.aload_n 2, 1) := dk_row (s := 627) da_L_law_627 16 (by decide +kernel)
theorem dc_L_law_644 : decode code 644 = .ok (.aload_n 0, 1) := dk_row (s := 627) da_L_law_627 17 (by decide +kernel)
theorem dc_L_law_645 : decode code 645 = .ok (.iload 4, 2) := dk_row (s := 627) da_L_law_627 18 (by decide +kernel)
theorem dc_L_law_647 : decode code 647 = .ok (.iconst 1, 1) := dk_row (s := 627) da_L_law_627 20 (by decide +kernel)
theorem dc_L_law_648 : decode code 648 = .ok (.iadd, 1) := dk_row (s := 627) da_L_law_627 21 (by decide +kernel)
theorem dc_L_law_649 : decode code 649 = .ok (.iaload, 1) := dk_row (s := 627) da_L_law_627 22 (by decide +kernel)
theorem dc_L_law_650 : decode code 650 = .ok (.invokevirtual 120, 3) := dk_row (s := 627) da_L_law_627 23 (by decide +kernel)
theorem dc_L_law_653 : decode code 653 = .ok (.istore 6, 2) := dk_row (s := 627) da_L_law_627 26 (by decide +kernel)
theorem dc_L_law_655 : decode code 655 = .ok (.aload_n 2, 1) := dk_row (s := 627) da_L_law_627 28 (by decide +kernel)
theorem dc_L_law_656 : decode code 656 = .ok (.invokevirtual 121, 3) := dk_row (s := 627) da_L_law_627 29 (by decide +kernel)
def dw_L_law_659 : ByteArray := .mk #[0x15, 0x05, 0x9f, 0x00, 0x05, 0x03, 0xac, 0x15, 0x05, 0x9a, 0x00, 0x0f, 0x2d, 0x03, 0x2f, 0x15, 0x06, 0x85, 0x94, 0x99, 0x00, 0x05, 0x03, 0xac, 0xa7, 0x00, 0x43]
theorem da_L_law_659 : dkA code dw_L_law_659 659 := by unfold dkA; decide +kernel
theorem dc_L_law_659 : decode code 659 = .ok (.iload 5, 2) := dk_row (s := 659) da_L_law_659 0 (by decide +kernel)
theorem dc_L_law_661 : decode code 661 = .ok (.if_icmp .eq 5, 3) := dk_row (s := 659) da_L_law_659 2 (by decide +kernel)
theorem dc_L_law_666 : decode code 666 = .ok (.iload 5, 2) := dk_row (s := 659) da_L_law_659 7 (by decide +kernel)
theorem dc_L_law_668 : decode code 668 = .ok (.ifCond .ne 15, 3) := dk_row (s := 659) da_L_law_659 9 (by decide +kernel)
theorem dc_L_law_683 : decode code 683 = .ok (.goto 67, 3) := dk_row (s := 659) da_L_law_659 24 (by decide +kernel)
def dw_L_law_671 : ByteArray := .mk #[0x2d, 0x03, 0x2f, 0x15, 0x06, 0x85, 0x94, 0x99, 0x00, 0x05, 0x03]
theorem da_L_law_671 : dkA code dw_L_law_671 671 := by unfold dkA; decide +kernel
theorem dc_L_law_671 : decode code 671 = .ok (.aload_n 3, 1) := dk_row (s := 671) da_L_law_671 0 (by decide +kernel)
theorem dc_L_law_672 : decode code 672 = .ok (.iconst 0, 1) := dk_row (s := 671) da_L_law_671 1 (by decide +kernel)
theorem dc_L_law_673 : decode code 673 = .ok (.laload, 1) := dk_row (s := 671) da_L_law_671 2 (by decide +kernel)
theorem dc_L_law_674 : decode code 674 = .ok (.iload 6, 2) := dk_row (s := 671) da_L_law_671 3 (by decide +kernel)
theorem dc_L_law_676 : decode code 676 = .ok (.i2l, 1) := dk_row (s := 671) da_L_law_671 5 (by decide +kernel)
theorem dc_L_law_677 : decode code 677 = .ok (.lcmp, 1) := dk_row (s := 671) da_L_law_671 6 (by decide +kernel)
theorem dc_L_law_678 : decode code 678 = .ok (.ifCond .eq 5, 3) := dk_row (s := 671) da_L_law_671 7 (by decide +kernel)
theorem dc_L_law_681 : decode code 681 = .ok (.iconst 0, 1) := dk_row (s := 671) da_L_law_671 10 (by decide +kernel)
def dw_L_law_664 : ByteArray := .mk #[0x03, 0xac, 0x15, 0x05, 0x9a, 0x00, 0x0f, 0x2d, 0x03, 0x2f, 0x15, 0x06, 0x85, 0x94, 0x99, 0x00, 0x05, 0x03, 0xac, 0xa7, 0x00, 0x43, 0x2b, 0x2a, 0x15, 0x04, 0x04, 0x60, 0x2e, 0x2d]
theorem da_L_law_664 : dkA code dw_L_law_664 664 := by unfold dkA; decide +kernel
theorem dc_L_law_664 : decode code 664 = .ok (.iconst 0, 1) := dk_row (s := 664) da_L_law_664 0 (by decide +kernel)
theorem dc_L_law_686 : decode code 686 = .ok (.aload_n 1, 1) := dk_row (s := 664) da_L_law_664 22 (by decide +kernel)
theorem dc_L_law_687 : decode code 687 = .ok (.aload_n 0, 1) := dk_row (s := 664) da_L_law_664 23 (by decide +kernel)
theorem dc_L_law_688 : decode code 688 = .ok (.iload 4, 2) := dk_row (s := 664) da_L_law_664 24 (by decide +kernel)
theorem dc_L_law_690 : decode code 690 = .ok (.iconst 1, 1) := dk_row (s := 664) da_L_law_664 26 (by decide +kernel)
theorem dc_L_law_691 : decode code 691 = .ok (.iadd, 1) := dk_row (s := 664) da_L_law_664 27 (by decide +kernel)
theorem dc_L_law_692 : decode code 692 = .ok (.iaload, 1) := dk_row (s := 664) da_L_law_664 28 (by decide +kernel)
theorem dc_L_law_693 : decode code 693 = .ok (.aload_n 3, 1) := dk_row (s := 664) da_L_law_664 29 (by decide +kernel)
def dw_L_law_694 : ByteArray := .mk #[0xb8, 0x00, 0x7c, 0x36, 0x05, 0x2c, 0x2a, 0x15, 0x04, 0x04, 0x60, 0x2e, 0xb6, 0x00, 0x7e, 0x36, 0x06, 0xa7, 0x00, 0x27, 0x2b, 0x2a, 0x15, 0x04, 0x04, 0x60, 0x2e, 0xb6, 0x00, 0x7f]
theorem da_L_law_694 : dkA code dw_L_law_694 694 := by unfold dkA; decide +kernel
theorem dc_L_law_694 : decode code 694 = .ok (.invokestatic 124, 3) := dk_row (s := 694) da_L_law_694 0 (by decide +kernel)
theorem dc_L_law_697 : decode code 697 = .ok (.istore 5, 2) := dk_row (s := 694) da_L_law_694 3 (by decide +kernel)
theorem dc_L_law_699 : decode code 699 = .ok (.aload_n 2, 1) := dk_row (s := 694) da_L_law_694 5 (by decide +kernel)
theorem dc_L_law_700 : decode code 700 = .ok (.aload_n 0, 1) := dk_row (s := 694) da_L_law_694 6 (by decide +kernel)
theorem dc_L_law_701 : decode code 701 = .ok (.iload 4, 2) := dk_row (s := 694) da_L_law_694 7 (by decide +kernel)
theorem dc_L_law_703 : decode code 703 = .ok (.iconst 1, 1) := dk_row (s := 694) da_L_law_694 9 (by decide +kernel)
theorem dc_L_law_704 : decode code 704 = .ok (.iadd, 1) := dk_row (s := 694) da_L_law_694 10 (by decide +kernel)
theorem dc_L_law_705 : decode code 705 = .ok (.iaload, 1) := dk_row (s := 694) da_L_law_694 11 (by decide +kernel)
theorem dc_L_law_706 : decode code 706 = .ok (.invokevirtual 126, 3) := dk_row (s := 694) da_L_law_694 12 (by decide +kernel)
theorem dc_L_law_709 : decode code 709 = .ok (.istore 6, 2) := dk_row (s := 694) da_L_law_694 15 (by decide +kernel)
theorem dc_L_law_711 : decode code 711 = .ok (.goto 39, 3) := dk_row (s := 694) da_L_law_694 17 (by decide +kernel)
theorem dc_L_law_714 : decode code 714 = .ok (.aload_n 1, 1) := dk_row (s := 694) da_L_law_694 20 (by decide +kernel)
theorem dc_L_law_715 : decode code 715 = .ok (.aload_n 0, 1) := dk_row (s := 694) da_L_law_694 21 (by decide +kernel)
theorem dc_L_law_716 : decode code 716 = .ok (.iload 4, 2) := dk_row (s := 694) da_L_law_694 22 (by decide +kernel)
theorem dc_L_law_718 : decode code 718 = .ok (.iconst 1, 1) := dk_row (s := 694) da_L_law_694 24 (by decide +kernel)
theorem dc_L_law_719 : decode code 719 = .ok (.iadd, 1) := dk_row (s := 694) da_L_law_694 25 (by decide +kernel)
theorem dc_L_law_720 : decode code 720 = .ok (.iaload, 1) := dk_row (s := 694) da_L_law_694 26 (by decide +kernel)
theorem dc_L_law_721 : decode code 721 = .ok (.invokevirtual 127, 3) := dk_row (s := 694) da_L_law_694 27 (by decide +kernel)
theorem dc_L_law_724 : decode code 724 = .ok (.pop, 1) := by decide +kernel
def dw_L_law_725 : ByteArray := .mk #[0x2c, 0x2a, 0x15, 0x04, 0x04, 0x60, 0x2e, 0xb6, 0x00, 0x82]
theorem da_L_law_725 : dkA code dw_L_law_725 725 := by unfold dkA; decide +kernel
theorem dc_L_law_725 : decode code 725 = .ok (.aload_n 2, 1) := dk_row (s := 725) da_L_law_725 0 (by decide +kernel)
theorem dc_L_law_726 : decode code 726 = .ok (.aload_n 0, 1) := dk_row (s := 725) da_L_law_725 1 (by decide +kernel)
theorem dc_L_law_727 : decode code 727 = .ok (.iload 4, 2) := dk_row (s := 725) da_L_law_725 2 (by decide +kernel)
theorem dc_L_law_729 : decode code 729 = .ok (.iconst 1, 1) := dk_row (s := 725) da_L_law_725 4 (by decide +kernel)
theorem dc_L_law_730 : decode code 730 = .ok (.iadd, 1) := dk_row (s := 725) da_L_law_725 5 (by decide +kernel)
theorem dc_L_law_731 : decode code 731 = .ok (.iaload, 1) := dk_row (s := 725) da_L_law_725 6 (by decide +kernel)
theorem dc_L_law_732 : decode code 732 = .ok (.invokevirtual 130, 3) := dk_row (s := 725) da_L_law_725 7 (by decide +kernel)
theorem dc_L_law_735 : decode code 735 = .ok (.pop, 1) := by decide +kernel
def dw_L_law_736 : ByteArray := .mk #[0xa7, 0x00, 0x0e, 0x2b, 0xb6, 0x00, 0x83, 0x2c, 0xb6, 0x00, 0x86, 0xa7, 0x00, 0x03]
theorem da_L_law_736 : dkA code dw_L_law_736 736 := by unfold dkA; decide +kernel
theorem dc_L_law_736 : decode code 736 = .ok (.goto 14, 3) := dk_row (s := 736) da_L_law_736 0 (by decide +kernel)
theorem dc_L_law_739 : decode code 739 = .ok (.aload_n 1, 1) := dk_row (s := 736) da_L_law_736 3 (by decide +kernel)
theorem dc_L_law_740 : decode code 740 = .ok (.invokevirtual 131, 3) := dk_row (s := 736) da_L_law_736 4 (by decide +kernel)
theorem dc_L_law_743 : decode code 743 = .ok (.aload_n 2, 1) := dk_row (s := 736) da_L_law_736 7 (by decide +kernel)
theorem dc_L_law_744 : decode code 744 = .ok (.invokevirtual 134, 3) := dk_row (s := 736) da_L_law_736 8 (by decide +kernel)
theorem dc_L_law_747 : decode code 747 = .ok (.goto 3, 3) := dk_row (s := 736) da_L_law_736 11 (by decide +kernel)
def dw_L_law_0 : ByteArray := .mk #[0xbb, 0x00, 0x08, 0x59, 0x2a, 0x03, 0xb8, 0x00, 0x3c, 0x2a, 0x04, 0xb8, 0x00, 0x3c, 0xb7, 0x00, 0x42, 0x4c, 0xbb, 0x00, 0x45, 0x59, 0x2a, 0x03, 0xb8, 0x00, 0x3c, 0x2a, 0x04, 0xb8, 0x00, 0x3c]
theorem da_L_law_0 : dkA code dw_L_law_0 0 := by unfold dkA; decide +kernel
theorem dc_L_law_0 : decode code 0 = .ok (.new 8, 3) := dk_row (s := 0) da_L_law_0 0 (by decide +kernel)
theorem dc_L_law_3 : decode code 3 = .ok (.dup, 1) := dk_row (s := 0) da_L_law_0 3 (by decide +kernel)
theorem dc_L_law_4 : decode code 4 = .ok (.aload_n 0, 1) := dk_row (s := 0) da_L_law_0 4 (by decide +kernel)
theorem dc_L_law_5 : decode code 5 = .ok (.iconst 0, 1) := dk_row (s := 0) da_L_law_0 5 (by decide +kernel)
theorem dc_L_law_6 : decode code 6 = .ok (.invokestatic 60, 3) := dk_row (s := 0) da_L_law_0 6 (by decide +kernel)
theorem dc_L_law_9 : decode code 9 = .ok (.aload_n 0, 1) := dk_row (s := 0) da_L_law_0 9 (by decide +kernel)
theorem dc_L_law_10 : decode code 10 = .ok (.iconst 1, 1) := dk_row (s := 0) da_L_law_0 10 (by decide +kernel)
theorem dc_L_law_11 : decode code 11 = .ok (.invokestatic 60, 3) := dk_row (s := 0) da_L_law_0 11 (by decide +kernel)
theorem dc_L_law_14 : decode code 14 = .ok (.invokespecial 66, 3) := dk_row (s := 0) da_L_law_0 14 (by decide +kernel)
theorem dc_L_law_17 : decode code 17 = .ok (.astore_n 1, 1) := dk_row (s := 0) da_L_law_0 17 (by decide +kernel)
theorem dc_L_law_18 : decode code 18 = .ok (.new 69, 3) := dk_row (s := 0) da_L_law_0 18 (by decide +kernel)
theorem dc_L_law_21 : decode code 21 = .ok (.dup, 1) := dk_row (s := 0) da_L_law_0 21 (by decide +kernel)
theorem dc_L_law_22 : decode code 22 = .ok (.aload_n 0, 1) := dk_row (s := 0) da_L_law_0 22 (by decide +kernel)
theorem dc_L_law_23 : decode code 23 = .ok (.iconst 0, 1) := dk_row (s := 0) da_L_law_0 23 (by decide +kernel)
theorem dc_L_law_24 : decode code 24 = .ok (.invokestatic 60, 3) := dk_row (s := 0) da_L_law_0 24 (by decide +kernel)
theorem dc_L_law_27 : decode code 27 = .ok (.aload_n 0, 1) := dk_row (s := 0) da_L_law_0 27 (by decide +kernel)
theorem dc_L_law_28 : decode code 28 = .ok (.iconst 1, 1) := dk_row (s := 0) da_L_law_0 28 (by decide +kernel)
theorem dc_L_law_29 : decode code 29 = .ok (.invokestatic 60, 3) := dk_row (s := 0) da_L_law_0 29 (by decide +kernel)
theorem dc_L_law_32 : decode code 32 = .ok (.invokespecial 71, 3) := by decide +kernel
theorem dc_L_law_35 : decode code 35 = .ok (.astore_n 2, 1) := by decide +kernel
theorem dc_L_law_36 : decode code 36 = .ok (.iconst 1, 1) := by decide +kernel
theorem dc_L_law_37 : decode code 37 = .ok (.newarray .long, 2) := by decide +kernel
def dw_L_law_39 : ByteArray := .mk #[0x4e, 0x05, 0x36, 0x04, 0x15, 0x04]
theorem da_L_law_39 : dkA code dw_L_law_39 39 := by unfold dkA; decide +kernel
theorem dc_L_law_39 : decode code 39 = .ok (.astore_n 3, 1) := dk_row (s := 39) da_L_law_39 0 (by decide +kernel)
theorem dc_L_law_40 : decode code 40 = .ok (.iconst 2, 1) := dk_row (s := 39) da_L_law_39 1 (by decide +kernel)
theorem dc_L_law_41 : decode code 41 = .ok (.istore 4, 2) := dk_row (s := 39) da_L_law_39 2 (by decide +kernel)
theorem dc_L_law_43 : decode code 43 = .ok (.iload 4, 2) := dk_row (s := 39) da_L_law_39 4 (by decide +kernel)
def dw_L_law_45 : ByteArray := .mk #[0x2a, 0xbe, 0x08, 0x64, 0xa3, 0x02, 0xc3, 0x2a, 0x15, 0x04, 0x2e, 0x10, 0x1f, 0x7e]
theorem da_L_law_45 : dkA code dw_L_law_45 45 := by unfold dkA; decide +kernel
theorem dc_L_law_45 : decode code 45 = .ok (.aload_n 0, 1) := dk_row (s := 45) da_L_law_45 0 (by decide +kernel)
theorem dc_L_law_46 : decode code 46 = .ok (.arraylength, 1) := dk_row (s := 45) da_L_law_45 1 (by decide +kernel)
theorem dc_L_law_47 : decode code 47 = .ok (.iconst 5, 1) := dk_row (s := 45) da_L_law_45 2 (by decide +kernel)
theorem dc_L_law_48 : decode code 48 = .ok (.isub, 1) := dk_row (s := 45) da_L_law_45 3 (by decide +kernel)
theorem dc_L_law_49 : decode code 49 = .ok (.if_icmp .gt 707, 3) := dk_row (s := 45) da_L_law_45 4 (by decide +kernel)
theorem dc_L_law_52 : decode code 52 = .ok (.aload_n 0, 1) := dk_row (s := 45) da_L_law_45 7 (by decide +kernel)
theorem dc_L_law_53 : decode code 53 = .ok (.iload 4, 2) := dk_row (s := 45) da_L_law_45 8 (by decide +kernel)
theorem dc_L_law_55 : decode code 55 = .ok (.iaload, 1) := dk_row (s := 45) da_L_law_45 10 (by decide +kernel)
theorem dc_L_law_56 : decode code 56 = .ok (.bipush 31, 2) := dk_row (s := 45) da_L_law_45 11 (by decide +kernel)
theorem dc_L_law_58 : decode code 58 = .ok (.iand, 1) := dk_row (s := 45) da_L_law_45 13 (by decide +kernel)
theorem dc_L_law_59 : decode code 59 = .ok (.tableswitch 691 0 16 #[81, 145, 185, 237, 301, 329, 357, 370, 398, 438, 478, 518, 558, 571, 627, 655, 680], 81) := by decide +kernel
theorem dc_L_law_665 : decode code 665 = .ok (.ireturn, 1) := by decide +kernel
theorem dc_L_law_682 : decode code 682 = .ok (.ireturn, 1) := by decide +kernel
def dw_L_law_750 : ByteArray := .mk #[0x84, 0x04, 0x05, 0xa7, 0xfd, 0x3a, 0x04, 0xac]
theorem da_L_law_750 : dkA code dw_L_law_750 750 := by unfold dkA; decide +kernel
theorem dc_L_law_750 : decode code 750 = .ok (.iinc 4 5, 3) := dk_row (s := 750) da_L_law_750 0 (by decide +kernel)
theorem dc_L_law_753 : decode code 753 = .ok (.goto (-710), 3) := dk_row (s := 750) da_L_law_750 3 (by decide +kernel)
theorem dc_L_law_756 : decode code 756 = .ok (.iconst 1, 1) := dk_row (s := 750) da_L_law_750 6 (by decide +kernel)
theorem dc_L_law_757 : decode code 757 = .ok (.ireturn, 1) := dk_row (s := 750) da_L_law_750 7 (by decide +kernel)
