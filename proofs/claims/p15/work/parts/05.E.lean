set_option maxRecDepth 16384 in
theorem wi_obj : Cond.instanceMethod Lib.objectInit ∈ ax_tb := tx_1 (i := 21) rfl rfl
set_option maxRecDepth 16384 in
theorem wc_obj : Cond.code Lib.objectInit ⟨#[0xb1]⟩ 1 none ∈ ax_tb := tx_1 (i := 22) rfl rfl
set_option maxRecDepth 16384 in
theorem wa_int : Cond.arrayClass .int ∈ ax_tb := tx_1 (i := 51) rfl rfl
set_option maxRecDepth 16384 in
theorem wa_long : Cond.arrayClass .long ∈ ax_tb := tx_4 (i := 146) rfl rfl
set_option maxRecDepth 16384 in
theorem wl_N_1 : Cond.methodLink "LossFreeTools$Note" 1 Lib.objectInit ∈ ax_tb := tx_1 (i := 101) rfl rfl
set_option maxRecDepth 16384 in
theorem wl_P_3 : Cond.methodLink "LossFreeTools$Picture" 3 Lib.objectInit ∈ ax_tb := tx_1 (i := 57) rfl rfl
set_option maxRecDepth 16384 in
theorem wq_P_9 : Cond.classLink "LossFreeTools$Picture" 9 "LossFreeTools$Tile" ∈ ax_tb := tx_1 (i := 58) rfl rfl
set_option maxRecDepth 16384 in
theorem wz_T : Cond.instantiable "LossFreeTools$Tile" 7 ∈ ax_tb := tx_1 (i := 60) rfl rfl
set_option maxRecDepth 16384 in
theorem wc_T_init : Cond.code y_T_init b_T_init 1 none ∈ ax_tb := tx_1 (i := 63) rfl rfl
set_option maxRecDepth 16384 in
theorem wi_T_init : Cond.instanceMethod y_T_init ∈ ax_tb := tx_1 (i := 62) rfl rfl
set_option maxRecDepth 16384 in
theorem wl_P_17 : Cond.methodLink "LossFreeTools$Picture" 17 y_T_init ∈ ax_tb := tx_1 (i := 61) rfl rfl
set_option maxRecDepth 16384 in
theorem wq_P_18 : Cond.classLink "LossFreeTools$Picture" 18 "LossFreeTools$Note" ∈ ax_tb := tx_1 (i := 95) rfl rfl
set_option maxRecDepth 16384 in
theorem wz_N : Cond.instantiable "LossFreeTools$Note" 3 ∈ ax_tb := tx_1 (i := 97) rfl rfl
set_option maxRecDepth 16384 in
theorem wc_N_init : Cond.code y_N_init b_N_init 1 none ∈ ax_tb := tx_1 (i := 100) rfl rfl
set_option maxRecDepth 16384 in
theorem wi_N_init : Cond.instanceMethod y_N_init ∈ ax_tb := tx_1 (i := 99) rfl rfl
set_option maxRecDepth 16384 in
theorem wl_S_3 : Cond.methodLink "LossFreeTools$Stream" 3 Lib.objectInit ∈ ax_tb := tx_1 (i := 37) rfl rfl
set_option maxRecDepth 16384 in
theorem wl_T_3 : Cond.methodLink "LossFreeTools$Tile" 3 Lib.objectInit ∈ ax_tb := tx_1 (i := 64) rfl rfl
set_option maxRecDepth 16384 in
theorem wl_K_3 : Cond.methodLink "LossFreeTools" 3 Lib.objectInit ∈ ax_tb := tx_1 (i := 20) rfl rfl
set_option maxRecDepth 16384 in
theorem wc_K_nearestFirstSize : Cond.code y_K_nearestFirstSize b_K_nearestFirstSize 1 (some .int) ∈ ax_tb := tx_1 (i := 25) rfl rfl
set_option maxRecDepth 16384 in
theorem wl_K_9 : Cond.methodLink "LossFreeTools" 9 y_K_nearestFirstSize ∈ ax_tb := tx_1 (i := 23) rfl rfl
set_option maxRecDepth 16384 in
theorem wt_K_nearestFirstSize : Cond.static y_K_nearestFirstSize ∈ ax_tb := tx_1 (i := 24) rfl rfl
set_option maxRecDepth 16384 in
theorem wq_K_20 : Cond.classLink "LossFreeTools" 20 "LossFreeTools$Stream" ∈ ax_tb := tx_1 (i := 32) rfl rfl
set_option maxRecDepth 16384 in
theorem wz_S : Cond.instantiable "LossFreeTools$Stream" 3 ∈ ax_tb := tx_1 (i := 33) rfl rfl
set_option maxRecDepth 16384 in
theorem wc_S_init : Cond.code y_S_init b_S_init 1 none ∈ ax_tb := tx_1 (i := 36) rfl rfl
set_option maxRecDepth 16384 in
theorem wi_S_init : Cond.instanceMethod y_S_init ∈ ax_tb := tx_1 (i := 35) rfl rfl
set_option maxRecDepth 16384 in
theorem wl_K_22 : Cond.methodLink "LossFreeTools" 22 y_S_init ∈ ax_tb := tx_1 (i := 34) rfl rfl
set_option maxRecDepth 16384 in
theorem wq_K_31 : Cond.classLink "LossFreeTools" 31 "LossFreeTools$Picture" ∈ ax_tb := tx_1 (i := 52) rfl rfl
set_option maxRecDepth 16384 in
theorem wz_P : Cond.instantiable "LossFreeTools$Picture" 6 ∈ ax_tb := tx_1 (i := 53) rfl rfl
set_option maxRecDepth 16384 in
theorem wc_P_init : Cond.code y_P_init b_P_init 4 none ∈ ax_tb := tx_1 (i := 56) rfl rfl
set_option maxRecDepth 16384 in
theorem wi_P_init : Cond.instanceMethod y_P_init ∈ ax_tb := tx_1 (i := 55) rfl rfl
set_option maxRecDepth 16384 in
theorem wl_K_33 : Cond.methodLink "LossFreeTools" 33 y_P_init ∈ ax_tb := tx_1 (i := 54) rfl rfl
set_option maxRecDepth 16384 in
theorem wl_M_1 : Cond.methodLink "LossFreeToolsModel" 1 Lib.objectInit ∈ ax_tb := tx_3 (i := 171) rfl rfl
set_option maxRecDepth 16384 in
theorem wc_M_clear : Cond.code y_M_clear b_M_clear 2 none ∈ ax_tb := tx_3 (i := 175) rfl rfl
set_option maxRecDepth 16384 in
theorem wl_M_65 : Cond.methodLink "LossFreeToolsModel" 65 y_M_clear ∈ ax_tb := tx_3 (i := 172) rfl rfl
set_option maxRecDepth 16384 in
theorem wi_M_clear : Cond.instanceMethod y_M_clear ∈ ax_tb := tx_3 (i := 173) rfl rfl
set_option maxRecDepth 16384 in
theorem ws_M_clear : Cond.selects "LossFreeToolsModel" y_M_clear y_M_clear ∈ ax_tb := tx_3 (i := 174) rfl rfl
theorem mt_T_init : ax_mt y_T_init b_T_init 1 none 0 := ⟨wc_T_init, wn_LossFreeTools_Tile, by decide +kernel, by decide +kernel, by decide +kernel⟩
theorem mt_N_init : ax_mt y_N_init b_N_init 1 none 0 := ⟨wc_N_init, wn_LossFreeTools_Note, by decide +kernel, by decide +kernel, by decide +kernel⟩
theorem mt_K_nearestFirstSize : ax_mt y_K_nearestFirstSize b_K_nearestFirstSize 1 (some .int) 1 := ⟨wc_K_nearestFirstSize, wn_LossFreeTools, by decide +kernel, by decide +kernel, by decide +kernel⟩
theorem mt_S_init : ax_mt y_S_init b_S_init 1 none 0 := ⟨wc_S_init, wn_LossFreeTools_Stream, by decide +kernel, by decide +kernel, by decide +kernel⟩
theorem mt_P_init : ax_mt y_P_init b_P_init 4 none 2 := ⟨wc_P_init, wn_LossFreeTools_Picture, by decide +kernel, by decide +kernel, by decide +kernel⟩
theorem mt_M_clear : ax_mt y_M_clear b_M_clear 2 none 0 := ⟨wc_M_clear, wn_LossFreeToolsModel, by decide +kernel, by decide +kernel, by decide +kernel⟩
theorem dc_N_init_0 : decode b_N_init 0 = .ok (.aload_n 0, 1) := by decide +kernel
theorem dc_N_init_1 : decode b_N_init 1 = .ok (.invokespecial 1, 3) := by decide +kernel
theorem dc_N_init_4 : decode b_N_init 4 = .ok (.return_, 1) := by decide +kernel
theorem dc_P_init_0 : decode b_P_init 0 = .ok (.aload_n 0, 1) := by decide +kernel
theorem dc_P_init_1 : decode b_P_init 1 = .ok (.invokespecial 3, 3) := by decide +kernel
theorem dc_P_init_4 : decode b_P_init 4 = .ok (.aload_n 0, 1) := by decide +kernel
theorem dc_P_init_5 : decode b_P_init 5 = .ok (.bipush 40, 2) := by decide +kernel
theorem dc_P_init_7 : decode b_P_init 7 = .ok (.anewarray 9, 3) := by decide +kernel
theorem dc_P_init_10 : decode b_P_init 10 = .ok (.putfield 11, 3) := by decide +kernel
theorem dc_P_init_13 : decode b_P_init 13 = .ok (.iconst 0, 1) := by decide +kernel
theorem dc_P_init_14 : decode b_P_init 14 = .ok (.istore_n 3, 1) := by decide +kernel
theorem dc_P_init_15 : decode b_P_init 15 = .ok (.iload_n 3, 1) := by decide +kernel
theorem dc_P_init_16 : decode b_P_init 16 = .ok (.bipush 40, 2) := by decide +kernel
theorem dc_P_init_18 : decode b_P_init 18 = .ok (.if_icmp .ge 22, 3) := by decide +kernel
theorem dc_P_init_21 : decode b_P_init 21 = .ok (.aload_n 0, 1) := by decide +kernel
theorem dc_P_init_22 : decode b_P_init 22 = .ok (.getfield 11, 3) := by decide +kernel
theorem dc_P_init_25 : decode b_P_init 25 = .ok (.iload_n 3, 1) := by decide +kernel
theorem dc_P_init_26 : decode b_P_init 26 = .ok (.new 9, 3) := by decide +kernel
theorem dc_P_init_29 : decode b_P_init 29 = .ok (.dup, 1) := by decide +kernel
theorem dc_P_init_30 : decode b_P_init 30 = .ok (.invokespecial 17, 3) := by decide +kernel
theorem dc_P_init_33 : decode b_P_init 33 = .ok (.aastore, 1) := by decide +kernel
theorem dc_P_init_34 : decode b_P_init 34 = .ok (.iinc 3 1, 3) := by decide +kernel
theorem dc_P_init_37 : decode b_P_init 37 = .ok (.goto (-22), 3) := by decide +kernel
theorem dc_P_init_40 : decode b_P_init 40 = .ok (.aload_n 0, 1) := by decide +kernel
theorem dc_P_init_41 : decode b_P_init 41 = .ok (.bipush 20, 2) := by decide +kernel
theorem dc_P_init_43 : decode b_P_init 43 = .ok (.anewarray 18, 3) := by decide +kernel
theorem dc_P_init_46 : decode b_P_init 46 = .ok (.putfield 20, 3) := by decide +kernel
theorem dc_P_init_49 : decode b_P_init 49 = .ok (.iconst 0, 1) := by decide +kernel
theorem dc_P_init_50 : decode b_P_init 50 = .ok (.istore_n 3, 1) := by decide +kernel
theorem dc_P_init_51 : decode b_P_init 51 = .ok (.iload_n 3, 1) := by decide +kernel
theorem dc_P_init_52 : decode b_P_init 52 = .ok (.bipush 20, 2) := by decide +kernel
theorem dc_P_init_54 : decode b_P_init 54 = .ok (.if_icmp .ge 22, 3) := by decide +kernel
theorem dc_P_init_57 : decode b_P_init 57 = .ok (.aload_n 0, 1) := by decide +kernel
theorem dc_P_init_58 : decode b_P_init 58 = .ok (.getfield 20, 3) := by decide +kernel
theorem dc_P_init_61 : decode b_P_init 61 = .ok (.iload_n 3, 1) := by decide +kernel
theorem dc_P_init_62 : decode b_P_init 62 = .ok (.new 18, 3) := by decide +kernel
theorem dc_P_init_65 : decode b_P_init 65 = .ok (.dup, 1) := by decide +kernel
theorem dc_P_init_66 : decode b_P_init 66 = .ok (.invokespecial 24, 3) := by decide +kernel
theorem dc_P_init_69 : decode b_P_init 69 = .ok (.aastore, 1) := by decide +kernel
theorem dc_P_init_70 : decode b_P_init 70 = .ok (.iinc 3 1, 3) := by decide +kernel
theorem dc_P_init_73 : decode b_P_init 73 = .ok (.goto (-22), 3) := by decide +kernel
theorem dc_P_init_76 : decode b_P_init 76 = .ok (.aload_n 0, 1) := by decide +kernel
theorem dc_P_init_77 : decode b_P_init 77 = .ok (.iload_n 1, 1) := by decide +kernel
theorem dc_P_init_78 : decode b_P_init 78 = .ok (.putfield 25, 3) := by decide +kernel
theorem dc_P_init_81 : decode b_P_init 81 = .ok (.aload_n 0, 1) := by decide +kernel
theorem dc_P_init_82 : decode b_P_init 82 = .ok (.iload_n 2, 1) := by decide +kernel
theorem dc_P_init_83 : decode b_P_init 83 = .ok (.putfield 29, 3) := by decide +kernel
theorem dc_P_init_86 : decode b_P_init 86 = .ok (.return_, 1) := by decide +kernel
theorem dc_S_init_0 : decode b_S_init 0 = .ok (.aload_n 0, 1) := by decide +kernel
theorem dc_S_init_1 : decode b_S_init 1 = .ok (.invokespecial 3, 3) := by decide +kernel
theorem dc_S_init_4 : decode b_S_init 4 = .ok (.aload_n 0, 1) := by decide +kernel
theorem dc_S_init_5 : decode b_S_init 5 = .ok (.sipush 1148, 3) := by decide +kernel
theorem dc_S_init_8 : decode b_S_init 8 = .ok (.newarray .int, 2) := by decide +kernel
theorem dc_S_init_10 : decode b_S_init 10 = .ok (.putfield 9, 3) := by decide +kernel
theorem dc_S_init_13 : decode b_S_init 13 = .ok (.return_, 1) := by decide +kernel
theorem dc_T_init_0 : decode b_T_init 0 = .ok (.aload_n 0, 1) := by decide +kernel
theorem dc_T_init_1 : decode b_T_init 1 = .ok (.invokespecial 3, 3) := by decide +kernel
theorem dc_T_init_4 : decode b_T_init 4 = .ok (.aload_n 0, 1) := by decide +kernel
theorem dc_T_init_5 : decode b_T_init 5 = .ok (.bipush 12, 2) := by decide +kernel
theorem dc_T_init_7 : decode b_T_init 7 = .ok (.newarray .int, 2) := by decide +kernel
theorem dc_T_init_9 : decode b_T_init 9 = .ok (.putfield 9, 3) := by decide +kernel
theorem dc_T_init_12 : decode b_T_init 12 = .ok (.return_, 1) := by decide +kernel
theorem dc_K_init_0 : decode b_K_init 0 = .ok (.aload_n 0, 1) := by decide +kernel
theorem dc_K_init_1 : decode b_K_init 1 = .ok (.invokespecial 3, 3) := by decide +kernel
theorem dc_K_init_4 : decode b_K_init 4 = .ok (.aload_n 0, 1) := by decide +kernel
theorem dc_K_init_5 : decode b_K_init 5 = .ok (.iload_n 1, 1) := by decide +kernel
theorem dc_K_init_6 : decode b_K_init 6 = .ok (.invokestatic 9, 3) := by decide +kernel
theorem dc_K_init_9 : decode b_K_init 9 = .ok (.putfield 13, 3) := by decide +kernel
theorem dc_K_init_12 : decode b_K_init 12 = .ok (.aload_n 0, 1) := by decide +kernel
theorem dc_K_init_13 : decode b_K_init 13 = .ok (.iload_n 2, 1) := by decide +kernel
theorem dc_K_init_14 : decode b_K_init 14 = .ok (.invokestatic 9, 3) := by decide +kernel
theorem dc_K_init_17 : decode b_K_init 17 = .ok (.putfield 17, 3) := by decide +kernel
theorem dc_K_init_20 : decode b_K_init 20 = .ok (.aload_n 0, 1) := by decide +kernel
theorem dc_K_init_21 : decode b_K_init 21 = .ok (.new 20, 3) := by decide +kernel
theorem dc_K_init_24 : decode b_K_init 24 = .ok (.dup, 1) := by decide +kernel
theorem dc_K_init_25 : decode b_K_init 25 = .ok (.invokespecial 22, 3) := by decide +kernel
theorem dc_K_init_28 : decode b_K_init 28 = .ok (.putfield 23, 3) := by decide +kernel
theorem dc_K_init_31 : decode b_K_init 31 = .ok (.aload_n 0, 1) := by decide +kernel
theorem dc_K_init_32 : decode b_K_init 32 = .ok (.iconst 4, 1) := by decide +kernel
theorem dc_K_init_33 : decode b_K_init 33 = .ok (.newarray .int, 2) := by decide +kernel
theorem dc_K_init_35 : decode b_K_init 35 = .ok (.putfield 27, 3) := by decide +kernel
theorem dc_K_init_38 : decode b_K_init 38 = .ok (.aload_n 0, 1) := by decide +kernel
theorem dc_K_init_39 : decode b_K_init 39 = .ok (.new 31, 3) := by decide +kernel
theorem dc_K_init_42 : decode b_K_init 42 = .ok (.dup, 1) := by decide +kernel
theorem dc_K_init_43 : decode b_K_init 43 = .ok (.aload_n 0, 1) := by decide +kernel
theorem dc_K_init_44 : decode b_K_init 44 = .ok (.getfield 13, 3) := by decide +kernel
theorem dc_K_init_47 : decode b_K_init 47 = .ok (.aload_n 0, 1) := by decide +kernel
theorem dc_K_init_48 : decode b_K_init 48 = .ok (.getfield 17, 3) := by decide +kernel
theorem dc_K_init_51 : decode b_K_init 51 = .ok (.invokespecial 33, 3) := by decide +kernel
theorem dc_K_init_54 : decode b_K_init 54 = .ok (.putfield 36, 3) := by decide +kernel
theorem dc_K_init_57 : decode b_K_init 57 = .ok (.aload_n 0, 1) := by decide +kernel
theorem dc_K_init_58 : decode b_K_init 58 = .ok (.new 31, 3) := by decide +kernel
theorem dc_K_init_61 : decode b_K_init 61 = .ok (.dup, 1) := by decide +kernel
theorem dc_K_init_62 : decode b_K_init 62 = .ok (.aload_n 0, 1) := by decide +kernel
theorem dc_K_init_63 : decode b_K_init 63 = .ok (.getfield 13, 3) := by decide +kernel
theorem dc_K_init_66 : decode b_K_init 66 = .ok (.aload_n 0, 1) := by decide +kernel
theorem dc_K_init_67 : decode b_K_init 67 = .ok (.getfield 17, 3) := by decide +kernel
theorem dc_K_init_70 : decode b_K_init 70 = .ok (.invokespecial 33, 3) := by decide +kernel
theorem dc_K_init_73 : decode b_K_init 73 = .ok (.putfield 40, 3) := by decide +kernel
theorem dc_K_init_76 : decode b_K_init 76 = .ok (.aload_n 0, 1) := by decide +kernel
theorem dc_K_init_77 : decode b_K_init 77 = .ok (.iconst 0, 1) := by decide +kernel
theorem dc_K_init_78 : decode b_K_init 78 = .ok (.putfield 43, 3) := by decide +kernel
theorem dc_K_init_81 : decode b_K_init 81 = .ok (.aload_n 0, 1) := by decide +kernel
theorem dc_K_init_82 : decode b_K_init 82 = .ok (.iconst 0, 1) := by decide +kernel
theorem dc_K_init_83 : decode b_K_init 83 = .ok (.putfield 46, 3) := by decide +kernel
theorem dc_K_init_86 : decode b_K_init 86 = .ok (.return_, 1) := by decide +kernel
theorem dc_M_init_0 : decode b_M_init 0 = .ok (.aload_n 0, 1) := by decide +kernel
theorem dc_M_init_1 : decode b_M_init 1 = .ok (.invokespecial 1, 3) := by decide +kernel
theorem dc_M_init_4 : decode b_M_init 4 = .ok (.aload_n 0, 1) := by decide +kernel
theorem dc_M_init_5 : decode b_M_init 5 = .ok (.iconst 2, 1) := by decide +kernel
theorem dc_M_init_6 : decode b_M_init 6 = .ok (.newarray .int, 2) := by decide +kernel
theorem dc_M_init_8 : decode b_M_init 8 = .ok (.putfield 7, 3) := by decide +kernel
theorem dc_M_init_11 : decode b_M_init 11 = .ok (.aload_n 0, 1) := by decide +kernel
theorem dc_M_init_12 : decode b_M_init 12 = .ok (.iconst 2, 1) := by decide +kernel
theorem dc_M_init_13 : decode b_M_init 13 = .ok (.newarray .int, 2) := by decide +kernel
theorem dc_M_init_15 : decode b_M_init 15 = .ok (.putfield 13, 3) := by decide +kernel
theorem dc_M_init_18 : decode b_M_init 18 = .ok (.aload_n 0, 1) := by decide +kernel
theorem dc_M_init_19 : decode b_M_init 19 = .ok (.iconst 2, 1) := by decide +kernel
theorem dc_M_init_20 : decode b_M_init 20 = .ok (.newarray .int, 2) := by decide +kernel
theorem dc_M_init_22 : decode b_M_init 22 = .ok (.putfield 16, 3) := by decide +kernel
theorem dc_M_init_25 : decode b_M_init 25 = .ok (.aload_n 0, 1) := by decide +kernel
theorem dc_M_init_26 : decode b_M_init 26 = .ok (.iconst 2, 1) := by decide +kernel
theorem dc_M_init_27 : decode b_M_init 27 = .ok (.newarray .int, 2) := by decide +kernel
theorem dc_M_init_29 : decode b_M_init 29 = .ok (.putfield 19, 3) := by decide +kernel
theorem dc_M_init_32 : decode b_M_init 32 = .ok (.aload_n 0, 1) := by decide +kernel
theorem dc_M_init_33 : decode b_M_init 33 = .ok (.bipush 80, 2) := by decide +kernel
theorem dc_M_init_35 : decode b_M_init 35 = .ok (.newarray .int, 2) := by decide +kernel
theorem dc_M_init_37 : decode b_M_init 37 = .ok (.putfield 22, 3) := by decide +kernel
theorem dc_M_init_40 : decode b_M_init 40 = .ok (.aload_n 0, 1) := by decide +kernel
theorem dc_M_init_41 : decode b_M_init 41 = .ok (.bipush 80, 2) := by decide +kernel
theorem dc_M_init_43 : decode b_M_init 43 = .ok (.newarray .int, 2) := by decide +kernel
theorem dc_M_init_45 : decode b_M_init 45 = .ok (.putfield 25, 3) := by decide +kernel
theorem dc_M_init_48 : decode b_M_init 48 = .ok (.aload_n 0, 1) := by decide +kernel
theorem dc_M_init_49 : decode b_M_init 49 = .ok (.bipush 80, 2) := by decide +kernel
theorem dc_M_init_51 : decode b_M_init 51 = .ok (.newarray .int, 2) := by decide +kernel
theorem dc_M_init_53 : decode b_M_init 53 = .ok (.putfield 28, 3) := by decide +kernel
theorem dc_M_init_56 : decode b_M_init 56 = .ok (.aload_n 0, 1) := by decide +kernel
theorem dc_M_init_57 : decode b_M_init 57 = .ok (.bipush 80, 2) := by decide +kernel
theorem dc_M_init_59 : decode b_M_init 59 = .ok (.newarray .int, 2) := by decide +kernel
theorem dc_M_init_61 : decode b_M_init 61 = .ok (.putfield 31, 3) := by decide +kernel
theorem dc_M_init_64 : decode b_M_init 64 = .ok (.aload_n 0, 1) := by decide +kernel
theorem dc_M_init_65 : decode b_M_init 65 = .ok (.bipush 80, 2) := by decide +kernel
theorem dc_M_init_67 : decode b_M_init 67 = .ok (.newarray .int, 2) := by decide +kernel
theorem dc_M_init_69 : decode b_M_init 69 = .ok (.putfield 34, 3) := by decide +kernel
theorem dc_M_init_72 : decode b_M_init 72 = .ok (.aload_n 0, 1) := by decide +kernel
theorem dc_M_init_73 : decode b_M_init 73 = .ok (.bipush 80, 2) := by decide +kernel
theorem dc_M_init_75 : decode b_M_init 75 = .ok (.newarray .int, 2) := by decide +kernel
theorem dc_M_init_77 : decode b_M_init 77 = .ok (.putfield 37, 3) := by decide +kernel
theorem dc_M_init_80 : decode b_M_init 80 = .ok (.aload_n 0, 1) := by decide +kernel
theorem dc_M_init_81 : decode b_M_init 81 = .ok (.sipush 960, 3) := by decide +kernel
theorem dc_M_init_84 : decode b_M_init 84 = .ok (.newarray .int, 2) := by decide +kernel
theorem dc_M_init_86 : decode b_M_init 86 = .ok (.putfield 40, 3) := by decide +kernel
theorem dc_M_init_89 : decode b_M_init 89 = .ok (.aload_n 0, 1) := by decide +kernel
theorem dc_M_init_90 : decode b_M_init 90 = .ok (.bipush 40, 2) := by decide +kernel
theorem dc_M_init_92 : decode b_M_init 92 = .ok (.newarray .int, 2) := by decide +kernel
theorem dc_M_init_94 : decode b_M_init 94 = .ok (.putfield 43, 3) := by decide +kernel
theorem dc_M_init_97 : decode b_M_init 97 = .ok (.aload_n 0, 1) := by decide +kernel
theorem dc_M_init_98 : decode b_M_init 98 = .ok (.bipush 40, 2) := by decide +kernel
theorem dc_M_init_100 : decode b_M_init 100 = .ok (.newarray .int, 2) := by decide +kernel
theorem dc_M_init_102 : decode b_M_init 102 = .ok (.putfield 46, 3) := by decide +kernel
theorem dc_M_init_105 : decode b_M_init 105 = .ok (.aload_n 0, 1) := by decide +kernel
theorem dc_M_init_106 : decode b_M_init 106 = .ok (.bipush 40, 2) := by decide +kernel
theorem dc_M_init_108 : decode b_M_init 108 = .ok (.newarray .int, 2) := by decide +kernel
theorem dc_M_init_110 : decode b_M_init 110 = .ok (.putfield 49, 3) := by decide +kernel
theorem dc_M_init_113 : decode b_M_init 113 = .ok (.aload_n 0, 1) := by decide +kernel
theorem dc_M_init_114 : decode b_M_init 114 = .ok (.iconst 4, 1) := by decide +kernel
theorem dc_M_init_115 : decode b_M_init 115 = .ok (.newarray .int, 2) := by decide +kernel
theorem dc_M_init_117 : decode b_M_init 117 = .ok (.putfield 52, 3) := by decide +kernel
theorem dc_M_init_120 : decode b_M_init 120 = .ok (.aload_n 0, 1) := by decide +kernel
theorem dc_M_init_121 : decode b_M_init 121 = .ok (.sipush 1200, 3) := by decide +kernel
theorem dc_M_init_124 : decode b_M_init 124 = .ok (.newarray .int, 2) := by decide +kernel
theorem dc_M_init_126 : decode b_M_init 126 = .ok (.putfield 55, 3) := by decide +kernel
theorem dc_M_init_129 : decode b_M_init 129 = .ok (.aload_n 0, 1) := by decide +kernel
theorem dc_M_init_130 : decode b_M_init 130 = .ok (.iload_n 1, 1) := by decide +kernel
theorem dc_M_init_131 : decode b_M_init 131 = .ok (.iconst 1, 1) := by decide +kernel
theorem dc_M_init_132 : decode b_M_init 132 = .ok (.if_icmp .ge 7, 3) := by decide +kernel
theorem dc_M_init_135 : decode b_M_init 135 = .ok (.iconst 1, 1) := by decide +kernel
theorem dc_M_init_136 : decode b_M_init 136 = .ok (.goto 17, 3) := by decide +kernel
theorem dc_M_init_139 : decode b_M_init 139 = .ok (.iload_n 1, 1) := by decide +kernel
theorem dc_M_init_140 : decode b_M_init 140 = .ok (.sipush 200, 3) := by decide +kernel
theorem dc_M_init_143 : decode b_M_init 143 = .ok (.if_icmp .le 9, 3) := by decide +kernel
theorem dc_M_init_146 : decode b_M_init 146 = .ok (.sipush 200, 3) := by decide +kernel
theorem dc_M_init_149 : decode b_M_init 149 = .ok (.goto 4, 3) := by decide +kernel
theorem dc_M_init_152 : decode b_M_init 152 = .ok (.iload_n 1, 1) := by decide +kernel
theorem dc_M_init_153 : decode b_M_init 153 = .ok (.putfield 58, 3) := by decide +kernel
theorem dc_M_init_156 : decode b_M_init 156 = .ok (.aload_n 0, 1) := by decide +kernel
theorem dc_M_init_157 : decode b_M_init 157 = .ok (.iload_n 2, 1) := by decide +kernel
theorem dc_M_init_158 : decode b_M_init 158 = .ok (.iconst 1, 1) := by decide +kernel
theorem dc_M_init_159 : decode b_M_init 159 = .ok (.if_icmp .ge 7, 3) := by decide +kernel
theorem dc_M_init_162 : decode b_M_init 162 = .ok (.iconst 1, 1) := by decide +kernel
theorem dc_M_init_163 : decode b_M_init 163 = .ok (.goto 17, 3) := by decide +kernel
theorem dc_M_init_166 : decode b_M_init 166 = .ok (.iload_n 2, 1) := by decide +kernel
theorem dc_M_init_167 : decode b_M_init 167 = .ok (.sipush 200, 3) := by decide +kernel
theorem dc_M_init_170 : decode b_M_init 170 = .ok (.if_icmp .le 9, 3) := by decide +kernel
theorem dc_M_init_173 : decode b_M_init 173 = .ok (.sipush 200, 3) := by decide +kernel
theorem dc_M_init_176 : decode b_M_init 176 = .ok (.goto 4, 3) := by decide +kernel
theorem dc_M_init_179 : decode b_M_init 179 = .ok (.iload_n 2, 1) := by decide +kernel
theorem dc_M_init_180 : decode b_M_init 180 = .ok (.putfield 62, 3) := by decide +kernel
theorem dc_M_init_183 : decode b_M_init 183 = .ok (.aload_n 0, 1) := by decide +kernel
theorem dc_M_init_184 : decode b_M_init 184 = .ok (.invokevirtual 65, 3) := by decide +kernel
theorem dc_M_init_187 : decode b_M_init 187 = .ok (.return_, 1) := by decide +kernel
/-! constructors -/
def ax_bl (I : ax_I) (R : ax_R) (L : ax_L) (i : Nat) : Prop := (∀ k, I i k = 0) ∧ (∀ k, R i k = none) ∧ ∀ k, L i k = 0
theorem ax_row_id {α : Type} {f : Nat → Nat → α} {i : Nat} {v : α} (h : ∀ k, f i k = v) : ax_row f i v = f := by
  funext a b
  unfold ax_row
  split
  · rename_i e
    rw [e, h b]
  · rfl
section AXC
variable {X : ax_X} {l : Launch} {own : String} {cc : ByteArray} {nL : Nat} {rm : Room} {pc q : Nat} {ls ls' : ax_Ls} {st : List Value} {S : ax_S} {I I' : ax_I} {R R' : ax_R} {L : ax_L} {cs ss mc ms : Nat}
theorem ax_newB (h : ax_ok X l own cc nL rm) {idx ci N c1 s1 : Nat} {w : vw_C} {S' : ax_S} (i : Nat) (hd : decode cc pc = .ok (.new idx, 3)) (hq : pc + 3 = q) (hci : ax_cl[ci]? = some w) (hN : w.2.2 = N) (hw1 : Cond.classLink own idx w.1 ∈ ax_tb) (hw2 : Cond.instantiable w.1 w.2.2 ∈ ax_tb) (hw3 : Cond.initialized w.1 ∈ ax_tb) (hi : S i = none) (hb : ax_bl I R L i) (hcs : cs + 1 ≤ rm.cells) (hss : ss + N ≤ rm.slots) (hS : ax_add S i (.inl ci) = S') (hc1 : cs + 1 = c1) (hs1 : ss + N = s1)
    (kk : ax_W X nL q ls (.ref i :: st) S' I R L c1 s1) : ax_W X nL pc ls st S I R L cs ss := by
  subst hS; subst hc1; subst hs1
  refine ax_new h i hd hq hci hN hw1 hw2 hw3 hi hcs hss ?_
  rw [ax_row_id hb.1, ax_row_id hb.2.1, ax_row_id hb.2.2]
  exact kk
theorem ax_newaB (h : ax_ok X l own cc nL rm) {len c1 s1 : Nat} {x : Int32} {S' : ax_S} (i : Nat) (hd : decode cc pc = .ok (.newarray .int, 2)) (hq : pc + 2 = q) (hi : S i = none) (hb : ax_bl I R L i) (hx0 : x = nI len) (hlen : len < 100000) (hcs : cs + 1 ≤ rm.cells) (hss : ss + len ≤ rm.slots) (hS : ax_add S i (.inr (0, len)) = S') (hc1 : cs + 1 = c1) (hs1 : ss + len = s1)
    (kk : ax_W X nL q ls (.ref i :: st) S' I R L c1 s1) : ax_W X nL pc ls (.int x :: st) S I R L cs ss := by
  subst hS; subst hc1; subst hs1
  refine ax_newa h i hd hq rfl ax_ar_0 (Or.inl rfl) wa_int hi hx0 hlen hcs hss ?_
  rw [ax_row_id hb.1, ax_row_id hb.2.1, ax_row_id hb.2.2]
  exact kk
theorem ax_newlB (h : ax_ok X l own cc nL rm) {len c1 s1 : Nat} {x : Int32} {S' : ax_S} (i : Nat) (hd : decode cc pc = .ok (.newarray .long, 2)) (hq : pc + 2 = q) (hi : S i = none) (hb : ax_bl I R L i) (hx0 : x = nI len) (hlen : len < 100000) (hcs : cs + 1 ≤ rm.cells) (hss : ss + len ≤ rm.slots) (hS : ax_add S i (.inr (1, len)) = S') (hc1 : cs + 1 = c1) (hs1 : ss + len = s1)
    (kk : ax_W X nL q ls (.ref i :: st) S' I R L c1 s1) : ax_W X nL pc ls (.int x :: st) S I R L cs ss := by
  subst hS; subst hc1; subst hs1
  refine ax_newa h i hd hq rfl ax_ar_1 (Or.inr rfl) wa_long hi hx0 hlen hcs hss ?_
  rw [ax_row_id hb.1, ax_row_id hb.2.1, ax_row_id hb.2.2]
  exact kk
theorem ax_anewB (h : ax_ok X l own cc nL rm) {C : String} {idx ai len c1 s1 : Nat} {x : Int32} {S' : ax_S} (i : Nat) (hd : decode cc pc = .ok (.anewarray idx, 3)) (hq : pc + 3 = q) (hai : ax_ar[ai]? = some (.object C)) (hw : Cond.classLink own idx C ∈ ax_tb) (hao : C ∈ ax_ao) (hi : S i = none) (hb : ax_bl I R L i) (hx0 : x = nI len) (hlen : len < 100000) (hcs : cs + 1 ≤ rm.cells) (hss : ss + len ≤ rm.slots) (hS : ax_add S i (.inr (ai, len)) = S') (hc1 : cs + 1 = c1) (hs1 : ss + len = s1)
    (kk : ax_W X nL q ls (.ref i :: st) S' I R L c1 s1) : ax_W X nL pc ls (.int x :: st) S I R L cs ss := by
  subst hS; subst hc1; subst hs1
  refine ax_anew h i hd hq hai hw hao hi hx0 hlen hcs hss ?_
  rw [ax_row_id hb.1, ax_row_id hb.2.1, ax_row_id hb.2.2]
  exact kk
/-- a constructor is called, by its answer -/
theorem ax_kI {S' : ax_S} (h : ax_ok X l own cc nL rm) {y : MethodName} {bytes : ByteArray} {maxL idx n b c1 s1 : Nat} {rm' : Room} {vs rest : List Value} (hd : decode cc pc = .ok (.invokespecial idx, 3)) (hq : pc + 3 = q) (hm : ax_mt y bytes maxL none n) (hw : Cond.methodLink own idx y ∈ ax_tb) (hw2 : Cond.instanceMethod y ∈ ax_tb) (hy1 : y.name = "<init>") (hM : ax_Met l y bytes maxL none rm' (.ref b :: vs) S I R L (ax_eq none S' I' R' L)) (hn : vs.length = n) (hrm : ax_rmle rm' rm maxL) (hst : st = vs.reverse ++ .ref b :: rest) (hro : (rest.map fun v => v.category).sum ≤ 8) (hcs : cs + rm'.cells ≤ rm.cells) (hss : ss + rm'.slots ≤ rm.slots) (hc1 : cs + rm'.cells = c1) (hs1 : ss + rm'.slots = s1)
    (kk : ax_W X nL q ls rest S' I' R' L c1 s1) : ax_W X nL pc ls st S I R L cs ss := by
  subst hc1; subst hs1
  refine ax_callI h hd hq hm hw hw2 hy1 hM hn hrm hst hro hcs hss (fun r S2 I2 R2 L2 hr _ => ?_)
  obtain ⟨rfl, rfl, rfl, rfl, rfl⟩ := hr
  exact kk
theorem ax_callIN (h : ax_ok X l own cc nL rm) {y : MethodName} {host : String} {bytes : ByteArray} {maxL idx n b : Nat} {rm' : Room} {vs rest : List Value} {Rs : ax_Rs} (hd : decode cc pc = .ok (.invokespecial idx, 3)) (hq : pc + 3 = q) (hm : ax_mt y bytes maxL none n) (hw : Cond.methodLinkNest own idx y host ∈ ax_nw) (hw2 : Cond.instanceMethod y ∈ ax_tb) (hy1 : y.name = "<init>") (hM : ax_Met l y bytes maxL none rm' (.ref b :: vs) S I R L Rs) (hn : vs.length = n) (hrm : ax_rmle rm' rm maxL) (hst : st = vs.reverse ++ .ref b :: rest) (hro : (rest.map fun v => v.category).sum ≤ 8) (hcs : cs + rm'.cells ≤ rm.cells) (hss : ss + rm'.slots ≤ rm.slots)
    (kk : ∀ r S' I' R' L', Rs r S' I' R' L' → (∀ i sh, S i = some sh → S' i = some sh) → ax_W X nL q ls (r.toList ++ rest) S' I' R' L' (cs + rm'.cells) (ss + rm'.slots)) : ax_W X nL pc ls st S I R L cs ss := by
  obtain ⟨p, l1, e, Rm, s, m, args, below, meth, c, G, A, ad0, S0, Q⟩ := X
  obtain ⟨rfl, rfl, hx, hb, hml, hown, hts, hK, hA, hlk⟩ := h
  intro ad H locs lsC h0 hAd hR hS hl hlv
  subst hq; subst hst
  obtain ⟨m1, m2, m3, m4, m5⟩ := hm
  have hok : ∀ v ∈ Value.ref b :: vs, ax_okv S v := fun v hv => by
    rcases List.mem_cons.mp hv with rfl | hv
    · exact hlv.1 _ (List.mem_append_right _ List.mem_cons_self)
    · exact hlv.1 v (List.mem_append_left _ (List.mem_reverse.mpr hv))
  have hrest : ax_live S ls rest := ⟨fun v hv => hlv.1 v (List.mem_append_right _ (List.mem_cons_of_mem _ hv)), hlv.2⟩
  have hcb : va_CN Rm s args own idx y host bytes maxL none (Cond.code y bytes maxL none :: ax_tb) rm' rm'.cells rm'.slots n := va_cnB n hts (ax_good m1) rfl rfl rfl (hK.2.2.1 _ hw) (hts _ m2) ⟨m3, m4, m5⟩ hrm
  refine ax_back hA h0 hAd hS hl hrest (va_runIN (b := ad b) (As := vs.map (ax_tv ad)) (rest := rest.map (ax_tv ad)) ⟨hx, hb, hml, hown, hts⟩ (hM G ad H.size) ⟨hcb, hy1, hts _ hw2⟩ (ax_pre hR hK hok) rfl (by rw [List.length_map]; exact hn) (hl.2.2.1) ?_ ?_ hd ⟨hcs, hss⟩) kk
  · simp [List.map_append, List.map_reverse, ax_tv]
  · show 2 * 0 + _ ≤ 8
    rw [List.map_map, Nat.mul_zero, Nat.zero_add]
    refine Nat.le_trans (Nat.le_of_eq ?_) hro
    congr 1
    exact List.map_congr_left (fun v _ => ax_tv_cat ad v)
end AXC
theorem c_N_init (l : Launch) {S : ax_S} {I : ax_I} {R : ax_R} {L : ax_L} {u0 : Nat} : ax_Met l y_N_init b_N_init 1 none (ax_rm 1 0 0) [.ref u0] S I R L (ax_eq none S I R L) := by
  refine ax_enter (own := "LossFreeTools$Note") (by decide +kernel) rfl (ax_cats rfl) (Nat.le_of_ble_eq_true rfl) (fun X hX hF hini hS0 => ?_)
  show ax_W X 1 0 [some (.ref u0)] [] S I R L 0 0
  refine ax_aload_n (q := 1) hX dc_N_init_0 rfl rfl rfl ?_
  refine ax_obj (q := 4) hX dc_N_init_1 rfl wl_N_1 wi_obj wc_obj (by decide) (by decide) (Nat.le_of_ble_eq_true rfl) ?_
  exact ax_vret hX hF dc_N_init_4 (by decide) (by decide) ax_eq.mk (by rw [hS0]; exact fun _ _ z => z)
theorem ax_add_old {S : ax_S} {i : Nat} {sh : ax_Sh} (hi : S i = none) : ∀ j s, S j = some s → ax_add S i sh j = some s := fun j s hj => by
  unfold ax_add
  rw [if_neg (fun e => by rw [e, hi] at hj; cases hj)]
  exact hj
theorem ax_add_self (S : ax_S) (i : Nat) (sh : ax_Sh) : ax_add S i sh i = some sh := by simp [ax_add]
theorem ax_add_ne {S : ax_S} {i j : Nat} {sh : ax_Sh} (h : j ≠ i) : ax_add S i sh j = S j := by simp [ax_add, h]
theorem c_T_init (l : Launch) {S : ax_S} {I : ax_I} {R : ax_R} {L : ax_L} {u0 : Nat} (b : Nat) (hs0 : S u0 = some (.inl 3)) (hb : S b = none) (hbl : ax_bl I R L b) : ax_Met l y_T_init b_T_init 1 none (ax_rm 1 1 12) [.ref u0] S I R L (ax_eq none (ax_add S b (.inr (0, 12))) I (ax_up R u0 0 (some b)) L) := by
  refine ax_enter (own := "LossFreeTools$Tile") (by decide +kernel) rfl (ax_cats rfl) (Nat.le_of_ble_eq_true rfl) (fun X hX hF hini hS0 => ?_)
  show ax_W X 1 0 [some (.ref u0)] [] S I R L 0 0
  refine ax_aload_n (q := 1) hX dc_T_init_0 rfl rfl rfl ?_
  refine ax_obj (q := 4) hX dc_T_init_1 rfl wl_T_3 wi_obj wc_obj (by decide) (by decide) (Nat.le_of_ble_eq_true rfl) ?_
  refine ax_aload_n (q := 5) hX dc_T_init_4 rfl rfl rfl ?_
  refine ax_bipush (q := 7) (v := 12) hX dc_T_init_5 rfl (by decide) ?_
  refine ax_newaB (q := 9) (len := 12) hX b dc_T_init_7 rfl hb hbl rfl (by decide) (by decide) (by decide) rfl rfl rfl ?_
  refine ax_putR (q := 12) hX dc_T_init_9 rfl fl_T_9 rfl (ax_add_old hb _ _ hs0) (fun _ => ⟨hini rfl, fun w hw => by cases hw; rfl⟩) rfl ?_
  exact ax_vret hX hF dc_T_init_12 (by decide) (by decide) ax_eq.mk (by rw [hS0]; exact ax_add_old hb)
theorem c_S_init (l : Launch) {S : ax_S} {I : ax_I} {R : ax_R} {L : ax_L} {u0 : Nat} (b : Nat) (hs0 : S u0 = some (.inl 2)) (hb : S b = none) (hbl : ax_bl I R L b) : ax_Met l y_S_init b_S_init 1 none (ax_rm 1 1 1148) [.ref u0] S I R L (ax_eq none (ax_add S b (.inr (0, 1148))) I (ax_up R u0 0 (some b)) L) := by
  refine ax_enter (own := "LossFreeTools$Stream") (by decide +kernel) rfl (ax_cats rfl) (Nat.le_of_ble_eq_true rfl) (fun X hX hF hini hS0 => ?_)
  show ax_W X 1 0 [some (.ref u0)] [] S I R L 0 0
  refine ax_aload_n (q := 1) hX dc_S_init_0 rfl rfl rfl ?_
  refine ax_obj (q := 4) hX dc_S_init_1 rfl wl_S_3 wi_obj wc_obj (by decide) (by decide) (Nat.le_of_ble_eq_true rfl) ?_
  refine ax_aload_n (q := 5) hX dc_S_init_4 rfl rfl rfl ?_
  refine ax_sipush (q := 8) (v := 1148) hX dc_S_init_5 rfl (by decide) ?_
  refine ax_newaB (q := 10) (len := 1148) hX b dc_S_init_8 rfl hb hbl rfl (by decide) (by decide) (by decide) rfl rfl rfl ?_
  refine ax_putR (q := 13) hX dc_S_init_10 rfl fl_S_9 rfl (ax_add_old hb _ _ hs0) (fun _ => ⟨hini rfl, fun w hw => by cases hw; rfl⟩) rfl ?_
  exact ax_vret hX hF dc_S_init_13 (by decide) (by decide) ax_eq.mk (by rw [hS0]; exact ax_add_old hb)
/-! the constructor of a picture: its id is b, its cells have the ids b + 1 .. b + 102 -/
def p1S (S : ax_S) (b i : Nat) : ax_S := fun j => if j = b + 1 then some (.inr (2, 40)) else if b + 2 ≤ j ∧ j < b + 2 + 2 * i then (if (j - b) % 2 = 0 then some (.inl 3) else some (.inr (0, 12))) else S j
def p1R (R : ax_R) (b i : Nat) : ax_R := fun a k => if a = b ∧ k = 0 then some (b + 1) else if a = b + 1 ∧ k < i then some (b + 2 + 2 * k) else if (b + 2 ≤ a ∧ a < b + 2 + 2 * i) ∧ (a - b) % 2 = 0 ∧ k = 0 then some (a + 1) else R a k
def p2S (S : ax_S) (b i : Nat) : ax_S := fun j => if j = b + 82 then some (.inr (3, 20)) else if b + 83 ≤ j ∧ j < b + 83 + i then some (.inl 0) else S j
def p2R (R : ax_R) (b i : Nat) : ax_R := fun a k => if a = b ∧ k = 1 then some (b + 82) else if a = b + 82 ∧ k < i then some (b + 83 + k) else R a k
theorem p1S_0 (S : ax_S) (b : Nat) : ax_add S (b + 1) (.inr (2, 40)) = p1S S b 0 := by
  funext j
  unfold ax_add p1S
  by_cases h : j = b + 1
  · rw [if_pos h, if_pos h]
  · rw [if_neg h, if_neg h, if_neg (by omega)]
theorem p1S_s (S : ax_S) (b i : Nat) : ax_add (ax_add (p1S S b i) (b + 2 + 2 * i) (.inl 3)) (b + 3 + 2 * i) (.inr (0, 12)) = p1S S b (i + 1) := by
  funext j
  unfold ax_add p1S
  by_cases h0 : j = b + 3 + 2 * i
  · rw [if_pos h0, if_neg (by omega), if_pos (by omega), if_neg (by omega)]
  · rw [if_neg h0]
    by_cases h1 : j = b + 2 + 2 * i
    · rw [if_pos h1, if_neg (by omega), if_pos (by omega), if_pos (by omega)]
    · rw [if_neg h1]
      by_cases h2 : j = b + 1
      · rw [if_pos h2, if_pos h2]
      · rw [if_neg h2, if_neg h2]
        by_cases h3 : b + 2 ≤ j ∧ j < b + 2 + 2 * i
        · rw [if_pos h3, if_pos (show b + 2 ≤ j ∧ j < b + 2 + 2 * (i + 1) by omega)]
        · rw [if_neg h3, if_neg (show ¬ (b + 2 ≤ j ∧ j < b + 2 + 2 * (i + 1)) by omega)]
theorem p1R_0 (R : ax_R) (b : Nat) : ax_up R b 0 (some (b + 1)) = p1R R b 0 := by
  funext a k
  unfold ax_up p1R
  by_cases h : a = b ∧ k = 0
  · rw [if_pos h, if_pos h]
  · rw [if_neg h, if_neg h, if_neg (by omega), if_neg (by omega)]
theorem p1R_s (R : ax_R) (b i : Nat) : ax_up (ax_up (p1R R b i) (b + 2 + 2 * i) 0 (some (b + 3 + 2 * i))) (b + 1) i (some (b + 2 + 2 * i)) = p1R R b (i + 1) := by
  funext a k
  unfold ax_up p1R
  by_cases h0 : a = b + 1 ∧ k = i
  · rw [if_pos h0, if_neg (show ¬ (a = b ∧ k = 0) by omega), if_pos (show a = b + 1 ∧ k < i + 1 by omega), h0.2]
  · rw [if_neg h0]
    by_cases h1 : a = b + 2 + 2 * i ∧ k = 0
    · rw [if_pos h1, if_neg (show ¬ (a = b ∧ k = 0) by omega), if_neg (show ¬ (a = b + 1 ∧ k < i + 1) by omega), if_pos (show (b + 2 ≤ a ∧ a < b + 2 + 2 * (i + 1)) ∧ (a - b) % 2 = 0 ∧ k = 0 by omega)]
      congr 1
      omega
    · rw [if_neg h1]
      by_cases h2 : a = b ∧ k = 0
      · rw [if_pos h2, if_pos h2]
      · rw [if_neg h2, if_neg h2]
        by_cases h3 : a = b + 1 ∧ k < i
        · rw [if_pos h3, if_pos (show a = b + 1 ∧ k < i + 1 by omega)]
        · rw [if_neg h3, if_neg (show ¬ (a = b + 1 ∧ k < i + 1) by omega)]
          by_cases h4 : (b + 2 ≤ a ∧ a < b + 2 + 2 * i) ∧ (a - b) % 2 = 0 ∧ k = 0
          · rw [if_pos h4, if_pos (show (b + 2 ≤ a ∧ a < b + 2 + 2 * (i + 1)) ∧ (a - b) % 2 = 0 ∧ k = 0 by omega)]
          · rw [if_neg h4, if_neg (show ¬ ((b + 2 ≤ a ∧ a < b + 2 + 2 * (i + 1)) ∧ (a - b) % 2 = 0 ∧ k = 0) by omega)]
theorem p2S_0 (S : ax_S) (b : Nat) : ax_add S (b + 82) (.inr (3, 20)) = p2S S b 0 := by
  funext j
  unfold ax_add p2S
  by_cases h : j = b + 82
  · rw [if_pos h, if_pos h]
  · rw [if_neg h, if_neg h, if_neg (by omega)]
theorem p2S_s (S : ax_S) (b i : Nat) : ax_add (p2S S b i) (b + 83 + i) (.inl 0) = p2S S b (i + 1) := by
  funext j
  unfold ax_add p2S
  by_cases h1 : j = b + 83 + i
  · rw [if_pos h1, if_neg (by omega), if_pos (by omega)]
  · rw [if_neg h1]
    by_cases h2 : j = b + 82
    · rw [if_pos h2, if_pos h2]
    · rw [if_neg h2, if_neg h2]
      by_cases h3 : b + 83 ≤ j ∧ j < b + 83 + i
      · rw [if_pos h3, if_pos (by omega)]
      · rw [if_neg h3, if_neg (by omega)]
theorem p2R_0 (R : ax_R) (b : Nat) : ax_up R b 1 (some (b + 82)) = p2R R b 0 := by
  funext a k
  unfold ax_up p2R
  by_cases h : a = b ∧ k = 1
  · rw [if_pos h, if_pos h]
  · rw [if_neg h, if_neg h, if_neg (by omega)]
theorem p2R_s (R : ax_R) (b i : Nat) : ax_up (p2R R b i) (b + 82) i (some (b + 83 + i)) = p2R R b (i + 1) := by
  funext a k
  unfold ax_up p2R
  by_cases h0 : a = b + 82 ∧ k = i
  · rw [if_pos h0, if_neg (by omega), if_pos (by omega), h0.2]
  · rw [if_neg h0]
    by_cases h2 : a = b ∧ k = 1
    · rw [if_pos h2, if_pos h2]
    · rw [if_neg h2, if_neg h2]
      by_cases h3 : a = b + 82 ∧ k < i
      · rw [if_pos h3, if_pos (by omega)]
      · rw [if_neg h3, if_neg (by omega)]
theorem p1S_at {S : ax_S} {b i j : Nat} (h : j = b ∨ b + 2 + 2 * i ≤ j) : p1S S b i j = S j := by unfold p1S; rw [if_neg (by omega), if_neg (by omega)]
theorem p1R_at {R : ax_R} {b i a k : Nat} (h : b + 2 + 2 * i ≤ a) : p1R R b i a k = R a k := by unfold p1R; rw [if_neg (by omega), if_neg (by omega), if_neg (by omega)]
theorem p2S_at {S : ax_S} {b i j : Nat} (h : j ≤ b + 81 ∨ b + 83 + i ≤ j) : p2S S b i j = S j := by unfold p2S; rw [if_neg (by omega), if_neg (by omega)]
theorem p2R_at {R : ax_R} {b i a k : Nat} (h : (a ≠ b ∧ a ≤ b + 81) ∨ b + 83 + i ≤ a) : p2R R b i a k = R a k := by unfold p2R; rw [if_neg (by omega), if_neg (by omega)]
/-- from here on all is blank -/
def ax_blank (S : ax_S) (I : ax_I) (R : ax_R) (L : ax_L) (n : Nat) : Prop := ∀ j, n ≤ j → S j = none ∧ ax_bl I R L j
section PIC
variable {l : Launch} {X : ax_X} {S : ax_S} {I : ax_I} {R : ax_R} {L : ax_L} {b : Nat} {x1 x2 : Int32} {RX : ax_RX}
set_option maxHeartbeats 1000000 in
theorem p_loop1 (hX : ax_ok X l "LossFreeTools$Picture" b_P_init 4 (ax_rm 2 102 880)) (hbl : ax_blank S I R L (b + 1)) (hs0 : S b = some (.inl 1))
    (kk : ax_W X 4 40 [some (.ref b), some (.int x1), some (.int x2), none] [] (p1S S b 40) I (p1R R b 40) L 81 800) :
    ∀ n i : Nat, i + n = 40 → ax_W X 4 15 [some (.ref b), some (.int x1), some (.int x2), some (.int (nI i))] [] (p1S S b i) I (p1R R b i) L (1 + 2 * i) (40 + 19 * i) := by
  intro n
  induction n with
  | zero =>
    intro i hi
    have e : i = 40 := by omega
    subst e
    refine ax_iload_n (q := 16) hX dc_P_init_15 rfl rfl rfl ?_
    refine ax_bipush (q := 18) (v := 40) hX dc_P_init_16 rfl (by decide) ?_
    refine ax_icmp_ge (q := 21) (tgt := 40) hX dc_P_init_18 rfl (by decide) (fun _ => ?_) (fun z => ?_)
    · exact ax_weak (ax_fewP_s _ _ (by repeat (first | exact trivial | (refine And.intro rfl ?_)))) kk
    · exact absurd (by decide : (40 : Int32) ≤ nI 40) z
  | succ n ih =>
    intro i hi
    refine ax_iload_n (q := 16) hX dc_P_init_15 rfl rfl rfl ?_
    refine ax_bipush (q := 18) (v := 40) hX dc_P_init_16 rfl (by decide) ?_
    refine ax_icmp_ge (q := 21) (tgt := 40) hX dc_P_init_18 rfl (by decide) (fun z => ?_) (fun _ => ?_)
    · exact absurd z (nI_ge (a := i) (b := 40) (by omega) (by decide))
    have hsb : p1S S b i b = some (.inl 1) := by rw [p1S_at (Or.inl rfl)]; exact hs0
    have hsa : p1S S b i (b + 1) = some (.inr (2, 40)) := by unfold p1S; rw [if_pos rfl]
    have hr0 : p1R R b i b 0 = some (b + 1) := by unfold p1R; rw [if_pos ⟨rfl, rfl⟩]
    have hu : p1S S b i (b + 2 + 2 * i) = none := by rw [p1S_at (Or.inr (Nat.le_refl _))]; exact (hbl _ (by omega)).1
    have hv : ax_add (p1S S b i) (b + 2 + 2 * i) (.inl 3) (b + 3 + 2 * i) = none := by rw [ax_add_ne (by omega), p1S_at (Or.inr (by omega))]; exact (hbl _ (by omega)).1
    have hbu : ax_bl I (p1R R b i) L (b + 2 + 2 * i) := by
      obtain ⟨h1, h2, h3⟩ := (hbl (b + 2 + 2 * i) (by omega)).2
      exact ⟨h1, fun k => by rw [p1R_at (by omega)]; exact h2 k, h3⟩
    have hbv : ax_bl I (p1R R b i) L (b + 3 + 2 * i) := by
      obtain ⟨h1, h2, h3⟩ := (hbl (b + 3 + 2 * i) (by omega)).2
      exact ⟨h1, fun k => by rw [p1R_at (by omega)]; exact h2 k, h3⟩
    refine ax_aload_n (q := 22) hX dc_P_init_21 rfl rfl rfl ?_
    refine ax_getR (q := 25) hX dc_P_init_22 rfl fl_P_11 rfl hsb hr0 ?_
    refine ax_iload_n (q := 26) hX dc_P_init_25 rfl rfl rfl ?_
    refine ax_newB (q := 29) (ci := 3) (N := 7) hX (b + 2 + 2 * i) dc_P_init_26 rfl rfl rfl wq_P_9 wz_T wn_LossFreeTools_Tile hu hbu (by show 1 + 2 * i + 1 ≤ 102; omega) (by show 40 + 19 * i + 7 ≤ 880; omega) rfl rfl rfl ?_
    refine ax_dup (q := 30) hX dc_P_init_29 rfl rfl ?_
    refine ax_kI (q := 33) (vs := []) (rest := [.ref (b + 2 + 2 * i), .int (nI i), .ref (b + 1)]) hX dc_P_init_30 rfl mt_T_init wl_P_17 wi_T_init rfl (c_T_init l (b + 3 + 2 * i) (ax_add_self _ _ _) hv hbv) rfl (by decide) rfl (Nat.le_of_ble_eq_true rfl) (by show 1 + 2 * i + 1 + 1 ≤ 102; omega) (by show 40 + 19 * i + 7 + 12 ≤ 880; omega) rfl rfl ?_
    have hsa2 : ax_add (ax_add (p1S S b i) (b + 2 + 2 * i) (.inl 3)) (b + 3 + 2 * i) (.inr (0, 12)) (b + 1) = some (.inr (2, 40)) := by rw [ax_add_ne (by omega), ax_add_ne (by omega)]; exact hsa
    have hsu2 : ax_add (ax_add (p1S S b i) (b + 2 + 2 * i) (.inl 3)) (b + 3 + 2 * i) (.inr (0, 12)) (b + 2 + 2 * i) = some (.inl 3) := by rw [ax_add_ne (by omega), ax_add_self]
    refine ax_aast (q := 34) hX i dc_P_init_33 rfl hsa2 rfl hsu2 rfl rfl rfl (by omega) (by decide) rfl ?_
    refine ax_iinc (q := 37) (v := nI (i + 1)) (ls' := [some (.ref b), some (.int x1), some (.int x2), some (.int (nI (i + 1)))]) hX dc_P_init_34 rfl rfl (nI_1 i) (by decide) rfl ?_
    refine ax_goto (tgt := 15) hX dc_P_init_37 (by decide) ?_
    have := ih (i + 1) (by omega)
    rw [p1S_s, p1R_s]
    rw [show 1 + 2 * i + 1 + (ax_rm 1 1 12).cells = 1 + 2 * (i + 1) by show 1 + 2 * i + 1 + 1 = _; omega, show 40 + 19 * i + 7 + (ax_rm 1 1 12).slots = 40 + 19 * (i + 1) by show 40 + 19 * i + 7 + 12 = _; omega]
    exact this
set_option maxHeartbeats 1000000 in
theorem p_loop2 (hX : ax_ok X l "LossFreeTools$Picture" b_P_init 4 (ax_rm 2 102 880)) (hbl : ax_blank S I R L (b + 82)) (hs0 : S b = some (.inl 1))
    (kk : ax_W X 4 76 [some (.ref b), some (.int x1), some (.int x2), none] [] (p2S S b 20) I (p2R R b 20) L 102 880) :
    ∀ n i : Nat, i + n = 20 → ax_W X 4 51 [some (.ref b), some (.int x1), some (.int x2), some (.int (nI i))] [] (p2S S b i) I (p2R R b i) L (82 + i) (820 + 3 * i) := by
  intro n
  induction n with
  | zero =>
    intro i hi
    have e : i = 20 := by omega
    subst e
    refine ax_iload_n (q := 52) hX dc_P_init_51 rfl rfl rfl ?_
    refine ax_bipush (q := 54) (v := 20) hX dc_P_init_52 rfl (by decide) ?_
    refine ax_icmp_ge (q := 57) (tgt := 76) hX dc_P_init_54 rfl (by decide) (fun _ => ?_) (fun z => ?_)
    · exact ax_weak (ax_fewP_s _ _ (by repeat (first | exact trivial | (refine And.intro rfl ?_)))) kk
    · exact absurd (by decide : (20 : Int32) ≤ nI 20) z
  | succ n ih =>
    intro i hi
    refine ax_iload_n (q := 52) hX dc_P_init_51 rfl rfl rfl ?_
    refine ax_bipush (q := 54) (v := 20) hX dc_P_init_52 rfl (by decide) ?_
    refine ax_icmp_ge (q := 57) (tgt := 76) hX dc_P_init_54 rfl (by decide) (fun z => ?_) (fun _ => ?_)
    · exact absurd z (nI_ge (a := i) (b := 20) (by omega) (by decide))
    have hsb : p2S S b i b = some (.inl 1) := by rw [p2S_at (Or.inl (by omega))]; exact hs0
    have hsa : p2S S b i (b + 82) = some (.inr (3, 20)) := by unfold p2S; rw [if_pos rfl]
    have hr0 : p2R R b i b 1 = some (b + 82) := by unfold p2R; rw [if_pos ⟨rfl, rfl⟩]
    have hu : p2S S b i (b + 83 + i) = none := by rw [p2S_at (Or.inr (Nat.le_refl _))]; exact (hbl _ (by omega)).1
    have hbu : ax_bl I (p2R R b i) L (b + 83 + i) := by
      obtain ⟨h1, h2, h3⟩ := (hbl (b + 83 + i) (by omega)).2
      exact ⟨h1, fun k => by rw [p2R_at (Or.inr (by omega))]; exact h2 k, h3⟩
    refine ax_aload_n (q := 58) hX dc_P_init_57 rfl rfl rfl ?_
    refine ax_getR (q := 61) hX dc_P_init_58 rfl fl_P_20 rfl hsb hr0 ?_
    refine ax_iload_n (q := 62) hX dc_P_init_61 rfl rfl rfl ?_
    refine ax_newB (q := 65) (ci := 0) (N := 3) hX (b + 83 + i) dc_P_init_62 rfl rfl rfl wq_P_18 wz_N wn_LossFreeTools_Note hu hbu (by show 82 + i + 1 ≤ 102; omega) (by show 820 + 3 * i + 3 ≤ 880; omega) rfl rfl rfl ?_
    refine ax_dup (q := 66) hX dc_P_init_65 rfl rfl ?_
    refine ax_callIN (q := 69) (host := "LossFreeTools") (vs := []) (rest := [.ref (b + 83 + i), .int (nI i), .ref (b + 82)]) hX dc_P_init_66 rfl mt_N_init (by decide +kernel) wi_N_init rfl (c_N_init l) rfl (by decide) rfl (Nat.le_of_ble_eq_true rfl) (by show 82 + i + 1 + 0 ≤ 102; omega) (by show 820 + 3 * i + 3 + 0 ≤ 880; omega) (fun r S2 I2 R2 L2 hr _ => ?_)
    obtain ⟨rfl, rfl, rfl, rfl, rfl⟩ := hr
    have hsa2 : ax_add (p2S S b i) (b + 83 + i) (.inl 0) (b + 82) = some (.inr (3, 20)) := by rw [ax_add_ne (by omega)]; exact hsa
    show ax_W X 4 69 [some (.ref b), some (.int x1), some (.int x2), some (.int (nI i))] [.ref (b + 83 + i), .int (nI i), .ref (b + 82)] _ _ _ _ _ _
    refine ax_aast (q := 70) hX i dc_P_init_69 rfl hsa2 rfl (ax_add_self _ _ _) rfl rfl rfl (by omega) (by decide) rfl ?_
    refine ax_iinc (q := 73) (v := nI (i + 1)) (ls' := [some (.ref b), some (.int x1), some (.int x2), some (.int (nI (i + 1)))]) hX dc_P_init_70 rfl rfl (nI_1 i) (by decide) rfl ?_
    refine ax_goto (tgt := 51) hX dc_P_init_73 (by decide) ?_
    have := ih (i + 1) (by omega)
    rw [p2S_s, p2R_s]
    rw [show 82 + i + 1 + (ax_rm 1 0 0).cells = 82 + (i + 1) by show 82 + i + 1 + 0 = _; omega, show 820 + 3 * i + 3 + (ax_rm 1 0 0).slots = 820 + 3 * (i + 1) by show 820 + 3 * i + 3 + 0 = _; omega]
    exact this
end PIC
def pS (S : ax_S) (b : Nat) : ax_S := p2S (p1S S b 40) b 20
def pR (R : ax_R) (b : Nat) : ax_R := p2R (p1R R b 40) b 20
set_option maxHeartbeats 1000000 in
theorem c_P_init (l : Launch) {S : ax_S} {I : ax_I} {R : ax_R} {L : ax_L} {b : Nat} {x1 x2 : Int32} (hs0 : S b = some (.inl 1)) (hbl : ax_blank S I R L (b + 1)) : ax_Met l y_P_init b_P_init 4 none (ax_rm 2 102 880) [.ref b, .int x1, .int x2] S I R L (ax_eq none (pS S b) (ax_up (ax_up I b 4 x1) b 5 x2) (pR R b) L) := by
  refine ax_enter (own := "LossFreeTools$Picture") (by decide +kernel) rfl (ax_cats rfl) (Nat.le_of_ble_eq_true rfl) (fun X hX hF hini hS0 => ?_)
  show ax_W X 4 0 [some (.ref b), some (.int x1), some (.int x2), none] [] S I R L 0 0
  refine ax_aload_n (q := 1) hX dc_P_init_0 rfl rfl rfl ?_
  refine ax_obj (q := 4) hX dc_P_init_1 rfl wl_P_3 wi_obj wc_obj (by decide) (by decide) (Nat.le_of_ble_eq_true rfl) ?_
  refine ax_aload_n (q := 5) hX dc_P_init_4 rfl rfl rfl ?_
  refine ax_bipush (q := 7) (v := 40) hX dc_P_init_5 rfl (by decide) ?_
  have h1 := hbl (b + 1) (Nat.le_refl _)
  refine ax_anewB (q := 10) (len := 40) (ai := 2) hX (b + 1) dc_P_init_7 rfl rfl wq_P_9 (by decide) h1.1 h1.2 rfl (by decide) (by decide) (by decide) (p1S_0 S b) rfl rfl ?_
  have hsb : p1S S b 0 b = some (.inl 1) := by rw [p1S_at (Or.inl rfl)]; exact hs0
  refine ax_putR (q := 13) hX dc_P_init_10 rfl fl_P_11 rfl hsb (fun _ => ⟨hini rfl, fun w hw => by cases hw; rfl⟩) (p1R_0 R b) ?_
  refine ax_iconst (q := 14) (v := 0) hX dc_P_init_13 rfl (by decide) ?_
  refine ax_istore_n (q := 15) (ls' := [some (.ref b), some (.int x1), some (.int x2), some (.int 0)]) hX dc_P_init_14 rfl rfl (by decide) rfl ?_
  refine p_loop1 hX hbl hs0 ?_ 40 0 rfl
  refine ax_aload_n (q := 41) hX dc_P_init_40 rfl rfl rfl ?_
  refine ax_bipush (q := 43) (v := 20) hX dc_P_init_41 rfl (by decide) ?_
  have hbl2 : ax_blank (p1S S b 40) I (p1R R b 40) L (b + 82) := fun j hj => by
    obtain ⟨h1, h2, h3, h4⟩ := hbl j (by omega)
    exact ⟨by rw [p1S_at (Or.inr (by omega))]; exact h1, h2, fun k => by rw [p1R_at (by omega)]; exact h3 k, h4⟩
  have h2 := hbl2 (b + 82) (Nat.le_refl _)
  have hsb2 : p1S S b 40 b = some (.inl 1) := by rw [p1S_at (Or.inl rfl)]; exact hs0
  refine ax_anewB (q := 46) (len := 20) (ai := 3) hX (b + 82) dc_P_init_43 rfl rfl wq_P_18 (by decide) h2.1 h2.2 rfl (by decide) (by decide) (by decide) (p2S_0 _ b) rfl rfl ?_
  have hsb3 : p2S (p1S S b 40) b 0 b = some (.inl 1) := by rw [p2S_at (Or.inl (by omega))]; exact hsb2
  refine ax_putR (q := 49) hX dc_P_init_46 rfl fl_P_20 rfl hsb3 (fun _ => ⟨hini rfl, fun w hw => by cases hw; rfl⟩) (p2R_0 _ b) ?_
  refine ax_iconst (q := 50) (v := 0) hX dc_P_init_49 rfl (by decide) ?_
  refine ax_istore_n (q := 51) (ls' := [some (.ref b), some (.int x1), some (.int x2), some (.int 0)]) hX dc_P_init_50 rfl rfl (by decide) rfl ?_
  refine p_loop2 hX hbl2 hsb2 ?_ 20 0 rfl
  have hsb4 : pS S b b = some (.inl 1) := by unfold pS; rw [p2S_at (Or.inl (by omega))]; exact hsb2
  refine ax_aload_n (q := 77) hX dc_P_init_76 rfl rfl rfl ?_
  refine ax_iload_n (q := 78) hX dc_P_init_77 rfl rfl rfl ?_
  refine ax_putI (q := 81) hX dc_P_init_78 rfl fl_P_25 rfl hsb4 (fun z => by cases z) rfl rfl rfl ?_
  refine ax_aload_n (q := 82) hX dc_P_init_81 rfl rfl rfl ?_
  refine ax_iload_n (q := 83) hX dc_P_init_82 rfl rfl rfl ?_
  refine ax_putI (q := 86) hX dc_P_init_83 rfl fl_P_29 rfl hsb4 (fun z => by cases z) rfl rfl rfl ?_
  refine ax_vret hX hF dc_P_init_86 (by decide) (by decide) ax_eq.mk (by
    rw [hS0]
    intro j s hj
    have hjb : j ≤ b := by
      rcases Nat.lt_or_ge b j with h | h
      · rw [(hbl j h).1] at hj; cases hj
      · exact h
    show pS S b j = some s
    unfold pS
    rw [p2S_at (Or.inl (by omega))]
    unfold p1S
    rw [if_neg (by omega), if_neg (by omega)]
    exact hj)
/-! the constructor of the class: the tool has the id 0 -/
theorem ax_blank_add {S : ax_S} {I : ax_I} {R : ax_R} {L : ax_L} {n i : Nat} {sh : ax_Sh} (h : ax_blank S I R L n) (hi : i < n) : ax_blank (ax_add S i sh) I R L n := fun j hj => ⟨by rw [ax_add_ne (by omega)]; exact (h j hj).1, (h j hj).2⟩
theorem ax_blank_I {S : ax_S} {I : ax_I} {R : ax_R} {L : ax_L} {n i k : Nat} {v : Int32} (h : ax_blank S I R L n) (hi : i < n) : ax_blank S (ax_up I i k v) R L n := fun j hj => ⟨(h j hj).1, fun k' => by rw [ax_up_ne (by omega)]; exact (h j hj).2.1 k', (h j hj).2.2⟩
theorem ax_blank_R {S : ax_S} {I : ax_I} {R : ax_R} {L : ax_L} {n i k : Nat} {v : Option Nat} (h : ax_blank S I R L n) (hi : i < n) : ax_blank S I (ax_up R i k v) L n := fun j hj => ⟨(h j hj).1, (h j hj).2.1, fun k' => by rw [ax_up_ne (by omega)]; exact (h j hj).2.2.1 k', (h j hj).2.2.2⟩
theorem ax_blank_mono {S : ax_S} {I : ax_I} {R : ax_R} {L : ax_L} {n m : Nat} (h : ax_blank S I R L n) (hm : n ≤ m) : ax_blank S I R L m := fun j hj => h j (Nat.le_trans hm hj)
theorem ax_blank_p {S : ax_S} {I : ax_I} {R : ax_R} {L : ax_L} {b : Nat} (h : ax_blank S I R L (b + 1)) : ax_blank (pS S b) I (pR R b) L (b + 103) := fun j hj => by
  obtain ⟨h1, h2, h3, h4⟩ := h j (by omega)
  refine ⟨?_, h2, fun k => ?_, h4⟩
  · unfold pS
    rw [p2S_at (Or.inr (by omega)), p1S_at (Or.inr (by omega))]
    exact h1
  · unfold pR
    rw [p2R_at (Or.inr (by omega)), p1R_at (by omega)]
    exact h3 k
def fs (x : Int32) : Int32 := if 1 < (if x < 200 then x else 200) then (if x < 200 then x else 200) else 1
def k0S : ax_S := fun _ => none
def k0I : ax_I := fun _ _ => 0
def k0R : ax_R := fun _ _ => none
def k0L : ax_L := fun _ _ => 0
theorem kb0_blank : ax_blank k0S k0I k0R k0L 0 := fun _ _ => ⟨rfl, fun _ => rfl, fun _ => rfl, fun _ => rfl⟩
def k1S : ax_S := ax_add k0S 0 (.inl 4)
def k2S : ax_S := ax_add k1S 1 (.inl 2)
def k3S : ax_S := ax_add k2S 2 (.inr (0, 1148))
def k4S : ax_S := ax_add k3S 3 (.inr (0, 4))
def k5S : ax_S := ax_add k4S 4 (.inl 1)
def k6S : ax_S := ax_add (pS k5S 4) 107 (.inl 1)
def kS : ax_S := pS k6S 107
def k2R : ax_R := ax_up (ax_up k0R 1 0 (some 2)) 0 2 (some 1)
def k3R : ax_R := ax_up k2R 0 3 (some 3)
def k4R : ax_R := ax_up (pR k3R 4) 0 4 (some 4)
def kR : ax_R := ax_up (pR k4R 107) 0 5 (some 107)
def k1I (w h : Int32) : ax_I := ax_up (ax_up k0I 0 0 w) 0 1 h
def k2I (w h : Int32) : ax_I := ax_up (ax_up (k1I w h) 4 4 w) 4 5 h
def k3I (w h : Int32) : ax_I := ax_up (ax_up (k2I w h) 107 4 w) 107 5 h
def kI (w h : Int32) : ax_I := ax_up (ax_up (k3I w h) 0 6 0) 0 7 0
theorem kb1_blank : ax_blank k1S k0I k0R k0L 1 := ax_blank_add (ax_blank_mono kb0_blank (by omega)) (by omega)
theorem kb2_blank (w h : Int32) : ax_blank k2S (k1I w h) k0R k0L 2 := ax_blank_I (ax_blank_I (ax_blank_add (ax_blank_mono kb1_blank (by omega)) (by omega)) (by omega)) (by omega)
theorem kb3_blank (w h : Int32) : ax_blank k3S (k1I w h) k2R k0L 3 := ax_blank_R (ax_blank_R (ax_blank_add (ax_blank_mono (kb2_blank w h) (by omega)) (by omega)) (by omega)) (by omega)
theorem kb5_blank (w h : Int32) : ax_blank k5S (k1I w h) k3R k0L 5 := ax_blank_add (ax_blank_add (ax_blank_R (ax_blank_mono (kb3_blank w h) (by omega)) (by omega)) (by omega)) (by omega)
theorem kbp_blank (w h : Int32) : ax_blank (pS k5S 4) (k2I w h) k4R k0L 107 := ax_blank_I (ax_blank_I (ax_blank_R (ax_blank_p (kb5_blank w h)) (by omega)) (by omega)) (by omega)
theorem kb6_blank (w h : Int32) : ax_blank k6S (k2I w h) k4R k0L 108 := ax_blank_add (ax_blank_mono (kbp_blank w h) (by omega)) (by omega)
theorem kbk_blank (w h : Int32) : ax_blank kS (kI w h) kR k0L 210 := ax_blank_I (ax_blank_I (ax_blank_I (ax_blank_I (ax_blank_R (ax_blank_p (kb6_blank w h)) (by omega)) (by omega)) (by omega)) (by omega)) (by omega)
theorem k1_typ : ax_typ k1S k0R := ⟨fun a ci k u _ z => (by cases z), fun a n k u _ z => (by cases z), fun a n k u _ z => (by cases z), fun a ai n z => by
  unfold k1S ax_add at z
  split at z <;> cases z⟩
theorem pS_lo {S : ax_S} {b j : Nat} (h : j ≤ b) : pS S b j = S j := by
  unfold pS
  rw [p2S_at (Or.inl (by omega))]
  unfold p1S
  rw [if_neg (by omega), if_neg (by omega)]
theorem kS_0 : kS 0 = some (.inl 4) := by unfold kS; rw [pS_lo (by omega)]; unfold k6S; rw [ax_add_ne (by omega), pS_lo (by omega)]; decide
theorem k5S_0 : pS k5S 4 0 = some (.inl 4) := by rw [pS_lo (by omega)]; decide
theorem k6S_0 : k6S 0 = some (.inl 4) := by unfold k6S; rw [ax_add_ne (by omega)]; exact k5S_0
set_option maxHeartbeats 1000000 in
theorem c_K_init (l : Launch) {x1 x2 : Int32} : ax_Met l y_K_init b_K_init 3 none (ax_rm 3 209 2927) [.ref 0, .int x1, .int x2] k1S k0I k0R k0L (ax_eq none kS (kI (fs x1) (fs x2)) kR k0L) := by
  refine ax_enter (own := "LossFreeTools") (by decide +kernel) rfl (ax_cats rfl) (Nat.le_of_ble_eq_true rfl) (fun X hX hF hini hS0 => ?_)
  show ax_W X 3 0 [some (.ref 0), some (.int x1), some (.int x2)] [] k1S k0I k0R k0L 0 0
  have hs1 : k1S 0 = some (.inl 4) := rfl
  refine ax_aload_n (q := 1) hX dc_K_init_0 rfl rfl rfl ?_
  refine ax_obj (q := 4) hX dc_K_init_1 rfl wl_K_3 wi_obj wc_obj (by decide) (by decide) (Nat.le_of_ble_eq_true rfl) ?_
  refine ax_aload_n (q := 5) hX dc_K_init_4 rfl rfl rfl ?_
  refine ax_iload_n (q := 6) hX dc_K_init_5 rfl rfl rfl ?_
  refine ax_kS (q := 9) (vs := [.int x1]) (rest := [.ref 0]) (v := some (.int (fs x1))) hX dc_K_init_6 rfl mt_K_nearestFirstSize wl_K_9 wt_K_nearestFirstSize (c_K_nearestFirstSize l k1_typ rfl) rfl (by decide) rfl (Nat.le_of_ble_eq_true rfl) rfl rfl (by decide) (by decide) rfl ?_
  refine ax_putI (q := 12) hX dc_K_init_9 rfl fl_K_13 rfl hs1 (fun _ => ⟨hini rfl, fun w hw => by cases hw; rfl⟩) rfl rfl rfl ?_
  refine ax_aload_n (q := 13) hX dc_K_init_12 rfl rfl rfl ?_
  refine ax_iload_n (q := 14) hX dc_K_init_13 rfl rfl rfl ?_
  refine ax_kS (q := 17) (vs := [.int x2]) (rest := [.ref 0]) (v := some (.int (fs x2))) hX dc_K_init_14 rfl mt_K_nearestFirstSize wl_K_9 wt_K_nearestFirstSize (c_K_nearestFirstSize l k1_typ rfl) rfl (by decide) rfl (Nat.le_of_ble_eq_true rfl) rfl rfl (by decide) (by decide) rfl ?_
  refine ax_putI (q := 20) (I' := k1I (fs x1) (fs x2)) hX dc_K_init_17 rfl fl_K_17 rfl hs1 (fun _ => ⟨hini rfl, fun w hw => by cases hw; rfl⟩) rfl rfl rfl ?_
  refine ax_aload_n (q := 21) hX dc_K_init_20 rfl rfl rfl ?_
  have b1 : ax_blank k1S (k1I (fs x1) (fs x2)) k0R k0L 1 := ax_blank_I (ax_blank_I kb1_blank (by omega)) (by omega)
  refine ax_newB (q := 24) (ci := 2) (N := 3) (S' := k2S) hX 1 dc_K_init_21 rfl rfl rfl wq_K_20 wz_S wn_LossFreeTools_Stream rfl (b1 1 (by omega)).2 (by decide) (by decide) rfl rfl rfl ?_
  refine ax_dup (q := 25) hX dc_K_init_24 rfl rfl ?_
  refine ax_kI (q := 28) (vs := []) (rest := [.ref 1, .ref 0]) hX dc_K_init_25 rfl mt_S_init wl_K_22 wi_S_init rfl (c_S_init l 2 rfl rfl ((kb2_blank _ _) 2 (by omega)).2) rfl (by decide) rfl (Nat.le_of_ble_eq_true rfl) (by decide) (by decide) rfl rfl ?_
  refine ax_putR (q := 31) (R' := k2R) hX dc_K_init_28 rfl fl_K_23 rfl rfl (fun _ => ⟨hini rfl, fun w hw => by cases hw; rfl⟩) rfl ?_
  refine ax_aload_n (q := 32) hX dc_K_init_31 rfl rfl rfl ?_
  refine ax_iconst (q := 33) (v := 4) hX dc_K_init_32 rfl (by decide) ?_
  refine ax_newaB (q := 35) (len := 4) (S' := k4S) hX 3 dc_K_init_33 rfl rfl ((kb3_blank _ _) 3 (by omega)).2 rfl (by decide) (by decide) (by decide) rfl rfl rfl ?_
  refine ax_putR (q := 38) (R' := k3R) hX dc_K_init_35 rfl fl_K_27 rfl rfl (fun _ => ⟨hini rfl, fun w hw => by cases hw; rfl⟩) rfl ?_
  refine ax_aload_n (q := 39) hX dc_K_init_38 rfl rfl rfl ?_
  have b4 : ax_blank k4S (k1I (fs x1) (fs x2)) k3R k0L 4 := ax_blank_add (ax_blank_R (ax_blank_mono (kb3_blank _ _) (by omega)) (by omega)) (by omega)
  refine ax_newB (q := 42) (ci := 1) (N := 6) (S' := k5S) hX 4 dc_K_init_39 rfl rfl rfl wq_K_31 wz_P wn_LossFreeTools_Picture rfl (b4 4 (by omega)).2 (by decide) (by decide) rfl rfl rfl ?_
  refine ax_dup (q := 43) hX dc_K_init_42 rfl rfl ?_
  refine ax_aload_n (q := 44) hX dc_K_init_43 rfl rfl rfl ?_
  refine ax_getI (q := 47) hX dc_K_init_44 rfl fl_K_13 rfl rfl ?_
  refine ax_aload_n (q := 48) hX dc_K_init_47 rfl rfl rfl ?_
  refine ax_getI (q := 51) hX dc_K_init_48 rfl fl_K_17 rfl rfl ?_
  refine ax_kI (q := 54) (vs := [.int (fs x1), .int (fs x2)]) (rest := [.ref 4, .ref 0]) hX dc_K_init_51 rfl mt_P_init wl_K_33 wi_P_init rfl (c_P_init l rfl (kb5_blank _ _)) rfl (by decide) rfl (Nat.le_of_ble_eq_true rfl) (by decide) (by decide) rfl rfl ?_
  refine ax_putR (q := 57) (R' := k4R) hX dc_K_init_54 rfl fl_K_36 rfl k5S_0 (fun z => by cases z) rfl ?_
  refine ax_aload_n (q := 58) hX dc_K_init_57 rfl rfl rfl ?_
  refine ax_newB (q := 61) (ci := 1) (N := 6) (S' := k6S) hX 107 dc_K_init_58 rfl rfl rfl wq_K_31 wz_P wn_LossFreeTools_Picture ((kbp_blank (fs x1) (fs x2)) 107 (by omega)).1 ((kbp_blank (fs x1) (fs x2)) 107 (by omega)).2 (by decide) (by decide) rfl rfl rfl ?_
  refine ax_dup (q := 62) hX dc_K_init_61 rfl rfl ?_
  refine ax_aload_n (q := 63) hX dc_K_init_62 rfl rfl rfl ?_
  refine ax_getI (q := 66) hX dc_K_init_63 rfl fl_K_13 rfl k6S_0 ?_
  refine ax_aload_n (q := 67) hX dc_K_init_66 rfl rfl rfl ?_
  refine ax_getI (q := 70) hX dc_K_init_67 rfl fl_K_17 rfl k6S_0 ?_
  refine ax_kI (q := 73) (vs := [.int (fs x1), .int (fs x2)]) (rest := [.ref 107, .ref 0]) hX dc_K_init_70 rfl mt_P_init wl_K_33 wi_P_init rfl (c_P_init l (ax_add_self _ _ _) (kb6_blank (fs x1) (fs x2))) rfl (by decide) rfl (Nat.le_of_ble_eq_true rfl) (by decide) (by decide) rfl rfl ?_
  refine ax_putR (q := 76) (R' := kR) hX dc_K_init_73 rfl fl_K_40 rfl kS_0 (fun z => by cases z) rfl ?_
  refine ax_aload_n (q := 77) hX dc_K_init_76 rfl rfl rfl ?_
  refine ax_iconst (q := 78) (v := 0) hX dc_K_init_77 rfl (by decide) ?_
  refine ax_putI (q := 81) hX dc_K_init_78 rfl fl_K_43 rfl kS_0 (fun z => by cases z) rfl rfl rfl ?_
  refine ax_aload_n (q := 82) hX dc_K_init_81 rfl rfl rfl ?_
  refine ax_iconst (q := 83) (v := 0) hX dc_K_init_82 rfl (by decide) ?_
  refine ax_putI (q := 86) (I' := kI (fs x1) (fs x2)) hX dc_K_init_83 rfl fl_K_46 rfl kS_0 (fun z => by cases z) rfl rfl rfl ?_
  refine ax_vret hX hF dc_K_init_86 (by decide) (by decide) ax_eq.mk (by
    rw [hS0]
    intro j s hj
    unfold k1S ax_add at hj
    split at hj
    · rename_i e
      subst e
      cases hj
      exact kS_0
    · cases hj)
/-! the reference's constructor: its id is 210, its arrays 211 .. 226 -/
def mLen : Nat → Nat
  | 0 => 2
  | 1 => 2
  | 2 => 2
  | 3 => 2
  | 4 => 80
  | 5 => 80
  | 6 => 80
  | 7 => 80
  | 8 => 80
  | 9 => 80
  | 10 => 960
  | 11 => 40
  | 12 => 40
  | 13 => 40
  | 14 => 4
  | 15 => 1200
  | _ => 0
def mFld (n : Nat) : Nat := if n < 14 then n + 4 else n + 6
def mS : Nat → ax_S
  | 0 => ax_add kS 210 (.inl 5)
  | n + 1 => ax_add (mS n) (211 + n) (.inr (0, mLen n))
def mR : Nat → ax_R
  | 0 => kR
  | n + 1 => ax_up (mR n) 210 (mFld n) (some (211 + n))
theorem ax_typ_add {S : ax_S} {R : ax_R} {i : Nat} {sh : ax_Sh} (h : ax_typ S R) (hi : S i = none) (hr : ∀ k, R i k = none) (hn : ∀ ai n, sh = .inr (ai, n) → n < 2 ^ 31) : ax_typ (ax_add S i sh) R := by
  obtain ⟨h1, h2, h3, h4⟩ := h
  have old := @ax_add_old S i sh hi
  refine ⟨fun a ci k u ha hu => ?_, fun a n k u ha hu => ?_, fun a n k u ha hu => ?_, fun a ai n ha => ?_⟩
  · by_cases e : a = i
    · subst e; rw [hr k] at hu; cases hu
    · rw [ax_add_ne e] at ha
      have := h1 a ci k u ha hu
      revert this
      unfold ax_is
      cases ax_dt ci k with
      | inl c => exact fun h => old u _ h
      | inr c => exact fun ⟨n, h⟩ => ⟨n, old u _ h⟩
  · by_cases e : a = i
    · subst e; rw [hr k] at hu; cases hu
    · rw [ax_add_ne e] at ha
      exact old u _ (h2 a n k u ha hu)
  · by_cases e : a = i
    · subst e; rw [hr k] at hu; cases hu
    · rw [ax_add_ne e] at ha
      exact old u _ (h3 a n k u ha hu)
  · by_cases e : a = i
    · subst e; rw [ax_add_self] at ha; cases ha; exact hn ai n rfl
    · rw [ax_add_ne e] at ha
      exact h4 a ai n ha
theorem ax_typ_p1 {S : ax_S} {I : ax_I} {R : ax_R} {L : ax_L} {b : Nat} (h : ax_typ S R) (hb : S b = some (.inl 1)) (hbl : ax_blank S I R L (b + 1)) : ∀ i, i ≤ 40 → ax_typ (p1S S b i) (p1R R b i) := by
  intro i
  induction i with
  | zero =>
    intro _
    have h0 := hbl (b + 1) (Nat.le_refl _)
    rw [← p1S_0, ← p1R_0]
    refine ax_typ_f (ci := 1) (ax_typ_add h h0.1 h0.2.2.1 (fun ai n z => by cases z; decide)) (by rw [ax_add_ne (by omega)]; exact hb) ?_
    exact ⟨40, ax_add_self _ _ _⟩
  | succ i ih =>
    intro hi
    have hu : p1S S b i (b + 2 + 2 * i) = none := by rw [p1S_at (Or.inr (Nat.le_refl _))]; exact (hbl _ (by omega)).1
    have hv : ax_add (p1S S b i) (b + 2 + 2 * i) (.inl 3) (b + 3 + 2 * i) = none := by rw [ax_add_ne (by omega), p1S_at (Or.inr (by omega))]; exact (hbl _ (by omega)).1
    have r1 : ∀ k, p1R R b i (b + 2 + 2 * i) k = none := fun k => by rw [p1R_at (by omega)]; exact (hbl _ (by omega)).2.2.1 k
    have r2 : ∀ k, p1R R b i (b + 3 + 2 * i) k = none := fun k => by rw [p1R_at (by omega)]; exact (hbl _ (by omega)).2.2.1 k
    have hsa : p1S S b i (b + 1) = some (.inr (2, 40)) := by unfold p1S; rw [if_pos rfl]
    have t1 := ax_typ_add (sh := .inl 3) (ih (by omega)) hu r1 (fun ai n z => by cases z)
    have t2 := ax_typ_add (sh := .inr (0, 12)) t1 hv r2 (fun ai n z => by cases z; decide)
    have e1 : ax_add (ax_add (p1S S b i) (b + 2 + 2 * i) (.inl 3)) (b + 3 + 2 * i) (.inr (0, 12)) (b + 2 + 2 * i) = some (.inl 3) := by rw [ax_add_ne (by omega), ax_add_self]
    have e2 : ax_add (ax_add (p1S S b i) (b + 2 + 2 * i) (.inl 3)) (b + 3 + 2 * i) (.inr (0, 12)) (b + 1) = some (.inr (2, 40)) := by rw [ax_add_ne (by omega), ax_add_ne (by omega)]; exact hsa
    rw [← p1S_s, ← p1R_s]
    refine ax_typ_a2 (ax_typ_f (ci := 3) t2 e1 ?_) e2 e1
    exact ⟨12, ax_add_self _ _ _⟩
theorem ax_typ_p2 {S : ax_S} {I : ax_I} {R : ax_R} {L : ax_L} {b : Nat} (h : ax_typ S R) (hb : S b = some (.inl 1)) (hbl : ax_blank S I R L (b + 82)) : ∀ i, i ≤ 20 → ax_typ (p2S S b i) (p2R R b i) := by
  intro i
  induction i with
  | zero =>
    intro _
    have h0 := hbl (b + 82) (Nat.le_refl _)
    rw [← p2S_0, ← p2R_0]
    refine ax_typ_f (ci := 1) (ax_typ_add h h0.1 h0.2.2.1 (fun ai n z => by cases z; decide)) (by rw [ax_add_ne (by omega)]; exact hb) ?_
    exact ⟨20, ax_add_self _ _ _⟩
  | succ i ih =>
    intro hi
    have hu : p2S S b i (b + 83 + i) = none := by rw [p2S_at (Or.inr (Nat.le_refl _))]; exact (hbl _ (by omega)).1
    have r1 : ∀ k, p2R R b i (b + 83 + i) k = none := fun k => by rw [p2R_at (Or.inr (by omega))]; exact (hbl _ (by omega)).2.2.1 k
    have hsa : p2S S b i (b + 82) = some (.inr (3, 20)) := by unfold p2S; rw [if_pos rfl]
    have t1 := ax_typ_add (sh := .inl 0) (ih (by omega)) hu r1 (fun ai n z => by cases z)
    rw [← p2S_s, ← p2R_s]
    refine ax_typ_a3 t1 (by rw [ax_add_ne (by omega)]; exact hsa) (ax_add_self _ _ _)
theorem ax_typ_pic {S : ax_S} {I : ax_I} {R : ax_R} {L : ax_L} {b : Nat} (h : ax_typ S R) (hb : S b = some (.inl 1)) (hbl : ax_blank S I R L (b + 1)) : ax_typ (pS S b) (pR R b) := by
  refine ax_typ_p2 (I := I) (L := L) (ax_typ_p1 h hb hbl 40 (Nat.le_refl _)) (by rw [p1S_at (Or.inl rfl)]; exact hb) (fun j hj => ?_) 20 (Nat.le_refl _)
  obtain ⟨h1, h2, h3, h4⟩ := hbl j (by omega)
  exact ⟨by rw [p1S_at (Or.inr (by omega))]; exact h1, h2, fun k => by rw [p1R_at (by omega)]; exact h3 k, h4⟩
theorem kS_typ : ax_typ kS kR := by
  have t2 : ax_typ k2S k0R := ax_typ_add k1_typ rfl (fun _ => rfl) (fun ai n z => by cases z)
  have t3 : ax_typ k3S k0R := ax_typ_add t2 rfl (fun _ => rfl) (fun ai n z => by cases z; decide)
  have t4 : ax_typ k3S k2R := ax_typ_f (ci := 4) (ax_typ_f (ci := 2) t3 rfl ⟨1148, rfl⟩) rfl rfl
  have t5 : ax_typ k4S k3R := ax_typ_f (ci := 4) (ax_typ_add t4 rfl (fun k => ((kb3_blank 0 0) 3 (by omega)).2.2.1 k) (fun ai n z => by cases z; decide)) rfl ⟨4, rfl⟩
  have b4 : ax_blank k4S (k1I 0 0) k3R k0L 4 := ax_blank_add (ax_blank_R (ax_blank_mono (kb3_blank _ _) (by omega)) (by omega)) (by omega)
  have t6 : ax_typ k5S k3R := ax_typ_add t5 rfl (fun k => (b4 4 (by omega)).2.2.1 k) (fun ai n z => by cases z)
  have e4 : pS k5S 4 4 = some (.inl 1) := by rw [pS_lo (by omega)]; rfl
  have t7 : ax_typ (pS k5S 4) k4R := ax_typ_f (ci := 4) (ax_typ_pic t6 rfl (kb5_blank 0 0)) k5S_0 e4
  have t8 : ax_typ k6S k4R := ax_typ_add t7 ((kbp_blank 0 0) 107 (by omega)).1 (fun k => ((kbp_blank 0 0) 107 (by omega)).2.2.1 k) (fun ai n z => by cases z)
  exact ax_typ_f (ci := 4) (ax_typ_pic t8 (ax_add_self _ _ _) (kb6_blank 0 0)) kS_0 (by show pS k6S 107 107 = _; rw [pS_lo (by omega)]; exact ax_add_self _ _ _)
theorem mB (w h : Int32) : ∀ n, ax_blank (mS n) (kI w h) (mR n) k0L (211 + n)
  | 0 => ax_blank_add (ax_blank_mono (kbk_blank w h) (by omega)) (by omega)
  | n + 1 => ax_blank_add (ax_blank_R (ax_blank_mono (mB w h n) (by omega)) (by omega)) (by omega)
theorem mS_210 : ∀ n, mS n 210 = some (.inl 5)
  | 0 => ax_add_self _ _ _
  | n + 1 => by show ax_add (mS n) (211 + n) _ 210 = _; rw [ax_add_ne (by omega)]; exact mS_210 n
theorem mLen_lt (n : Nat) : mLen n < 2 ^ 31 := by
  unfold mLen
  split <;> decide
theorem mS_typ : ∀ n, n ≤ 16 → ax_typ (mS n) (mR n)
  | 0, _ => ax_typ_add kS_typ ((kbk_blank 0 0) 210 (by omega)).1 (fun k => ((kbk_blank 0 0) 210 (by omega)).2.2.1 k) (fun ai n z => by cases z)
  | n + 1, h => by
    refine ax_typ_f (ci := 5) (ax_typ_add (mS_typ n (by omega)) ((mB 0 0 n) (211 + n) (Nat.le_refl _)).1 (fun k => ((mB 0 0 n) (211 + n) (Nat.le_refl _)).2.2.1 k) (fun ai m z => by cases z; exact mLen_lt n)) (mS_210 (n + 1)) ?_
    exact ⟨mLen n, ax_add_self _ _ _⟩
theorem mS_old : ∀ n j s, mS 0 j = some s → mS n j = some s
  | 0, _, _, h => h
  | n + 1, j, s, h => ax_add_old ((mB 0 0 n) (211 + n) (Nat.le_refl _)).1 j s (mS_old n j s h)
def fm (x : Int32) : Int32 := if 1 ≤ x then (if x ≤ 200 then x else 200) else 1
def mI (w h : Int32) (v1 v2 : Int32) : ax_I := ax_up (ax_up (kI w h) 210 1 v1) 210 2 v2
set_option maxHeartbeats 2000000 in
theorem c_M_init (l : Launch) {w h x1 x2 : Int32} {out : ax_I} (hout : d_M_clear (mS 16) (mI w h (fm x1) (fm x2)) (mR 16) 210 = some out) : ax_Met l y_M_init b_M_init 3 none (ax_rm 2 16 2772) [.ref 210, .int x1, .int x2] (mS 0) (kI w h) (mR 0) k0L (ax_eq none (mS 16) out (mR 16) k0L) := by
  refine ax_enter (own := "LossFreeToolsModel") (by decide +kernel) rfl (ax_cats rfl) (Nat.le_of_ble_eq_true rfl) (fun X hX hF hini hS0 => ?_)
  show ax_W X 3 0 [some (.ref 210), some (.int x1), some (.int x2)] [] (mS 0) (kI w h) (mR 0) k0L 0 0
  refine ax_aload_n (q := 1) hX dc_M_init_0 rfl rfl rfl ?_
  refine ax_obj (q := 4) hX dc_M_init_1 rfl wl_M_1 wi_obj wc_obj (by decide) (by decide) (Nat.le_of_ble_eq_true rfl) ?_
  refine ax_aload_n (q := 5) hX dc_M_init_4 rfl rfl rfl ?_
  refine ax_iconst (q := 6) (v := 2) hX dc_M_init_5 rfl (by decide) ?_
  refine ax_newaB (q := 8) (len := 2) (S' := mS 1) (c1 := 1) (s1 := 2) hX 211 dc_M_init_6 rfl ((mB w h 0) 211 (Nat.le_refl _)).1 ((mB w h 0) 211 (Nat.le_refl _)).2 rfl (by decide) (by decide) (by decide) rfl rfl rfl ?_
  refine ax_putR (q := 11) (R' := mR 1) hX dc_M_init_8 rfl fl_M_7 rfl (mS_210 1) (fun _ => ⟨hini rfl, fun w hw => by cases hw; rfl⟩) rfl ?_
  refine ax_aload_n (q := 12) hX dc_M_init_11 rfl rfl rfl ?_
  refine ax_iconst (q := 13) (v := 2) hX dc_M_init_12 rfl (by decide) ?_
  refine ax_newaB (q := 15) (len := 2) (S' := mS 2) (c1 := 2) (s1 := 4) hX 212 dc_M_init_13 rfl ((mB w h 1) 212 (Nat.le_refl _)).1 ((mB w h 1) 212 (Nat.le_refl _)).2 rfl (by decide) (by decide) (by decide) rfl rfl rfl ?_
  refine ax_putR (q := 18) (R' := mR 2) hX dc_M_init_15 rfl fl_M_13 rfl (mS_210 2) (fun _ => ⟨hini rfl, fun w hw => by cases hw; rfl⟩) rfl ?_
  refine ax_aload_n (q := 19) hX dc_M_init_18 rfl rfl rfl ?_
  refine ax_iconst (q := 20) (v := 2) hX dc_M_init_19 rfl (by decide) ?_
  refine ax_newaB (q := 22) (len := 2) (S' := mS 3) (c1 := 3) (s1 := 6) hX 213 dc_M_init_20 rfl ((mB w h 2) 213 (Nat.le_refl _)).1 ((mB w h 2) 213 (Nat.le_refl _)).2 rfl (by decide) (by decide) (by decide) rfl rfl rfl ?_
  refine ax_putR (q := 25) (R' := mR 3) hX dc_M_init_22 rfl fl_M_16 rfl (mS_210 3) (fun _ => ⟨hini rfl, fun w hw => by cases hw; rfl⟩) rfl ?_
  refine ax_aload_n (q := 26) hX dc_M_init_25 rfl rfl rfl ?_
  refine ax_iconst (q := 27) (v := 2) hX dc_M_init_26 rfl (by decide) ?_
  refine ax_newaB (q := 29) (len := 2) (S' := mS 4) (c1 := 4) (s1 := 8) hX 214 dc_M_init_27 rfl ((mB w h 3) 214 (Nat.le_refl _)).1 ((mB w h 3) 214 (Nat.le_refl _)).2 rfl (by decide) (by decide) (by decide) rfl rfl rfl ?_
  refine ax_putR (q := 32) (R' := mR 4) hX dc_M_init_29 rfl fl_M_19 rfl (mS_210 4) (fun _ => ⟨hini rfl, fun w hw => by cases hw; rfl⟩) rfl ?_
  refine ax_aload_n (q := 33) hX dc_M_init_32 rfl rfl rfl ?_
  refine ax_bipush (q := 35) (v := 80) hX dc_M_init_33 rfl (by decide) ?_
  refine ax_newaB (q := 37) (len := 80) (S' := mS 5) (c1 := 5) (s1 := 88) hX 215 dc_M_init_35 rfl ((mB w h 4) 215 (Nat.le_refl _)).1 ((mB w h 4) 215 (Nat.le_refl _)).2 rfl (by decide) (by decide) (by decide) rfl rfl rfl ?_
  refine ax_putR (q := 40) (R' := mR 5) hX dc_M_init_37 rfl fl_M_22 rfl (mS_210 5) (fun _ => ⟨hini rfl, fun w hw => by cases hw; rfl⟩) rfl ?_
  refine ax_aload_n (q := 41) hX dc_M_init_40 rfl rfl rfl ?_
  refine ax_bipush (q := 43) (v := 80) hX dc_M_init_41 rfl (by decide) ?_
  refine ax_newaB (q := 45) (len := 80) (S' := mS 6) (c1 := 6) (s1 := 168) hX 216 dc_M_init_43 rfl ((mB w h 5) 216 (Nat.le_refl _)).1 ((mB w h 5) 216 (Nat.le_refl _)).2 rfl (by decide) (by decide) (by decide) rfl rfl rfl ?_
  refine ax_putR (q := 48) (R' := mR 6) hX dc_M_init_45 rfl fl_M_25 rfl (mS_210 6) (fun _ => ⟨hini rfl, fun w hw => by cases hw; rfl⟩) rfl ?_
  refine ax_aload_n (q := 49) hX dc_M_init_48 rfl rfl rfl ?_
  refine ax_bipush (q := 51) (v := 80) hX dc_M_init_49 rfl (by decide) ?_
  refine ax_newaB (q := 53) (len := 80) (S' := mS 7) (c1 := 7) (s1 := 248) hX 217 dc_M_init_51 rfl ((mB w h 6) 217 (Nat.le_refl _)).1 ((mB w h 6) 217 (Nat.le_refl _)).2 rfl (by decide) (by decide) (by decide) rfl rfl rfl ?_
  refine ax_putR (q := 56) (R' := mR 7) hX dc_M_init_53 rfl fl_M_28 rfl (mS_210 7) (fun _ => ⟨hini rfl, fun w hw => by cases hw; rfl⟩) rfl ?_
  refine ax_aload_n (q := 57) hX dc_M_init_56 rfl rfl rfl ?_
  refine ax_bipush (q := 59) (v := 80) hX dc_M_init_57 rfl (by decide) ?_
  refine ax_newaB (q := 61) (len := 80) (S' := mS 8) (c1 := 8) (s1 := 328) hX 218 dc_M_init_59 rfl ((mB w h 7) 218 (Nat.le_refl _)).1 ((mB w h 7) 218 (Nat.le_refl _)).2 rfl (by decide) (by decide) (by decide) rfl rfl rfl ?_
  refine ax_putR (q := 64) (R' := mR 8) hX dc_M_init_61 rfl fl_M_31 rfl (mS_210 8) (fun _ => ⟨hini rfl, fun w hw => by cases hw; rfl⟩) rfl ?_
  refine ax_aload_n (q := 65) hX dc_M_init_64 rfl rfl rfl ?_
  refine ax_bipush (q := 67) (v := 80) hX dc_M_init_65 rfl (by decide) ?_
  refine ax_newaB (q := 69) (len := 80) (S' := mS 9) (c1 := 9) (s1 := 408) hX 219 dc_M_init_67 rfl ((mB w h 8) 219 (Nat.le_refl _)).1 ((mB w h 8) 219 (Nat.le_refl _)).2 rfl (by decide) (by decide) (by decide) rfl rfl rfl ?_
  refine ax_putR (q := 72) (R' := mR 9) hX dc_M_init_69 rfl fl_M_34 rfl (mS_210 9) (fun _ => ⟨hini rfl, fun w hw => by cases hw; rfl⟩) rfl ?_
  refine ax_aload_n (q := 73) hX dc_M_init_72 rfl rfl rfl ?_
  refine ax_bipush (q := 75) (v := 80) hX dc_M_init_73 rfl (by decide) ?_
  refine ax_newaB (q := 77) (len := 80) (S' := mS 10) (c1 := 10) (s1 := 488) hX 220 dc_M_init_75 rfl ((mB w h 9) 220 (Nat.le_refl _)).1 ((mB w h 9) 220 (Nat.le_refl _)).2 rfl (by decide) (by decide) (by decide) rfl rfl rfl ?_
  refine ax_putR (q := 80) (R' := mR 10) hX dc_M_init_77 rfl fl_M_37 rfl (mS_210 10) (fun _ => ⟨hini rfl, fun w hw => by cases hw; rfl⟩) rfl ?_
  refine ax_aload_n (q := 81) hX dc_M_init_80 rfl rfl rfl ?_
  refine ax_sipush (q := 84) (v := 960) hX dc_M_init_81 rfl (by decide) ?_
  refine ax_newaB (q := 86) (len := 960) (S' := mS 11) (c1 := 11) (s1 := 1448) hX 221 dc_M_init_84 rfl ((mB w h 10) 221 (Nat.le_refl _)).1 ((mB w h 10) 221 (Nat.le_refl _)).2 rfl (by decide) (by decide) (by decide) rfl rfl rfl ?_
  refine ax_putR (q := 89) (R' := mR 11) hX dc_M_init_86 rfl fl_M_40 rfl (mS_210 11) (fun _ => ⟨hini rfl, fun w hw => by cases hw; rfl⟩) rfl ?_
  refine ax_aload_n (q := 90) hX dc_M_init_89 rfl rfl rfl ?_
  refine ax_bipush (q := 92) (v := 40) hX dc_M_init_90 rfl (by decide) ?_
  refine ax_newaB (q := 94) (len := 40) (S' := mS 12) (c1 := 12) (s1 := 1488) hX 222 dc_M_init_92 rfl ((mB w h 11) 222 (Nat.le_refl _)).1 ((mB w h 11) 222 (Nat.le_refl _)).2 rfl (by decide) (by decide) (by decide) rfl rfl rfl ?_
  refine ax_putR (q := 97) (R' := mR 12) hX dc_M_init_94 rfl fl_M_43 rfl (mS_210 12) (fun _ => ⟨hini rfl, fun w hw => by cases hw; rfl⟩) rfl ?_
  refine ax_aload_n (q := 98) hX dc_M_init_97 rfl rfl rfl ?_
  refine ax_bipush (q := 100) (v := 40) hX dc_M_init_98 rfl (by decide) ?_
  refine ax_newaB (q := 102) (len := 40) (S' := mS 13) (c1 := 13) (s1 := 1528) hX 223 dc_M_init_100 rfl ((mB w h 12) 223 (Nat.le_refl _)).1 ((mB w h 12) 223 (Nat.le_refl _)).2 rfl (by decide) (by decide) (by decide) rfl rfl rfl ?_
  refine ax_putR (q := 105) (R' := mR 13) hX dc_M_init_102 rfl fl_M_46 rfl (mS_210 13) (fun _ => ⟨hini rfl, fun w hw => by cases hw; rfl⟩) rfl ?_
  refine ax_aload_n (q := 106) hX dc_M_init_105 rfl rfl rfl ?_
  refine ax_bipush (q := 108) (v := 40) hX dc_M_init_106 rfl (by decide) ?_
  refine ax_newaB (q := 110) (len := 40) (S' := mS 14) (c1 := 14) (s1 := 1568) hX 224 dc_M_init_108 rfl ((mB w h 13) 224 (Nat.le_refl _)).1 ((mB w h 13) 224 (Nat.le_refl _)).2 rfl (by decide) (by decide) (by decide) rfl rfl rfl ?_
  refine ax_putR (q := 113) (R' := mR 14) hX dc_M_init_110 rfl fl_M_49 rfl (mS_210 14) (fun _ => ⟨hini rfl, fun w hw => by cases hw; rfl⟩) rfl ?_
  refine ax_aload_n (q := 114) hX dc_M_init_113 rfl rfl rfl ?_
  refine ax_iconst (q := 115) (v := 4) hX dc_M_init_114 rfl (by decide) ?_
  refine ax_newaB (q := 117) (len := 4) (S' := mS 15) (c1 := 15) (s1 := 1572) hX 225 dc_M_init_115 rfl ((mB w h 14) 225 (Nat.le_refl _)).1 ((mB w h 14) 225 (Nat.le_refl _)).2 rfl (by decide) (by decide) (by decide) rfl rfl rfl ?_
  refine ax_putR (q := 120) (R' := mR 15) hX dc_M_init_117 rfl fl_M_52 rfl (mS_210 15) (fun _ => ⟨hini rfl, fun w hw => by cases hw; rfl⟩) rfl ?_
  refine ax_aload_n (q := 121) hX dc_M_init_120 rfl rfl rfl ?_
  refine ax_sipush (q := 124) (v := 1200) hX dc_M_init_121 rfl (by decide) ?_
  refine ax_newaB (q := 126) (len := 1200) (S' := mS 16) (c1 := 16) (s1 := 2772) hX 226 dc_M_init_124 rfl ((mB w h 15) 226 (Nat.le_refl _)).1 ((mB w h 15) 226 (Nat.le_refl _)).2 rfl (by decide) (by decide) (by decide) rfl rfl rfl ?_
  refine ax_putR (q := 129) (R' := mR 16) hX dc_M_init_126 rfl fl_M_55 rfl (mS_210 16) (fun _ => ⟨hini rfl, fun w hw => by cases hw; rfl⟩) rfl ?_
  refine ax_aload_n (q := 130) hX dc_M_init_129 rfl rfl rfl ?_
  have j1 : ax_W X 3 153 [some (.ref 210), some (.int x1), some (.int x2)] [.int (fm x1), .ref 210] (mS 16) (kI w h) (mR 16) k0L 16 2772 := by
    refine ax_putI (q := 156) hX dc_M_init_153 rfl fl_M_58 rfl (mS_210 16) (fun _ => ⟨hini rfl, fun w hw => by cases hw; rfl⟩) rfl rfl rfl ?_
    refine ax_aload_n (q := 157) hX dc_M_init_156 rfl rfl rfl ?_
    have j2 : ax_W X 3 180 [some (.ref 210), some (.int x1), some (.int x2)] [.int (fm x2), .ref 210] (mS 16) (ax_up (kI w h) 210 1 (fm x1)) (mR 16) k0L 16 2772 := by
      refine ax_putI (q := 183) hX dc_M_init_180 rfl fl_M_62 rfl (mS_210 16) (fun _ => ⟨hini rfl, fun w hw => by cases hw; rfl⟩) rfl rfl rfl ?_
      refine ax_aload_n (q := 184) hX dc_M_init_183 rfl rfl rfl ?_
      refine ax_kV (vs := []) (rest := []) (v := none) (q := 187) hX dc_M_init_184 rfl mt_M_clear wl_M_65 wi_M_clear ws_M_clear (mS_210 16) rfl (c_M_clear l (mS_typ 16 (Nat.le_refl _)) (mS_210 16) hout) rfl (by decide) rfl (Nat.le_of_ble_eq_true rfl) rfl rfl (by decide) (by decide) rfl ?_
      exact ax_vret hX hF dc_M_init_187 (by decide) (by decide) ax_eq.mk (by rw [hS0]; exact mS_old 16)
    refine ax_iload_n (q := 158) hX dc_M_init_157 rfl rfl rfl ?_
    refine ax_iconst (q := 159) (v := 1) hX dc_M_init_158 rfl (by decide) ?_
    refine ax_icmp_ge (tgt := 166) (q := 162) hX dc_M_init_159 rfl (by decide) (fun z => ?_) (fun z => ?_)
    · refine ax_iload_n (q := 167) hX dc_M_init_166 rfl rfl rfl ?_
      refine ax_sipush (q := 170) (v := 200) hX dc_M_init_167 rfl (by decide) ?_
      refine ax_icmp_le (tgt := 179) (q := 173) hX dc_M_init_170 rfl (by decide) (fun y => ?_) (fun y => ?_)
      · refine ax_iload_n (q := 180) hX dc_M_init_179 rfl rfl rfl ?_
        have e : fm x2 = x2 := by unfold fm; rw [if_pos z, if_pos y]
        rw [e] at j2
        exact j2
      · refine ax_sipush (q := 176) (v := 200) hX dc_M_init_173 rfl (by decide) ?_
        refine ax_goto (tgt := 180) hX dc_M_init_176 (by decide) ?_
        have e : fm x2 = 200 := by unfold fm; rw [if_pos z, if_neg y]
        rw [e] at j2
        exact j2
    · refine ax_iconst (q := 163) (v := 1) hX dc_M_init_162 rfl (by decide) ?_
      refine ax_goto (tgt := 180) hX dc_M_init_163 (by decide) ?_
      have e : fm x2 = 1 := by unfold fm; rw [if_neg z]
      rw [e] at j2
      exact j2
  refine ax_iload_n (q := 131) hX dc_M_init_130 rfl rfl rfl ?_
  refine ax_iconst (q := 132) (v := 1) hX dc_M_init_131 rfl (by decide) ?_
  refine ax_icmp_ge (tgt := 139) (q := 135) hX dc_M_init_132 rfl (by decide) (fun z => ?_) (fun z => ?_)
  · refine ax_iload_n (q := 140) hX dc_M_init_139 rfl rfl rfl ?_
    refine ax_sipush (q := 143) (v := 200) hX dc_M_init_140 rfl (by decide) ?_
    refine ax_icmp_le (tgt := 152) (q := 146) hX dc_M_init_143 rfl (by decide) (fun y => ?_) (fun y => ?_)
    · refine ax_iload_n (q := 153) hX dc_M_init_152 rfl rfl rfl ?_
      have e : fm x1 = x1 := by unfold fm; rw [if_pos z, if_pos y]
      rw [e] at j1
      exact j1
    · refine ax_sipush (q := 149) (v := 200) hX dc_M_init_146 rfl (by decide) ?_
      refine ax_goto (tgt := 153) hX dc_M_init_149 (by decide) ?_
      have e : fm x1 = 200 := by unfold fm; rw [if_pos z, if_neg y]
      rw [e] at j1
      exact j1
  · refine ax_iconst (q := 136) (v := 1) hX dc_M_init_135 rfl (by decide) ?_
    refine ax_goto (tgt := 153) hX dc_M_init_136 (by decide) ?_
    have e : fm x1 = 1 := by unfold fm; rw [if_neg z]
    rw [e] at j1
    exact j1
/-! the law's script: a cell that nobody writes (the first of G's kept cells); its reference is '.retAddr b' in hand -/
def ax_GX (X : ax_X) : ax_G := X.2.2.2.2.2.2.2.2.2.2.1
def ax_scrG (G : ax_G) (b n : Nat) (sc : Nat → Int32) : Prop := ∃ ce : Cell, G.2.2[0]? = some (b, ce) ∧ ce.vm ≠ .unknown ∧ ce.slots.size = n ∧ ∀ j : Nat, j < n → ce.slots[j]? = some (.int (sc j))
section SCR
variable {X : ax_X} {l : Launch} {own : String} {cc : ByteArray} {nL : Nat} {rm : Room} {pc q : Nat} {ls ls' : ax_Ls} {st : List Value} {S : ax_S} {I : ax_I} {R : ax_R} {L : ax_L} {cs ss mc ms : Nat} {ret : Option FieldType} {RX : ax_RX} {b n : Nat} {sc : Nat → Int32}
theorem ax_saload_n (h : ax_ok X l own cc nL rm) {k : Fin 4} {i : Nat} (hd : decode cc pc = .ok (.aload_n k, 1)) (hq : pc + 1 = q) (hi : (k : Nat) = i) (hl0 : ls[i]? = some (some (.retAddr b))) (kk : ax_W X nL q ls (.retAddr b :: st) S I R L cs ss) : ax_W X nL pc ls st S I R L cs ss := by
  obtain ⟨p, l1, e, Rm, s, m, args, below, meth, c, G, A, ad0, S0, Q⟩ := X
  obtain ⟨rfl, rfl, hx, hb, hml, hown, hts, hK, hA, hlk⟩ := h
  intro ad H locs lsC h0 hAd hR hS hl hlv
  subst hq
  exact lv_aload_n hx hb hd hi (hl.get hl0) (kk ad H locs lsC h0 hAd hR hS hl (hlv.push (hlv.2 _ (List.mem_of_getElem? hl0))))
theorem ax_slen (h : ax_ok X l own cc nL rm) (hs : ax_scrG (ax_GX X) b n sc) (hd : decode cc pc = .ok (.arraylength, 1)) (hq : pc + 1 = q)
    (kk : ax_W X nL q ls (.int (nI n) :: st) S I R L cs ss) : ax_W X nL pc ls (.retAddr b :: st) S I R L cs ss := by
  obtain ⟨p, l1, e, Rm, s, m, args, below, meth, c, G, A, ad0, S0, Q⟩ := X
  obtain ⟨rfl, rfl, hx, hb, hml, hown, hts, hK, hA, hlk⟩ := h
  intro ad H locs lsC h0 hAd hR hS hl hlv
  subst hq
  obtain ⟨ce, hz, h1, h2, h3⟩ := hs
  have hz : G.2.2[0]? = some (b, ce) := hz
  have hcell := (hR.2.2.2 _ (List.mem_of_getElem? hz)).1
  refine W.alen hx hb hcell (hK.2.2.2.2.2.2.2 _ hz) (n := nI n) ?_ rfl rfl hd (kk ad H locs lsC h0 hAd hR hS hl (hlv.pop.push ax_okv_i))
  rw [h2]
  rfl
theorem ax_sld (h : ax_ok X l own cc nL rm) (hs : ax_scrG (ax_GX X) b n sc) (k : Nat) {x : Int32} (hd : decode cc pc = .ok (.iaload, 1)) (hq : pc + 1 = q) (hx0 : x = nI k) (hlt : k < n) (hlen : n < 2 ^ 31)
    (kk : ax_W X nL q ls (.int (sc k) :: st) S I R L cs ss) : ax_W X nL pc ls (.int x :: .retAddr b :: st) S I R L cs ss := by
  obtain ⟨p, l1, e, Rm, s, m, args, below, meth, c, G, A, ad0, S0, Q⟩ := X
  obtain ⟨rfl, rfl, hx, hb, hml, hown, hts, hK, hA, hlk⟩ := h
  intro ad H locs lsC h0 hAd hR hS hl hlv
  subst hq
  obtain ⟨ce, hz, h1, h2, h3⟩ := hs
  have hz : G.2.2[0]? = some (b, ce) := hz
  have hcell := (hR.2.2.2 _ (List.mem_of_getElem? hz)).1
  obtain ⟨hin, hcl⟩ := ax_vin hx0 hlt hlen
  refine W.iald hx hb hcell (hK.2.2.2.2.2.2.2 _ hz) h1 (by rw [h2]; exact hin) (v := .int (sc k)) ?_ rfl rfl hd (kk ad H locs lsC h0 hAd hR hS hl (hlv.pop.pop.push ax_okv_i))
  rw [hcl]
  exact h3 k hlt
/-- a contract at one G -/
def ax_Met1 (G : ax_G) (l : Launch) (y : MethodName) (bytes : ByteArray) (maxL : Nat) (ret : Option FieldType) (rm : Room) (vs : List Value) (S : ax_S) (I : ax_I) (R : ax_R) (L : ax_L) (Rs : ax_Rs) : Prop :=
  ∀ (ad : Nat → Nat) (sz : Nat), Met l y (Cond.code y bytes maxL ret :: ax_tb) rm (ax_Pre G ad sz vs S I R L) (ax_Post G ad S sz Rs) rm.cells rm.slots (ax_A ad S sz)
theorem ax_enter1 {G : ax_G} {y : MethodName} {bytes : ByteArray} {maxL : Nat} {vs : List Value} {Rs : ax_Rs} (hy : plainName y.cls = true) (hyo : y.cls = own) (hc : ∀ v ∈ vs, v.category = 1) (hn : vs.length ≤ maxL)
    (body : ∀ X, ax_ok X l own bytes maxL rm → ax_fin X ret rm.cells rm.slots (ax_of Rs) → ax_GX X = G → ax_S0 X = S → ax_W X maxL 0 (vs.map some ++ List.replicate (maxL - vs.length) none) [] S I R L 0 0) :
    ax_Met1 G l y bytes maxL ret rm vs S I R L Rs := by
  intro ad sz
  refine Met.ofW (cc := bytes) (maxL := maxL) (ret := ret) hy rfl ?_
  intro p e s m args below meth c s₁ B hml hv
  obtain ⟨rfl, hsz, hR, hK, hok⟩ := hv
  subst hsz
  have hts0 := atoms_spec (ws := Cond.code y bytes maxL ret :: ax_tb) B.pre
  have hown : s.vm.findClass own = some m.cls := by rw [← hyo]; exact findClass_of_methodNamed B.named
  have hlk := B.notSynchronized
  have hA : ∀ q : Nat, s.heap.size ≤ q → ax_A ad S s.heap.size q := fun q h => Or.inr h
  have hcat : ∀ v ∈ vs.map (ax_tv ad), v.category = 1 := fun v hv => by
    obtain ⟨w, hw, e⟩ := List.mem_map.mp hv
    rw [← e, ax_tv_cat]
    exact hc w hw
  rw [entry_eq m _ hcat]
  have hb := body (p, l, e, rm, s, m, (vs.map (ax_tv ad)).toArray, below, meth, c, G, ax_A ad S s.heap.size, ad, S, ax_Q below s G ad S s.heap.size rm.cells rm.slots (ax_of Rs))
    ⟨rfl, rfl, B.exec, B.bytes, hml, hown, fun w hw => hts0 w (List.mem_cons_of_mem _ hw), hK, hA, hlk⟩ ⟨B.returns, rfl, rfl⟩ rfl rfl
  have hw := hb ad s.heap [] (((vs.map (ax_tv ad)).map Slot.val ++ List.replicate (maxL - (vs.map (ax_tv ad)).length) Slot.unset).toArray) (fun i hi => ⟨hi, rfl⟩) (fun i hi => Or.inl ⟨i, hi, rfl⟩) hR va_S.rf (ax_entry_loc ad vs hc hn)
    ⟨fun v hv => (by cases hv), fun v hv => by
      rcases List.mem_append.mp hv with h1 | h1
      · obtain ⟨w, hw, e⟩ := List.mem_map.mp h1
        cases e
        exact hok _ hw
      · have := List.eq_of_mem_replicate h1
        cases this⟩
  refine ax_mono ?_ hw
  rintro t ⟨o, h1, h2, ⟨r, S', I', R', L', ad', hr, hm, hw'⟩, h5, Ls, h6, h7, h8⟩
  cases r with
  | inr E => exact absurd hr (fun z => z)
  | inl v => exact ⟨o, h1, h2, ⟨⟨v, S', I', R', L', ad', hr, hm.1, hm.2, hw'⟩, h5⟩, Ls, ⟨⟨_, hm.1⟩, h6, h7⟩, h8⟩
theorem ax_callS1 (h : ax_ok X l own cc nL rm) {y : MethodName} {bytes : ByteArray} {maxL idx n : Nat} {ret : Option FieldType} {rm' : Room} {vs rest : List Value} {v : Option Value} {st' : List Value} (hd : decode cc pc = .ok (.invokestatic idx, 3)) (hq : pc + 3 = q) (hm : ax_mt y bytes maxL ret n) (hw : Cond.methodLink own idx y ∈ ax_tb) (hw2 : Cond.static y ∈ ax_tb) (hM : ax_Met1 (ax_GX X) l y bytes maxL ret rm' vs S I R L (ax_eq v S I R L)) (hn : vs.length = n) (hrm : ax_rmle rm' rm maxL) (hst : st = vs.reverse ++ rest) (hro : (rest.map fun v => v.category).sum ≤ 8) (hcs : rm'.cells = 0) (hss : rm'.slots = 0) (hc0 : cs ≤ rm.cells) (hs0 : ss ≤ rm.slots) (hst' : v.toList ++ rest = st')
    (kk : ax_W X nL q ls st' S I R L cs ss) : ax_W X nL pc ls st S I R L cs ss := by
  obtain ⟨p, l1, e, Rm, s, m, args, below, meth, c, G, A, ad0, S0, Q⟩ := X
  obtain ⟨rfl, rfl, hx, hb, hml, hown, hts, hK, hA, hlk⟩ := h
  intro ad H locs lsC h0 hAd hR hS hl hlv
  subst hq; subst hst
  obtain ⟨m1, m2, m3, m4, m5⟩ := hm
  have hok : ∀ v ∈ vs, ax_okv S v := fun v hv => hlv.1 v (List.mem_append_left _ (List.mem_reverse.mpr hv))
  have hrest : ax_live S ls rest := ⟨fun v hv => hlv.1 v (List.mem_append_right _ hv), hlv.2⟩
  have hcb : CallB Rm s args own idx y bytes maxL ret (Cond.code y bytes maxL ret :: ax_tb) rm' rm'.cells rm'.slots n := callB_of n hts (ax_good m1) rfl rfl rfl (hts _ m2) (hts _ hw) ⟨m3, m4, m5⟩ hrm
  have hM : ax_Met1 G l1 y bytes maxL ret rm' vs S I R L (ax_eq v S I R L) := hM
  refine ax_back hA h0 hAd hS hl hrest (va_runS (As := vs.map (ax_tv ad)) (rest := rest.map (ax_tv ad)) ⟨hx, hb, hml, hown, hts⟩ (hM ad H.size) ⟨hcb, hts _ hw2⟩ (ax_pre hR hK hok) rfl (by rw [List.length_map]; exact hn) (hl.2.2.1) ?_ ?_ hd ⟨by rw [hcs]; exact hc0, by rw [hss]; exact hs0⟩) (fun r S' I2 R2 L2 hr _ => ?_)
  · simp [List.map_append, List.map_reverse]
  · show 2 * 0 + _ ≤ 8
    rw [List.map_map, Nat.mul_zero, Nat.zero_add]
    refine Nat.le_trans (Nat.le_of_eq ?_) hro
    congr 1
    exact List.map_congr_left (fun v _ => ax_tv_cat ad v)
  · obtain ⟨rfl, rfl, rfl, rfl, rfl⟩ := hr
    rw [hcs, hss, hst']
    exact kk
end SCR
