theorem wi_obj : Cond.instanceMethod Lib.objectInit ∈ ax_tb := ax_tb_in (i := 37) (by decide +kernel) (by decide +kernel)
theorem wc_obj : Cond.code Lib.objectInit ⟨#[0xb1]⟩ 1 none ∈ ax_tb := ax_tb_in (i := 38) (by decide +kernel) (by decide +kernel)
theorem wa_int : Cond.arrayClass .int ∈ ax_tb := ax_tb_in (i := 67) (by decide +kernel) (by decide +kernel)
theorem wa_long : Cond.arrayClass .long ∈ ax_tb := ax_tb_in (i := 882) (by decide +kernel) (by decide +kernel)
theorem wl_N_1 : Cond.methodLink "LossFreeTools$Note" 1 Lib.objectInit ∈ ax_tb := ax_tb_in (i := 117) (by decide +kernel) (by decide +kernel)
theorem wl_P_3 : Cond.methodLink "LossFreeTools$Picture" 3 Lib.objectInit ∈ ax_tb := ax_tb_in (i := 73) (by decide +kernel) (by decide +kernel)
theorem wq_P_9 : Cond.classLink "LossFreeTools$Picture" 9 "LossFreeTools$Tile" ∈ ax_tb := ax_tb_in (i := 74) (by decide +kernel) (by decide +kernel)
theorem wz_T : Cond.instantiable "LossFreeTools$Tile" 7 ∈ ax_tb := ax_tb_in (i := 76) (by decide +kernel) (by decide +kernel)
theorem wc_T_init : Cond.code y_T_init b_T_init 1 none ∈ ax_tb := ax_tb_in (i := 79) (by decide +kernel) (by decide +kernel)
theorem wi_T_init : Cond.instanceMethod y_T_init ∈ ax_tb := ax_tb_in (i := 78) (by decide +kernel) (by decide +kernel)
theorem wl_P_17 : Cond.methodLink "LossFreeTools$Picture" 17 y_T_init ∈ ax_tb := ax_tb_in (i := 77) (by decide +kernel) (by decide +kernel)
theorem wq_P_18 : Cond.classLink "LossFreeTools$Picture" 18 "LossFreeTools$Note" ∈ ax_tb := ax_tb_in (i := 111) (by decide +kernel) (by decide +kernel)
theorem wz_N : Cond.instantiable "LossFreeTools$Note" 3 ∈ ax_tb := ax_tb_in (i := 113) (by decide +kernel) (by decide +kernel)
theorem wc_N_init : Cond.code y_N_init b_N_init 1 none ∈ ax_tb := ax_tb_in (i := 116) (by decide +kernel) (by decide +kernel)
theorem wi_N_init : Cond.instanceMethod y_N_init ∈ ax_tb := ax_tb_in (i := 115) (by decide +kernel) (by decide +kernel)
theorem wl_S_3 : Cond.methodLink "LossFreeTools$Stream" 3 Lib.objectInit ∈ ax_tb := ax_tb_in (i := 53) (by decide +kernel) (by decide +kernel)
theorem wl_T_3 : Cond.methodLink "LossFreeTools$Tile" 3 Lib.objectInit ∈ ax_tb := ax_tb_in (i := 80) (by decide +kernel) (by decide +kernel)
theorem wl_K_3 : Cond.methodLink "LossFreeTools" 3 Lib.objectInit ∈ ax_tb := ax_tb_in (i := 36) (by decide +kernel) (by decide +kernel)
theorem wc_K_nearestFirstSize : Cond.code y_K_nearestFirstSize b_K_nearestFirstSize 1 (some .int) ∈ ax_tb := ax_tb_in (i := 41) (by decide +kernel) (by decide +kernel)
theorem wl_K_9 : Cond.methodLink "LossFreeTools" 9 y_K_nearestFirstSize ∈ ax_tb := ax_tb_in (i := 39) (by decide +kernel) (by decide +kernel)
theorem wt_K_nearestFirstSize : Cond.static y_K_nearestFirstSize ∈ ax_tb := ax_tb_in (i := 40) (by decide +kernel) (by decide +kernel)
theorem wq_K_20 : Cond.classLink "LossFreeTools" 20 "LossFreeTools$Stream" ∈ ax_tb := ax_tb_in (i := 48) (by decide +kernel) (by decide +kernel)
theorem wz_S : Cond.instantiable "LossFreeTools$Stream" 3 ∈ ax_tb := ax_tb_in (i := 49) (by decide +kernel) (by decide +kernel)
theorem wc_S_init : Cond.code y_S_init b_S_init 1 none ∈ ax_tb := ax_tb_in (i := 52) (by decide +kernel) (by decide +kernel)
theorem wi_S_init : Cond.instanceMethod y_S_init ∈ ax_tb := ax_tb_in (i := 51) (by decide +kernel) (by decide +kernel)
theorem wl_K_22 : Cond.methodLink "LossFreeTools" 22 y_S_init ∈ ax_tb := ax_tb_in (i := 50) (by decide +kernel) (by decide +kernel)
theorem wq_K_31 : Cond.classLink "LossFreeTools" 31 "LossFreeTools$Picture" ∈ ax_tb := ax_tb_in (i := 68) (by decide +kernel) (by decide +kernel)
theorem wz_P : Cond.instantiable "LossFreeTools$Picture" 6 ∈ ax_tb := ax_tb_in (i := 69) (by decide +kernel) (by decide +kernel)
theorem wc_P_init : Cond.code y_P_init b_P_init 4 none ∈ ax_tb := ax_tb_in (i := 72) (by decide +kernel) (by decide +kernel)
theorem wi_P_init : Cond.instanceMethod y_P_init ∈ ax_tb := ax_tb_in (i := 71) (by decide +kernel) (by decide +kernel)
theorem wl_K_33 : Cond.methodLink "LossFreeTools" 33 y_P_init ∈ ax_tb := ax_tb_in (i := 70) (by decide +kernel) (by decide +kernel)
theorem wl_M_1 : Cond.methodLink "LossFreeToolsModel" 1 Lib.objectInit ∈ ax_tb := ax_tb_in (i := 667) (by decide +kernel) (by decide +kernel)
theorem wc_M_clear : Cond.code y_M_clear b_M_clear 2 none ∈ ax_tb := ax_tb_in (i := 671) (by decide +kernel) (by decide +kernel)
theorem wl_M_65 : Cond.methodLink "LossFreeToolsModel" 65 y_M_clear ∈ ax_tb := ax_tb_in (i := 668) (by decide +kernel) (by decide +kernel)
theorem wi_M_clear : Cond.instanceMethod y_M_clear ∈ ax_tb := ax_tb_in (i := 669) (by decide +kernel) (by decide +kernel)
theorem ws_M_clear : Cond.selects "LossFreeToolsModel" y_M_clear y_M_clear ∈ ax_tb := ax_tb_in (i := 670) (by decide +kernel) (by decide +kernel)
theorem mt_T_init : ax_mt y_T_init b_T_init 1 none 0 := ⟨wc_T_init, wn_LossFreeTools_Tile, by decide +kernel, by decide +kernel, by decide +kernel⟩
theorem mt_N_init : ax_mt y_N_init b_N_init 1 none 0 := ⟨wc_N_init, wn_LossFreeTools_Note, by decide +kernel, by decide +kernel, by decide +kernel⟩
theorem mt_K_nearestFirstSize : ax_mt y_K_nearestFirstSize b_K_nearestFirstSize 1 (some .int) 1 := ⟨wc_K_nearestFirstSize, wn_LossFreeTools, by decide +kernel, by decide +kernel, by decide +kernel⟩
theorem mt_S_init : ax_mt y_S_init b_S_init 1 none 0 := ⟨wc_S_init, wn_LossFreeTools_Stream, by decide +kernel, by decide +kernel, by decide +kernel⟩
theorem mt_P_init : ax_mt y_P_init b_P_init 4 none 2 := ⟨wc_P_init, wn_LossFreeTools_Picture, by decide +kernel, by decide +kernel, by decide +kernel⟩
theorem mt_M_clear : ax_mt y_M_clear b_M_clear 2 none 0 := ⟨wc_M_clear, wn_LossFreeToolsModel, by decide +kernel, by decide +kernel, by decide +kernel⟩
theorem dc_N_init_0 : decode b_N_init 0 = .ok (.aload_n 0, 1) := by decide +kernel
theorem dc_N_init_1 : decode b_N_init 1 = .ok (.invokespecial 1, 3) := by decide +kernel
theorem dc_N_init_4 : decode b_N_init 4 = .ok (.return_, 1) := by decide +kernel
theorem dc_P_init_0 : decode b_P_init 0 = .ok (.aload_n 0, 1) := by decide +kernel
theorem dc_P_init_1 : decode b_P_init 1 = .ok (.invokespecial 3, 3) := by decide +kernel
theorem dc_P_init_4 : decode b_P_init 4 = .ok (.aload_n 0, 1) := by decide +kernel
theorem dc_P_init_5 : decode b_P_init 5 = .ok (.bipush 40, 2) := by decide +kernel
theorem dc_P_init_7 : decode b_P_init 7 = .ok (.anewarray 9, 3) := by decide +kernel
theorem dc_P_init_10 : decode b_P_init 10 = .ok (.putfield 11, 3) := by decide +kernel
theorem dc_P_init_13 : decode b_P_init 13 = .ok (.iconst 0, 1) := by decide +kernel
theorem dc_P_init_14 : decode b_P_init 14 = .ok (.istore_n 3, 1) := by decide +kernel
theorem dc_P_init_15 : decode b_P_init 15 = .ok (.iload_n 3, 1) := by decide +kernel
theorem dc_P_init_16 : decode b_P_init 16 = .ok (.bipush 40, 2) := by decide +kernel
theorem dc_P_init_18 : decode b_P_init 18 = .ok (.if_icmp .ge 22, 3) := by decide +kernel
theorem dc_P_init_21 : decode b_P_init 21 = .ok (.aload_n 0, 1) := by decide +kernel
theorem dc_P_init_22 : decode b_P_init 22 = .ok (.getfield 11, 3) := by decide +kernel
theorem dc_P_init_25 : decode b_P_init 25 = .ok (.iload_n 3, 1) := by decide +kernel
theorem dc_P_init_26 : decode b_P_init 26 = .ok (.new 9, 3) := by decide +kernel
theorem dc_P_init_29 : decode b_P_init 29 = .ok (.dup, 1) := by decide +kernel
theorem dc_P_init_30 : decode b_P_init 30 = .ok (.invokespecial 17, 3) := by decide +kernel
theorem dc_P_init_33 : decode b_P_init 33 = .ok (.aastore, 1) := by decide +kernel
theorem dc_P_init_34 : decode b_P_init 34 = .ok (.iinc 3 1, 3) := by decide +kernel
theorem dc_P_init_37 : decode b_P_init 37 = .ok (.goto (-22), 3) := by decide +kernel
theorem dc_P_init_40 : decode b_P_init 40 = .ok (.aload_n 0, 1) := by decide +kernel
theorem dc_P_init_41 : decode b_P_init 41 = .ok (.bipush 20, 2) := by decide +kernel
theorem dc_P_init_43 : decode b_P_init 43 = .ok (.anewarray 18, 3) := by decide +kernel
theorem dc_P_init_46 : decode b_P_init 46 = .ok (.putfield 20, 3) := by decide +kernel
theorem dc_P_init_49 : decode b_P_init 49 = .ok (.iconst 0, 1) := by decide +kernel
theorem dc_P_init_50 : decode b_P_init 50 = .ok (.istore_n 3, 1) := by decide +kernel
theorem dc_P_init_51 : decode b_P_init 51 = .ok (.iload_n 3, 1) := by decide +kernel
theorem dc_P_init_52 : decode b_P_init 52 = .ok (.bipush 20, 2) := by decide +kernel
theorem dc_P_init_54 : decode b_P_init 54 = .ok (.if_icmp .ge 22, 3) := by decide +kernel
theorem dc_P_init_57 : decode b_P_init 57 = .ok (.aload_n 0, 1) := by decide +kernel
theorem dc_P_init_58 : decode b_P_init 58 = .ok (.getfield 20, 3) := by decide +kernel
theorem dc_P_init_61 : decode b_P_init 61 = .ok (.iload_n 3, 1) := by decide +kernel
theorem dc_P_init_62 : decode b_P_init 62 = .ok (.new 18, 3) := by decide +kernel
theorem dc_P_init_65 : decode b_P_init 65 = .ok (.dup, 1) := by decide +kernel
theorem dc_P_init_66 : decode b_P_init 66 = .ok (.invokespecial 24, 3) := by decide +kernel
theorem dc_P_init_69 : decode b_P_init 69 = .ok (.aastore, 1) := by decide +kernel
theorem dc_P_init_70 : decode b_P_init 70 = .ok (.iinc 3 1, 3) := by decide +kernel
theorem dc_P_init_73 : decode b_P_init 73 = .ok (.goto (-22), 3) := by decide +kernel
theorem dc_P_init_76 : decode b_P_init 76 = .ok (.aload_n 0, 1) := by decide +kernel
theorem dc_P_init_77 : decode b_P_init 77 = .ok (.iload_n 1, 1) := by decide +kernel
theorem dc_P_init_78 : decode b_P_init 78 = .ok (.putfield 25, 3) := by decide +kernel
theorem dc_P_init_81 : decode b_P_init 81 = .ok (.aload_n 0, 1) := by decide +kernel
theorem dc_P_init_82 : decode b_P_init 82 = .ok (.iload_n 2, 1) := by decide +kernel
theorem dc_P_init_83 : decode b_P_init 83 = .ok (.putfield 29, 3) := by decide +kernel
theorem dc_P_init_86 : decode b_P_init 86 = .ok (.return_, 1) := by decide +kernel
theorem dc_S_init_0 : decode b_S_init 0 = .ok (.aload_n 0, 1) := by decide +kernel
theorem dc_S_init_1 : decode b_S_init 1 = .ok (.invokespecial 3, 3) := by decide +kernel
theorem dc_S_init_4 : decode b_S_init 4 = .ok (.aload_n 0, 1) := by decide +kernel
theorem dc_S_init_5 : decode b_S_init 5 = .ok (.sipush 1148, 3) := by decide +kernel
theorem dc_S_init_8 : decode b_S_init 8 = .ok (.newarray .int, 2) := by decide +kernel
theorem dc_S_init_10 : decode b_S_init 10 = .ok (.putfield 9, 3) := by decide +kernel
theorem dc_S_init_13 : decode b_S_init 13 = .ok (.return_, 1) := by decide +kernel
theorem dc_T_init_0 : decode b_T_init 0 = .ok (.aload_n 0, 1) := by decide +kernel
theorem dc_T_init_1 : decode b_T_init 1 = .ok (.invokespecial 3, 3) := by decide +kernel
theorem dc_T_init_4 : decode b_T_init 4 = .ok (.aload_n 0, 1) := by decide +kernel
theorem dc_T_init_5 : decode b_T_init 5 = .ok (.bipush 12, 2) := by decide +kernel
theorem dc_T_init_7 : decode b_T_init 7 = .ok (.newarray .int, 2) := by decide +kernel
theorem dc_T_init_9 : decode b_T_init 9 = .ok (.putfield 9, 3) := by decide +kernel
theorem dc_T_init_12 : decode b_T_init 12 = .ok (.return_, 1) := by decide +kernel
theorem dc_K_init_0 : decode b_K_init 0 = .ok (.aload_n 0, 1) := by decide +kernel
theorem dc_K_init_1 : decode b_K_init 1 = .ok (.invokespecial 3, 3) := by decide +kernel
theorem dc_K_init_4 : decode b_K_init 4 = .ok (.aload_n 0, 1) := by decide +kernel
theorem dc_K_init_5 : decode b_K_init 5 = .ok (.iload_n 1, 1) := by decide +kernel
theorem dc_K_init_6 : decode b_K_init 6 = .ok (.invokestatic 9, 3) := by decide +kernel
theorem dc_K_init_9 : decode b_K_init 9 = .ok (.putfield 13, 3) := by decide +kernel
theorem dc_K_init_12 : decode b_K_init 12 = .ok (.aload_n 0, 1) := by decide +kernel
theorem dc_K_init_13 : decode b_K_init 13 = .ok (.iload_n 2, 1) := by decide +kernel
theorem dc_K_init_14 : decode b_K_init 14 = .ok (.invokestatic 9, 3) := by decide +kernel
theorem dc_K_init_17 : decode b_K_init 17 = .ok (.putfield 17, 3) := by decide +kernel
theorem dc_K_init_20 : decode b_K_init 20 = .ok (.aload_n 0, 1) := by decide +kernel
theorem dc_K_init_21 : decode b_K_init 21 = .ok (.new 20, 3) := by decide +kernel
theorem dc_K_init_24 : decode b_K_init 24 = .ok (.dup, 1) := by decide +kernel
theorem dc_K_init_25 : decode b_K_init 25 = .ok (.invokespecial 22, 3) := by decide +kernel
theorem dc_K_init_28 : decode b_K_init 28 = .ok (.putfield 23, 3) := by decide +kernel
theorem dc_K_init_31 : decode b_K_init 31 = .ok (.aload_n 0, 1) := by decide +kernel
theorem dc_K_init_32 : decode b_K_init 32 = .ok (.iconst 4, 1) := by decide +kernel
theorem dc_K_init_33 : decode b_K_init 33 = .ok (.newarray .int, 2) := by decide +kernel
theorem dc_K_init_35 : decode b_K_init 35 = .ok (.putfield 27, 3) := by decide +kernel
theorem dc_K_init_38 : decode b_K_init 38 = .ok (.aload_n 0, 1) := by decide +kernel
theorem dc_K_init_39 : decode b_K_init 39 = .ok (.new 31, 3) := by decide +kernel
theorem dc_K_init_42 : decode b_K_init 42 = .ok (.dup, 1) := by decide +kernel
theorem dc_K_init_43 : decode b_K_init 43 = .ok (.aload_n 0, 1) := by decide +kernel
theorem dc_K_init_44 : decode b_K_init 44 = .ok (.getfield 13, 3) := by decide +kernel
theorem dc_K_init_47 : decode b_K_init 47 = .ok (.aload_n 0, 1) := by decide +kernel
theorem dc_K_init_48 : decode b_K_init 48 = .ok (.getfield 17, 3) := by decide +kernel
theorem dc_K_init_51 : decode b_K_init 51 = .ok (.invokespecial 33, 3) := by decide +kernel
theorem dc_K_init_54 : decode b_K_init 54 = .ok (.putfield 36, 3) := by decide +kernel
theorem dc_K_init_57 : decode b_K_init 57 = .ok (.aload_n 0, 1) := by decide +kernel
theorem dc_K_init_58 : decode b_K_init 58 = .ok (.new 31, 3) := by decide +kernel
theorem dc_K_init_61 : decode b_K_init 61 = .ok (.dup, 1) := by decide +kernel
theorem dc_K_init_62 : decode b_K_init 62 = .ok (.aload_n 0, 1) := by decide +kernel
theorem dc_K_init_63 : decode b_K_init 63 = .ok (.getfield 13, 3) := by decide +kernel
theorem dc_K_init_66 : decode b_K_init 66 = .ok (.aload_n 0, 1) := by decide +kernel
theorem dc_K_init_67 : decode b_K_init 67 = .ok (.getfield 17, 3) := by decide +kernel
theorem dc_K_init_70 : decode b_K_init 70 = .ok (.invokespecial 33, 3) := by decide +kernel
theorem dc_K_init_73 : decode b_K_init 73 = .ok (.putfield 40, 3) := by decide +kernel
theorem dc_K_init_76 : decode b_K_init 76 = .ok (.aload_n 0, 1) := by decide +kernel
theorem dc_K_init_77 : decode b_K_init 77 = .ok (.iconst 0, 1) := by decide +kernel
theorem dc_K_init_78 : decode b_K_init 78 = .ok (.putfield 43, 3) := by decide +kernel
theorem dc_K_init_81 : decode b_K_init 81 = .ok (.aload_n 0, 1) := by decide +kernel
theorem dc_K_init_82 : decode b_K_init 82 = .ok (.iconst 0, 1) := by decide +kernel
theorem dc_K_init_83 : decode b_K_init 83 = .ok (.putfield 46, 3) := by decide +kernel
theorem dc_K_init_86 : decode b_K_init 86 = .ok (.return_, 1) := by decide +kernel
theorem dc_M_init_0 : decode b_M_init 0 = .ok (.aload_n 0, 1) := by decide +kernel
theorem dc_M_init_1 : decode b_M_init 1 = .ok (.invokespecial 1, 3) := by decide +kernel
theorem dc_M_init_4 : decode b_M_init 4 = .ok (.aload_n 0, 1) := by decide +kernel
theorem dc_M_init_5 : decode b_M_init 5 = .ok (.iconst 2, 1) := by decide +kernel
theorem dc_M_init_6 : decode b_M_init 6 = .ok (.newarray .int, 2) := by decide +kernel
theorem dc_M_init_8 : decode b_M_init 8 = .ok (.putfield 7, 3) := by decide +kernel
theorem dc_M_init_11 : decode b_M_init 11 = .ok (.aload_n 0, 1) := by decide +kernel
theorem dc_M_init_12 : decode b_M_init 12 = .ok (.iconst 2, 1) := by decide +kernel
theorem dc_M_init_13 : decode b_M_init 13 = .ok (.newarray .int, 2) := by decide +kernel
theorem dc_M_init_15 : decode b_M_init 15 = .ok (.putfield 13, 3) := by decide +kernel
theorem dc_M_init_18 : decode b_M_init 18 = .ok (.aload_n 0, 1) := by decide +kernel
theorem dc_M_init_19 : decode b_M_init 19 = .ok (.iconst 2, 1) := by decide +kernel
theorem dc_M_init_20 : decode b_M_init 20 = .ok (.newarray .int, 2) := by decide +kernel
theorem dc_M_init_22 : decode b_M_init 22 = .ok (.putfield 16, 3) := by decide +kernel
theorem dc_M_init_25 : decode b_M_init 25 = .ok (.aload_n 0, 1) := by decide +kernel
theorem dc_M_init_26 : decode b_M_init 26 = .ok (.iconst 2, 1) := by decide +kernel
theorem dc_M_init_27 : decode b_M_init 27 = .ok (.newarray .int, 2) := by decide +kernel
theorem dc_M_init_29 : decode b_M_init 29 = .ok (.putfield 19, 3) := by decide +kernel
theorem dc_M_init_32 : decode b_M_init 32 = .ok (.aload_n 0, 1) := by decide +kernel
theorem dc_M_init_33 : decode b_M_init 33 = .ok (.bipush 80, 2) := by decide +kernel
theorem dc_M_init_35 : decode b_M_init 35 = .ok (.newarray .int, 2) := by decide +kernel
theorem dc_M_init_37 : decode b_M_init 37 = .ok (.putfield 22, 3) := by decide +kernel
theorem dc_M_init_40 : decode b_M_init 40 = .ok (.aload_n 0, 1) := by decide +kernel
theorem dc_M_init_41 : decode b_M_init 41 = .ok (.bipush 80, 2) := by decide +kernel
theorem dc_M_init_43 : decode b_M_init 43 = .ok (.newarray .int, 2) := by decide +kernel
theorem dc_M_init_45 : decode b_M_init 45 = .ok (.putfield 25, 3) := by decide +kernel
theorem dc_M_init_48 : decode b_M_init 48 = .ok (.aload_n 0, 1) := by decide +kernel
theorem dc_M_init_49 : decode b_M_init 49 = .ok (.bipush 80, 2) := by decide +kernel
theorem dc_M_init_51 : decode b_M_init 51 = .ok (.newarray .int, 2) := by decide +kernel
theorem dc_M_init_53 : decode b_M_init 53 = .ok (.putfield 28, 3) := by decide +kernel
theorem dc_M_init_56 : decode b_M_init 56 = .ok (.aload_n 0, 1) := by decide +kernel
theorem dc_M_init_57 : decode b_M_init 57 = .ok (.bipush 80, 2) := by decide +kernel
theorem dc_M_init_59 : decode b_M_init 59 = .ok (.newarray .int, 2) := by decide +kernel
theorem dc_M_init_61 : decode b_M_init 61 = .ok (.putfield 31, 3) := by decide +kernel
theorem dc_M_init_64 : decode b_M_init 64 = .ok (.aload_n 0, 1) := by decide +kernel
theorem dc_M_init_65 : decode b_M_init 65 = .ok (.bipush 80, 2) := by decide +kernel
theorem dc_M_init_67 : decode b_M_init 67 = .ok (.newarray .int, 2) := by decide +kernel
theorem dc_M_init_69 : decode b_M_init 69 = .ok (.putfield 34, 3) := by decide +kernel
theorem dc_M_init_72 : decode b_M_init 72 = .ok (.aload_n 0, 1) := by decide +kernel
theorem dc_M_init_73 : decode b_M_init 73 = .ok (.bipush 80, 2) := by decide +kernel
theorem dc_M_init_75 : decode b_M_init 75 = .ok (.newarray .int, 2) := by decide +kernel
theorem dc_M_init_77 : decode b_M_init 77 = .ok (.putfield 37, 3) := by decide +kernel
theorem dc_M_init_80 : decode b_M_init 80 = .ok (.aload_n 0, 1) := by decide +kernel
theorem dc_M_init_81 : decode b_M_init 81 = .ok (.sipush 960, 3) := by decide +kernel
theorem dc_M_init_84 : decode b_M_init 84 = .ok (.newarray .int, 2) := by decide +kernel
theorem dc_M_init_86 : decode b_M_init 86 = .ok (.putfield 40, 3) := by decide +kernel
theorem dc_M_init_89 : decode b_M_init 89 = .ok (.aload_n 0, 1) := by decide +kernel
theorem dc_M_init_90 : decode b_M_init 90 = .ok (.bipush 40, 2) := by decide +kernel
theorem dc_M_init_92 : decode b_M_init 92 = .ok (.newarray .int, 2) := by decide +kernel
theorem dc_M_init_94 : decode b_M_init 94 = .ok (.putfield 43, 3) := by decide +kernel
theorem dc_M_init_97 : decode b_M_init 97 = .ok (.aload_n 0, 1) := by decide +kernel
theorem dc_M_init_98 : decode b_M_init 98 = .ok (.bipush 40, 2) := by decide +kernel
theorem dc_M_init_100 : decode b_M_init 100 = .ok (.newarray .int, 2) := by decide +kernel
theorem dc_M_init_102 : decode b_M_init 102 = .ok (.putfield 46, 3) := by decide +kernel
theorem dc_M_init_105 : decode b_M_init 105 = .ok (.aload_n 0, 1) := by decide +kernel
theorem dc_M_init_106 : decode b_M_init 106 = .ok (.bipush 40, 2) := by decide +kernel
theorem dc_M_init_108 : decode b_M_init 108 = .ok (.newarray .int, 2) := by decide +kernel
theorem dc_M_init_110 : decode b_M_init 110 = .ok (.putfield 49, 3) := by decide +kernel
theorem dc_M_init_113 : decode b_M_init 113 = .ok (.aload_n 0, 1) := by decide +kernel
theorem dc_M_init_114 : decode b_M_init 114 = .ok (.iconst 4, 1) := by decide +kernel
theorem dc_M_init_115 : decode b_M_init 115 = .ok (.newarray .int, 2) := by decide +kernel
theorem dc_M_init_117 : decode b_M_init 117 = .ok (.putfield 52, 3) := by decide +kernel
theorem dc_M_init_120 : decode b_M_init 120 = .ok (.aload_n 0, 1) := by decide +kernel
theorem dc_M_init_121 : decode b_M_init 121 = .ok (.sipush 1200, 3) := by decide +kernel
theorem dc_M_init_124 : decode b_M_init 124 = .ok (.newarray .int, 2) := by decide +kernel
theorem dc_M_init_126 : decode b_M_init 126 = .ok (.putfield 55, 3) := by decide +kernel
theorem dc_M_init_129 : decode b_M_init 129 = .ok (.aload_n 0, 1) := by decide +kernel
theorem dc_M_init_130 : decode b_M_init 130 = .ok (.iload_n 1, 1) := by decide +kernel
theorem dc_M_init_131 : decode b_M_init 131 = .ok (.iconst 1, 1) := by decide +kernel
theorem dc_M_init_132 : decode b_M_init 132 = .ok (.if_icmp .ge 7, 3) := by decide +kernel
theorem dc_M_init_135 : decode b_M_init 135 = .ok (.iconst 1, 1) := by decide +kernel
theorem dc_M_init_136 : decode b_M_init 136 = .ok (.goto 17, 3) := by decide +kernel
theorem dc_M_init_139 : decode b_M_init 139 = .ok (.iload_n 1, 1) := by decide +kernel
theorem dc_M_init_140 : decode b_M_init 140 = .ok (.sipush 200, 3) := by decide +kernel
theorem dc_M_init_143 : decode b_M_init 143 = .ok (.if_icmp .le 9, 3) := by decide +kernel
theorem dc_M_init_146 : decode b_M_init 146 = .ok (.sipush 200, 3) := by decide +kernel
theorem dc_M_init_149 : decode b_M_init 149 = .ok (.goto 4, 3) := by decide +kernel
theorem dc_M_init_152 : decode b_M_init 152 = .ok (.iload_n 1, 1) := by decide +kernel
theorem dc_M_init_153 : decode b_M_init 153 = .ok (.putfield 58, 3) := by decide +kernel
theorem dc_M_init_156 : decode b_M_init 156 = .ok (.aload_n 0, 1) := by decide +kernel
theorem dc_M_init_157 : decode b_M_init 157 = .ok (.iload_n 2, 1) := by decide +kernel
theorem dc_M_init_158 : decode b_M_init 158 = .ok (.iconst 1, 1) := by decide +kernel
theorem dc_M_init_159 : decode b_M_init 159 = .ok (.if_icmp .ge 7, 3) := by decide +kernel
theorem dc_M_init_162 : decode b_M_init 162 = .ok (.iconst 1, 1) := by decide +kernel
theorem dc_M_init_163 : decode b_M_init 163 = .ok (.goto 17, 3) := by decide +kernel
theorem dc_M_init_166 : decode b_M_init 166 = .ok (.iload_n 2, 1) := by decide +kernel
theorem dc_M_init_167 : decode b_M_init 167 = .ok (.sipush 200, 3) := by decide +kernel
theorem dc_M_init_170 : decode b_M_init 170 = .ok (.if_icmp .le 9, 3) := by decide +kernel
theorem dc_M_init_173 : decode b_M_init 173 = .ok (.sipush 200, 3) := by decide +kernel
theorem dc_M_init_176 : decode b_M_init 176 = .ok (.goto 4, 3) := by decide +kernel
theorem dc_M_init_179 : decode b_M_init 179 = .ok (.iload_n 2, 1) := by decide +kernel
theorem dc_M_init_180 : decode b_M_init 180 = .ok (.putfield 62, 3) := by decide +kernel
theorem dc_M_init_183 : decode b_M_init 183 = .ok (.aload_n 0, 1) := by decide +kernel
theorem dc_M_init_184 : decode b_M_init 184 = .ok (.invokevirtual 65, 3) := by decide +kernel
theorem dc_M_init_187 : decode b_M_init 187 = .ok (.return_, 1) := by decide +kernel
