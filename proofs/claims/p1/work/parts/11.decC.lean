theorem dc_K_mirrors_0 : decode b_K_mirrors 0 = .ok (.iload_n 0, 1) := by decide +kernel
theorem dc_K_mirrors_1 : decode b_K_mirrors 1 = .ok (.iconst 4, 1) := by decide +kernel
theorem dc_K_mirrors_2 : decode b_K_mirrors 2 = .ok (.if_icmp .lt 7, 3) := by decide +kernel
theorem dc_K_mirrors_9 : decode b_K_mirrors 9 = .ok (.iconst 0, 1) := by decide +kernel
theorem dc_K_mirrors_10 : decode b_K_mirrors 10 = .ok (.ireturn, 1) := by decide +kernel
theorem dc_K_mirrors_5 : decode b_K_mirrors 5 = .ok (.iconst 1, 1) := by decide +kernel
theorem dc_K_mirrors_6 : decode b_K_mirrors 6 = .ok (.goto 4, 3) := by decide +kernel
theorem dc_K_quarters_0 : decode b_K_quarters 0 = .ok (.iload_n 0, 1) := by decide +kernel
theorem dc_K_quarters_1 : decode b_K_quarters 1 = .ok (.iconst 3, 1) := by decide +kernel
theorem dc_K_quarters_2 : decode b_K_quarters 2 = .ok (.iand, 1) := by decide +kernel
theorem dc_K_quarters_3 : decode b_K_quarters 3 = .ok (.ireturn, 1) := by decide +kernel
theorem dc_K_nearestFirstSize_0 : decode b_K_nearestFirstSize 0 = .ok (.iconst 1, 1) := by decide +kernel
theorem dc_K_nearestFirstSize_1 : decode b_K_nearestFirstSize 1 = .ok (.sipush 200, 3) := by decide +kernel
theorem dc_K_nearestFirstSize_4 : decode b_K_nearestFirstSize 4 = .ok (.iload_n 0, 1) := by decide +kernel
theorem dc_K_nearestFirstSize_5 : decode b_K_nearestFirstSize 5 = .ok (.invokestatic 263, 3) := by decide +kernel
theorem dc_K_nearestFirstSize_8 : decode b_K_nearestFirstSize 8 = .ok (.invokestatic 268, 3) := by decide +kernel
theorem dc_K_nearestFirstSize_11 : decode b_K_nearestFirstSize 11 = .ok (.ireturn, 1) := by decide +kernel
theorem dc_K_isByte_0 : decode b_K_isByte 0 = .ok (.iload_n 0, 1) := by decide +kernel
theorem dc_K_isByte_1 : decode b_K_isByte 1 = .ok (.ifCond .lt 14, 3) := by decide +kernel
theorem dc_K_isByte_15 : decode b_K_isByte 15 = .ok (.iconst 0, 1) := by decide +kernel
theorem dc_K_isByte_16 : decode b_K_isByte 16 = .ok (.ireturn, 1) := by decide +kernel
theorem dc_K_isByte_4 : decode b_K_isByte 4 = .ok (.iload_n 0, 1) := by decide +kernel
theorem dc_K_isByte_5 : decode b_K_isByte 5 = .ok (.sipush 255, 3) := by decide +kernel
theorem dc_K_isByte_8 : decode b_K_isByte 8 = .ok (.if_icmp .gt 7, 3) := by decide +kernel
theorem dc_K_isByte_11 : decode b_K_isByte 11 = .ok (.iconst 1, 1) := by decide +kernel
theorem dc_K_isByte_12 : decode b_K_isByte 12 = .ok (.goto 4, 3) := by decide +kernel
theorem dc_K_isUpright_0 : decode b_K_isUpright 0 = .ok (.iload_n 0, 1) := by decide +kernel
theorem dc_K_isUpright_1 : decode b_K_isUpright 1 = .ok (.ifCond .eq 8, 3) := by decide +kernel
theorem dc_K_isUpright_4 : decode b_K_isUpright 4 = .ok (.iload_n 0, 1) := by decide +kernel
theorem dc_K_isUpright_5 : decode b_K_isUpright 5 = .ok (.iconst 2, 1) := by decide +kernel
theorem dc_K_isUpright_6 : decode b_K_isUpright 6 = .ok (.if_icmp .ne 7, 3) := by decide +kernel
theorem dc_K_isUpright_13 : decode b_K_isUpright 13 = .ok (.iconst 0, 1) := by decide +kernel
theorem dc_K_isUpright_14 : decode b_K_isUpright 14 = .ok (.ireturn, 1) := by decide +kernel
theorem dc_K_isUpright_9 : decode b_K_isUpright 9 = .ok (.iconst 1, 1) := by decide +kernel
theorem dc_K_isUpright_10 : decode b_K_isUpright 10 = .ok (.goto 4, 3) := by decide +kernel
theorem dc_K_isSide_0 : decode b_K_isSide 0 = .ok (.iload_n 0, 1) := by decide +kernel
theorem dc_K_isSide_1 : decode b_K_isSide 1 = .ok (.ifCond .lt 12, 3) := by decide +kernel
theorem dc_K_isSide_13 : decode b_K_isSide 13 = .ok (.iconst 0, 1) := by decide +kernel
theorem dc_K_isSide_14 : decode b_K_isSide 14 = .ok (.ireturn, 1) := by decide +kernel
theorem dc_K_isSide_4 : decode b_K_isSide 4 = .ok (.iload_n 0, 1) := by decide +kernel
theorem dc_K_isSide_5 : decode b_K_isSide 5 = .ok (.iconst 4, 1) := by decide +kernel
theorem dc_K_isSide_6 : decode b_K_isSide 6 = .ok (.if_icmp .ge 7, 3) := by decide +kernel
theorem dc_K_isSide_9 : decode b_K_isSide 9 = .ok (.iconst 1, 1) := by decide +kernel
theorem dc_K_isSide_10 : decode b_K_isSide 10 = .ok (.goto 4, 3) := by decide +kernel
theorem dc_K_swap_0 : decode b_K_swap 0 = .ok (.aload_n 0, 1) := by decide +kernel
theorem dc_K_swap_1 : decode b_K_swap 1 = .ok (.getfield 36, 3) := by decide +kernel
theorem dc_K_swap_4 : decode b_K_swap 4 = .ok (.astore_n 1, 1) := by decide +kernel
theorem dc_K_swap_5 : decode b_K_swap 5 = .ok (.aload_n 0, 1) := by decide +kernel
theorem dc_K_swap_6 : decode b_K_swap 6 = .ok (.aload_n 0, 1) := by decide +kernel
theorem dc_K_swap_7 : decode b_K_swap 7 = .ok (.getfield 40, 3) := by decide +kernel
theorem dc_K_swap_10 : decode b_K_swap 10 = .ok (.putfield 36, 3) := by decide +kernel
theorem dc_K_swap_13 : decode b_K_swap 13 = .ok (.aload_n 0, 1) := by decide +kernel
theorem dc_K_swap_14 : decode b_K_swap 14 = .ok (.aload_n 1, 1) := by decide +kernel
theorem dc_K_swap_15 : decode b_K_swap 15 = .ok (.putfield 40, 3) := by decide +kernel
theorem dc_K_swap_18 : decode b_K_swap 18 = .ok (.aload_n 0, 1) := by decide +kernel
theorem dc_K_swap_19 : decode b_K_swap 19 = .ok (.iconst 0, 1) := by decide +kernel
theorem dc_K_swap_20 : decode b_K_swap 20 = .ok (.putfield 43, 3) := by decide +kernel
theorem dc_K_swap_23 : decode b_K_swap 23 = .ok (.aload_n 0, 1) := by decide +kernel
theorem dc_K_swap_24 : decode b_K_swap 24 = .ok (.iconst 0, 1) := by decide +kernel
theorem dc_K_swap_25 : decode b_K_swap 25 = .ok (.putfield 46, 3) := by decide +kernel
theorem dc_K_swap_28 : decode b_K_swap 28 = .ok (.aload_n 0, 1) := by decide +kernel
theorem dc_K_swap_29 : decode b_K_swap 29 = .ok (.getfield 36, 3) := by decide +kernel
theorem dc_K_swap_32 : decode b_K_swap 32 = .ok (.getfield 69, 3) := by decide +kernel
theorem dc_K_swap_35 : decode b_K_swap 35 = .ok (.ireturn, 1) := by decide +kernel
theorem dc_K_told_0 : decode b_K_told 0 = .ok (.iload_n 1, 1) := by decide +kernel
theorem dc_K_told_1 : decode b_K_told 1 = .ok (.tableswitch 123 0 8 #[51, 59, 67, 75, 83, 91, 99, 107, 115], 51) := by decide +kernel
theorem dc_K_told_52 : decode b_K_told 52 = .ok (.aload_n 0, 1) := by decide +kernel
theorem dc_K_told_53 : decode b_K_told 53 = .ok (.getfield 36, 3) := by decide +kernel
theorem dc_K_told_56 : decode b_K_told 56 = .ok (.getfield 243, 3) := by decide +kernel
theorem dc_K_told_59 : decode b_K_told 59 = .ok (.ireturn, 1) := by decide +kernel
theorem dc_K_told_60 : decode b_K_told 60 = .ok (.aload_n 0, 1) := by decide +kernel
theorem dc_K_told_61 : decode b_K_told 61 = .ok (.getfield 36, 3) := by decide +kernel
theorem dc_K_told_64 : decode b_K_told 64 = .ok (.getfield 246, 3) := by decide +kernel
theorem dc_K_told_67 : decode b_K_told 67 = .ok (.ireturn, 1) := by decide +kernel
theorem dc_K_told_68 : decode b_K_told 68 = .ok (.aload_n 0, 1) := by decide +kernel
theorem dc_K_told_69 : decode b_K_told 69 = .ok (.getfield 36, 3) := by decide +kernel
theorem dc_K_told_72 : decode b_K_told 72 = .ok (.getfield 69, 3) := by decide +kernel
theorem dc_K_told_75 : decode b_K_told 75 = .ok (.ireturn, 1) := by decide +kernel
theorem dc_K_told_76 : decode b_K_told 76 = .ok (.aload_n 0, 1) := by decide +kernel
theorem dc_K_told_77 : decode b_K_told 77 = .ok (.getfield 36, 3) := by decide +kernel
theorem dc_K_told_80 : decode b_K_told 80 = .ok (.getfield 115, 3) := by decide +kernel
theorem dc_K_told_83 : decode b_K_told 83 = .ok (.ireturn, 1) := by decide +kernel
theorem dc_K_told_84 : decode b_K_told 84 = .ok (.aload_n 0, 1) := by decide +kernel
theorem dc_K_told_85 : decode b_K_told 85 = .ok (.getfield 23, 3) := by decide +kernel
theorem dc_K_told_88 : decode b_K_told 88 = .ok (.getfield 239, 3) := by decide +kernel
theorem dc_K_told_91 : decode b_K_told 91 = .ok (.ireturn, 1) := by decide +kernel
theorem dc_K_told_92 : decode b_K_told 92 = .ok (.aload_n 0, 1) := by decide +kernel
theorem dc_K_told_93 : decode b_K_told 93 = .ok (.getfield 40, 3) := by decide +kernel
theorem dc_K_told_96 : decode b_K_told 96 = .ok (.getfield 243, 3) := by decide +kernel
theorem dc_K_told_99 : decode b_K_told 99 = .ok (.ireturn, 1) := by decide +kernel
theorem dc_K_told_100 : decode b_K_told 100 = .ok (.aload_n 0, 1) := by decide +kernel
theorem dc_K_told_101 : decode b_K_told 101 = .ok (.getfield 40, 3) := by decide +kernel
theorem dc_K_told_104 : decode b_K_told 104 = .ok (.getfield 246, 3) := by decide +kernel
theorem dc_K_told_107 : decode b_K_told 107 = .ok (.ireturn, 1) := by decide +kernel
theorem dc_K_told_108 : decode b_K_told 108 = .ok (.aload_n 0, 1) := by decide +kernel
theorem dc_K_told_109 : decode b_K_told 109 = .ok (.getfield 40, 3) := by decide +kernel
theorem dc_K_told_112 : decode b_K_told 112 = .ok (.getfield 69, 3) := by decide +kernel
theorem dc_K_told_115 : decode b_K_told 115 = .ok (.ireturn, 1) := by decide +kernel
theorem dc_K_told_116 : decode b_K_told 116 = .ok (.aload_n 0, 1) := by decide +kernel
theorem dc_K_told_117 : decode b_K_told 117 = .ok (.getfield 40, 3) := by decide +kernel
theorem dc_K_told_120 : decode b_K_told 120 = .ok (.getfield 115, 3) := by decide +kernel
theorem dc_K_told_123 : decode b_K_told 123 = .ok (.ireturn, 1) := by decide +kernel
theorem dc_K_told_124 : decode b_K_told 124 = .ok (.iconst (-1), 1) := by decide +kernel
theorem dc_K_told_125 : decode b_K_told 125 = .ok (.ireturn, 1) := by decide +kernel
theorem dc_K_together_0 : decode b_K_together 0 = .ok (.iload_n 1, 1) := by decide +kernel
theorem dc_K_together_1 : decode b_K_together 1 = .ok (.invokestatic 271, 3) := by decide +kernel
theorem dc_K_together_4 : decode b_K_together 4 = .ok (.ifCond .eq 15, 3) := by decide +kernel
theorem dc_K_together_19 : decode b_K_together 19 = .ok (.iload_n 1, 1) := by decide +kernel
theorem dc_K_together_20 : decode b_K_together 20 = .ok (.invokestatic 274, 3) := by decide +kernel
theorem dc_K_together_23 : decode b_K_together 23 = .ok (.iload_n 0, 1) := by decide +kernel
theorem dc_K_together_24 : decode b_K_together 24 = .ok (.invokestatic 274, 3) := by decide +kernel
theorem dc_K_together_27 : decode b_K_together 27 = .ok (.iadd, 1) := by decide +kernel
theorem dc_K_together_7 : decode b_K_together 7 = .ok (.iload_n 1, 1) := by decide +kernel
theorem dc_K_together_8 : decode b_K_together 8 = .ok (.invokestatic 274, 3) := by decide +kernel
theorem dc_K_together_11 : decode b_K_together 11 = .ok (.iload_n 0, 1) := by decide +kernel
theorem dc_K_together_12 : decode b_K_together 12 = .ok (.invokestatic 274, 3) := by decide +kernel
theorem dc_K_together_15 : decode b_K_together 15 = .ok (.isub, 1) := by decide +kernel
theorem dc_K_together_16 : decode b_K_together 16 = .ok (.goto 12, 3) := by decide +kernel
theorem dc_K_together_28 : decode b_K_together 28 = .ok (.istore_n 2, 1) := by decide +kernel
theorem dc_K_together_29 : decode b_K_together 29 = .ok (.iload_n 0, 1) := by decide +kernel
theorem dc_K_together_30 : decode b_K_together 30 = .ok (.invokestatic 271, 3) := by decide +kernel
theorem dc_K_together_33 : decode b_K_together 33 = .ok (.iload_n 1, 1) := by decide +kernel
theorem dc_K_together_34 : decode b_K_together 34 = .ok (.invokestatic 271, 3) := by decide +kernel
theorem dc_K_together_37 : decode b_K_together 37 = .ok (.if_icmp .eq 7, 3) := by decide +kernel
theorem dc_K_together_44 : decode b_K_together 44 = .ok (.iconst 0, 1) := by decide +kernel
theorem dc_K_together_40 : decode b_K_together 40 = .ok (.iconst 4, 1) := by decide +kernel
theorem dc_K_together_41 : decode b_K_together 41 = .ok (.goto 4, 3) := by decide +kernel
theorem dc_K_together_45 : decode b_K_together 45 = .ok (.istore_n 3, 1) := by decide +kernel
theorem dc_K_together_46 : decode b_K_together 46 = .ok (.iload_n 3, 1) := by decide +kernel
theorem dc_K_together_47 : decode b_K_together 47 = .ok (.iload_n 2, 1) := by decide +kernel
theorem dc_K_together_48 : decode b_K_together 48 = .ok (.invokestatic 274, 3) := by decide +kernel
theorem dc_K_together_51 : decode b_K_together 51 = .ok (.iadd, 1) := by decide +kernel
theorem dc_K_together_52 : decode b_K_together 52 = .ok (.ireturn, 1) := by decide +kernel
theorem dc_K_clear_0 : decode b_K_clear 0 = .ok (.aload_n 0, 1) := by decide +kernel
theorem dc_K_clear_1 : decode b_K_clear 1 = .ok (.getfield 36, 3) := by decide +kernel
theorem dc_K_clear_4 : decode b_K_clear 4 = .ok (.aload_n 0, 1) := by decide +kernel
theorem dc_K_clear_5 : decode b_K_clear 5 = .ok (.getfield 13, 3) := by decide +kernel
theorem dc_K_clear_8 : decode b_K_clear 8 = .ok (.aload_n 0, 1) := by decide +kernel
theorem dc_K_clear_9 : decode b_K_clear 9 = .ok (.getfield 17, 3) := by decide +kernel
theorem dc_K_clear_12 : decode b_K_clear 12 = .ok (.invokevirtual 249, 3) := by decide +kernel
theorem dc_K_clear_15 : decode b_K_clear 15 = .ok (.aload_n 0, 1) := by decide +kernel
theorem dc_K_clear_16 : decode b_K_clear 16 = .ok (.getfield 40, 3) := by decide +kernel
theorem dc_K_clear_19 : decode b_K_clear 19 = .ok (.aload_n 0, 1) := by decide +kernel
theorem dc_K_clear_20 : decode b_K_clear 20 = .ok (.getfield 13, 3) := by decide +kernel
theorem dc_K_clear_23 : decode b_K_clear 23 = .ok (.aload_n 0, 1) := by decide +kernel
theorem dc_K_clear_24 : decode b_K_clear 24 = .ok (.getfield 17, 3) := by decide +kernel
theorem dc_K_clear_27 : decode b_K_clear 27 = .ok (.invokevirtual 249, 3) := by decide +kernel
theorem dc_K_clear_30 : decode b_K_clear 30 = .ok (.aload_n 0, 1) := by decide +kernel
theorem dc_K_clear_31 : decode b_K_clear 31 = .ok (.getfield 23, 3) := by decide +kernel
theorem dc_K_clear_34 : decode b_K_clear 34 = .ok (.invokevirtual 222, 3) := by decide +kernel
theorem dc_K_clear_37 : decode b_K_clear 37 = .ok (.aload_n 0, 1) := by decide +kernel
theorem dc_K_clear_38 : decode b_K_clear 38 = .ok (.iconst 0, 1) := by decide +kernel
theorem dc_K_clear_39 : decode b_K_clear 39 = .ok (.putfield 43, 3) := by decide +kernel
theorem dc_K_clear_42 : decode b_K_clear 42 = .ok (.aload_n 0, 1) := by decide +kernel
theorem dc_K_clear_43 : decode b_K_clear 43 = .ok (.iconst 0, 1) := by decide +kernel
theorem dc_K_clear_44 : decode b_K_clear 44 = .ok (.putfield 46, 3) := by decide +kernel
theorem dc_K_clear_47 : decode b_K_clear 47 = .ok (.return_, 1) := by decide +kernel
theorem dc_K_allAskedFit_0 : decode b_K_allAskedFit 0 = .ok (.iconst 0, 1) := by decide +kernel
theorem dc_K_allAskedFit_1 : decode b_K_allAskedFit 1 = .ok (.istore_n 1, 1) := by decide +kernel
theorem dc_K_allAskedFit_2 : decode b_K_allAskedFit 2 = .ok (.iload_n 1, 1) := by decide +kernel
theorem dc_K_allAskedFit_3 : decode b_K_allAskedFit 3 = .ok (.iconst 4, 1) := by decide +kernel
theorem dc_K_allAskedFit_4 : decode b_K_allAskedFit 4 = .ok (.if_icmp .ge 31, 3) := by decide +kernel
theorem dc_K_allAskedFit_35 : decode b_K_allAskedFit 35 = .ok (.iconst 1, 1) := by decide +kernel
theorem dc_K_allAskedFit_36 : decode b_K_allAskedFit 36 = .ok (.ireturn, 1) := by decide +kernel
theorem dc_K_allAskedFit_7 : decode b_K_allAskedFit 7 = .ok (.aload_n 0, 1) := by decide +kernel
theorem dc_K_allAskedFit_8 : decode b_K_allAskedFit 8 = .ok (.getfield 36, 3) := by decide +kernel
theorem dc_K_allAskedFit_11 : decode b_K_allAskedFit 11 = .ok (.iload_n 1, 1) := by decide +kernel
theorem dc_K_allAskedFit_12 : decode b_K_allAskedFit 12 = .ok (.invokestatic 140, 3) := by decide +kernel
theorem dc_K_allAskedFit_15 : decode b_K_allAskedFit 15 = .ok (.aload_n 0, 1) := by decide +kernel
theorem dc_K_allAskedFit_16 : decode b_K_allAskedFit 16 = .ok (.getfield 27, 3) := by decide +kernel
theorem dc_K_allAskedFit_19 : decode b_K_allAskedFit 19 = .ok (.iload_n 1, 1) := by decide +kernel
theorem dc_K_allAskedFit_20 : decode b_K_allAskedFit 20 = .ok (.iaload, 1) := by decide +kernel
theorem dc_K_allAskedFit_21 : decode b_K_allAskedFit 21 = .ok (.invokevirtual 252, 3) := by decide +kernel
theorem dc_K_allAskedFit_24 : decode b_K_allAskedFit 24 = .ok (.ifCond .ne 5, 3) := by decide +kernel
theorem dc_K_allAskedFit_29 : decode b_K_allAskedFit 29 = .ok (.iinc 1 1, 3) := by decide +kernel
theorem dc_K_allAskedFit_32 : decode b_K_allAskedFit 32 = .ok (.goto (-30), 3) := by decide +kernel
theorem dc_K_allAskedFit_27 : decode b_K_allAskedFit 27 = .ok (.iconst 0, 1) := by decide +kernel
theorem dc_K_allAskedFit_28 : decode b_K_allAskedFit 28 = .ok (.ireturn, 1) := by decide +kernel
theorem dc_K_makePlaceAt_0 : decode b_K_makePlaceAt 0 = .ok (.iload_n 1, 1) := by decide +kernel
theorem dc_K_makePlaceAt_1 : decode b_K_makePlaceAt 1 = .ok (.invokestatic 140, 3) := by decide +kernel
theorem dc_K_makePlaceAt_4 : decode b_K_makePlaceAt 4 = .ok (.istore_n 2, 1) := by decide +kernel
theorem dc_K_makePlaceAt_5 : decode b_K_makePlaceAt 5 = .ok (.aload_n 0, 1) := by decide +kernel
theorem dc_K_makePlaceAt_6 : decode b_K_makePlaceAt 6 = .ok (.getfield 36, 3) := by decide +kernel
theorem dc_K_makePlaceAt_9 : decode b_K_makePlaceAt 9 = .ok (.iload_n 2, 1) := by decide +kernel
theorem dc_K_makePlaceAt_10 : decode b_K_makePlaceAt 10 = .ok (.invokevirtual 157, 3) := by decide +kernel
theorem dc_K_makePlaceAt_13 : decode b_K_makePlaceAt 13 = .ok (.istore_n 3, 1) := by decide +kernel
theorem dc_K_makePlaceAt_14 : decode b_K_makePlaceAt 14 = .ok (.aload_n 0, 1) := by decide +kernel
theorem dc_K_makePlaceAt_15 : decode b_K_makePlaceAt 15 = .ok (.getfield 40, 3) := by decide +kernel
theorem dc_K_makePlaceAt_18 : decode b_K_makePlaceAt 18 = .ok (.iload_n 2, 1) := by decide +kernel
theorem dc_K_makePlaceAt_19 : decode b_K_makePlaceAt 19 = .ok (.invokevirtual 157, 3) := by decide +kernel
theorem dc_K_makePlaceAt_22 : decode b_K_makePlaceAt 22 = .ok (.istore 4, 2) := by decide +kernel
theorem dc_K_makePlaceAt_24 : decode b_K_makePlaceAt 24 = .ok (.iload_n 1, 1) := by decide +kernel
theorem dc_K_makePlaceAt_25 : decode b_K_makePlaceAt 25 = .ok (.ifCond .eq 8, 3) := by decide +kernel
theorem dc_K_makePlaceAt_28 : decode b_K_makePlaceAt 28 = .ok (.iload_n 1, 1) := by decide +kernel
theorem dc_K_makePlaceAt_29 : decode b_K_makePlaceAt 29 = .ok (.iconst 1, 1) := by decide +kernel
theorem dc_K_makePlaceAt_30 : decode b_K_makePlaceAt 30 = .ok (.if_icmp .ne 16, 3) := by decide +kernel
theorem dc_K_makePlaceAt_46 : decode b_K_makePlaceAt 46 = .ok (.aload_n 0, 1) := by decide +kernel
theorem dc_K_makePlaceAt_47 : decode b_K_makePlaceAt 47 = .ok (.getfield 40, 3) := by decide +kernel
theorem dc_K_makePlaceAt_50 : decode b_K_makePlaceAt 50 = .ok (.iload_n 2, 1) := by decide +kernel
theorem dc_K_makePlaceAt_51 : decode b_K_makePlaceAt 51 = .ok (.iload_n 3, 1) := by decide +kernel
theorem dc_K_makePlaceAt_52 : decode b_K_makePlaceAt 52 = .ok (.invokevirtual 256, 3) := by decide +kernel
theorem dc_K_makePlaceAt_55 : decode b_K_makePlaceAt 55 = .ok (.aload_n 0, 1) := by decide +kernel
theorem dc_K_makePlaceAt_56 : decode b_K_makePlaceAt 56 = .ok (.getfield 36, 3) := by decide +kernel
theorem dc_K_makePlaceAt_59 : decode b_K_makePlaceAt 59 = .ok (.iload_n 2, 1) := by decide +kernel
theorem dc_K_makePlaceAt_60 : decode b_K_makePlaceAt 60 = .ok (.iload 4, 2) := by decide +kernel
theorem dc_K_makePlaceAt_62 : decode b_K_makePlaceAt 62 = .ok (.invokevirtual 260, 3) := by decide +kernel
theorem dc_K_makePlaceAt_65 : decode b_K_makePlaceAt 65 = .ok (.return_, 1) := by decide +kernel
theorem dc_K_makePlaceAt_33 : decode b_K_makePlaceAt 33 = .ok (.aload_n 0, 1) := by decide +kernel
theorem dc_K_makePlaceAt_34 : decode b_K_makePlaceAt 34 = .ok (.getfield 36, 3) := by decide +kernel
theorem dc_K_makePlaceAt_37 : decode b_K_makePlaceAt 37 = .ok (.iload_n 2, 1) := by decide +kernel
theorem dc_K_makePlaceAt_38 : decode b_K_makePlaceAt 38 = .ok (.iload 4, 2) := by decide +kernel
theorem dc_K_makePlaceAt_40 : decode b_K_makePlaceAt 40 = .ok (.invokevirtual 256, 3) := by decide +kernel
theorem dc_K_makePlaceAt_43 : decode b_K_makePlaceAt 43 = .ok (.goto 12, 3) := by decide +kernel
theorem dc_K_write_0 : decode b_K_write 0 = .ok (.aload_n 0, 1) := by decide +kernel
theorem dc_K_write_1 : decode b_K_write 1 = .ok (.getfield 23, 3) := by decide +kernel
theorem dc_K_write_4 : decode b_K_write 4 = .ok (.invokevirtual 222, 3) := by decide +kernel
theorem dc_K_write_7 : decode b_K_write 7 = .ok (.aload_n 0, 1) := by decide +kernel
theorem dc_K_write_8 : decode b_K_write 8 = .ok (.getfield 36, 3) := by decide +kernel
theorem dc_K_write_11 : decode b_K_write 11 = .ok (.aload_n 0, 1) := by decide +kernel
theorem dc_K_write_12 : decode b_K_write 12 = .ok (.getfield 23, 3) := by decide +kernel
theorem dc_K_write_15 : decode b_K_write 15 = .ok (.invokevirtual 225, 3) := by decide +kernel
theorem dc_K_write_18 : decode b_K_write 18 = .ok (.iconst 0, 1) := by decide +kernel
theorem dc_K_write_19 : decode b_K_write 19 = .ok (.istore_n 1, 1) := by decide +kernel
theorem dc_K_write_20 : decode b_K_write 20 = .ok (.iload_n 1, 1) := by decide +kernel
theorem dc_K_write_21 : decode b_K_write 21 = .ok (.aload_n 0, 1) := by decide +kernel
theorem dc_K_write_22 : decode b_K_write 22 = .ok (.getfield 36, 3) := by decide +kernel
theorem dc_K_write_25 : decode b_K_write 25 = .ok (.getfield 69, 3) := by decide +kernel
theorem dc_K_write_28 : decode b_K_write 28 = .ok (.if_icmp .ge 42, 3) := by decide +kernel
theorem dc_K_write_70 : decode b_K_write 70 = .ok (.aload_n 0, 1) := by decide +kernel
theorem dc_K_write_71 : decode b_K_write 71 = .ok (.getfield 23, 3) := by decide +kernel
theorem dc_K_write_74 : decode b_K_write 74 = .ok (.getfield 239, 3) := by decide +kernel
theorem dc_K_write_77 : decode b_K_write 77 = .ok (.ireturn, 1) := by decide +kernel
theorem dc_K_write_31 : decode b_K_write 31 = .ok (.aload_n 0, 1) := by decide +kernel
theorem dc_K_write_32 : decode b_K_write 32 = .ok (.getfield 36, 3) := by decide +kernel
theorem dc_K_write_35 : decode b_K_write 35 = .ok (.getfield 95, 3) := by decide +kernel
theorem dc_K_write_38 : decode b_K_write 38 = .ok (.iload_n 1, 1) := by decide +kernel
theorem dc_K_write_39 : decode b_K_write 39 = .ok (.aaload, 1) := by decide +kernel
theorem dc_K_write_40 : decode b_K_write 40 = .ok (.astore_n 2, 1) := by decide +kernel
theorem dc_K_write_41 : decode b_K_write 41 = .ok (.aload_n 0, 1) := by decide +kernel
theorem dc_K_write_42 : decode b_K_write 42 = .ok (.getfield 23, 3) := by decide +kernel
theorem dc_K_write_45 : decode b_K_write 45 = .ok (.aload_n 0, 1) := by decide +kernel
theorem dc_K_write_46 : decode b_K_write 46 = .ok (.getfield 36, 3) := by decide +kernel
theorem dc_K_write_49 : decode b_K_write 49 = .ok (.aload_n 2, 1) := by decide +kernel
theorem dc_K_write_50 : decode b_K_write 50 = .ok (.invokevirtual 229, 3) := by decide +kernel
theorem dc_K_write_53 : decode b_K_write 53 = .ok (.invokevirtual 233, 3) := by decide +kernel
theorem dc_K_write_56 : decode b_K_write 56 = .ok (.aload_n 2, 1) := by decide +kernel
theorem dc_K_write_57 : decode b_K_write 57 = .ok (.aload_n 0, 1) := by decide +kernel
theorem dc_K_write_58 : decode b_K_write 58 = .ok (.getfield 23, 3) := by decide +kernel
theorem dc_K_write_61 : decode b_K_write 61 = .ok (.invokevirtual 236, 3) := by decide +kernel
theorem dc_K_write_64 : decode b_K_write 64 = .ok (.iinc 1 1, 3) := by decide +kernel
theorem dc_K_write_67 : decode b_K_write 67 = .ok (.goto (-47), 3) := by decide +kernel
theorem dc_K_tile_0 : decode b_K_tile 0 = .ok (.iload_n 3, 1) := by decide +kernel
theorem dc_K_tile_1 : decode b_K_tile 1 = .ok (.bipush 64, 2) := by decide +kernel
theorem dc_K_tile_3 : decode b_K_tile 3 = .ok (.if_icmp .gt 25, 3) := by decide +kernel
theorem dc_K_tile_6 : decode b_K_tile 6 = .ok (.iload 4, 2) := by decide +kernel
theorem dc_K_tile_8 : decode b_K_tile 8 = .ok (.bipush 64, 2) := by decide +kernel
theorem dc_K_tile_10 : decode b_K_tile 10 = .ok (.if_icmp .gt 18, 3) := by decide +kernel
theorem dc_K_tile_13 : decode b_K_tile 13 = .ok (.aload_n 0, 1) := by decide +kernel
theorem dc_K_tile_14 : decode b_K_tile 14 = .ok (.getfield 36, 3) := by decide +kernel
theorem dc_K_tile_17 : decode b_K_tile 17 = .ok (.iload_n 1, 1) := by decide +kernel
theorem dc_K_tile_18 : decode b_K_tile 18 = .ok (.iload_n 2, 1) := by decide +kernel
theorem dc_K_tile_19 : decode b_K_tile 19 = .ok (.iload_n 3, 1) := by decide +kernel
theorem dc_K_tile_20 : decode b_K_tile 20 = .ok (.iload 4, 2) := by decide +kernel
theorem dc_K_tile_22 : decode b_K_tile 22 = .ok (.invokevirtual 50, 3) := by decide +kernel
theorem dc_K_tile_25 : decode b_K_tile 25 = .ok (.ifCond .ne 13, 3) := by decide +kernel
theorem dc_K_tile_38 : decode b_K_tile 38 = .ok (.aload_n 0, 1) := by decide +kernel
theorem dc_K_tile_39 : decode b_K_tile 39 = .ok (.getfield 36, 3) := by decide +kernel
theorem dc_K_tile_42 : decode b_K_tile 42 = .ok (.iload_n 1, 1) := by decide +kernel
theorem dc_K_tile_43 : decode b_K_tile 43 = .ok (.iload_n 2, 1) := by decide +kernel
theorem dc_K_tile_44 : decode b_K_tile 44 = .ok (.iload_n 3, 1) := by decide +kernel
theorem dc_K_tile_45 : decode b_K_tile 45 = .ok (.iload 4, 2) := by decide +kernel
theorem dc_K_tile_47 : decode b_K_tile 47 = .ok (.invokevirtual 61, 3) := by decide +kernel
theorem dc_K_tile_50 : decode b_K_tile 50 = .ok (.ifCond .eq 13, 3) := by decide +kernel
theorem dc_K_tile_63 : decode b_K_tile 63 = .ok (.aload_n 0, 1) := by decide +kernel
theorem dc_K_tile_64 : decode b_K_tile 64 = .ok (.getfield 36, 3) := by decide +kernel
theorem dc_K_tile_67 : decode b_K_tile 67 = .ok (.getfield 69, 3) := by decide +kernel
theorem dc_K_tile_70 : decode b_K_tile 70 = .ok (.bipush 40, 2) := by decide +kernel
theorem dc_K_tile_72 : decode b_K_tile 72 = .ok (.if_icmp .lt 13, 3) := by decide +kernel
theorem dc_K_tile_85 : decode b_K_tile 85 = .ok (.aload_n 0, 1) := by decide +kernel
theorem dc_K_tile_86 : decode b_K_tile 86 = .ok (.iconst 0, 1) := by decide +kernel
theorem dc_K_tile_87 : decode b_K_tile 87 = .ok (.putfield 46, 3) := by decide +kernel
theorem dc_K_tile_90 : decode b_K_tile 90 = .ok (.aload_n 0, 1) := by decide +kernel
theorem dc_K_tile_91 : decode b_K_tile 91 = .ok (.getfield 36, 3) := by decide +kernel
theorem dc_K_tile_94 : decode b_K_tile 94 = .ok (.iload_n 1, 1) := by decide +kernel
theorem dc_K_tile_95 : decode b_K_tile 95 = .ok (.iload_n 2, 1) := by decide +kernel
theorem dc_K_tile_96 : decode b_K_tile 96 = .ok (.iload_n 3, 1) := by decide +kernel
theorem dc_K_tile_97 : decode b_K_tile 97 = .ok (.iload 4, 2) := by decide +kernel
theorem dc_K_tile_99 : decode b_K_tile 99 = .ok (.invokevirtual 77, 3) := by decide +kernel
theorem dc_K_tile_102 : decode b_K_tile 102 = .ok (.ireturn, 1) := by decide +kernel
theorem dc_K_tile_75 : decode b_K_tile 75 = .ok (.new 72, 3) := by decide +kernel
theorem dc_K_tile_78 : decode b_K_tile 78 = .ok (.dup, 1) := by decide +kernel
theorem dc_K_tile_79 : decode b_K_tile 79 = .ok (.ldc 74, 2) := by decide +kernel
theorem dc_K_tile_81 : decode b_K_tile 81 = .ok (.invokespecial 76, 3) := by decide +kernel
theorem dc_K_tile_84 : decode b_K_tile 84 = .ok (.athrow, 1) := by decide +kernel
theorem dc_K_tile_53 : decode b_K_tile 53 = .ok (.new 64, 3) := by decide +kernel
theorem dc_K_tile_56 : decode b_K_tile 56 = .ok (.dup, 1) := by decide +kernel
theorem dc_K_tile_57 : decode b_K_tile 57 = .ok (.ldc 66, 2) := by decide +kernel
theorem dc_K_tile_59 : decode b_K_tile 59 = .ok (.invokespecial 68, 3) := by decide +kernel
theorem dc_K_tile_62 : decode b_K_tile 62 = .ok (.athrow, 1) := by decide +kernel
theorem dc_K_tile_28 : decode b_K_tile 28 = .ok (.new 54, 3) := by decide +kernel
theorem dc_K_tile_31 : decode b_K_tile 31 = .ok (.dup, 1) := by decide +kernel
theorem dc_K_tile_32 : decode b_K_tile 32 = .ok (.ldc 56, 2) := by decide +kernel
theorem dc_K_tile_34 : decode b_K_tile 34 = .ok (.invokespecial 58, 3) := by decide +kernel
theorem dc_K_tile_37 : decode b_K_tile 37 = .ok (.athrow, 1) := by decide +kernel
theorem dc_K_byteOf_0 : decode b_K_byteOf 0 = .ok (.aload_n 0, 1) := by decide +kernel
theorem dc_K_byteOf_1 : decode b_K_byteOf 1 = .ok (.getfield 36, 3) := by decide +kernel
theorem dc_K_byteOf_4 : decode b_K_byteOf 4 = .ok (.iload_n 1, 1) := by decide +kernel
theorem dc_K_byteOf_5 : decode b_K_byteOf 5 = .ok (.invokevirtual 81, 3) := by decide +kernel
theorem dc_K_byteOf_8 : decode b_K_byteOf 8 = .ok (.ifCond .ne 13, 3) := by decide +kernel
theorem dc_K_byteOf_21 : decode b_K_byteOf 21 = .ok (.iload_n 2, 1) := by decide +kernel
theorem dc_K_byteOf_22 : decode b_K_byteOf 22 = .ok (.invokestatic 90, 3) := by decide +kernel
theorem dc_K_byteOf_25 : decode b_K_byteOf 25 = .ok (.ifCond .ne 13, 3) := by decide +kernel
theorem dc_K_byteOf_38 : decode b_K_byteOf 38 = .ok (.aload_n 0, 1) := by decide +kernel
theorem dc_K_byteOf_39 : decode b_K_byteOf 39 = .ok (.getfield 36, 3) := by decide +kernel
theorem dc_K_byteOf_42 : decode b_K_byteOf 42 = .ok (.getfield 95, 3) := by decide +kernel
theorem dc_K_byteOf_45 : decode b_K_byteOf 45 = .ok (.iload_n 1, 1) := by decide +kernel
theorem dc_K_byteOf_46 : decode b_K_byteOf 46 = .ok (.aaload, 1) := by decide +kernel
theorem dc_K_byteOf_47 : decode b_K_byteOf 47 = .ok (.astore_n 3, 1) := by decide +kernel
theorem dc_K_byteOf_48 : decode b_K_byteOf 48 = .ok (.aload_n 3, 1) := by decide +kernel
theorem dc_K_byteOf_49 : decode b_K_byteOf 49 = .ok (.getfield 99, 3) := by decide +kernel
theorem dc_K_byteOf_52 : decode b_K_byteOf 52 = .ok (.bipush 12, 2) := by decide +kernel
theorem dc_K_byteOf_54 : decode b_K_byteOf 54 = .ok (.if_icmp .lt 13, 3) := by decide +kernel
theorem dc_K_byteOf_67 : decode b_K_byteOf 67 = .ok (.aload_n 3, 1) := by decide +kernel
theorem dc_K_byteOf_68 : decode b_K_byteOf 68 = .ok (.iload_n 2, 1) := by decide +kernel
theorem dc_K_byteOf_69 : decode b_K_byteOf 69 = .ok (.invokevirtual 106, 3) := by decide +kernel
theorem dc_K_byteOf_72 : decode b_K_byteOf 72 = .ok (.ireturn, 1) := by decide +kernel
theorem dc_K_byteOf_57 : decode b_K_byteOf 57 = .ok (.new 72, 3) := by decide +kernel
theorem dc_K_byteOf_60 : decode b_K_byteOf 60 = .ok (.dup, 1) := by decide +kernel
theorem dc_K_byteOf_61 : decode b_K_byteOf 61 = .ok (.ldc 104, 2) := by decide +kernel
theorem dc_K_byteOf_63 : decode b_K_byteOf 63 = .ok (.invokespecial 76, 3) := by decide +kernel
theorem dc_K_byteOf_66 : decode b_K_byteOf 66 = .ok (.athrow, 1) := by decide +kernel
theorem dc_K_byteOf_28 : decode b_K_byteOf 28 = .ok (.new 54, 3) := by decide +kernel
theorem dc_K_byteOf_31 : decode b_K_byteOf 31 = .ok (.dup, 1) := by decide +kernel
theorem dc_K_byteOf_32 : decode b_K_byteOf 32 = .ok (.ldc 93, 2) := by decide +kernel
theorem dc_K_byteOf_34 : decode b_K_byteOf 34 = .ok (.invokespecial 58, 3) := by decide +kernel
theorem dc_K_byteOf_37 : decode b_K_byteOf 37 = .ok (.athrow, 1) := by decide +kernel
theorem dc_K_byteOf_11 : decode b_K_byteOf 11 = .ok (.new 85, 3) := by decide +kernel
theorem dc_K_byteOf_14 : decode b_K_byteOf 14 = .ok (.dup, 1) := by decide +kernel
theorem dc_K_byteOf_15 : decode b_K_byteOf 15 = .ok (.ldc 87, 2) := by decide +kernel
theorem dc_K_byteOf_17 : decode b_K_byteOf 17 = .ok (.invokespecial 89, 3) := by decide +kernel
theorem dc_K_byteOf_20 : decode b_K_byteOf 20 = .ok (.athrow, 1) := by decide +kernel
theorem dc_K_note_0 : decode b_K_note 0 = .ok (.aload_n 0, 1) := by decide +kernel
theorem dc_K_note_1 : decode b_K_note 1 = .ok (.getfield 36, 3) := by decide +kernel
theorem dc_K_note_4 : decode b_K_note 4 = .ok (.iload_n 1, 1) := by decide +kernel
theorem dc_K_note_5 : decode b_K_note 5 = .ok (.iload_n 2, 1) := by decide +kernel
theorem dc_K_note_6 : decode b_K_note 6 = .ok (.invokevirtual 109, 3) := by decide +kernel
theorem dc_K_note_9 : decode b_K_note 9 = .ok (.ifCond .ne 13, 3) := by decide +kernel
theorem dc_K_note_22 : decode b_K_note 22 = .ok (.iload_n 3, 1) := by decide +kernel
theorem dc_K_note_23 : decode b_K_note 23 = .ok (.invokestatic 90, 3) := by decide +kernel
theorem dc_K_note_26 : decode b_K_note 26 = .ok (.ifCond .ne 13, 3) := by decide +kernel
theorem dc_K_note_39 : decode b_K_note 39 = .ok (.aload_n 0, 1) := by decide +kernel
theorem dc_K_note_40 : decode b_K_note 40 = .ok (.getfield 36, 3) := by decide +kernel
theorem dc_K_note_43 : decode b_K_note 43 = .ok (.getfield 115, 3) := by decide +kernel
theorem dc_K_note_46 : decode b_K_note 46 = .ok (.bipush 20, 2) := by decide +kernel
theorem dc_K_note_48 : decode b_K_note 48 = .ok (.if_icmp .lt 13, 3) := by decide +kernel
theorem dc_K_note_61 : decode b_K_note 61 = .ok (.aload_n 0, 1) := by decide +kernel
theorem dc_K_note_62 : decode b_K_note 62 = .ok (.getfield 36, 3) := by decide +kernel
theorem dc_K_note_65 : decode b_K_note 65 = .ok (.iload_n 1, 1) := by decide +kernel
theorem dc_K_note_66 : decode b_K_note 66 = .ok (.iload_n 2, 1) := by decide +kernel
theorem dc_K_note_67 : decode b_K_note 67 = .ok (.iload_n 3, 1) := by decide +kernel
theorem dc_K_note_68 : decode b_K_note 68 = .ok (.invokevirtual 120, 3) := by decide +kernel
theorem dc_K_note_71 : decode b_K_note 71 = .ok (.ireturn, 1) := by decide +kernel
theorem dc_K_note_51 : decode b_K_note 51 = .ok (.new 72, 3) := by decide +kernel
theorem dc_K_note_54 : decode b_K_note 54 = .ok (.dup, 1) := by decide +kernel
theorem dc_K_note_55 : decode b_K_note 55 = .ok (.ldc 118, 2) := by decide +kernel
theorem dc_K_note_57 : decode b_K_note 57 = .ok (.invokespecial 76, 3) := by decide +kernel
theorem dc_K_note_60 : decode b_K_note 60 = .ok (.athrow, 1) := by decide +kernel
theorem dc_K_note_29 : decode b_K_note 29 = .ok (.new 54, 3) := by decide +kernel
theorem dc_K_note_32 : decode b_K_note 32 = .ok (.dup, 1) := by decide +kernel
theorem dc_K_note_33 : decode b_K_note 33 = .ok (.ldc 93, 2) := by decide +kernel
theorem dc_K_note_35 : decode b_K_note 35 = .ok (.invokespecial 58, 3) := by decide +kernel
theorem dc_K_note_38 : decode b_K_note 38 = .ok (.athrow, 1) := by decide +kernel
theorem dc_K_note_12 : decode b_K_note 12 = .ok (.new 85, 3) := by decide +kernel
theorem dc_K_note_15 : decode b_K_note 15 = .ok (.dup, 1) := by decide +kernel
theorem dc_K_note_16 : decode b_K_note 16 = .ok (.ldc 113, 2) := by decide +kernel
theorem dc_K_note_18 : decode b_K_note 18 = .ok (.invokespecial 89, 3) := by decide +kernel
theorem dc_K_note_21 : decode b_K_note 21 = .ok (.athrow, 1) := by decide +kernel
theorem dc_K_crop_0 : decode b_K_crop 0 = .ok (.aload_n 0, 1) := by decide +kernel
theorem dc_K_crop_1 : decode b_K_crop 1 = .ok (.iconst 0, 1) := by decide +kernel
theorem dc_K_crop_2 : decode b_K_crop 2 = .ok (.putfield 46, 3) := by decide +kernel
theorem dc_K_crop_5 : decode b_K_crop 5 = .ok (.aload_n 0, 1) := by decide +kernel
theorem dc_K_crop_6 : decode b_K_crop 6 = .ok (.getfield 36, 3) := by decide +kernel
theorem dc_K_crop_9 : decode b_K_crop 9 = .ok (.iload_n 1, 1) := by decide +kernel
theorem dc_K_crop_10 : decode b_K_crop 10 = .ok (.iload_n 2, 1) := by decide +kernel
theorem dc_K_crop_11 : decode b_K_crop 11 = .ok (.iload_n 3, 1) := by decide +kernel
theorem dc_K_crop_12 : decode b_K_crop 12 = .ok (.iload 4, 2) := by decide +kernel
theorem dc_K_crop_14 : decode b_K_crop 14 = .ok (.invokevirtual 50, 3) := by decide +kernel
theorem dc_K_crop_17 : decode b_K_crop 17 = .ok (.ifCond .ne 13, 3) := by decide +kernel
theorem dc_K_crop_30 : decode b_K_crop 30 = .ok (.aload_n 0, 1) := by decide +kernel
theorem dc_K_crop_31 : decode b_K_crop 31 = .ok (.getfield 27, 3) := by decide +kernel
theorem dc_K_crop_34 : decode b_K_crop 34 = .ok (.iconst 0, 1) := by decide +kernel
theorem dc_K_crop_35 : decode b_K_crop 35 = .ok (.iload_n 1, 1) := by decide +kernel
theorem dc_K_crop_36 : decode b_K_crop 36 = .ok (.iastore, 1) := by decide +kernel
theorem dc_K_crop_37 : decode b_K_crop 37 = .ok (.aload_n 0, 1) := by decide +kernel
theorem dc_K_crop_38 : decode b_K_crop 38 = .ok (.getfield 27, 3) := by decide +kernel
theorem dc_K_crop_41 : decode b_K_crop 41 = .ok (.iconst 1, 1) := by decide +kernel
theorem dc_K_crop_42 : decode b_K_crop 42 = .ok (.iload_n 2, 1) := by decide +kernel
theorem dc_K_crop_43 : decode b_K_crop 43 = .ok (.iastore, 1) := by decide +kernel
theorem dc_K_crop_44 : decode b_K_crop 44 = .ok (.aload_n 0, 1) := by decide +kernel
theorem dc_K_crop_45 : decode b_K_crop 45 = .ok (.getfield 27, 3) := by decide +kernel
theorem dc_K_crop_48 : decode b_K_crop 48 = .ok (.iconst 2, 1) := by decide +kernel
theorem dc_K_crop_49 : decode b_K_crop 49 = .ok (.iload_n 1, 1) := by decide +kernel
theorem dc_K_crop_50 : decode b_K_crop 50 = .ok (.iload_n 3, 1) := by decide +kernel
theorem dc_K_crop_51 : decode b_K_crop 51 = .ok (.iadd, 1) := by decide +kernel
theorem dc_K_crop_52 : decode b_K_crop 52 = .ok (.iastore, 1) := by decide +kernel
theorem dc_K_crop_53 : decode b_K_crop 53 = .ok (.aload_n 0, 1) := by decide +kernel
theorem dc_K_crop_54 : decode b_K_crop 54 = .ok (.getfield 27, 3) := by decide +kernel
theorem dc_K_crop_57 : decode b_K_crop 57 = .ok (.iconst 3, 1) := by decide +kernel
theorem dc_K_crop_58 : decode b_K_crop 58 = .ok (.iload_n 2, 1) := by decide +kernel
theorem dc_K_crop_59 : decode b_K_crop 59 = .ok (.iload 4, 2) := by decide +kernel
theorem dc_K_crop_61 : decode b_K_crop 61 = .ok (.iadd, 1) := by decide +kernel
theorem dc_K_crop_62 : decode b_K_crop 62 = .ok (.iastore, 1) := by decide +kernel
theorem dc_K_crop_63 : decode b_K_crop 63 = .ok (.aload_n 0, 1) := by decide +kernel
theorem dc_K_crop_64 : decode b_K_crop 64 = .ok (.aload_n 0, 1) := by decide +kernel
theorem dc_K_crop_65 : decode b_K_crop 65 = .ok (.invokevirtual 126, 3) := by decide +kernel
theorem dc_K_crop_68 : decode b_K_crop 68 = .ok (.ifCond .ne 7, 3) := by decide +kernel
theorem dc_K_crop_75 : decode b_K_crop 75 = .ok (.iconst 0, 1) := by decide +kernel
theorem dc_K_crop_71 : decode b_K_crop 71 = .ok (.iconst 1, 1) := by decide +kernel
theorem dc_K_crop_72 : decode b_K_crop 72 = .ok (.goto 4, 3) := by decide +kernel
theorem dc_K_crop_20 : decode b_K_crop 20 = .ok (.new 54, 3) := by decide +kernel
theorem dc_K_crop_23 : decode b_K_crop 23 = .ok (.dup, 1) := by decide +kernel
theorem dc_K_crop_24 : decode b_K_crop 24 = .ok (.ldc 124, 2) := by decide +kernel
theorem dc_K_crop_26 : decode b_K_crop 26 = .ok (.invokespecial 58, 3) := by decide +kernel
theorem dc_K_crop_29 : decode b_K_crop 29 = .ok (.athrow, 1) := by decide +kernel
theorem dc_K_crop_76 : decode b_K_crop 76 = .ok (.putfield 46, 3) := by decide +kernel
theorem dc_K_crop_79 : decode b_K_crop 79 = .ok (.aload_n 0, 1) := by decide +kernel
theorem dc_K_crop_80 : decode b_K_crop 80 = .ok (.getfield 46, 3) := by decide +kernel
theorem dc_K_crop_83 : decode b_K_crop 83 = .ok (.ifCond .eq 5, 3) := by decide +kernel
theorem dc_K_crop_88 : decode b_K_crop 88 = .ok (.aload_n 0, 1) := by decide +kernel
theorem dc_K_crop_89 : decode b_K_crop 89 = .ok (.getfield 36, 3) := by decide +kernel
theorem dc_K_crop_92 : decode b_K_crop 92 = .ok (.iload_n 1, 1) := by decide +kernel
theorem dc_K_crop_93 : decode b_K_crop 93 = .ok (.iload_n 2, 1) := by decide +kernel
theorem dc_K_crop_94 : decode b_K_crop 94 = .ok (.iload_n 3, 1) := by decide +kernel
theorem dc_K_crop_95 : decode b_K_crop 95 = .ok (.iload 4, 2) := by decide +kernel
theorem dc_K_crop_97 : decode b_K_crop 97 = .ok (.invokevirtual 130, 3) := by decide +kernel
theorem dc_K_crop_100 : decode b_K_crop 100 = .ok (.ireturn, 1) := by decide +kernel
theorem dc_K_crop_86 : decode b_K_crop 86 = .ok (.iconst (-1), 1) := by decide +kernel
theorem dc_K_crop_87 : decode b_K_crop 87 = .ok (.ireturn, 1) := by decide +kernel
theorem dc_K_near_0 : decode b_K_near 0 = .ok (.iload_n 1, 1) := by decide +kernel
theorem dc_K_near_1 : decode b_K_near 1 = .ok (.invokestatic 133, 3) := by decide +kernel
theorem dc_K_near_4 : decode b_K_near 4 = .ok (.ifCond .ne 13, 3) := by decide +kernel
theorem dc_K_near_17 : decode b_K_near 17 = .ok (.aload_n 0, 1) := by decide +kernel
theorem dc_K_near_18 : decode b_K_near 18 = .ok (.getfield 46, 3) := by decide +kernel
theorem dc_K_near_21 : decode b_K_near 21 = .ok (.ifCond .ne 13, 3) := by decide +kernel
theorem dc_K_near_34 : decode b_K_near 34 = .ok (.aload_n 0, 1) := by decide +kernel
theorem dc_K_near_35 : decode b_K_near 35 = .ok (.getfield 36, 3) := by decide +kernel
theorem dc_K_near_38 : decode b_K_near 38 = .ok (.iload_n 1, 1) := by decide +kernel
theorem dc_K_near_39 : decode b_K_near 39 = .ok (.invokestatic 140, 3) := by decide +kernel
theorem dc_K_near_42 : decode b_K_near 42 = .ok (.aload_n 0, 1) := by decide +kernel
theorem dc_K_near_43 : decode b_K_near 43 = .ok (.getfield 27, 3) := by decide +kernel
theorem dc_K_near_46 : decode b_K_near 46 = .ok (.iload_n 1, 1) := by decide +kernel
theorem dc_K_near_47 : decode b_K_near 47 = .ok (.iaload, 1) := by decide +kernel
theorem dc_K_near_48 : decode b_K_near 48 = .ok (.invokevirtual 143, 3) := by decide +kernel
theorem dc_K_near_51 : decode b_K_near 51 = .ok (.ireturn, 1) := by decide +kernel
theorem dc_K_near_24 : decode b_K_near 24 = .ok (.new 64, 3) := by decide +kernel
theorem dc_K_near_27 : decode b_K_near 27 = .ok (.dup, 1) := by decide +kernel
theorem dc_K_near_28 : decode b_K_near 28 = .ok (.ldc 138, 2) := by decide +kernel
theorem dc_K_near_30 : decode b_K_near 30 = .ok (.invokespecial 68, 3) := by decide +kernel
theorem dc_K_near_33 : decode b_K_near 33 = .ok (.athrow, 1) := by decide +kernel
theorem dc_K_near_7 : decode b_K_near 7 = .ok (.new 85, 3) := by decide +kernel
theorem dc_K_near_10 : decode b_K_near 10 = .ok (.dup, 1) := by decide +kernel
theorem dc_K_near_11 : decode b_K_near 11 = .ok (.ldc 136, 2) := by decide +kernel
theorem dc_K_near_13 : decode b_K_near 13 = .ok (.invokespecial 89, 3) := by decide +kernel
theorem dc_K_near_16 : decode b_K_near 16 = .ok (.athrow, 1) := by decide +kernel
theorem dc_K_turn_0 : decode b_K_turn 0 = .ok (.iload_n 1, 1) := by decide +kernel
theorem dc_K_turn_1 : decode b_K_turn 1 = .ok (.ifCond .lt 9, 3) := by decide +kernel
theorem dc_K_turn_4 : decode b_K_turn 4 = .ok (.iload_n 1, 1) := by decide +kernel
theorem dc_K_turn_5 : decode b_K_turn 5 = .ok (.bipush 8, 2) := by decide +kernel
theorem dc_K_turn_7 : decode b_K_turn 7 = .ok (.if_icmp .lt 13, 3) := by decide +kernel
theorem dc_K_turn_20 : decode b_K_turn 20 = .ok (.aload_n 0, 1) := by decide +kernel
theorem dc_K_turn_21 : decode b_K_turn 21 = .ok (.getfield 36, 3) := by decide +kernel
theorem dc_K_turn_24 : decode b_K_turn 24 = .ok (.iload_n 1, 1) := by decide +kernel
theorem dc_K_turn_25 : decode b_K_turn 25 = .ok (.invokevirtual 149, 3) := by decide +kernel
theorem dc_K_turn_28 : decode b_K_turn 28 = .ok (.aload_n 0, 1) := by decide +kernel
theorem dc_K_turn_29 : decode b_K_turn 29 = .ok (.aload_n 0, 1) := by decide +kernel
theorem dc_K_turn_30 : decode b_K_turn 30 = .ok (.getfield 43, 3) := by decide +kernel
theorem dc_K_turn_33 : decode b_K_turn 33 = .ok (.iload_n 1, 1) := by decide +kernel
theorem dc_K_turn_34 : decode b_K_turn 34 = .ok (.invokestatic 153, 3) := by decide +kernel
theorem dc_K_turn_37 : decode b_K_turn 37 = .ok (.putfield 43, 3) := by decide +kernel
theorem dc_K_turn_40 : decode b_K_turn 40 = .ok (.aload_n 0, 1) := by decide +kernel
theorem dc_K_turn_41 : decode b_K_turn 41 = .ok (.iconst 0, 1) := by decide +kernel
theorem dc_K_turn_42 : decode b_K_turn 42 = .ok (.putfield 46, 3) := by decide +kernel
theorem dc_K_turn_45 : decode b_K_turn 45 = .ok (.aload_n 0, 1) := by decide +kernel
theorem dc_K_turn_46 : decode b_K_turn 46 = .ok (.getfield 43, 3) := by decide +kernel
theorem dc_K_turn_49 : decode b_K_turn 49 = .ok (.ireturn, 1) := by decide +kernel
theorem dc_K_turn_10 : decode b_K_turn 10 = .ok (.new 54, 3) := by decide +kernel
theorem dc_K_turn_13 : decode b_K_turn 13 = .ok (.dup, 1) := by decide +kernel
theorem dc_K_turn_14 : decode b_K_turn 14 = .ok (.ldc 147, 2) := by decide +kernel
theorem dc_K_turn_16 : decode b_K_turn 16 = .ok (.invokespecial 58, 3) := by decide +kernel
theorem dc_K_turn_19 : decode b_K_turn 19 = .ok (.athrow, 1) := by decide +kernel
theorem dc_K_join_0 : decode b_K_join 0 = .ok (.iload_n 1, 1) := by decide +kernel
theorem dc_K_join_1 : decode b_K_join 1 = .ok (.invokestatic 133, 3) := by decide +kernel
theorem dc_K_join_4 : decode b_K_join 4 = .ok (.ifCond .ne 13, 3) := by decide +kernel
theorem dc_K_join_17 : decode b_K_join 17 = .ok (.iload_n 1, 1) := by decide +kernel
theorem dc_K_join_18 : decode b_K_join 18 = .ok (.invokestatic 140, 3) := by decide +kernel
theorem dc_K_join_21 : decode b_K_join 21 = .ok (.istore_n 2, 1) := by decide +kernel
theorem dc_K_join_22 : decode b_K_join 22 = .ok (.aload_n 0, 1) := by decide +kernel
theorem dc_K_join_23 : decode b_K_join 23 = .ok (.getfield 36, 3) := by decide +kernel
theorem dc_K_join_26 : decode b_K_join 26 = .ok (.iload_n 2, 1) := by decide +kernel
theorem dc_K_join_27 : decode b_K_join 27 = .ok (.ifCond .ne 7, 3) := by decide +kernel
theorem dc_K_join_34 : decode b_K_join 34 = .ok (.iconst 0, 1) := by decide +kernel
theorem dc_K_join_30 : decode b_K_join 30 = .ok (.iconst 1, 1) := by decide +kernel
theorem dc_K_join_31 : decode b_K_join 31 = .ok (.goto 4, 3) := by decide +kernel
theorem dc_K_join_7 : decode b_K_join 7 = .ok (.new 85, 3) := by decide +kernel
theorem dc_K_join_10 : decode b_K_join 10 = .ok (.dup, 1) := by decide +kernel
theorem dc_K_join_11 : decode b_K_join 11 = .ok (.ldc 136, 2) := by decide +kernel
theorem dc_K_join_13 : decode b_K_join 13 = .ok (.invokespecial 89, 3) := by decide +kernel
theorem dc_K_join_16 : decode b_K_join 16 = .ok (.athrow, 1) := by decide +kernel
theorem dc_K_join_35 : decode b_K_join 35 = .ok (.invokevirtual 157, 3) := by decide +kernel
theorem dc_K_join_38 : decode b_K_join 38 = .ok (.aload_n 0, 1) := by decide +kernel
theorem dc_K_join_39 : decode b_K_join 39 = .ok (.getfield 40, 3) := by decide +kernel
theorem dc_K_join_42 : decode b_K_join 42 = .ok (.iload_n 2, 1) := by decide +kernel
theorem dc_K_join_43 : decode b_K_join 43 = .ok (.ifCond .ne 7, 3) := by decide +kernel
theorem dc_K_join_50 : decode b_K_join 50 = .ok (.iconst 0, 1) := by decide +kernel
theorem dc_K_join_46 : decode b_K_join 46 = .ok (.iconst 1, 1) := by decide +kernel
theorem dc_K_join_47 : decode b_K_join 47 = .ok (.goto 4, 3) := by decide +kernel
theorem dc_K_join_51 : decode b_K_join 51 = .ok (.invokevirtual 157, 3) := by decide +kernel
theorem dc_K_join_54 : decode b_K_join 54 = .ok (.if_icmp .eq 13, 3) := by decide +kernel
theorem dc_K_join_67 : decode b_K_join 67 = .ok (.aload_n 0, 1) := by decide +kernel
theorem dc_K_join_68 : decode b_K_join 68 = .ok (.getfield 36, 3) := by decide +kernel
theorem dc_K_join_71 : decode b_K_join 71 = .ok (.aload_n 0, 1) := by decide +kernel
theorem dc_K_join_72 : decode b_K_join 72 = .ok (.getfield 40, 3) := by decide +kernel
theorem dc_K_join_75 : decode b_K_join 75 = .ok (.iload_n 2, 1) := by decide +kernel
theorem dc_K_join_76 : decode b_K_join 76 = .ok (.invokevirtual 163, 3) := by decide +kernel
theorem dc_K_join_79 : decode b_K_join 79 = .ok (.ifCond .ne 13, 3) := by decide +kernel
theorem dc_K_join_92 : decode b_K_join 92 = .ok (.aload_n 0, 1) := by decide +kernel
theorem dc_K_join_93 : decode b_K_join 93 = .ok (.iload_n 1, 1) := by decide +kernel
theorem dc_K_join_94 : decode b_K_join 94 = .ok (.invokevirtual 169, 3) := by decide +kernel
theorem dc_K_join_97 : decode b_K_join 97 = .ok (.aload_n 0, 1) := by decide +kernel
theorem dc_K_join_98 : decode b_K_join 98 = .ok (.getfield 36, 3) := by decide +kernel
theorem dc_K_join_101 : decode b_K_join 101 = .ok (.aload_n 0, 1) := by decide +kernel
theorem dc_K_join_102 : decode b_K_join 102 = .ok (.getfield 40, 3) := by decide +kernel
theorem dc_K_join_105 : decode b_K_join 105 = .ok (.invokevirtual 172, 3) := by decide +kernel
theorem dc_K_join_108 : decode b_K_join 108 = .ok (.aload_n 0, 1) := by decide +kernel
theorem dc_K_join_109 : decode b_K_join 109 = .ok (.iconst 0, 1) := by decide +kernel
theorem dc_K_join_110 : decode b_K_join 110 = .ok (.putfield 43, 3) := by decide +kernel
theorem dc_K_join_113 : decode b_K_join 113 = .ok (.aload_n 0, 1) := by decide +kernel
theorem dc_K_join_114 : decode b_K_join 114 = .ok (.iconst 0, 1) := by decide +kernel
theorem dc_K_join_115 : decode b_K_join 115 = .ok (.putfield 46, 3) := by decide +kernel
theorem dc_K_join_118 : decode b_K_join 118 = .ok (.aload_n 0, 1) := by decide +kernel
theorem dc_K_join_119 : decode b_K_join 119 = .ok (.getfield 36, 3) := by decide +kernel
theorem dc_K_join_122 : decode b_K_join 122 = .ok (.getfield 69, 3) := by decide +kernel
theorem dc_K_join_125 : decode b_K_join 125 = .ok (.ireturn, 1) := by decide +kernel
theorem dc_K_join_82 : decode b_K_join 82 = .ok (.new 72, 3) := by decide +kernel
theorem dc_K_join_85 : decode b_K_join 85 = .ok (.dup, 1) := by decide +kernel
theorem dc_K_join_86 : decode b_K_join 86 = .ok (.ldc 167, 2) := by decide +kernel
theorem dc_K_join_88 : decode b_K_join 88 = .ok (.invokespecial 76, 3) := by decide +kernel
theorem dc_K_join_91 : decode b_K_join 91 = .ok (.athrow, 1) := by decide +kernel
theorem dc_K_join_57 : decode b_K_join 57 = .ok (.new 64, 3) := by decide +kernel
theorem dc_K_join_60 : decode b_K_join 60 = .ok (.dup, 1) := by decide +kernel
theorem dc_K_join_61 : decode b_K_join 61 = .ok (.ldc 161, 2) := by decide +kernel
theorem dc_K_join_63 : decode b_K_join 63 = .ok (.invokespecial 68, 3) := by decide +kernel
theorem dc_K_join_66 : decode b_K_join 66 = .ok (.athrow, 1) := by decide +kernel
theorem dc_K_at_0 : decode b_K_at 0 = .ok (.aload_n 0, 1) := by decide +kernel
theorem dc_K_at_1 : decode b_K_at 1 = .ok (.getfield 36, 3) := by decide +kernel
theorem dc_K_at_4 : decode b_K_at 4 = .ok (.iload_n 1, 1) := by decide +kernel
theorem dc_K_at_5 : decode b_K_at 5 = .ok (.invokevirtual 81, 3) := by decide +kernel
theorem dc_K_at_8 : decode b_K_at 8 = .ok (.ifCond .ne 13, 3) := by decide +kernel
theorem dc_K_at_21 : decode b_K_at 21 = .ok (.aload_n 0, 1) := by decide +kernel
theorem dc_K_at_22 : decode b_K_at 22 = .ok (.getfield 36, 3) := by decide +kernel
theorem dc_K_at_25 : decode b_K_at 25 = .ok (.getfield 95, 3) := by decide +kernel
theorem dc_K_at_28 : decode b_K_at 28 = .ok (.iload_n 1, 1) := by decide +kernel
theorem dc_K_at_29 : decode b_K_at 29 = .ok (.aaload, 1) := by decide +kernel
theorem dc_K_at_30 : decode b_K_at 30 = .ok (.astore_n 3, 1) := by decide +kernel
theorem dc_K_at_31 : decode b_K_at 31 = .ok (.iload_n 2, 1) := by decide +kernel
theorem dc_K_at_32 : decode b_K_at 32 = .ok (.tableswitch 88 0 7 #[48, 53, 58, 63, 68, 73, 78, 83], 48) := by decide +kernel
theorem dc_K_at_80 : decode b_K_at 80 = .ok (.aload_n 3, 1) := by decide +kernel
theorem dc_K_at_81 : decode b_K_at 81 = .ok (.getfield 176, 3) := by decide +kernel
theorem dc_K_at_84 : decode b_K_at 84 = .ok (.ireturn, 1) := by decide +kernel
theorem dc_K_at_85 : decode b_K_at 85 = .ok (.aload_n 3, 1) := by decide +kernel
theorem dc_K_at_86 : decode b_K_at 86 = .ok (.getfield 179, 3) := by decide +kernel
theorem dc_K_at_89 : decode b_K_at 89 = .ok (.ireturn, 1) := by decide +kernel
theorem dc_K_at_90 : decode b_K_at 90 = .ok (.aload_n 3, 1) := by decide +kernel
theorem dc_K_at_91 : decode b_K_at 91 = .ok (.getfield 182, 3) := by decide +kernel
theorem dc_K_at_94 : decode b_K_at 94 = .ok (.ireturn, 1) := by decide +kernel
theorem dc_K_at_95 : decode b_K_at 95 = .ok (.aload_n 3, 1) := by decide +kernel
theorem dc_K_at_96 : decode b_K_at 96 = .ok (.getfield 185, 3) := by decide +kernel
theorem dc_K_at_99 : decode b_K_at 99 = .ok (.ireturn, 1) := by decide +kernel
theorem dc_K_at_100 : decode b_K_at 100 = .ok (.aload_n 3, 1) := by decide +kernel
theorem dc_K_at_101 : decode b_K_at 101 = .ok (.getfield 188, 3) := by decide +kernel
theorem dc_K_at_104 : decode b_K_at 104 = .ok (.ireturn, 1) := by decide +kernel
theorem dc_K_at_105 : decode b_K_at 105 = .ok (.aload_n 3, 1) := by decide +kernel
theorem dc_K_at_106 : decode b_K_at 106 = .ok (.getfield 99, 3) := by decide +kernel
theorem dc_K_at_109 : decode b_K_at 109 = .ok (.ireturn, 1) := by decide +kernel
theorem dc_K_at_110 : decode b_K_at 110 = .ok (.aload_n 3, 1) := by decide +kernel
theorem dc_K_at_111 : decode b_K_at 111 = .ok (.invokevirtual 191, 3) := by decide +kernel
theorem dc_K_at_114 : decode b_K_at 114 = .ok (.ireturn, 1) := by decide +kernel
theorem dc_K_at_115 : decode b_K_at 115 = .ok (.aload_n 3, 1) := by decide +kernel
theorem dc_K_at_116 : decode b_K_at 116 = .ok (.invokevirtual 195, 3) := by decide +kernel
theorem dc_K_at_119 : decode b_K_at 119 = .ok (.ireturn, 1) := by decide +kernel
theorem dc_K_at_120 : decode b_K_at 120 = .ok (.iconst (-1), 1) := by decide +kernel
theorem dc_K_at_121 : decode b_K_at 121 = .ok (.ireturn, 1) := by decide +kernel
theorem dc_K_at_11 : decode b_K_at 11 = .ok (.new 85, 3) := by decide +kernel
theorem dc_K_at_14 : decode b_K_at 14 = .ok (.dup, 1) := by decide +kernel
theorem dc_K_at_15 : decode b_K_at 15 = .ok (.ldc 87, 2) := by decide +kernel
theorem dc_K_at_17 : decode b_K_at 17 = .ok (.invokespecial 89, 3) := by decide +kernel
theorem dc_K_at_20 : decode b_K_at 20 = .ok (.athrow, 1) := by decide +kernel
theorem dc_K_byteAt_0 : decode b_K_byteAt 0 = .ok (.aload_n 0, 1) := by decide +kernel
theorem dc_K_byteAt_1 : decode b_K_byteAt 1 = .ok (.getfield 36, 3) := by decide +kernel
theorem dc_K_byteAt_4 : decode b_K_byteAt 4 = .ok (.iload_n 1, 1) := by decide +kernel
theorem dc_K_byteAt_5 : decode b_K_byteAt 5 = .ok (.invokevirtual 81, 3) := by decide +kernel
theorem dc_K_byteAt_8 : decode b_K_byteAt 8 = .ok (.ifCond .ne 13, 3) := by decide +kernel
theorem dc_K_byteAt_21 : decode b_K_byteAt 21 = .ok (.aload_n 0, 1) := by decide +kernel
theorem dc_K_byteAt_22 : decode b_K_byteAt 22 = .ok (.getfield 36, 3) := by decide +kernel
theorem dc_K_byteAt_25 : decode b_K_byteAt 25 = .ok (.getfield 95, 3) := by decide +kernel
theorem dc_K_byteAt_28 : decode b_K_byteAt 28 = .ok (.iload_n 1, 1) := by decide +kernel
theorem dc_K_byteAt_29 : decode b_K_byteAt 29 = .ok (.aaload, 1) := by decide +kernel
theorem dc_K_byteAt_30 : decode b_K_byteAt 30 = .ok (.astore_n 3, 1) := by decide +kernel
theorem dc_K_byteAt_31 : decode b_K_byteAt 31 = .ok (.iload_n 2, 1) := by decide +kernel
theorem dc_K_byteAt_32 : decode b_K_byteAt 32 = .ok (.ifCond .lt 11, 3) := by decide +kernel
theorem dc_K_byteAt_35 : decode b_K_byteAt 35 = .ok (.iload_n 2, 1) := by decide +kernel
theorem dc_K_byteAt_36 : decode b_K_byteAt 36 = .ok (.aload_n 3, 1) := by decide +kernel
theorem dc_K_byteAt_37 : decode b_K_byteAt 37 = .ok (.getfield 99, 3) := by decide +kernel
theorem dc_K_byteAt_40 : decode b_K_byteAt 40 = .ok (.if_icmp .lt 13, 3) := by decide +kernel
theorem dc_K_byteAt_53 : decode b_K_byteAt 53 = .ok (.aload_n 3, 1) := by decide +kernel
theorem dc_K_byteAt_54 : decode b_K_byteAt 54 = .ok (.getfield 200, 3) := by decide +kernel
theorem dc_K_byteAt_57 : decode b_K_byteAt 57 = .ok (.iload_n 2, 1) := by decide +kernel
theorem dc_K_byteAt_58 : decode b_K_byteAt 58 = .ok (.iaload, 1) := by decide +kernel
theorem dc_K_byteAt_59 : decode b_K_byteAt 59 = .ok (.ireturn, 1) := by decide +kernel
theorem dc_K_byteAt_11 : decode b_K_byteAt 11 = .ok (.new 85, 3) := by decide +kernel
theorem dc_K_byteAt_14 : decode b_K_byteAt 14 = .ok (.dup, 1) := by decide +kernel
theorem dc_K_byteAt_15 : decode b_K_byteAt 15 = .ok (.ldc 87, 2) := by decide +kernel
theorem dc_K_byteAt_17 : decode b_K_byteAt 17 = .ok (.invokespecial 89, 3) := by decide +kernel
theorem dc_K_byteAt_20 : decode b_K_byteAt 20 = .ok (.athrow, 1) := by decide +kernel
theorem dc_K_byteAt_43 : decode b_K_byteAt 43 = .ok (.new 85, 3) := by decide +kernel
theorem dc_K_byteAt_46 : decode b_K_byteAt 46 = .ok (.dup, 1) := by decide +kernel
theorem dc_K_byteAt_47 : decode b_K_byteAt 47 = .ok (.ldc 198, 2) := by decide +kernel
theorem dc_K_byteAt_49 : decode b_K_byteAt 49 = .ok (.invokespecial 89, 3) := by decide +kernel
theorem dc_K_byteAt_52 : decode b_K_byteAt 52 = .ok (.athrow, 1) := by decide +kernel
theorem dc_K_shown_0 : decode b_K_shown 0 = .ok (.aload_n 0, 1) := by decide +kernel
theorem dc_K_shown_1 : decode b_K_shown 1 = .ok (.getfield 36, 3) := by decide +kernel
theorem dc_K_shown_4 : decode b_K_shown 4 = .ok (.iload_n 1, 1) := by decide +kernel
theorem dc_K_shown_5 : decode b_K_shown 5 = .ok (.iload_n 2, 1) := by decide +kernel
theorem dc_K_shown_6 : decode b_K_shown 6 = .ok (.invokevirtual 109, 3) := by decide +kernel
theorem dc_K_shown_9 : decode b_K_shown 9 = .ok (.ifCond .ne 13, 3) := by decide +kernel
theorem dc_K_shown_22 : decode b_K_shown 22 = .ok (.aload_n 0, 1) := by decide +kernel
theorem dc_K_shown_23 : decode b_K_shown 23 = .ok (.getfield 36, 3) := by decide +kernel
theorem dc_K_shown_26 : decode b_K_shown 26 = .ok (.iload_n 1, 1) := by decide +kernel
theorem dc_K_shown_27 : decode b_K_shown 27 = .ok (.iload_n 2, 1) := by decide +kernel
theorem dc_K_shown_28 : decode b_K_shown 28 = .ok (.invokevirtual 203, 3) := by decide +kernel
theorem dc_K_shown_31 : decode b_K_shown 31 = .ok (.istore_n 3, 1) := by decide +kernel
theorem dc_K_shown_32 : decode b_K_shown 32 = .ok (.iload_n 3, 1) := by decide +kernel
theorem dc_K_shown_33 : decode b_K_shown 33 = .ok (.iconst (-1), 1) := by decide +kernel
theorem dc_K_shown_34 : decode b_K_shown 34 = .ok (.if_icmp .ne 5, 3) := by decide +kernel
theorem dc_K_shown_39 : decode b_K_shown 39 = .ok (.sipush 4096, 3) := by decide +kernel
theorem dc_K_shown_42 : decode b_K_shown 42 = .ok (.iload_n 3, 1) := by decide +kernel
theorem dc_K_shown_43 : decode b_K_shown 43 = .ok (.imul, 1) := by decide +kernel
theorem dc_K_shown_44 : decode b_K_shown 44 = .ok (.aload_n 0, 1) := by decide +kernel
theorem dc_K_shown_45 : decode b_K_shown 45 = .ok (.getfield 36, 3) := by decide +kernel
theorem dc_K_shown_48 : decode b_K_shown 48 = .ok (.getfield 95, 3) := by decide +kernel
theorem dc_K_shown_51 : decode b_K_shown 51 = .ok (.iload_n 3, 1) := by decide +kernel
theorem dc_K_shown_52 : decode b_K_shown 52 = .ok (.aaload, 1) := by decide +kernel
theorem dc_K_shown_53 : decode b_K_shown 53 = .ok (.iload_n 1, 1) := by decide +kernel
theorem dc_K_shown_54 : decode b_K_shown 54 = .ok (.iload_n 2, 1) := by decide +kernel
theorem dc_K_shown_55 : decode b_K_shown 55 = .ok (.invokevirtual 206, 3) := by decide +kernel
theorem dc_K_shown_58 : decode b_K_shown 58 = .ok (.iadd, 1) := by decide +kernel
theorem dc_K_shown_59 : decode b_K_shown 59 = .ok (.ireturn, 1) := by decide +kernel
theorem dc_K_shown_37 : decode b_K_shown 37 = .ok (.iconst (-1), 1) := by decide +kernel
theorem dc_K_shown_38 : decode b_K_shown 38 = .ok (.ireturn, 1) := by decide +kernel
theorem dc_K_shown_12 : decode b_K_shown 12 = .ok (.new 85, 3) := by decide +kernel
theorem dc_K_shown_15 : decode b_K_shown 15 = .ok (.dup, 1) := by decide +kernel
theorem dc_K_shown_16 : decode b_K_shown 16 = .ok (.ldc 113, 2) := by decide +kernel
theorem dc_K_shown_18 : decode b_K_shown 18 = .ok (.invokespecial 89, 3) := by decide +kernel
theorem dc_K_shown_21 : decode b_K_shown 21 = .ok (.athrow, 1) := by decide +kernel
theorem dc_K_noteAt_0 : decode b_K_noteAt 0 = .ok (.iload_n 1, 1) := by decide +kernel
theorem dc_K_noteAt_1 : decode b_K_noteAt 1 = .ok (.ifCond .lt 14, 3) := by decide +kernel
theorem dc_K_noteAt_4 : decode b_K_noteAt 4 = .ok (.iload_n 1, 1) := by decide +kernel
theorem dc_K_noteAt_5 : decode b_K_noteAt 5 = .ok (.aload_n 0, 1) := by decide +kernel
theorem dc_K_noteAt_6 : decode b_K_noteAt 6 = .ok (.getfield 36, 3) := by decide +kernel
theorem dc_K_noteAt_9 : decode b_K_noteAt 9 = .ok (.getfield 115, 3) := by decide +kernel
theorem dc_K_noteAt_12 : decode b_K_noteAt 12 = .ok (.if_icmp .lt 13, 3) := by decide +kernel
theorem dc_K_noteAt_25 : decode b_K_noteAt 25 = .ok (.aload_n 0, 1) := by decide +kernel
theorem dc_K_noteAt_26 : decode b_K_noteAt 26 = .ok (.getfield 36, 3) := by decide +kernel
theorem dc_K_noteAt_29 : decode b_K_noteAt 29 = .ok (.getfield 211, 3) := by decide +kernel
theorem dc_K_noteAt_32 : decode b_K_noteAt 32 = .ok (.iload_n 1, 1) := by decide +kernel
theorem dc_K_noteAt_33 : decode b_K_noteAt 33 = .ok (.aaload, 1) := by decide +kernel
theorem dc_K_noteAt_34 : decode b_K_noteAt 34 = .ok (.astore_n 3, 1) := by decide +kernel
theorem dc_K_noteAt_35 : decode b_K_noteAt 35 = .ok (.iload_n 2, 1) := by decide +kernel
theorem dc_K_noteAt_36 : decode b_K_noteAt 36 = .ok (.tableswitch 43 0 2 #[28, 33, 38], 28) := by decide +kernel
theorem dc_K_noteAt_64 : decode b_K_noteAt 64 = .ok (.aload_n 3, 1) := by decide +kernel
theorem dc_K_noteAt_65 : decode b_K_noteAt 65 = .ok (.getfield 215, 3) := by decide +kernel
theorem dc_K_noteAt_68 : decode b_K_noteAt 68 = .ok (.ireturn, 1) := by decide +kernel
theorem dc_K_noteAt_69 : decode b_K_noteAt 69 = .ok (.aload_n 3, 1) := by decide +kernel
theorem dc_K_noteAt_70 : decode b_K_noteAt 70 = .ok (.getfield 218, 3) := by decide +kernel
theorem dc_K_noteAt_73 : decode b_K_noteAt 73 = .ok (.ireturn, 1) := by decide +kernel
theorem dc_K_noteAt_74 : decode b_K_noteAt 74 = .ok (.aload_n 3, 1) := by decide +kernel
theorem dc_K_noteAt_75 : decode b_K_noteAt 75 = .ok (.getfield 219, 3) := by decide +kernel
theorem dc_K_noteAt_78 : decode b_K_noteAt 78 = .ok (.ireturn, 1) := by decide +kernel
theorem dc_K_noteAt_79 : decode b_K_noteAt 79 = .ok (.iconst (-1), 1) := by decide +kernel
theorem dc_K_noteAt_80 : decode b_K_noteAt 80 = .ok (.ireturn, 1) := by decide +kernel
theorem dc_K_noteAt_15 : decode b_K_noteAt 15 = .ok (.new 85, 3) := by decide +kernel
theorem dc_K_noteAt_18 : decode b_K_noteAt 18 = .ok (.dup, 1) := by decide +kernel
theorem dc_K_noteAt_19 : decode b_K_noteAt 19 = .ok (.ldc 209, 2) := by decide +kernel
theorem dc_K_noteAt_21 : decode b_K_noteAt 21 = .ok (.invokespecial 89, 3) := by decide +kernel
theorem dc_K_noteAt_24 : decode b_K_noteAt 24 = .ok (.athrow, 1) := by decide +kernel
theorem dc_K_streamAt_0 : decode b_K_streamAt 0 = .ok (.iload_n 1, 1) := by decide +kernel
theorem dc_K_streamAt_1 : decode b_K_streamAt 1 = .ok (.ifCond .lt 14, 3) := by decide +kernel
theorem dc_K_streamAt_4 : decode b_K_streamAt 4 = .ok (.iload_n 1, 1) := by decide +kernel
theorem dc_K_streamAt_5 : decode b_K_streamAt 5 = .ok (.aload_n 0, 1) := by decide +kernel
theorem dc_K_streamAt_6 : decode b_K_streamAt 6 = .ok (.getfield 23, 3) := by decide +kernel
theorem dc_K_streamAt_9 : decode b_K_streamAt 9 = .ok (.getfield 239, 3) := by decide +kernel
theorem dc_K_streamAt_12 : decode b_K_streamAt 12 = .ok (.if_icmp .lt 13, 3) := by decide +kernel
theorem dc_K_streamAt_25 : decode b_K_streamAt 25 = .ok (.aload_n 0, 1) := by decide +kernel
theorem dc_K_streamAt_26 : decode b_K_streamAt 26 = .ok (.getfield 23, 3) := by decide +kernel
theorem dc_K_streamAt_29 : decode b_K_streamAt 29 = .ok (.getfield 242, 3) := by decide +kernel
theorem dc_K_streamAt_32 : decode b_K_streamAt 32 = .ok (.iload_n 1, 1) := by decide +kernel
theorem dc_K_streamAt_33 : decode b_K_streamAt 33 = .ok (.iaload, 1) := by decide +kernel
theorem dc_K_streamAt_34 : decode b_K_streamAt 34 = .ok (.ireturn, 1) := by decide +kernel
theorem dc_K_streamAt_15 : decode b_K_streamAt 15 = .ok (.new 85, 3) := by decide +kernel
theorem dc_K_streamAt_18 : decode b_K_streamAt 18 = .ok (.dup, 1) := by decide +kernel
theorem dc_K_streamAt_19 : decode b_K_streamAt 19 = .ok (.ldc 198, 2) := by decide +kernel
theorem dc_K_streamAt_21 : decode b_K_streamAt 21 = .ok (.invokespecial 89, 3) := by decide +kernel
theorem dc_K_streamAt_24 : decode b_K_streamAt 24 = .ok (.athrow, 1) := by decide +kernel
theorem dc_K_pointer_0 : decode b_K_pointer 0 = .ok (.aload_n 0, 1) := by decide +kernel
theorem dc_K_pointer_1 : decode b_K_pointer 1 = .ok (.getfield 36, 3) := by decide +kernel
theorem dc_K_pointer_4 : decode b_K_pointer 4 = .ok (.iload_n 1, 1) := by decide +kernel
theorem dc_K_pointer_5 : decode b_K_pointer 5 = .ok (.invokevirtual 81, 3) := by decide +kernel
theorem dc_K_pointer_8 : decode b_K_pointer 8 = .ok (.ifCond .ne 13, 3) := by decide +kernel
theorem dc_K_pointer_21 : decode b_K_pointer 21 = .ok (.aload_n 0, 1) := by decide +kernel
theorem dc_K_pointer_22 : decode b_K_pointer 22 = .ok (.getfield 36, 3) := by decide +kernel
theorem dc_K_pointer_25 : decode b_K_pointer 25 = .ok (.aload_n 0, 1) := by decide +kernel
theorem dc_K_pointer_26 : decode b_K_pointer 26 = .ok (.getfield 36, 3) := by decide +kernel
theorem dc_K_pointer_29 : decode b_K_pointer 29 = .ok (.getfield 95, 3) := by decide +kernel
theorem dc_K_pointer_32 : decode b_K_pointer 32 = .ok (.iload_n 1, 1) := by decide +kernel
theorem dc_K_pointer_33 : decode b_K_pointer 33 = .ok (.aaload, 1) := by decide +kernel
theorem dc_K_pointer_34 : decode b_K_pointer 34 = .ok (.invokevirtual 229, 3) := by decide +kernel
theorem dc_K_pointer_37 : decode b_K_pointer 37 = .ok (.ireturn, 1) := by decide +kernel
theorem dc_K_pointer_11 : decode b_K_pointer 11 = .ok (.new 85, 3) := by decide +kernel
theorem dc_K_pointer_14 : decode b_K_pointer 14 = .ok (.dup, 1) := by decide +kernel
theorem dc_K_pointer_15 : decode b_K_pointer 15 = .ok (.ldc 87, 2) := by decide +kernel
theorem dc_K_pointer_17 : decode b_K_pointer 17 = .ok (.invokespecial 89, 3) := by decide +kernel
theorem dc_K_pointer_20 : decode b_K_pointer 20 = .ok (.athrow, 1) := by decide +kernel
theorem dc_N_startAnew_0 : decode b_N_startAnew 0 = .ok (.aload_n 0, 1) := by decide +kernel
theorem dc_N_startAnew_1 : decode b_N_startAnew 1 = .ok (.iload_n 1, 1) := by decide +kernel
theorem dc_N_startAnew_2 : decode b_N_startAnew 2 = .ok (.putfield 7, 3) := by decide +kernel
theorem dc_N_startAnew_5 : decode b_N_startAnew 5 = .ok (.aload_n 0, 1) := by decide +kernel
theorem dc_N_startAnew_6 : decode b_N_startAnew 6 = .ok (.iload_n 2, 1) := by decide +kernel
theorem dc_N_startAnew_7 : decode b_N_startAnew 7 = .ok (.putfield 13, 3) := by decide +kernel
theorem dc_N_startAnew_10 : decode b_N_startAnew 10 = .ok (.aload_n 0, 1) := by decide +kernel
theorem dc_N_startAnew_11 : decode b_N_startAnew 11 = .ok (.iload_n 3, 1) := by decide +kernel
theorem dc_N_startAnew_12 : decode b_N_startAnew 12 = .ok (.putfield 16, 3) := by decide +kernel
theorem dc_N_startAnew_15 : decode b_N_startAnew 15 = .ok (.return_, 1) := by decide +kernel
theorem dc_N_isWithin_0 : decode b_N_isWithin 0 = .ok (.aload_n 0, 1) := by decide +kernel
theorem dc_N_isWithin_1 : decode b_N_isWithin 1 = .ok (.getfield 7, 3) := by decide +kernel
theorem dc_N_isWithin_4 : decode b_N_isWithin 4 = .ok (.iload_n 1, 1) := by decide +kernel
theorem dc_N_isWithin_5 : decode b_N_isWithin 5 = .ok (.if_icmp .lt 32, 3) := by decide +kernel
theorem dc_N_isWithin_37 : decode b_N_isWithin 37 = .ok (.iconst 0, 1) := by decide +kernel
theorem dc_N_isWithin_38 : decode b_N_isWithin 38 = .ok (.ireturn, 1) := by decide +kernel
theorem dc_N_isWithin_8 : decode b_N_isWithin 8 = .ok (.aload_n 0, 1) := by decide +kernel
theorem dc_N_isWithin_9 : decode b_N_isWithin 9 = .ok (.getfield 13, 3) := by decide +kernel
theorem dc_N_isWithin_12 : decode b_N_isWithin 12 = .ok (.iload_n 2, 1) := by decide +kernel
theorem dc_N_isWithin_13 : decode b_N_isWithin 13 = .ok (.if_icmp .lt 24, 3) := by decide +kernel
theorem dc_N_isWithin_16 : decode b_N_isWithin 16 = .ok (.aload_n 0, 1) := by decide +kernel
theorem dc_N_isWithin_17 : decode b_N_isWithin 17 = .ok (.getfield 7, 3) := by decide +kernel
theorem dc_N_isWithin_20 : decode b_N_isWithin 20 = .ok (.iload_n 3, 1) := by decide +kernel
theorem dc_N_isWithin_21 : decode b_N_isWithin 21 = .ok (.if_icmp .ge 16, 3) := by decide +kernel
theorem dc_N_isWithin_24 : decode b_N_isWithin 24 = .ok (.aload_n 0, 1) := by decide +kernel
theorem dc_N_isWithin_25 : decode b_N_isWithin 25 = .ok (.getfield 13, 3) := by decide +kernel
theorem dc_N_isWithin_28 : decode b_N_isWithin 28 = .ok (.iload 4, 2) := by decide +kernel
theorem dc_N_isWithin_30 : decode b_N_isWithin 30 = .ok (.if_icmp .ge 7, 3) := by decide +kernel
theorem dc_N_isWithin_33 : decode b_N_isWithin 33 = .ok (.iconst 1, 1) := by decide +kernel
theorem dc_N_isWithin_34 : decode b_N_isWithin 34 = .ok (.goto 4, 3) := by decide +kernel
theorem dc_N_moveBy_0 : decode b_N_moveBy 0 = .ok (.aload_n 0, 1) := by decide +kernel
theorem dc_N_moveBy_1 : decode b_N_moveBy 1 = .ok (.dup, 1) := by decide +kernel
theorem dc_N_moveBy_2 : decode b_N_moveBy 2 = .ok (.getfield 7, 3) := by decide +kernel
theorem dc_N_moveBy_5 : decode b_N_moveBy 5 = .ok (.iload_n 1, 1) := by decide +kernel
theorem dc_N_moveBy_6 : decode b_N_moveBy 6 = .ok (.iadd, 1) := by decide +kernel
theorem dc_N_moveBy_7 : decode b_N_moveBy 7 = .ok (.putfield 7, 3) := by decide +kernel
theorem dc_N_moveBy_10 : decode b_N_moveBy 10 = .ok (.aload_n 0, 1) := by decide +kernel
theorem dc_N_moveBy_11 : decode b_N_moveBy 11 = .ok (.dup, 1) := by decide +kernel
theorem dc_N_moveBy_12 : decode b_N_moveBy 12 = .ok (.getfield 13, 3) := by decide +kernel
theorem dc_N_moveBy_15 : decode b_N_moveBy 15 = .ok (.iload_n 2, 1) := by decide +kernel
theorem dc_N_moveBy_16 : decode b_N_moveBy 16 = .ok (.iadd, 1) := by decide +kernel
theorem dc_N_moveBy_17 : decode b_N_moveBy 17 = .ok (.putfield 13, 3) := by decide +kernel
theorem dc_N_moveBy_20 : decode b_N_moveBy 20 = .ok (.return_, 1) := by decide +kernel
theorem dc_N_mirrorIn_0 : decode b_N_mirrorIn 0 = .ok (.aload_n 0, 1) := by decide +kernel
theorem dc_N_mirrorIn_1 : decode b_N_mirrorIn 1 = .ok (.iload_n 1, 1) := by decide +kernel
theorem dc_N_mirrorIn_2 : decode b_N_mirrorIn 2 = .ok (.iconst 1, 1) := by decide +kernel
theorem dc_N_mirrorIn_3 : decode b_N_mirrorIn 3 = .ok (.isub, 1) := by decide +kernel
theorem dc_N_mirrorIn_4 : decode b_N_mirrorIn 4 = .ok (.aload_n 0, 1) := by decide +kernel
theorem dc_N_mirrorIn_5 : decode b_N_mirrorIn 5 = .ok (.getfield 7, 3) := by decide +kernel
theorem dc_N_mirrorIn_8 : decode b_N_mirrorIn 8 = .ok (.isub, 1) := by decide +kernel
theorem dc_N_mirrorIn_9 : decode b_N_mirrorIn 9 = .ok (.putfield 7, 3) := by decide +kernel
theorem dc_N_mirrorIn_12 : decode b_N_mirrorIn 12 = .ok (.return_, 1) := by decide +kernel
theorem dc_N_quarterIn_0 : decode b_N_quarterIn 0 = .ok (.iload_n 1, 1) := by decide +kernel
theorem dc_N_quarterIn_1 : decode b_N_quarterIn 1 = .ok (.iconst 1, 1) := by decide +kernel
theorem dc_N_quarterIn_2 : decode b_N_quarterIn 2 = .ok (.isub, 1) := by decide +kernel
theorem dc_N_quarterIn_3 : decode b_N_quarterIn 3 = .ok (.aload_n 0, 1) := by decide +kernel
theorem dc_N_quarterIn_4 : decode b_N_quarterIn 4 = .ok (.getfield 13, 3) := by decide +kernel
theorem dc_N_quarterIn_7 : decode b_N_quarterIn 7 = .ok (.isub, 1) := by decide +kernel
theorem dc_N_quarterIn_8 : decode b_N_quarterIn 8 = .ok (.istore_n 2, 1) := by decide +kernel
theorem dc_N_quarterIn_9 : decode b_N_quarterIn 9 = .ok (.aload_n 0, 1) := by decide +kernel
theorem dc_N_quarterIn_10 : decode b_N_quarterIn 10 = .ok (.aload_n 0, 1) := by decide +kernel
theorem dc_N_quarterIn_11 : decode b_N_quarterIn 11 = .ok (.getfield 7, 3) := by decide +kernel
theorem dc_N_quarterIn_14 : decode b_N_quarterIn 14 = .ok (.putfield 13, 3) := by decide +kernel
theorem dc_N_quarterIn_17 : decode b_N_quarterIn 17 = .ok (.aload_n 0, 1) := by decide +kernel
theorem dc_N_quarterIn_18 : decode b_N_quarterIn 18 = .ok (.iload_n 2, 1) := by decide +kernel
theorem dc_N_quarterIn_19 : decode b_N_quarterIn 19 = .ok (.putfield 7, 3) := by decide +kernel
theorem dc_N_quarterIn_22 : decode b_N_quarterIn 22 = .ok (.return_, 1) := by decide +kernel
theorem dc_P_startAnew_0 : decode b_P_startAnew 0 = .ok (.aload_n 0, 1) := by decide +kernel
theorem dc_P_startAnew_1 : decode b_P_startAnew 1 = .ok (.iload_n 1, 1) := by decide +kernel
theorem dc_P_startAnew_2 : decode b_P_startAnew 2 = .ok (.putfield 25, 3) := by decide +kernel
theorem dc_P_startAnew_5 : decode b_P_startAnew 5 = .ok (.aload_n 0, 1) := by decide +kernel
theorem dc_P_startAnew_6 : decode b_P_startAnew 6 = .ok (.iload_n 2, 1) := by decide +kernel
theorem dc_P_startAnew_7 : decode b_P_startAnew 7 = .ok (.putfield 29, 3) := by decide +kernel
theorem dc_P_startAnew_10 : decode b_P_startAnew 10 = .ok (.aload_n 0, 1) := by decide +kernel
theorem dc_P_startAnew_11 : decode b_P_startAnew 11 = .ok (.iconst 0, 1) := by decide +kernel
theorem dc_P_startAnew_12 : decode b_P_startAnew 12 = .ok (.putfield 32, 3) := by decide +kernel
theorem dc_P_startAnew_15 : decode b_P_startAnew 15 = .ok (.aload_n 0, 1) := by decide +kernel
theorem dc_P_startAnew_16 : decode b_P_startAnew 16 = .ok (.iconst 0, 1) := by decide +kernel
theorem dc_P_startAnew_17 : decode b_P_startAnew 17 = .ok (.putfield 35, 3) := by decide +kernel
theorem dc_P_startAnew_20 : decode b_P_startAnew 20 = .ok (.return_, 1) := by decide +kernel
theorem dc_P_hasTile_0 : decode b_P_hasTile 0 = .ok (.iload_n 1, 1) := by decide +kernel
theorem dc_P_hasTile_1 : decode b_P_hasTile 1 = .ok (.ifCond .lt 15, 3) := by decide +kernel
theorem dc_P_hasTile_16 : decode b_P_hasTile 16 = .ok (.iconst 0, 1) := by decide +kernel
theorem dc_P_hasTile_17 : decode b_P_hasTile 17 = .ok (.ireturn, 1) := by decide +kernel
theorem dc_P_hasTile_4 : decode b_P_hasTile 4 = .ok (.iload_n 1, 1) := by decide +kernel
theorem dc_P_hasTile_5 : decode b_P_hasTile 5 = .ok (.aload_n 0, 1) := by decide +kernel
theorem dc_P_hasTile_6 : decode b_P_hasTile 6 = .ok (.getfield 32, 3) := by decide +kernel
theorem dc_P_hasTile_9 : decode b_P_hasTile 9 = .ok (.if_icmp .ge 7, 3) := by decide +kernel
theorem dc_P_hasTile_12 : decode b_P_hasTile 12 = .ok (.iconst 1, 1) := by decide +kernel
theorem dc_P_hasTile_13 : decode b_P_hasTile 13 = .ok (.goto 4, 3) := by decide +kernel
theorem dc_P_hasSample_0 : decode b_P_hasSample 0 = .ok (.iload_n 1, 1) := by decide +kernel
theorem dc_P_hasSample_1 : decode b_P_hasSample 1 = .ok (.ifCond .lt 27, 3) := by decide +kernel
theorem dc_P_hasSample_28 : decode b_P_hasSample 28 = .ok (.iconst 0, 1) := by decide +kernel
theorem dc_P_hasSample_29 : decode b_P_hasSample 29 = .ok (.ireturn, 1) := by decide +kernel
theorem dc_P_hasSample_4 : decode b_P_hasSample 4 = .ok (.iload_n 2, 1) := by decide +kernel
theorem dc_P_hasSample_5 : decode b_P_hasSample 5 = .ok (.ifCond .lt 23, 3) := by decide +kernel
theorem dc_P_hasSample_8 : decode b_P_hasSample 8 = .ok (.iload_n 1, 1) := by decide +kernel
theorem dc_P_hasSample_9 : decode b_P_hasSample 9 = .ok (.aload_n 0, 1) := by decide +kernel
theorem dc_P_hasSample_10 : decode b_P_hasSample 10 = .ok (.getfield 25, 3) := by decide +kernel
theorem dc_P_hasSample_13 : decode b_P_hasSample 13 = .ok (.if_icmp .ge 15, 3) := by decide +kernel
theorem dc_P_hasSample_16 : decode b_P_hasSample 16 = .ok (.iload_n 2, 1) := by decide +kernel
theorem dc_P_hasSample_17 : decode b_P_hasSample 17 = .ok (.aload_n 0, 1) := by decide +kernel
theorem dc_P_hasSample_18 : decode b_P_hasSample 18 = .ok (.getfield 29, 3) := by decide +kernel
theorem dc_P_hasSample_21 : decode b_P_hasSample 21 = .ok (.if_icmp .ge 7, 3) := by decide +kernel
theorem dc_P_hasSample_24 : decode b_P_hasSample 24 = .ok (.iconst 1, 1) := by decide +kernel
theorem dc_P_hasSample_25 : decode b_P_hasSample 25 = .ok (.goto 4, 3) := by decide +kernel
theorem dc_P_holdsRectangle_0 : decode b_P_holdsRectangle 0 = .ok (.iload_n 3, 1) := by decide +kernel
theorem dc_P_holdsRectangle_1 : decode b_P_holdsRectangle 1 = .ok (.iconst 1, 1) := by decide +kernel
theorem dc_P_holdsRectangle_2 : decode b_P_holdsRectangle 2 = .ok (.if_icmp .lt 42, 3) := by decide +kernel
theorem dc_P_holdsRectangle_44 : decode b_P_holdsRectangle 44 = .ok (.iconst 0, 1) := by decide +kernel
theorem dc_P_holdsRectangle_45 : decode b_P_holdsRectangle 45 = .ok (.ireturn, 1) := by decide +kernel
theorem dc_P_holdsRectangle_5 : decode b_P_holdsRectangle 5 = .ok (.iload 4, 2) := by decide +kernel
theorem dc_P_holdsRectangle_7 : decode b_P_holdsRectangle 7 = .ok (.iconst 1, 1) := by decide +kernel
theorem dc_P_holdsRectangle_8 : decode b_P_holdsRectangle 8 = .ok (.if_icmp .lt 36, 3) := by decide +kernel
theorem dc_P_holdsRectangle_11 : decode b_P_holdsRectangle 11 = .ok (.iload_n 1, 1) := by decide +kernel
theorem dc_P_holdsRectangle_12 : decode b_P_holdsRectangle 12 = .ok (.ifCond .lt 32, 3) := by decide +kernel
theorem dc_P_holdsRectangle_15 : decode b_P_holdsRectangle 15 = .ok (.iload_n 2, 1) := by decide +kernel
theorem dc_P_holdsRectangle_16 : decode b_P_holdsRectangle 16 = .ok (.ifCond .lt 28, 3) := by decide +kernel
theorem dc_P_holdsRectangle_19 : decode b_P_holdsRectangle 19 = .ok (.iload_n 1, 1) := by decide +kernel
theorem dc_P_holdsRectangle_20 : decode b_P_holdsRectangle 20 = .ok (.aload_n 0, 1) := by decide +kernel
theorem dc_P_holdsRectangle_21 : decode b_P_holdsRectangle 21 = .ok (.getfield 25, 3) := by decide +kernel
theorem dc_P_holdsRectangle_24 : decode b_P_holdsRectangle 24 = .ok (.iload_n 3, 1) := by decide +kernel
theorem dc_P_holdsRectangle_25 : decode b_P_holdsRectangle 25 = .ok (.isub, 1) := by decide +kernel
theorem dc_P_holdsRectangle_26 : decode b_P_holdsRectangle 26 = .ok (.if_icmp .gt 18, 3) := by decide +kernel
theorem dc_P_holdsRectangle_29 : decode b_P_holdsRectangle 29 = .ok (.iload_n 2, 1) := by decide +kernel
theorem dc_P_holdsRectangle_30 : decode b_P_holdsRectangle 30 = .ok (.aload_n 0, 1) := by decide +kernel
theorem dc_P_holdsRectangle_31 : decode b_P_holdsRectangle 31 = .ok (.getfield 29, 3) := by decide +kernel
theorem dc_P_holdsRectangle_34 : decode b_P_holdsRectangle 34 = .ok (.iload 4, 2) := by decide +kernel
theorem dc_P_holdsRectangle_36 : decode b_P_holdsRectangle 36 = .ok (.isub, 1) := by decide +kernel
theorem dc_P_holdsRectangle_37 : decode b_P_holdsRectangle 37 = .ok (.if_icmp .gt 7, 3) := by decide +kernel
theorem dc_P_holdsRectangle_40 : decode b_P_holdsRectangle 40 = .ok (.iconst 1, 1) := by decide +kernel
theorem dc_P_holdsRectangle_41 : decode b_P_holdsRectangle 41 = .ok (.goto 4, 3) := by decide +kernel
theorem dc_P_sizeAlong_0 : decode b_P_sizeAlong 0 = .ok (.iload_n 1, 1) := by decide +kernel
theorem dc_P_sizeAlong_1 : decode b_P_sizeAlong 1 = .ok (.ifCond .eq 10, 3) := by decide +kernel
theorem dc_P_sizeAlong_11 : decode b_P_sizeAlong 11 = .ok (.aload_n 0, 1) := by decide +kernel
theorem dc_P_sizeAlong_12 : decode b_P_sizeAlong 12 = .ok (.getfield 29, 3) := by decide +kernel
theorem dc_P_sizeAlong_15 : decode b_P_sizeAlong 15 = .ok (.ireturn, 1) := by decide +kernel
theorem dc_P_sizeAlong_4 : decode b_P_sizeAlong 4 = .ok (.aload_n 0, 1) := by decide +kernel
theorem dc_P_sizeAlong_5 : decode b_P_sizeAlong 5 = .ok (.getfield 25, 3) := by decide +kernel
theorem dc_P_sizeAlong_8 : decode b_P_sizeAlong 8 = .ok (.goto 7, 3) := by decide +kernel
theorem dc_P_growAlong_0 : decode b_P_growAlong 0 = .ok (.aload_n 0, 1) := by decide +kernel
theorem dc_P_growAlong_1 : decode b_P_growAlong 1 = .ok (.dup, 1) := by decide +kernel
theorem dc_P_growAlong_2 : decode b_P_growAlong 2 = .ok (.getfield 25, 3) := by decide +kernel
theorem dc_P_growAlong_5 : decode b_P_growAlong 5 = .ok (.iload_n 1, 1) := by decide +kernel
theorem dc_P_growAlong_6 : decode b_P_growAlong 6 = .ok (.ifCond .eq 7, 3) := by decide +kernel
theorem dc_P_growAlong_13 : decode b_P_growAlong 13 = .ok (.iconst 0, 1) := by decide +kernel
theorem dc_P_growAlong_9 : decode b_P_growAlong 9 = .ok (.iload_n 2, 1) := by decide +kernel
theorem dc_P_growAlong_10 : decode b_P_growAlong 10 = .ok (.goto 4, 3) := by decide +kernel
theorem dc_P_growAlong_14 : decode b_P_growAlong 14 = .ok (.iadd, 1) := by decide +kernel
theorem dc_P_growAlong_15 : decode b_P_growAlong 15 = .ok (.putfield 25, 3) := by decide +kernel
theorem dc_P_growAlong_18 : decode b_P_growAlong 18 = .ok (.aload_n 0, 1) := by decide +kernel
theorem dc_P_growAlong_19 : decode b_P_growAlong 19 = .ok (.dup, 1) := by decide +kernel
theorem dc_P_growAlong_20 : decode b_P_growAlong 20 = .ok (.getfield 29, 3) := by decide +kernel
theorem dc_P_growAlong_23 : decode b_P_growAlong 23 = .ok (.iload_n 1, 1) := by decide +kernel
theorem dc_P_growAlong_24 : decode b_P_growAlong 24 = .ok (.ifCond .eq 7, 3) := by decide +kernel
theorem dc_P_growAlong_31 : decode b_P_growAlong 31 = .ok (.iload_n 2, 1) := by decide +kernel
theorem dc_P_growAlong_27 : decode b_P_growAlong 27 = .ok (.iconst 0, 1) := by decide +kernel
theorem dc_P_growAlong_28 : decode b_P_growAlong 28 = .ok (.goto 4, 3) := by decide +kernel
theorem dc_P_growAlong_32 : decode b_P_growAlong 32 = .ok (.iadd, 1) := by decide +kernel
theorem dc_P_growAlong_33 : decode b_P_growAlong 33 = .ok (.putfield 29, 3) := by decide +kernel
theorem dc_P_growAlong_36 : decode b_P_growAlong 36 = .ok (.return_, 1) := by decide +kernel
theorem dc_P_takeOver_0 : decode b_P_takeOver 0 = .ok (.iconst 0, 1) := by decide +kernel
theorem dc_P_takeOver_1 : decode b_P_takeOver 1 = .ok (.istore_n 2, 1) := by decide +kernel
theorem dc_P_takeOver_2 : decode b_P_takeOver 2 = .ok (.iload_n 2, 1) := by decide +kernel
theorem dc_P_takeOver_3 : decode b_P_takeOver 3 = .ok (.aload_n 1, 1) := by decide +kernel
theorem dc_P_takeOver_4 : decode b_P_takeOver 4 = .ok (.getfield 32, 3) := by decide +kernel
theorem dc_P_takeOver_7 : decode b_P_takeOver 7 = .ok (.if_icmp .ge 63, 3) := by decide +kernel
theorem dc_P_takeOver_10 : decode b_P_takeOver 10 = .ok (.aload_n 0, 1) := by decide +kernel
theorem dc_P_takeOver_11 : decode b_P_takeOver 11 = .ok (.getfield 32, 3) := by decide +kernel
theorem dc_P_takeOver_14 : decode b_P_takeOver 14 = .ok (.aload_n 0, 1) := by decide +kernel
theorem dc_P_takeOver_15 : decode b_P_takeOver 15 = .ok (.getfield 11, 3) := by decide +kernel
theorem dc_P_takeOver_18 : decode b_P_takeOver 18 = .ok (.arraylength, 1) := by decide +kernel
theorem dc_P_takeOver_19 : decode b_P_takeOver 19 = .ok (.if_icmp .ge 51, 3) := by decide +kernel
theorem dc_P_takeOver_22 : decode b_P_takeOver 22 = .ok (.aload_n 0, 1) := by decide +kernel
theorem dc_P_takeOver_23 : decode b_P_takeOver 23 = .ok (.getfield 11, 3) := by decide +kernel
theorem dc_P_takeOver_26 : decode b_P_takeOver 26 = .ok (.aload_n 0, 1) := by decide +kernel
theorem dc_P_takeOver_27 : decode b_P_takeOver 27 = .ok (.getfield 32, 3) := by decide +kernel
theorem dc_P_takeOver_30 : decode b_P_takeOver 30 = .ok (.aaload, 1) := by decide +kernel
theorem dc_P_takeOver_31 : decode b_P_takeOver 31 = .ok (.astore_n 3, 1) := by decide +kernel
theorem dc_P_takeOver_32 : decode b_P_takeOver 32 = .ok (.aload_n 0, 1) := by decide +kernel
theorem dc_P_takeOver_33 : decode b_P_takeOver 33 = .ok (.getfield 11, 3) := by decide +kernel
theorem dc_P_takeOver_36 : decode b_P_takeOver 36 = .ok (.aload_n 0, 1) := by decide +kernel
theorem dc_P_takeOver_37 : decode b_P_takeOver 37 = .ok (.getfield 32, 3) := by decide +kernel
theorem dc_P_takeOver_40 : decode b_P_takeOver 40 = .ok (.aload_n 1, 1) := by decide +kernel
theorem dc_P_takeOver_41 : decode b_P_takeOver 41 = .ok (.getfield 11, 3) := by decide +kernel
theorem dc_P_takeOver_44 : decode b_P_takeOver 44 = .ok (.iload_n 2, 1) := by decide +kernel
theorem dc_P_takeOver_45 : decode b_P_takeOver 45 = .ok (.aaload, 1) := by decide +kernel
theorem dc_P_takeOver_46 : decode b_P_takeOver 46 = .ok (.aastore, 1) := by decide +kernel
theorem dc_P_takeOver_47 : decode b_P_takeOver 47 = .ok (.aload_n 1, 1) := by decide +kernel
theorem dc_P_takeOver_48 : decode b_P_takeOver 48 = .ok (.getfield 11, 3) := by decide +kernel
theorem dc_P_takeOver_51 : decode b_P_takeOver 51 = .ok (.iload_n 2, 1) := by decide +kernel
theorem dc_P_takeOver_52 : decode b_P_takeOver 52 = .ok (.aload_n 3, 1) := by decide +kernel
theorem dc_P_takeOver_53 : decode b_P_takeOver 53 = .ok (.aastore, 1) := by decide +kernel
theorem dc_P_takeOver_54 : decode b_P_takeOver 54 = .ok (.aload_n 0, 1) := by decide +kernel
theorem dc_P_takeOver_55 : decode b_P_takeOver 55 = .ok (.dup, 1) := by decide +kernel
theorem dc_P_takeOver_56 : decode b_P_takeOver 56 = .ok (.getfield 32, 3) := by decide +kernel
theorem dc_P_takeOver_59 : decode b_P_takeOver 59 = .ok (.iconst 1, 1) := by decide +kernel
theorem dc_P_takeOver_60 : decode b_P_takeOver 60 = .ok (.iadd, 1) := by decide +kernel
theorem dc_P_takeOver_61 : decode b_P_takeOver 61 = .ok (.putfield 32, 3) := by decide +kernel
theorem dc_P_takeOver_64 : decode b_P_takeOver 64 = .ok (.iinc 2 1, 3) := by decide +kernel
theorem dc_P_takeOver_67 : decode b_P_takeOver 67 = .ok (.goto (-65), 3) := by decide +kernel
theorem dc_P_takeOver_70 : decode b_P_takeOver 70 = .ok (.iconst 0, 1) := by decide +kernel
theorem dc_P_takeOver_71 : decode b_P_takeOver 71 = .ok (.istore_n 2, 1) := by decide +kernel
theorem dc_P_takeOver_72 : decode b_P_takeOver 72 = .ok (.iload_n 2, 1) := by decide +kernel
theorem dc_P_takeOver_73 : decode b_P_takeOver 73 = .ok (.aload_n 1, 1) := by decide +kernel
theorem dc_P_takeOver_74 : decode b_P_takeOver 74 = .ok (.getfield 35, 3) := by decide +kernel
theorem dc_P_takeOver_77 : decode b_P_takeOver 77 = .ok (.if_icmp .ge 63, 3) := by decide +kernel
theorem dc_P_takeOver_80 : decode b_P_takeOver 80 = .ok (.aload_n 0, 1) := by decide +kernel
theorem dc_P_takeOver_81 : decode b_P_takeOver 81 = .ok (.getfield 35, 3) := by decide +kernel
theorem dc_P_takeOver_84 : decode b_P_takeOver 84 = .ok (.aload_n 0, 1) := by decide +kernel
theorem dc_P_takeOver_85 : decode b_P_takeOver 85 = .ok (.getfield 20, 3) := by decide +kernel
theorem dc_P_takeOver_88 : decode b_P_takeOver 88 = .ok (.arraylength, 1) := by decide +kernel
theorem dc_P_takeOver_89 : decode b_P_takeOver 89 = .ok (.if_icmp .ge 51, 3) := by decide +kernel
theorem dc_P_takeOver_92 : decode b_P_takeOver 92 = .ok (.aload_n 0, 1) := by decide +kernel
theorem dc_P_takeOver_93 : decode b_P_takeOver 93 = .ok (.getfield 20, 3) := by decide +kernel
theorem dc_P_takeOver_96 : decode b_P_takeOver 96 = .ok (.aload_n 0, 1) := by decide +kernel
theorem dc_P_takeOver_97 : decode b_P_takeOver 97 = .ok (.getfield 35, 3) := by decide +kernel
theorem dc_P_takeOver_100 : decode b_P_takeOver 100 = .ok (.aaload, 1) := by decide +kernel
theorem dc_P_takeOver_101 : decode b_P_takeOver 101 = .ok (.astore_n 3, 1) := by decide +kernel
theorem dc_P_takeOver_102 : decode b_P_takeOver 102 = .ok (.aload_n 0, 1) := by decide +kernel
theorem dc_P_takeOver_103 : decode b_P_takeOver 103 = .ok (.getfield 20, 3) := by decide +kernel
theorem dc_P_takeOver_106 : decode b_P_takeOver 106 = .ok (.aload_n 0, 1) := by decide +kernel
theorem dc_P_takeOver_107 : decode b_P_takeOver 107 = .ok (.getfield 35, 3) := by decide +kernel
theorem dc_P_takeOver_110 : decode b_P_takeOver 110 = .ok (.aload_n 1, 1) := by decide +kernel
theorem dc_P_takeOver_111 : decode b_P_takeOver 111 = .ok (.getfield 20, 3) := by decide +kernel
theorem dc_P_takeOver_114 : decode b_P_takeOver 114 = .ok (.iload_n 2, 1) := by decide +kernel
theorem dc_P_takeOver_115 : decode b_P_takeOver 115 = .ok (.aaload, 1) := by decide +kernel
theorem dc_P_takeOver_116 : decode b_P_takeOver 116 = .ok (.aastore, 1) := by decide +kernel
theorem dc_P_takeOver_117 : decode b_P_takeOver 117 = .ok (.aload_n 1, 1) := by decide +kernel
theorem dc_P_takeOver_118 : decode b_P_takeOver 118 = .ok (.getfield 20, 3) := by decide +kernel
theorem dc_P_takeOver_121 : decode b_P_takeOver 121 = .ok (.iload_n 2, 1) := by decide +kernel
theorem dc_P_takeOver_122 : decode b_P_takeOver 122 = .ok (.aload_n 3, 1) := by decide +kernel
theorem dc_P_takeOver_123 : decode b_P_takeOver 123 = .ok (.aastore, 1) := by decide +kernel
theorem dc_P_takeOver_124 : decode b_P_takeOver 124 = .ok (.aload_n 0, 1) := by decide +kernel
theorem dc_P_takeOver_125 : decode b_P_takeOver 125 = .ok (.dup, 1) := by decide +kernel
theorem dc_P_takeOver_126 : decode b_P_takeOver 126 = .ok (.getfield 35, 3) := by decide +kernel
theorem dc_P_takeOver_129 : decode b_P_takeOver 129 = .ok (.iconst 1, 1) := by decide +kernel
theorem dc_P_takeOver_130 : decode b_P_takeOver 130 = .ok (.iadd, 1) := by decide +kernel
theorem dc_P_takeOver_131 : decode b_P_takeOver 131 = .ok (.putfield 35, 3) := by decide +kernel
theorem dc_P_takeOver_134 : decode b_P_takeOver 134 = .ok (.iinc 2 1, 3) := by decide +kernel
theorem dc_P_takeOver_137 : decode b_P_takeOver 137 = .ok (.goto (-65), 3) := by decide +kernel
theorem dc_P_takeOver_140 : decode b_P_takeOver 140 = .ok (.aload_n 1, 1) := by decide +kernel
theorem dc_P_takeOver_141 : decode b_P_takeOver 141 = .ok (.iconst 0, 1) := by decide +kernel
theorem dc_P_takeOver_142 : decode b_P_takeOver 142 = .ok (.putfield 32, 3) := by decide +kernel
theorem dc_P_takeOver_145 : decode b_P_takeOver 145 = .ok (.aload_n 1, 1) := by decide +kernel
theorem dc_P_takeOver_146 : decode b_P_takeOver 146 = .ok (.iconst 0, 1) := by decide +kernel
theorem dc_P_takeOver_147 : decode b_P_takeOver 147 = .ok (.putfield 35, 3) := by decide +kernel
theorem dc_P_takeOver_150 : decode b_P_takeOver 150 = .ok (.return_, 1) := by decide +kernel
theorem dc_P_overlapsTile_0 : decode b_P_overlapsTile 0 = .ok (.iconst 0, 1) := by decide +kernel
theorem dc_P_overlapsTile_1 : decode b_P_overlapsTile 1 = .ok (.istore 5, 2) := by decide +kernel
theorem dc_P_overlapsTile_3 : decode b_P_overlapsTile 3 = .ok (.iload 5, 2) := by decide +kernel
theorem dc_P_overlapsTile_5 : decode b_P_overlapsTile 5 = .ok (.aload_n 0, 1) := by decide +kernel
theorem dc_P_overlapsTile_6 : decode b_P_overlapsTile 6 = .ok (.getfield 32, 3) := by decide +kernel
theorem dc_P_overlapsTile_9 : decode b_P_overlapsTile 9 = .ok (.if_icmp .ge 29, 3) := by decide +kernel
theorem dc_P_overlapsTile_38 : decode b_P_overlapsTile 38 = .ok (.iconst 0, 1) := by decide +kernel
theorem dc_P_overlapsTile_39 : decode b_P_overlapsTile 39 = .ok (.ireturn, 1) := by decide +kernel
theorem dc_P_overlapsTile_12 : decode b_P_overlapsTile 12 = .ok (.aload_n 0, 1) := by decide +kernel
theorem dc_P_overlapsTile_13 : decode b_P_overlapsTile 13 = .ok (.getfield 11, 3) := by decide +kernel
theorem dc_P_overlapsTile_16 : decode b_P_overlapsTile 16 = .ok (.iload 5, 2) := by decide +kernel
theorem dc_P_overlapsTile_18 : decode b_P_overlapsTile 18 = .ok (.aaload, 1) := by decide +kernel
theorem dc_P_overlapsTile_19 : decode b_P_overlapsTile 19 = .ok (.iload_n 1, 1) := by decide +kernel
theorem dc_P_overlapsTile_20 : decode b_P_overlapsTile 20 = .ok (.iload_n 2, 1) := by decide +kernel
theorem dc_P_overlapsTile_21 : decode b_P_overlapsTile 21 = .ok (.iload_n 3, 1) := by decide +kernel
theorem dc_P_overlapsTile_22 : decode b_P_overlapsTile 22 = .ok (.iload 4, 2) := by decide +kernel
theorem dc_P_overlapsTile_24 : decode b_P_overlapsTile 24 = .ok (.invokevirtual 38, 3) := by decide +kernel
theorem dc_P_overlapsTile_27 : decode b_P_overlapsTile 27 = .ok (.ifCond .eq 5, 3) := by decide +kernel
theorem dc_P_overlapsTile_32 : decode b_P_overlapsTile 32 = .ok (.iinc 5 1, 3) := by decide +kernel
theorem dc_P_overlapsTile_35 : decode b_P_overlapsTile 35 = .ok (.goto (-32), 3) := by decide +kernel
theorem dc_P_overlapsTile_30 : decode b_P_overlapsTile 30 = .ok (.iconst 1, 1) := by decide +kernel
theorem dc_P_overlapsTile_31 : decode b_P_overlapsTile 31 = .ok (.ireturn, 1) := by decide +kernel
theorem dc_P_tileOver_0 : decode b_P_tileOver 0 = .ok (.iconst 0, 1) := by decide +kernel
theorem dc_P_tileOver_1 : decode b_P_tileOver 1 = .ok (.istore_n 3, 1) := by decide +kernel
theorem dc_P_tileOver_2 : decode b_P_tileOver 2 = .ok (.iload_n 3, 1) := by decide +kernel
theorem dc_P_tileOver_3 : decode b_P_tileOver 3 = .ok (.aload_n 0, 1) := by decide +kernel
theorem dc_P_tileOver_4 : decode b_P_tileOver 4 = .ok (.getfield 32, 3) := by decide +kernel
theorem dc_P_tileOver_7 : decode b_P_tileOver 7 = .ok (.if_icmp .ge 27, 3) := by decide +kernel
theorem dc_P_tileOver_34 : decode b_P_tileOver 34 = .ok (.iconst (-1), 1) := by decide +kernel
theorem dc_P_tileOver_35 : decode b_P_tileOver 35 = .ok (.ireturn, 1) := by decide +kernel
theorem dc_P_tileOver_10 : decode b_P_tileOver 10 = .ok (.aload_n 0, 1) := by decide +kernel
theorem dc_P_tileOver_11 : decode b_P_tileOver 11 = .ok (.getfield 11, 3) := by decide +kernel
theorem dc_P_tileOver_14 : decode b_P_tileOver 14 = .ok (.iload_n 3, 1) := by decide +kernel
theorem dc_P_tileOver_15 : decode b_P_tileOver 15 = .ok (.aaload, 1) := by decide +kernel
theorem dc_P_tileOver_16 : decode b_P_tileOver 16 = .ok (.iload_n 1, 1) := by decide +kernel
theorem dc_P_tileOver_17 : decode b_P_tileOver 17 = .ok (.iload_n 2, 1) := by decide +kernel
theorem dc_P_tileOver_18 : decode b_P_tileOver 18 = .ok (.iconst 1, 1) := by decide +kernel
theorem dc_P_tileOver_19 : decode b_P_tileOver 19 = .ok (.iconst 1, 1) := by decide +kernel
theorem dc_P_tileOver_20 : decode b_P_tileOver 20 = .ok (.invokevirtual 38, 3) := by decide +kernel
theorem dc_P_tileOver_23 : decode b_P_tileOver 23 = .ok (.ifCond .eq 5, 3) := by decide +kernel
theorem dc_P_tileOver_28 : decode b_P_tileOver 28 = .ok (.iinc 3 1, 3) := by decide +kernel
theorem dc_P_tileOver_31 : decode b_P_tileOver 31 = .ok (.goto (-29), 3) := by decide +kernel
theorem dc_P_tileOver_26 : decode b_P_tileOver 26 = .ok (.iload_n 3, 1) := by decide +kernel
theorem dc_P_tileOver_27 : decode b_P_tileOver 27 = .ok (.ireturn, 1) := by decide +kernel
theorem dc_P_addTile_0 : decode b_P_addTile 0 = .ok (.aload_n 0, 1) := by decide +kernel
theorem dc_P_addTile_1 : decode b_P_addTile 1 = .ok (.getfield 32, 3) := by decide +kernel
theorem dc_P_addTile_4 : decode b_P_addTile 4 = .ok (.aload_n 0, 1) := by decide +kernel
theorem dc_P_addTile_5 : decode b_P_addTile 5 = .ok (.getfield 11, 3) := by decide +kernel
theorem dc_P_addTile_8 : decode b_P_addTile 8 = .ok (.arraylength, 1) := by decide +kernel
theorem dc_P_addTile_9 : decode b_P_addTile 9 = .ok (.if_icmp .lt 5, 3) := by decide +kernel
theorem dc_P_addTile_14 : decode b_P_addTile 14 = .ok (.aload_n 0, 1) := by decide +kernel
theorem dc_P_addTile_15 : decode b_P_addTile 15 = .ok (.getfield 11, 3) := by decide +kernel
theorem dc_P_addTile_18 : decode b_P_addTile 18 = .ok (.aload_n 0, 1) := by decide +kernel
theorem dc_P_addTile_19 : decode b_P_addTile 19 = .ok (.getfield 32, 3) := by decide +kernel
theorem dc_P_addTile_22 : decode b_P_addTile 22 = .ok (.aaload, 1) := by decide +kernel
theorem dc_P_addTile_23 : decode b_P_addTile 23 = .ok (.iload_n 1, 1) := by decide +kernel
theorem dc_P_addTile_24 : decode b_P_addTile 24 = .ok (.iload_n 2, 1) := by decide +kernel
theorem dc_P_addTile_25 : decode b_P_addTile 25 = .ok (.iload_n 3, 1) := by decide +kernel
theorem dc_P_addTile_26 : decode b_P_addTile 26 = .ok (.iload 4, 2) := by decide +kernel
theorem dc_P_addTile_28 : decode b_P_addTile 28 = .ok (.invokevirtual 42, 3) := by decide +kernel
theorem dc_P_addTile_31 : decode b_P_addTile 31 = .ok (.aload_n 0, 1) := by decide +kernel
theorem dc_P_addTile_32 : decode b_P_addTile 32 = .ok (.dup, 1) := by decide +kernel
theorem dc_P_addTile_33 : decode b_P_addTile 33 = .ok (.getfield 32, 3) := by decide +kernel
theorem dc_P_addTile_36 : decode b_P_addTile 36 = .ok (.iconst 1, 1) := by decide +kernel
theorem dc_P_addTile_37 : decode b_P_addTile 37 = .ok (.iadd, 1) := by decide +kernel
theorem dc_P_addTile_38 : decode b_P_addTile 38 = .ok (.putfield 32, 3) := by decide +kernel
theorem dc_P_addTile_41 : decode b_P_addTile 41 = .ok (.aload_n 0, 1) := by decide +kernel
theorem dc_P_addTile_42 : decode b_P_addTile 42 = .ok (.getfield 32, 3) := by decide +kernel
theorem dc_P_addTile_45 : decode b_P_addTile 45 = .ok (.iconst 1, 1) := by decide +kernel
theorem dc_P_addTile_46 : decode b_P_addTile 46 = .ok (.isub, 1) := by decide +kernel
theorem dc_P_addTile_47 : decode b_P_addTile 47 = .ok (.ireturn, 1) := by decide +kernel
theorem dc_P_addTile_12 : decode b_P_addTile 12 = .ok (.iconst (-1), 1) := by decide +kernel
theorem dc_P_addTile_13 : decode b_P_addTile 13 = .ok (.ireturn, 1) := by decide +kernel
theorem dc_P_addNote_0 : decode b_P_addNote 0 = .ok (.aload_n 0, 1) := by decide +kernel
theorem dc_P_addNote_1 : decode b_P_addNote 1 = .ok (.getfield 35, 3) := by decide +kernel
theorem dc_P_addNote_4 : decode b_P_addNote 4 = .ok (.aload_n 0, 1) := by decide +kernel
theorem dc_P_addNote_5 : decode b_P_addNote 5 = .ok (.getfield 20, 3) := by decide +kernel
theorem dc_P_addNote_8 : decode b_P_addNote 8 = .ok (.arraylength, 1) := by decide +kernel
theorem dc_P_addNote_9 : decode b_P_addNote 9 = .ok (.if_icmp .ge 28, 3) := by decide +kernel
theorem dc_P_addNote_37 : decode b_P_addNote 37 = .ok (.aload_n 0, 1) := by decide +kernel
theorem dc_P_addNote_38 : decode b_P_addNote 38 = .ok (.getfield 35, 3) := by decide +kernel
theorem dc_P_addNote_41 : decode b_P_addNote 41 = .ok (.ireturn, 1) := by decide +kernel
theorem dc_P_addNote_12 : decode b_P_addNote 12 = .ok (.aload_n 0, 1) := by decide +kernel
theorem dc_P_addNote_13 : decode b_P_addNote 13 = .ok (.getfield 20, 3) := by decide +kernel
theorem dc_P_addNote_16 : decode b_P_addNote 16 = .ok (.aload_n 0, 1) := by decide +kernel
theorem dc_P_addNote_17 : decode b_P_addNote 17 = .ok (.getfield 35, 3) := by decide +kernel
theorem dc_P_addNote_20 : decode b_P_addNote 20 = .ok (.aaload, 1) := by decide +kernel
theorem dc_P_addNote_21 : decode b_P_addNote 21 = .ok (.iload_n 1, 1) := by decide +kernel
theorem dc_P_addNote_22 : decode b_P_addNote 22 = .ok (.iload_n 2, 1) := by decide +kernel
theorem dc_P_addNote_23 : decode b_P_addNote 23 = .ok (.iload_n 3, 1) := by decide +kernel
theorem dc_P_addNote_24 : decode b_P_addNote 24 = .ok (.invokevirtual 46, 3) := by decide +kernel
theorem dc_P_addNote_27 : decode b_P_addNote 27 = .ok (.aload_n 0, 1) := by decide +kernel
theorem dc_P_addNote_28 : decode b_P_addNote 28 = .ok (.dup, 1) := by decide +kernel
theorem dc_P_addNote_29 : decode b_P_addNote 29 = .ok (.getfield 35, 3) := by decide +kernel
theorem dc_P_addNote_32 : decode b_P_addNote 32 = .ok (.iconst 1, 1) := by decide +kernel
theorem dc_P_addNote_33 : decode b_P_addNote 33 = .ok (.iadd, 1) := by decide +kernel
theorem dc_P_addNote_34 : decode b_P_addNote 34 = .ok (.putfield 35, 3) := by decide +kernel
theorem dc_P_borderFits_0 : decode b_P_borderFits 0 = .ok (.iconst 0, 1) := by decide +kernel
theorem dc_P_borderFits_1 : decode b_P_borderFits 1 = .ok (.istore_n 3, 1) := by decide +kernel
theorem dc_P_borderFits_2 : decode b_P_borderFits 2 = .ok (.iload_n 3, 1) := by decide +kernel
theorem dc_P_borderFits_3 : decode b_P_borderFits 3 = .ok (.aload_n 0, 1) := by decide +kernel
theorem dc_P_borderFits_4 : decode b_P_borderFits 4 = .ok (.getfield 32, 3) := by decide +kernel
theorem dc_P_borderFits_7 : decode b_P_borderFits 7 = .ok (.if_icmp .ge 25, 3) := by decide +kernel
theorem dc_P_borderFits_32 : decode b_P_borderFits 32 = .ok (.iconst 1, 1) := by decide +kernel
theorem dc_P_borderFits_33 : decode b_P_borderFits 33 = .ok (.ireturn, 1) := by decide +kernel
theorem dc_P_borderFits_10 : decode b_P_borderFits 10 = .ok (.aload_n 0, 1) := by decide +kernel
theorem dc_P_borderFits_11 : decode b_P_borderFits 11 = .ok (.getfield 11, 3) := by decide +kernel
theorem dc_P_borderFits_14 : decode b_P_borderFits 14 = .ok (.iload_n 3, 1) := by decide +kernel
theorem dc_P_borderFits_15 : decode b_P_borderFits 15 = .ok (.aaload, 1) := by decide +kernel
theorem dc_P_borderFits_16 : decode b_P_borderFits 16 = .ok (.iload_n 1, 1) := by decide +kernel
theorem dc_P_borderFits_17 : decode b_P_borderFits 17 = .ok (.iload_n 2, 1) := by decide +kernel
theorem dc_P_borderFits_18 : decode b_P_borderFits 18 = .ok (.invokevirtual 49, 3) := by decide +kernel
theorem dc_P_borderFits_21 : decode b_P_borderFits 21 = .ok (.ifCond .eq 5, 3) := by decide +kernel
theorem dc_P_borderFits_26 : decode b_P_borderFits 26 = .ok (.iinc 3 1, 3) := by decide +kernel
theorem dc_P_borderFits_29 : decode b_P_borderFits 29 = .ok (.goto (-27), 3) := by decide +kernel
theorem dc_P_borderFits_24 : decode b_P_borderFits 24 = .ok (.iconst 0, 1) := by decide +kernel
theorem dc_P_borderFits_25 : decode b_P_borderFits 25 = .ok (.ireturn, 1) := by decide +kernel
theorem dc_P_keepTilesWithin_0 : decode b_P_keepTilesWithin 0 = .ok (.iconst 0, 1) := by decide +kernel
theorem dc_P_keepTilesWithin_1 : decode b_P_keepTilesWithin 1 = .ok (.istore 5, 2) := by decide +kernel
theorem dc_P_keepTilesWithin_3 : decode b_P_keepTilesWithin 3 = .ok (.iconst 0, 1) := by decide +kernel
theorem dc_P_keepTilesWithin_4 : decode b_P_keepTilesWithin 4 = .ok (.istore 6, 2) := by decide +kernel
theorem dc_P_keepTilesWithin_6 : decode b_P_keepTilesWithin 6 = .ok (.iload 6, 2) := by decide +kernel
theorem dc_P_keepTilesWithin_8 : decode b_P_keepTilesWithin 8 = .ok (.aload_n 0, 1) := by decide +kernel
theorem dc_P_keepTilesWithin_9 : decode b_P_keepTilesWithin 9 = .ok (.getfield 32, 3) := by decide +kernel
theorem dc_P_keepTilesWithin_12 : decode b_P_keepTilesWithin 12 = .ok (.if_icmp .ge 57, 3) := by decide +kernel
theorem dc_P_keepTilesWithin_69 : decode b_P_keepTilesWithin 69 = .ok (.aload_n 0, 1) := by decide +kernel
theorem dc_P_keepTilesWithin_70 : decode b_P_keepTilesWithin 70 = .ok (.iload 5, 2) := by decide +kernel
theorem dc_P_keepTilesWithin_72 : decode b_P_keepTilesWithin 72 = .ok (.putfield 32, 3) := by decide +kernel
theorem dc_P_keepTilesWithin_75 : decode b_P_keepTilesWithin 75 = .ok (.return_, 1) := by decide +kernel
theorem dc_P_keepTilesWithin_15 : decode b_P_keepTilesWithin 15 = .ok (.aload_n 0, 1) := by decide +kernel
theorem dc_P_keepTilesWithin_16 : decode b_P_keepTilesWithin 16 = .ok (.getfield 11, 3) := by decide +kernel
theorem dc_P_keepTilesWithin_19 : decode b_P_keepTilesWithin 19 = .ok (.iload 6, 2) := by decide +kernel
theorem dc_P_keepTilesWithin_21 : decode b_P_keepTilesWithin 21 = .ok (.aaload, 1) := by decide +kernel
theorem dc_P_keepTilesWithin_22 : decode b_P_keepTilesWithin 22 = .ok (.astore 7, 2) := by decide +kernel
theorem dc_P_keepTilesWithin_24 : decode b_P_keepTilesWithin 24 = .ok (.aload 7, 2) := by decide +kernel
theorem dc_P_keepTilesWithin_26 : decode b_P_keepTilesWithin 26 = .ok (.iload_n 1, 1) := by decide +kernel
theorem dc_P_keepTilesWithin_27 : decode b_P_keepTilesWithin 27 = .ok (.iload_n 2, 1) := by decide +kernel
theorem dc_P_keepTilesWithin_28 : decode b_P_keepTilesWithin 28 = .ok (.iload_n 3, 1) := by decide +kernel
theorem dc_P_keepTilesWithin_29 : decode b_P_keepTilesWithin 29 = .ok (.iload 4, 2) := by decide +kernel
theorem dc_P_keepTilesWithin_31 : decode b_P_keepTilesWithin 31 = .ok (.invokevirtual 70, 3) := by decide +kernel
theorem dc_P_keepTilesWithin_34 : decode b_P_keepTilesWithin 34 = .ok (.ifCond .eq 29, 3) := by decide +kernel
theorem dc_P_keepTilesWithin_37 : decode b_P_keepTilesWithin 37 = .ok (.aload_n 0, 1) := by decide +kernel
theorem dc_P_keepTilesWithin_38 : decode b_P_keepTilesWithin 38 = .ok (.getfield 11, 3) := by decide +kernel
theorem dc_P_keepTilesWithin_41 : decode b_P_keepTilesWithin 41 = .ok (.iload 6, 2) := by decide +kernel
theorem dc_P_keepTilesWithin_43 : decode b_P_keepTilesWithin 43 = .ok (.aload_n 0, 1) := by decide +kernel
theorem dc_P_keepTilesWithin_44 : decode b_P_keepTilesWithin 44 = .ok (.getfield 11, 3) := by decide +kernel
theorem dc_P_keepTilesWithin_47 : decode b_P_keepTilesWithin 47 = .ok (.iload 5, 2) := by decide +kernel
theorem dc_P_keepTilesWithin_49 : decode b_P_keepTilesWithin 49 = .ok (.aaload, 1) := by decide +kernel
theorem dc_P_keepTilesWithin_50 : decode b_P_keepTilesWithin 50 = .ok (.aastore, 1) := by decide +kernel
theorem dc_P_keepTilesWithin_51 : decode b_P_keepTilesWithin 51 = .ok (.aload_n 0, 1) := by decide +kernel
theorem dc_P_keepTilesWithin_52 : decode b_P_keepTilesWithin 52 = .ok (.getfield 11, 3) := by decide +kernel
theorem dc_P_keepTilesWithin_55 : decode b_P_keepTilesWithin 55 = .ok (.iload 5, 2) := by decide +kernel
theorem dc_P_keepTilesWithin_57 : decode b_P_keepTilesWithin 57 = .ok (.aload 7, 2) := by decide +kernel
theorem dc_P_keepTilesWithin_59 : decode b_P_keepTilesWithin 59 = .ok (.aastore, 1) := by decide +kernel
theorem dc_P_keepTilesWithin_60 : decode b_P_keepTilesWithin 60 = .ok (.iinc 5 1, 3) := by decide +kernel
theorem dc_P_keepTilesWithin_63 : decode b_P_keepTilesWithin 63 = .ok (.iinc 6 1, 3) := by decide +kernel
theorem dc_P_keepTilesWithin_66 : decode b_P_keepTilesWithin 66 = .ok (.goto (-60), 3) := by decide +kernel
theorem dc_P_keepNotesWithin_0 : decode b_P_keepNotesWithin 0 = .ok (.iconst 0, 1) := by decide +kernel
theorem dc_P_keepNotesWithin_1 : decode b_P_keepNotesWithin 1 = .ok (.istore 5, 2) := by decide +kernel
theorem dc_P_keepNotesWithin_3 : decode b_P_keepNotesWithin 3 = .ok (.iconst 0, 1) := by decide +kernel
theorem dc_P_keepNotesWithin_4 : decode b_P_keepNotesWithin 4 = .ok (.istore 6, 2) := by decide +kernel
theorem dc_P_keepNotesWithin_6 : decode b_P_keepNotesWithin 6 = .ok (.iload 6, 2) := by decide +kernel
theorem dc_P_keepNotesWithin_8 : decode b_P_keepNotesWithin 8 = .ok (.aload_n 0, 1) := by decide +kernel
theorem dc_P_keepNotesWithin_9 : decode b_P_keepNotesWithin 9 = .ok (.getfield 35, 3) := by decide +kernel
theorem dc_P_keepNotesWithin_12 : decode b_P_keepNotesWithin 12 = .ok (.if_icmp .ge 57, 3) := by decide +kernel
theorem dc_P_keepNotesWithin_69 : decode b_P_keepNotesWithin 69 = .ok (.aload_n 0, 1) := by decide +kernel
theorem dc_P_keepNotesWithin_70 : decode b_P_keepNotesWithin 70 = .ok (.iload 5, 2) := by decide +kernel
theorem dc_P_keepNotesWithin_72 : decode b_P_keepNotesWithin 72 = .ok (.putfield 35, 3) := by decide +kernel
theorem dc_P_keepNotesWithin_75 : decode b_P_keepNotesWithin 75 = .ok (.return_, 1) := by decide +kernel
theorem dc_P_keepNotesWithin_15 : decode b_P_keepNotesWithin 15 = .ok (.aload_n 0, 1) := by decide +kernel
theorem dc_P_keepNotesWithin_16 : decode b_P_keepNotesWithin 16 = .ok (.getfield 20, 3) := by decide +kernel
theorem dc_P_keepNotesWithin_19 : decode b_P_keepNotesWithin 19 = .ok (.iload 6, 2) := by decide +kernel
theorem dc_P_keepNotesWithin_21 : decode b_P_keepNotesWithin 21 = .ok (.aaload, 1) := by decide +kernel
theorem dc_P_keepNotesWithin_22 : decode b_P_keepNotesWithin 22 = .ok (.astore 7, 2) := by decide +kernel
theorem dc_P_keepNotesWithin_24 : decode b_P_keepNotesWithin 24 = .ok (.aload 7, 2) := by decide +kernel
theorem dc_P_keepNotesWithin_26 : decode b_P_keepNotesWithin 26 = .ok (.iload_n 1, 1) := by decide +kernel
theorem dc_P_keepNotesWithin_27 : decode b_P_keepNotesWithin 27 = .ok (.iload_n 2, 1) := by decide +kernel
theorem dc_P_keepNotesWithin_28 : decode b_P_keepNotesWithin 28 = .ok (.iload_n 3, 1) := by decide +kernel
theorem dc_P_keepNotesWithin_29 : decode b_P_keepNotesWithin 29 = .ok (.iload 4, 2) := by decide +kernel
theorem dc_P_keepNotesWithin_31 : decode b_P_keepNotesWithin 31 = .ok (.invokevirtual 73, 3) := by decide +kernel
theorem dc_P_keepNotesWithin_34 : decode b_P_keepNotesWithin 34 = .ok (.ifCond .eq 29, 3) := by decide +kernel
theorem dc_P_keepNotesWithin_37 : decode b_P_keepNotesWithin 37 = .ok (.aload_n 0, 1) := by decide +kernel
theorem dc_P_keepNotesWithin_38 : decode b_P_keepNotesWithin 38 = .ok (.getfield 20, 3) := by decide +kernel
theorem dc_P_keepNotesWithin_41 : decode b_P_keepNotesWithin 41 = .ok (.iload 6, 2) := by decide +kernel
theorem dc_P_keepNotesWithin_43 : decode b_P_keepNotesWithin 43 = .ok (.aload_n 0, 1) := by decide +kernel
theorem dc_P_keepNotesWithin_44 : decode b_P_keepNotesWithin 44 = .ok (.getfield 20, 3) := by decide +kernel
theorem dc_P_keepNotesWithin_47 : decode b_P_keepNotesWithin 47 = .ok (.iload 5, 2) := by decide +kernel
theorem dc_P_keepNotesWithin_49 : decode b_P_keepNotesWithin 49 = .ok (.aaload, 1) := by decide +kernel
theorem dc_P_keepNotesWithin_50 : decode b_P_keepNotesWithin 50 = .ok (.aastore, 1) := by decide +kernel
theorem dc_P_keepNotesWithin_51 : decode b_P_keepNotesWithin 51 = .ok (.aload_n 0, 1) := by decide +kernel
theorem dc_P_keepNotesWithin_52 : decode b_P_keepNotesWithin 52 = .ok (.getfield 20, 3) := by decide +kernel
theorem dc_P_keepNotesWithin_55 : decode b_P_keepNotesWithin 55 = .ok (.iload 5, 2) := by decide +kernel
theorem dc_P_keepNotesWithin_57 : decode b_P_keepNotesWithin 57 = .ok (.aload 7, 2) := by decide +kernel
theorem dc_P_keepNotesWithin_59 : decode b_P_keepNotesWithin 59 = .ok (.aastore, 1) := by decide +kernel
theorem dc_P_keepNotesWithin_60 : decode b_P_keepNotesWithin 60 = .ok (.iinc 5 1, 3) := by decide +kernel
theorem dc_P_keepNotesWithin_63 : decode b_P_keepNotesWithin 63 = .ok (.iinc 6 1, 3) := by decide +kernel
theorem dc_P_keepNotesWithin_66 : decode b_P_keepNotesWithin 66 = .ok (.goto (-60), 3) := by decide +kernel
theorem dc_P_moveBy_0 : decode b_P_moveBy 0 = .ok (.iconst 0, 1) := by decide +kernel
theorem dc_P_moveBy_1 : decode b_P_moveBy 1 = .ok (.istore_n 3, 1) := by decide +kernel
theorem dc_P_moveBy_2 : decode b_P_moveBy 2 = .ok (.iload_n 3, 1) := by decide +kernel
theorem dc_P_moveBy_3 : decode b_P_moveBy 3 = .ok (.aload_n 0, 1) := by decide +kernel
theorem dc_P_moveBy_4 : decode b_P_moveBy 4 = .ok (.getfield 32, 3) := by decide +kernel
theorem dc_P_moveBy_7 : decode b_P_moveBy 7 = .ok (.if_icmp .ge 20, 3) := by decide +kernel
theorem dc_P_moveBy_27 : decode b_P_moveBy 27 = .ok (.iconst 0, 1) := by decide +kernel
theorem dc_P_moveBy_28 : decode b_P_moveBy 28 = .ok (.istore_n 3, 1) := by decide +kernel
theorem dc_P_moveBy_10 : decode b_P_moveBy 10 = .ok (.aload_n 0, 1) := by decide +kernel
theorem dc_P_moveBy_11 : decode b_P_moveBy 11 = .ok (.getfield 11, 3) := by decide +kernel
theorem dc_P_moveBy_14 : decode b_P_moveBy 14 = .ok (.iload_n 3, 1) := by decide +kernel
theorem dc_P_moveBy_15 : decode b_P_moveBy 15 = .ok (.aaload, 1) := by decide +kernel
theorem dc_P_moveBy_16 : decode b_P_moveBy 16 = .ok (.iload_n 1, 1) := by decide +kernel
theorem dc_P_moveBy_17 : decode b_P_moveBy 17 = .ok (.iload_n 2, 1) := by decide +kernel
theorem dc_P_moveBy_18 : decode b_P_moveBy 18 = .ok (.invokevirtual 74, 3) := by decide +kernel
theorem dc_P_moveBy_21 : decode b_P_moveBy 21 = .ok (.iinc 3 1, 3) := by decide +kernel
theorem dc_P_moveBy_24 : decode b_P_moveBy 24 = .ok (.goto (-22), 3) := by decide +kernel
theorem dc_P_moveBy_29 : decode b_P_moveBy 29 = .ok (.iload_n 3, 1) := by decide +kernel
theorem dc_P_moveBy_30 : decode b_P_moveBy 30 = .ok (.aload_n 0, 1) := by decide +kernel
theorem dc_P_moveBy_31 : decode b_P_moveBy 31 = .ok (.getfield 35, 3) := by decide +kernel
theorem dc_P_moveBy_34 : decode b_P_moveBy 34 = .ok (.if_icmp .ge 20, 3) := by decide +kernel
theorem dc_P_moveBy_54 : decode b_P_moveBy 54 = .ok (.return_, 1) := by decide +kernel
theorem dc_P_moveBy_37 : decode b_P_moveBy 37 = .ok (.aload_n 0, 1) := by decide +kernel
theorem dc_P_moveBy_38 : decode b_P_moveBy 38 = .ok (.getfield 20, 3) := by decide +kernel
theorem dc_P_moveBy_41 : decode b_P_moveBy 41 = .ok (.iload_n 3, 1) := by decide +kernel
theorem dc_P_moveBy_42 : decode b_P_moveBy 42 = .ok (.aaload, 1) := by decide +kernel
theorem dc_P_moveBy_43 : decode b_P_moveBy 43 = .ok (.iload_n 1, 1) := by decide +kernel
theorem dc_P_moveBy_44 : decode b_P_moveBy 44 = .ok (.iload_n 2, 1) := by decide +kernel
theorem dc_P_moveBy_45 : decode b_P_moveBy 45 = .ok (.invokevirtual 75, 3) := by decide +kernel
theorem dc_P_moveBy_48 : decode b_P_moveBy 48 = .ok (.iinc 3 1, 3) := by decide +kernel
theorem dc_P_moveBy_51 : decode b_P_moveBy 51 = .ok (.goto (-22), 3) := by decide +kernel
theorem dc_P_mirror_0 : decode b_P_mirror 0 = .ok (.iconst 0, 1) := by decide +kernel
theorem dc_P_mirror_1 : decode b_P_mirror 1 = .ok (.istore_n 1, 1) := by decide +kernel
theorem dc_P_mirror_2 : decode b_P_mirror 2 = .ok (.iload_n 1, 1) := by decide +kernel
theorem dc_P_mirror_3 : decode b_P_mirror 3 = .ok (.aload_n 0, 1) := by decide +kernel
theorem dc_P_mirror_4 : decode b_P_mirror 4 = .ok (.getfield 32, 3) := by decide +kernel
theorem dc_P_mirror_7 : decode b_P_mirror 7 = .ok (.if_icmp .ge 22, 3) := by decide +kernel
theorem dc_P_mirror_29 : decode b_P_mirror 29 = .ok (.iconst 0, 1) := by decide +kernel
theorem dc_P_mirror_30 : decode b_P_mirror 30 = .ok (.istore_n 1, 1) := by decide +kernel
theorem dc_P_mirror_10 : decode b_P_mirror 10 = .ok (.aload_n 0, 1) := by decide +kernel
theorem dc_P_mirror_11 : decode b_P_mirror 11 = .ok (.getfield 11, 3) := by decide +kernel
theorem dc_P_mirror_14 : decode b_P_mirror 14 = .ok (.iload_n 1, 1) := by decide +kernel
theorem dc_P_mirror_15 : decode b_P_mirror 15 = .ok (.aaload, 1) := by decide +kernel
theorem dc_P_mirror_16 : decode b_P_mirror 16 = .ok (.aload_n 0, 1) := by decide +kernel
theorem dc_P_mirror_17 : decode b_P_mirror 17 = .ok (.getfield 25, 3) := by decide +kernel
theorem dc_P_mirror_20 : decode b_P_mirror 20 = .ok (.invokevirtual 97, 3) := by decide +kernel
theorem dc_P_mirror_23 : decode b_P_mirror 23 = .ok (.iinc 1 1, 3) := by decide +kernel
theorem dc_P_mirror_26 : decode b_P_mirror 26 = .ok (.goto (-24), 3) := by decide +kernel
theorem dc_P_mirror_31 : decode b_P_mirror 31 = .ok (.iload_n 1, 1) := by decide +kernel
theorem dc_P_mirror_32 : decode b_P_mirror 32 = .ok (.aload_n 0, 1) := by decide +kernel
theorem dc_P_mirror_33 : decode b_P_mirror 33 = .ok (.getfield 35, 3) := by decide +kernel
theorem dc_P_mirror_36 : decode b_P_mirror 36 = .ok (.if_icmp .ge 22, 3) := by decide +kernel
theorem dc_P_mirror_58 : decode b_P_mirror 58 = .ok (.return_, 1) := by decide +kernel
theorem dc_P_mirror_39 : decode b_P_mirror 39 = .ok (.aload_n 0, 1) := by decide +kernel
theorem dc_P_mirror_40 : decode b_P_mirror 40 = .ok (.getfield 20, 3) := by decide +kernel
theorem dc_P_mirror_43 : decode b_P_mirror 43 = .ok (.iload_n 1, 1) := by decide +kernel
theorem dc_P_mirror_44 : decode b_P_mirror 44 = .ok (.aaload, 1) := by decide +kernel
theorem dc_P_mirror_45 : decode b_P_mirror 45 = .ok (.aload_n 0, 1) := by decide +kernel
theorem dc_P_mirror_46 : decode b_P_mirror 46 = .ok (.getfield 25, 3) := by decide +kernel
theorem dc_P_mirror_49 : decode b_P_mirror 49 = .ok (.invokevirtual 101, 3) := by decide +kernel
theorem dc_P_mirror_52 : decode b_P_mirror 52 = .ok (.iinc 1 1, 3) := by decide +kernel
theorem dc_P_mirror_55 : decode b_P_mirror 55 = .ok (.goto (-24), 3) := by decide +kernel
theorem dc_P_turnQuarter_0 : decode b_P_turnQuarter 0 = .ok (.iconst 0, 1) := by decide +kernel
theorem dc_P_turnQuarter_1 : decode b_P_turnQuarter 1 = .ok (.istore_n 1, 1) := by decide +kernel
theorem dc_P_turnQuarter_2 : decode b_P_turnQuarter 2 = .ok (.iload_n 1, 1) := by decide +kernel
theorem dc_P_turnQuarter_3 : decode b_P_turnQuarter 3 = .ok (.aload_n 0, 1) := by decide +kernel
theorem dc_P_turnQuarter_4 : decode b_P_turnQuarter 4 = .ok (.getfield 32, 3) := by decide +kernel
theorem dc_P_turnQuarter_7 : decode b_P_turnQuarter 7 = .ok (.if_icmp .ge 22, 3) := by decide +kernel
theorem dc_P_turnQuarter_29 : decode b_P_turnQuarter 29 = .ok (.iconst 0, 1) := by decide +kernel
theorem dc_P_turnQuarter_30 : decode b_P_turnQuarter 30 = .ok (.istore_n 1, 1) := by decide +kernel
theorem dc_P_turnQuarter_10 : decode b_P_turnQuarter 10 = .ok (.aload_n 0, 1) := by decide +kernel
theorem dc_P_turnQuarter_11 : decode b_P_turnQuarter 11 = .ok (.getfield 11, 3) := by decide +kernel
theorem dc_P_turnQuarter_14 : decode b_P_turnQuarter 14 = .ok (.iload_n 1, 1) := by decide +kernel
theorem dc_P_turnQuarter_15 : decode b_P_turnQuarter 15 = .ok (.aaload, 1) := by decide +kernel
theorem dc_P_turnQuarter_16 : decode b_P_turnQuarter 16 = .ok (.aload_n 0, 1) := by decide +kernel
theorem dc_P_turnQuarter_17 : decode b_P_turnQuarter 17 = .ok (.getfield 29, 3) := by decide +kernel
theorem dc_P_turnQuarter_20 : decode b_P_turnQuarter 20 = .ok (.invokevirtual 102, 3) := by decide +kernel
theorem dc_P_turnQuarter_23 : decode b_P_turnQuarter 23 = .ok (.iinc 1 1, 3) := by decide +kernel
theorem dc_P_turnQuarter_26 : decode b_P_turnQuarter 26 = .ok (.goto (-24), 3) := by decide +kernel
theorem dc_P_turnQuarter_31 : decode b_P_turnQuarter 31 = .ok (.iload_n 1, 1) := by decide +kernel
theorem dc_P_turnQuarter_32 : decode b_P_turnQuarter 32 = .ok (.aload_n 0, 1) := by decide +kernel
theorem dc_P_turnQuarter_33 : decode b_P_turnQuarter 33 = .ok (.getfield 35, 3) := by decide +kernel
theorem dc_P_turnQuarter_36 : decode b_P_turnQuarter 36 = .ok (.if_icmp .ge 22, 3) := by decide +kernel
theorem dc_P_turnQuarter_58 : decode b_P_turnQuarter 58 = .ok (.aload_n 0, 1) := by decide +kernel
theorem dc_P_turnQuarter_59 : decode b_P_turnQuarter 59 = .ok (.getfield 25, 3) := by decide +kernel
theorem dc_P_turnQuarter_62 : decode b_P_turnQuarter 62 = .ok (.istore_n 1, 1) := by decide +kernel
theorem dc_P_turnQuarter_63 : decode b_P_turnQuarter 63 = .ok (.aload_n 0, 1) := by decide +kernel
theorem dc_P_turnQuarter_64 : decode b_P_turnQuarter 64 = .ok (.aload_n 0, 1) := by decide +kernel
theorem dc_P_turnQuarter_65 : decode b_P_turnQuarter 65 = .ok (.getfield 29, 3) := by decide +kernel
theorem dc_P_turnQuarter_68 : decode b_P_turnQuarter 68 = .ok (.putfield 25, 3) := by decide +kernel
theorem dc_P_turnQuarter_71 : decode b_P_turnQuarter 71 = .ok (.aload_n 0, 1) := by decide +kernel
theorem dc_P_turnQuarter_72 : decode b_P_turnQuarter 72 = .ok (.iload_n 1, 1) := by decide +kernel
theorem dc_P_turnQuarter_73 : decode b_P_turnQuarter 73 = .ok (.putfield 29, 3) := by decide +kernel
theorem dc_P_turnQuarter_76 : decode b_P_turnQuarter 76 = .ok (.return_, 1) := by decide +kernel
theorem dc_P_turnQuarter_39 : decode b_P_turnQuarter 39 = .ok (.aload_n 0, 1) := by decide +kernel
theorem dc_P_turnQuarter_40 : decode b_P_turnQuarter 40 = .ok (.getfield 20, 3) := by decide +kernel
theorem dc_P_turnQuarter_43 : decode b_P_turnQuarter 43 = .ok (.iload_n 1, 1) := by decide +kernel
theorem dc_P_turnQuarter_44 : decode b_P_turnQuarter 44 = .ok (.aaload, 1) := by decide +kernel
theorem dc_P_turnQuarter_45 : decode b_P_turnQuarter 45 = .ok (.aload_n 0, 1) := by decide +kernel
theorem dc_P_turnQuarter_46 : decode b_P_turnQuarter 46 = .ok (.getfield 29, 3) := by decide +kernel
theorem dc_P_turnQuarter_49 : decode b_P_turnQuarter 49 = .ok (.invokevirtual 105, 3) := by decide +kernel
theorem dc_P_turnQuarter_52 : decode b_P_turnQuarter 52 = .ok (.iinc 1 1, 3) := by decide +kernel
theorem dc_P_turnQuarter_55 : decode b_P_turnQuarter 55 = .ok (.goto (-24), 3) := by decide +kernel
theorem dc_P_hasRoomFor_0 : decode b_P_hasRoomFor 0 = .ok (.aload_n 0, 1) := by decide +kernel
theorem dc_P_hasRoomFor_1 : decode b_P_hasRoomFor 1 = .ok (.iload_n 2, 1) := by decide +kernel
theorem dc_P_hasRoomFor_2 : decode b_P_hasRoomFor 2 = .ok (.invokevirtual 53, 3) := by decide +kernel
theorem dc_P_hasRoomFor_5 : decode b_P_hasRoomFor 5 = .ok (.aload_n 1, 1) := by decide +kernel
theorem dc_P_hasRoomFor_6 : decode b_P_hasRoomFor 6 = .ok (.iload_n 2, 1) := by decide +kernel
theorem dc_P_hasRoomFor_7 : decode b_P_hasRoomFor 7 = .ok (.invokevirtual 53, 3) := by decide +kernel
theorem dc_P_hasRoomFor_10 : decode b_P_hasRoomFor 10 = .ok (.iadd, 1) := by decide +kernel
theorem dc_P_hasRoomFor_11 : decode b_P_hasRoomFor 11 = .ok (.sipush 400, 3) := by decide +kernel
theorem dc_P_hasRoomFor_14 : decode b_P_hasRoomFor 14 = .ok (.if_icmp .gt 35, 3) := by decide +kernel
theorem dc_P_hasRoomFor_49 : decode b_P_hasRoomFor 49 = .ok (.iconst 0, 1) := by decide +kernel
theorem dc_P_hasRoomFor_50 : decode b_P_hasRoomFor 50 = .ok (.ireturn, 1) := by decide +kernel
theorem dc_P_hasRoomFor_17 : decode b_P_hasRoomFor 17 = .ok (.aload_n 0, 1) := by decide +kernel
theorem dc_P_hasRoomFor_18 : decode b_P_hasRoomFor 18 = .ok (.getfield 32, 3) := by decide +kernel
theorem dc_P_hasRoomFor_21 : decode b_P_hasRoomFor 21 = .ok (.aload_n 1, 1) := by decide +kernel
theorem dc_P_hasRoomFor_22 : decode b_P_hasRoomFor 22 = .ok (.getfield 32, 3) := by decide +kernel
theorem dc_P_hasRoomFor_25 : decode b_P_hasRoomFor 25 = .ok (.iadd, 1) := by decide +kernel
theorem dc_P_hasRoomFor_26 : decode b_P_hasRoomFor 26 = .ok (.bipush 40, 2) := by decide +kernel
theorem dc_P_hasRoomFor_28 : decode b_P_hasRoomFor 28 = .ok (.if_icmp .gt 21, 3) := by decide +kernel
theorem dc_P_hasRoomFor_31 : decode b_P_hasRoomFor 31 = .ok (.aload_n 0, 1) := by decide +kernel
theorem dc_P_hasRoomFor_32 : decode b_P_hasRoomFor 32 = .ok (.getfield 35, 3) := by decide +kernel
theorem dc_P_hasRoomFor_35 : decode b_P_hasRoomFor 35 = .ok (.aload_n 1, 1) := by decide +kernel
theorem dc_P_hasRoomFor_36 : decode b_P_hasRoomFor 36 = .ok (.getfield 35, 3) := by decide +kernel
theorem dc_P_hasRoomFor_39 : decode b_P_hasRoomFor 39 = .ok (.iadd, 1) := by decide +kernel
theorem dc_P_hasRoomFor_40 : decode b_P_hasRoomFor 40 = .ok (.bipush 20, 2) := by decide +kernel
theorem dc_P_hasRoomFor_42 : decode b_P_hasRoomFor 42 = .ok (.if_icmp .gt 7, 3) := by decide +kernel
theorem dc_P_hasRoomFor_45 : decode b_P_hasRoomFor 45 = .ok (.iconst 1, 1) := by decide +kernel
theorem dc_P_hasRoomFor_46 : decode b_P_hasRoomFor 46 = .ok (.goto 4, 3) := by decide +kernel
theorem dc_P_placeOfPart_0 : decode b_P_placeOfPart 0 = .ok (.bipush 8, 2) := by decide +kernel
theorem dc_P_placeOfPart_2 : decode b_P_placeOfPart 2 = .ok (.iconst 2, 1) := by decide +kernel
theorem dc_P_placeOfPart_3 : decode b_P_placeOfPart 3 = .ok (.aload_n 0, 1) := by decide +kernel
theorem dc_P_placeOfPart_4 : decode b_P_placeOfPart 4 = .ok (.getfield 32, 3) := by decide +kernel
theorem dc_P_placeOfPart_7 : decode b_P_placeOfPart 7 = .ok (.imul, 1) := by decide +kernel
theorem dc_P_placeOfPart_8 : decode b_P_placeOfPart 8 = .ok (.iadd, 1) := by decide +kernel
theorem dc_P_placeOfPart_9 : decode b_P_placeOfPart 9 = .ok (.iconst 5, 1) := by decide +kernel
theorem dc_P_placeOfPart_10 : decode b_P_placeOfPart 10 = .ok (.aload_n 0, 1) := by decide +kernel
theorem dc_P_placeOfPart_11 : decode b_P_placeOfPart 11 = .ok (.getfield 35, 3) := by decide +kernel
theorem dc_P_placeOfPart_14 : decode b_P_placeOfPart 14 = .ok (.imul, 1) := by decide +kernel
theorem dc_P_placeOfPart_15 : decode b_P_placeOfPart 15 = .ok (.iadd, 1) := by decide +kernel
theorem dc_P_placeOfPart_16 : decode b_P_placeOfPart 16 = .ok (.istore_n 2, 1) := by decide +kernel
theorem dc_P_placeOfPart_17 : decode b_P_placeOfPart 17 = .ok (.iconst 0, 1) := by decide +kernel
theorem dc_P_placeOfPart_18 : decode b_P_placeOfPart 18 = .ok (.istore_n 3, 1) := by decide +kernel
theorem dc_P_placeOfPart_19 : decode b_P_placeOfPart 19 = .ok (.iload_n 3, 1) := by decide +kernel
theorem dc_P_placeOfPart_20 : decode b_P_placeOfPart 20 = .ok (.aload_n 0, 1) := by decide +kernel
theorem dc_P_placeOfPart_21 : decode b_P_placeOfPart 21 = .ok (.getfield 32, 3) := by decide +kernel
theorem dc_P_placeOfPart_24 : decode b_P_placeOfPart 24 = .ok (.if_icmp .ge 34, 3) := by decide +kernel
theorem dc_P_placeOfPart_58 : decode b_P_placeOfPart 58 = .ok (.iload_n 2, 1) := by decide +kernel
theorem dc_P_placeOfPart_59 : decode b_P_placeOfPart 59 = .ok (.ireturn, 1) := by decide +kernel
theorem dc_P_placeOfPart_27 : decode b_P_placeOfPart 27 = .ok (.aload_n 0, 1) := by decide +kernel
theorem dc_P_placeOfPart_28 : decode b_P_placeOfPart 28 = .ok (.getfield 11, 3) := by decide +kernel
theorem dc_P_placeOfPart_31 : decode b_P_placeOfPart 31 = .ok (.iload_n 3, 1) := by decide +kernel
theorem dc_P_placeOfPart_32 : decode b_P_placeOfPart 32 = .ok (.aaload, 1) := by decide +kernel
theorem dc_P_placeOfPart_33 : decode b_P_placeOfPart 33 = .ok (.aload_n 1, 1) := by decide +kernel
theorem dc_P_placeOfPart_34 : decode b_P_placeOfPart 34 = .ok (.invokevirtual 106, 3) := by decide +kernel
theorem dc_P_placeOfPart_37 : decode b_P_placeOfPart 37 = .ok (.ifCond .eq 15, 3) := by decide +kernel
theorem dc_P_placeOfPart_40 : decode b_P_placeOfPart 40 = .ok (.iload_n 2, 1) := by decide +kernel
theorem dc_P_placeOfPart_41 : decode b_P_placeOfPart 41 = .ok (.aload_n 0, 1) := by decide +kernel
theorem dc_P_placeOfPart_42 : decode b_P_placeOfPart 42 = .ok (.getfield 11, 3) := by decide +kernel
theorem dc_P_placeOfPart_45 : decode b_P_placeOfPart 45 = .ok (.iload_n 3, 1) := by decide +kernel
theorem dc_P_placeOfPart_46 : decode b_P_placeOfPart 46 = .ok (.aaload, 1) := by decide +kernel
theorem dc_P_placeOfPart_47 : decode b_P_placeOfPart 47 = .ok (.invokevirtual 110, 3) := by decide +kernel
theorem dc_P_placeOfPart_50 : decode b_P_placeOfPart 50 = .ok (.iadd, 1) := by decide +kernel
theorem dc_P_placeOfPart_51 : decode b_P_placeOfPart 51 = .ok (.istore_n 2, 1) := by decide +kernel
theorem dc_P_placeOfPart_52 : decode b_P_placeOfPart 52 = .ok (.iinc 3 1, 3) := by decide +kernel
theorem dc_P_placeOfPart_55 : decode b_P_placeOfPart 55 = .ok (.goto (-36), 3) := by decide +kernel
theorem dc_P_nearestFit_0 : decode b_P_nearestFit 0 = .ok (.aload_n 0, 1) := by decide +kernel
theorem dc_P_nearestFit_1 : decode b_P_nearestFit 1 = .ok (.iload_n 1, 1) := by decide +kernel
theorem dc_P_nearestFit_2 : decode b_P_nearestFit 2 = .ok (.invokevirtual 53, 3) := by decide +kernel
theorem dc_P_nearestFit_5 : decode b_P_nearestFit 5 = .ok (.istore_n 3, 1) := by decide +kernel
theorem dc_P_nearestFit_6 : decode b_P_nearestFit 6 = .ok (.iconst 0, 1) := by decide +kernel
theorem dc_P_nearestFit_7 : decode b_P_nearestFit 7 = .ok (.istore 4, 2) := by decide +kernel
theorem dc_P_nearestFit_9 : decode b_P_nearestFit 9 = .ok (.iload 4, 2) := by decide +kernel
theorem dc_P_nearestFit_11 : decode b_P_nearestFit 11 = .ok (.iload_n 3, 1) := by decide +kernel
theorem dc_P_nearestFit_12 : decode b_P_nearestFit 12 = .ok (.if_icmp .gt 58, 3) := by decide +kernel
theorem dc_P_nearestFit_70 : decode b_P_nearestFit 70 = .ok (.iconst 0, 1) := by decide +kernel
theorem dc_P_nearestFit_71 : decode b_P_nearestFit 71 = .ok (.ireturn, 1) := by decide +kernel
theorem dc_P_nearestFit_15 : decode b_P_nearestFit 15 = .ok (.iload_n 2, 1) := by decide +kernel
theorem dc_P_nearestFit_16 : decode b_P_nearestFit 16 = .ok (.iload 4, 2) := by decide +kernel
theorem dc_P_nearestFit_18 : decode b_P_nearestFit 18 = .ok (.isub, 1) := by decide +kernel
theorem dc_P_nearestFit_19 : decode b_P_nearestFit 19 = .ok (.istore 5, 2) := by decide +kernel
theorem dc_P_nearestFit_21 : decode b_P_nearestFit 21 = .ok (.iload 5, 2) := by decide +kernel
theorem dc_P_nearestFit_23 : decode b_P_nearestFit 23 = .ok (.ifCond .lt 16, 3) := by decide +kernel
theorem dc_P_nearestFit_26 : decode b_P_nearestFit 26 = .ok (.aload_n 0, 1) := by decide +kernel
theorem dc_P_nearestFit_27 : decode b_P_nearestFit 27 = .ok (.iload_n 1, 1) := by decide +kernel
theorem dc_P_nearestFit_28 : decode b_P_nearestFit 28 = .ok (.iload 5, 2) := by decide +kernel
theorem dc_P_nearestFit_30 : decode b_P_nearestFit 30 = .ok (.invokevirtual 57, 3) := by decide +kernel
theorem dc_P_nearestFit_33 : decode b_P_nearestFit 33 = .ok (.ifCond .eq 6, 3) := by decide +kernel
theorem dc_P_nearestFit_36 : decode b_P_nearestFit 36 = .ok (.iload 5, 2) := by decide +kernel
theorem dc_P_nearestFit_38 : decode b_P_nearestFit 38 = .ok (.ireturn, 1) := by decide +kernel
theorem dc_P_nearestFit_39 : decode b_P_nearestFit 39 = .ok (.iload_n 2, 1) := by decide +kernel
theorem dc_P_nearestFit_40 : decode b_P_nearestFit 40 = .ok (.iload 4, 2) := by decide +kernel
theorem dc_P_nearestFit_42 : decode b_P_nearestFit 42 = .ok (.iadd, 1) := by decide +kernel
theorem dc_P_nearestFit_43 : decode b_P_nearestFit 43 = .ok (.istore 6, 2) := by decide +kernel
theorem dc_P_nearestFit_45 : decode b_P_nearestFit 45 = .ok (.iload 6, 2) := by decide +kernel
theorem dc_P_nearestFit_47 : decode b_P_nearestFit 47 = .ok (.iload_n 3, 1) := by decide +kernel
theorem dc_P_nearestFit_48 : decode b_P_nearestFit 48 = .ok (.if_icmp .gt 16, 3) := by decide +kernel
theorem dc_P_nearestFit_51 : decode b_P_nearestFit 51 = .ok (.aload_n 0, 1) := by decide +kernel
theorem dc_P_nearestFit_52 : decode b_P_nearestFit 52 = .ok (.iload_n 1, 1) := by decide +kernel
theorem dc_P_nearestFit_53 : decode b_P_nearestFit 53 = .ok (.iload 6, 2) := by decide +kernel
theorem dc_P_nearestFit_55 : decode b_P_nearestFit 55 = .ok (.invokevirtual 57, 3) := by decide +kernel
theorem dc_P_nearestFit_58 : decode b_P_nearestFit 58 = .ok (.ifCond .eq 6, 3) := by decide +kernel
theorem dc_P_nearestFit_61 : decode b_P_nearestFit 61 = .ok (.iload 6, 2) := by decide +kernel
theorem dc_P_nearestFit_63 : decode b_P_nearestFit 63 = .ok (.ireturn, 1) := by decide +kernel
theorem dc_P_nearestFit_64 : decode b_P_nearestFit 64 = .ok (.iinc 4 1, 3) := by decide +kernel
theorem dc_P_nearestFit_67 : decode b_P_nearestFit 67 = .ok (.goto (-58), 3) := by decide +kernel
theorem dc_P_cutTo_0 : decode b_P_cutTo 0 = .ok (.aload_n 0, 1) := by decide +kernel
theorem dc_P_cutTo_1 : decode b_P_cutTo 1 = .ok (.iload_n 1, 1) := by decide +kernel
theorem dc_P_cutTo_2 : decode b_P_cutTo 2 = .ok (.iload_n 2, 1) := by decide +kernel
theorem dc_P_cutTo_3 : decode b_P_cutTo 3 = .ok (.iload_n 1, 1) := by decide +kernel
theorem dc_P_cutTo_4 : decode b_P_cutTo 4 = .ok (.iload_n 3, 1) := by decide +kernel
theorem dc_P_cutTo_5 : decode b_P_cutTo 5 = .ok (.iadd, 1) := by decide +kernel
theorem dc_P_cutTo_6 : decode b_P_cutTo 6 = .ok (.iload_n 2, 1) := by decide +kernel
theorem dc_P_cutTo_7 : decode b_P_cutTo 7 = .ok (.iload 4, 2) := by decide +kernel
theorem dc_P_cutTo_9 : decode b_P_cutTo 9 = .ok (.iadd, 1) := by decide +kernel
theorem dc_P_cutTo_10 : decode b_P_cutTo 10 = .ok (.invokevirtual 60, 3) := by decide +kernel
theorem dc_P_cutTo_13 : decode b_P_cutTo 13 = .ok (.aload_n 0, 1) := by decide +kernel
theorem dc_P_cutTo_14 : decode b_P_cutTo 14 = .ok (.iload_n 1, 1) := by decide +kernel
theorem dc_P_cutTo_15 : decode b_P_cutTo 15 = .ok (.iload_n 2, 1) := by decide +kernel
theorem dc_P_cutTo_16 : decode b_P_cutTo 16 = .ok (.iload_n 1, 1) := by decide +kernel
theorem dc_P_cutTo_17 : decode b_P_cutTo 17 = .ok (.iload_n 3, 1) := by decide +kernel
theorem dc_P_cutTo_18 : decode b_P_cutTo 18 = .ok (.iadd, 1) := by decide +kernel
theorem dc_P_cutTo_19 : decode b_P_cutTo 19 = .ok (.iload_n 2, 1) := by decide +kernel
theorem dc_P_cutTo_20 : decode b_P_cutTo 20 = .ok (.iload 4, 2) := by decide +kernel
theorem dc_P_cutTo_22 : decode b_P_cutTo 22 = .ok (.iadd, 1) := by decide +kernel
theorem dc_P_cutTo_23 : decode b_P_cutTo 23 = .ok (.invokevirtual 63, 3) := by decide +kernel
theorem dc_P_cutTo_26 : decode b_P_cutTo 26 = .ok (.aload_n 0, 1) := by decide +kernel
theorem dc_P_cutTo_27 : decode b_P_cutTo 27 = .ok (.iload_n 1, 1) := by decide +kernel
theorem dc_P_cutTo_28 : decode b_P_cutTo 28 = .ok (.ineg, 1) := by decide +kernel
theorem dc_P_cutTo_29 : decode b_P_cutTo 29 = .ok (.iload_n 2, 1) := by decide +kernel
theorem dc_P_cutTo_30 : decode b_P_cutTo 30 = .ok (.ineg, 1) := by decide +kernel
theorem dc_P_cutTo_31 : decode b_P_cutTo 31 = .ok (.invokevirtual 66, 3) := by decide +kernel
theorem dc_P_cutTo_34 : decode b_P_cutTo 34 = .ok (.aload_n 0, 1) := by decide +kernel
theorem dc_P_cutTo_35 : decode b_P_cutTo 35 = .ok (.iload_n 3, 1) := by decide +kernel
theorem dc_P_cutTo_36 : decode b_P_cutTo 36 = .ok (.putfield 25, 3) := by decide +kernel
theorem dc_P_cutTo_39 : decode b_P_cutTo 39 = .ok (.aload_n 0, 1) := by decide +kernel
theorem dc_P_cutTo_40 : decode b_P_cutTo 40 = .ok (.iload 4, 2) := by decide +kernel
theorem dc_P_cutTo_42 : decode b_P_cutTo 42 = .ok (.putfield 29, 3) := by decide +kernel
theorem dc_P_cutTo_45 : decode b_P_cutTo 45 = .ok (.aload_n 0, 1) := by decide +kernel
theorem dc_P_cutTo_46 : decode b_P_cutTo 46 = .ok (.getfield 32, 3) := by decide +kernel
theorem dc_P_cutTo_49 : decode b_P_cutTo 49 = .ok (.ireturn, 1) := by decide +kernel
theorem dc_P_moveAlong_0 : decode b_P_moveAlong 0 = .ok (.aload_n 0, 1) := by decide +kernel
theorem dc_P_moveAlong_1 : decode b_P_moveAlong 1 = .ok (.iload_n 1, 1) := by decide +kernel
theorem dc_P_moveAlong_2 : decode b_P_moveAlong 2 = .ok (.ifCond .eq 7, 3) := by decide +kernel
theorem dc_P_moveAlong_9 : decode b_P_moveAlong 9 = .ok (.iconst 0, 1) := by decide +kernel
theorem dc_P_moveAlong_5 : decode b_P_moveAlong 5 = .ok (.iload_n 2, 1) := by decide +kernel
theorem dc_P_moveAlong_6 : decode b_P_moveAlong 6 = .ok (.goto 4, 3) := by decide +kernel
theorem dc_P_moveAlong_10 : decode b_P_moveAlong 10 = .ok (.iload_n 1, 1) := by decide +kernel
theorem dc_P_moveAlong_11 : decode b_P_moveAlong 11 = .ok (.ifCond .eq 7, 3) := by decide +kernel
theorem dc_P_moveAlong_18 : decode b_P_moveAlong 18 = .ok (.iload_n 2, 1) := by decide +kernel
theorem dc_P_moveAlong_14 : decode b_P_moveAlong 14 = .ok (.iconst 0, 1) := by decide +kernel
theorem dc_P_moveAlong_15 : decode b_P_moveAlong 15 = .ok (.goto 4, 3) := by decide +kernel
theorem dc_P_moveAlong_19 : decode b_P_moveAlong 19 = .ok (.invokevirtual 66, 3) := by decide +kernel
theorem dc_P_moveAlong_22 : decode b_P_moveAlong 22 = .ok (.return_, 1) := by decide +kernel
theorem dc_P_showBy_0 : decode b_P_showBy 0 = .ok (.iload_n 1, 1) := by decide +kernel
theorem dc_P_showBy_1 : decode b_P_showBy 1 = .ok (.invokestatic 76, 3) := by decide +kernel
theorem dc_P_showBy_4 : decode b_P_showBy 4 = .ok (.ifCond .eq 7, 3) := by decide +kernel
theorem dc_P_showBy_7 : decode b_P_showBy 7 = .ok (.aload_n 0, 1) := by decide +kernel
theorem dc_P_showBy_8 : decode b_P_showBy 8 = .ok (.invokevirtual 80, 3) := by decide +kernel
theorem dc_P_showBy_11 : decode b_P_showBy 11 = .ok (.iconst 0, 1) := by decide +kernel
theorem dc_P_showBy_12 : decode b_P_showBy 12 = .ok (.istore_n 2, 1) := by decide +kernel
theorem dc_P_showBy_13 : decode b_P_showBy 13 = .ok (.iload_n 2, 1) := by decide +kernel
theorem dc_P_showBy_14 : decode b_P_showBy 14 = .ok (.iload_n 1, 1) := by decide +kernel
theorem dc_P_showBy_15 : decode b_P_showBy 15 = .ok (.invokestatic 83, 3) := by decide +kernel
theorem dc_P_showBy_18 : decode b_P_showBy 18 = .ok (.if_icmp .ge 13, 3) := by decide +kernel
theorem dc_P_showBy_31 : decode b_P_showBy 31 = .ok (.iconst 0, 1) := by decide +kernel
theorem dc_P_showBy_32 : decode b_P_showBy 32 = .ok (.istore_n 2, 1) := by decide +kernel
theorem dc_P_showBy_21 : decode b_P_showBy 21 = .ok (.aload_n 0, 1) := by decide +kernel
theorem dc_P_showBy_22 : decode b_P_showBy 22 = .ok (.invokevirtual 87, 3) := by decide +kernel
theorem dc_P_showBy_25 : decode b_P_showBy 25 = .ok (.iinc 2 1, 3) := by decide +kernel
theorem dc_P_showBy_28 : decode b_P_showBy 28 = .ok (.goto (-15), 3) := by decide +kernel
theorem dc_P_showBy_33 : decode b_P_showBy 33 = .ok (.iload_n 2, 1) := by decide +kernel
theorem dc_P_showBy_34 : decode b_P_showBy 34 = .ok (.aload_n 0, 1) := by decide +kernel
theorem dc_P_showBy_35 : decode b_P_showBy 35 = .ok (.getfield 32, 3) := by decide +kernel
theorem dc_P_showBy_38 : decode b_P_showBy 38 = .ok (.if_icmp .ge 31, 3) := by decide +kernel
theorem dc_P_showBy_69 : decode b_P_showBy 69 = .ok (.return_, 1) := by decide +kernel
theorem dc_P_showBy_41 : decode b_P_showBy 41 = .ok (.aload_n 0, 1) := by decide +kernel
theorem dc_P_showBy_42 : decode b_P_showBy 42 = .ok (.getfield 11, 3) := by decide +kernel
theorem dc_P_showBy_45 : decode b_P_showBy 45 = .ok (.iload_n 2, 1) := by decide +kernel
theorem dc_P_showBy_46 : decode b_P_showBy 46 = .ok (.aaload, 1) := by decide +kernel
theorem dc_P_showBy_47 : decode b_P_showBy 47 = .ok (.aload_n 0, 1) := by decide +kernel
theorem dc_P_showBy_48 : decode b_P_showBy 48 = .ok (.getfield 11, 3) := by decide +kernel
theorem dc_P_showBy_51 : decode b_P_showBy 51 = .ok (.iload_n 2, 1) := by decide +kernel
theorem dc_P_showBy_52 : decode b_P_showBy 52 = .ok (.aaload, 1) := by decide +kernel
theorem dc_P_showBy_53 : decode b_P_showBy 53 = .ok (.getfield 90, 3) := by decide +kernel
theorem dc_P_showBy_56 : decode b_P_showBy 56 = .ok (.iload_n 1, 1) := by decide +kernel
theorem dc_P_showBy_57 : decode b_P_showBy 57 = .ok (.invokestatic 93, 3) := by decide +kernel
theorem dc_P_showBy_60 : decode b_P_showBy 60 = .ok (.putfield 90, 3) := by decide +kernel
theorem dc_P_showBy_63 : decode b_P_showBy 63 = .ok (.iinc 2 1, 3) := by decide +kernel
theorem dc_P_showBy_66 : decode b_P_showBy 66 = .ok (.goto (-33), 3) := by decide +kernel
theorem dc_P_putHead_0 : decode b_P_putHead 0 = .ok (.aload_n 1, 1) := by decide +kernel
theorem dc_P_putHead_1 : decode b_P_putHead 1 = .ok (.bipush 76, 2) := by decide +kernel
theorem dc_P_putHead_3 : decode b_P_putHead 3 = .ok (.invokevirtual 114, 3) := by decide +kernel
theorem dc_P_putHead_6 : decode b_P_putHead 6 = .ok (.aload_n 1, 1) := by decide +kernel
theorem dc_P_putHead_7 : decode b_P_putHead 7 = .ok (.bipush 70, 2) := by decide +kernel
theorem dc_P_putHead_9 : decode b_P_putHead 9 = .ok (.invokevirtual 114, 3) := by decide +kernel
theorem dc_P_putHead_12 : decode b_P_putHead 12 = .ok (.aload_n 1, 1) := by decide +kernel
theorem dc_P_putHead_13 : decode b_P_putHead 13 = .ok (.aload_n 0, 1) := by decide +kernel
theorem dc_P_putHead_14 : decode b_P_putHead 14 = .ok (.getfield 25, 3) := by decide +kernel
theorem dc_P_putHead_17 : decode b_P_putHead 17 = .ok (.invokevirtual 119, 3) := by decide +kernel
theorem dc_P_putHead_20 : decode b_P_putHead 20 = .ok (.aload_n 1, 1) := by decide +kernel
theorem dc_P_putHead_21 : decode b_P_putHead 21 = .ok (.aload_n 0, 1) := by decide +kernel
theorem dc_P_putHead_22 : decode b_P_putHead 22 = .ok (.getfield 29, 3) := by decide +kernel
theorem dc_P_putHead_25 : decode b_P_putHead 25 = .ok (.invokevirtual 119, 3) := by decide +kernel
theorem dc_P_putHead_28 : decode b_P_putHead 28 = .ok (.aload_n 1, 1) := by decide +kernel
theorem dc_P_putHead_29 : decode b_P_putHead 29 = .ok (.aload_n 0, 1) := by decide +kernel
theorem dc_P_putHead_30 : decode b_P_putHead 30 = .ok (.getfield 32, 3) := by decide +kernel
theorem dc_P_putHead_33 : decode b_P_putHead 33 = .ok (.invokevirtual 114, 3) := by decide +kernel
theorem dc_P_putHead_36 : decode b_P_putHead 36 = .ok (.iconst 0, 1) := by decide +kernel
theorem dc_P_putHead_37 : decode b_P_putHead 37 = .ok (.istore_n 2, 1) := by decide +kernel
theorem dc_P_putHead_38 : decode b_P_putHead 38 = .ok (.iload_n 2, 1) := by decide +kernel
theorem dc_P_putHead_39 : decode b_P_putHead 39 = .ok (.aload_n 0, 1) := by decide +kernel
theorem dc_P_putHead_40 : decode b_P_putHead 40 = .ok (.getfield 32, 3) := by decide +kernel
theorem dc_P_putHead_43 : decode b_P_putHead 43 = .ok (.if_icmp .ge 23, 3) := by decide +kernel
theorem dc_P_putHead_66 : decode b_P_putHead 66 = .ok (.aload_n 1, 1) := by decide +kernel
theorem dc_P_putHead_67 : decode b_P_putHead 67 = .ok (.aload_n 0, 1) := by decide +kernel
theorem dc_P_putHead_68 : decode b_P_putHead 68 = .ok (.getfield 35, 3) := by decide +kernel
theorem dc_P_putHead_71 : decode b_P_putHead 71 = .ok (.invokevirtual 114, 3) := by decide +kernel
theorem dc_P_putHead_74 : decode b_P_putHead 74 = .ok (.iconst 0, 1) := by decide +kernel
theorem dc_P_putHead_75 : decode b_P_putHead 75 = .ok (.istore_n 2, 1) := by decide +kernel
theorem dc_P_putHead_46 : decode b_P_putHead 46 = .ok (.aload_n 1, 1) := by decide +kernel
theorem dc_P_putHead_47 : decode b_P_putHead 47 = .ok (.aload_n 0, 1) := by decide +kernel
theorem dc_P_putHead_48 : decode b_P_putHead 48 = .ok (.aload_n 0, 1) := by decide +kernel
theorem dc_P_putHead_49 : decode b_P_putHead 49 = .ok (.getfield 11, 3) := by decide +kernel
theorem dc_P_putHead_52 : decode b_P_putHead 52 = .ok (.iload_n 2, 1) := by decide +kernel
theorem dc_P_putHead_53 : decode b_P_putHead 53 = .ok (.aaload, 1) := by decide +kernel
theorem dc_P_putHead_54 : decode b_P_putHead 54 = .ok (.invokevirtual 122, 3) := by decide +kernel
theorem dc_P_putHead_57 : decode b_P_putHead 57 = .ok (.invokevirtual 119, 3) := by decide +kernel
theorem dc_P_putHead_60 : decode b_P_putHead 60 = .ok (.iinc 2 1, 3) := by decide +kernel
theorem dc_P_putHead_63 : decode b_P_putHead 63 = .ok (.goto (-25), 3) := by decide +kernel
theorem dc_P_putHead_76 : decode b_P_putHead 76 = .ok (.iload_n 2, 1) := by decide +kernel
theorem dc_P_putHead_77 : decode b_P_putHead 77 = .ok (.aload_n 0, 1) := by decide +kernel
theorem dc_P_putHead_78 : decode b_P_putHead 78 = .ok (.getfield 35, 3) := by decide +kernel
theorem dc_P_putHead_81 : decode b_P_putHead 81 = .ok (.if_icmp .ge 48, 3) := by decide +kernel
theorem dc_P_putHead_129 : decode b_P_putHead 129 = .ok (.return_, 1) := by decide +kernel
theorem dc_P_putHead_84 : decode b_P_putHead 84 = .ok (.aload_n 1, 1) := by decide +kernel
theorem dc_P_putHead_85 : decode b_P_putHead 85 = .ok (.aload_n 0, 1) := by decide +kernel
theorem dc_P_putHead_86 : decode b_P_putHead 86 = .ok (.getfield 20, 3) := by decide +kernel
theorem dc_P_putHead_89 : decode b_P_putHead 89 = .ok (.iload_n 2, 1) := by decide +kernel
theorem dc_P_putHead_90 : decode b_P_putHead 90 = .ok (.aaload, 1) := by decide +kernel
theorem dc_P_putHead_91 : decode b_P_putHead 91 = .ok (.getfield 126, 3) := by decide +kernel
theorem dc_P_putHead_94 : decode b_P_putHead 94 = .ok (.invokevirtual 119, 3) := by decide +kernel
theorem dc_P_putHead_97 : decode b_P_putHead 97 = .ok (.aload_n 1, 1) := by decide +kernel
theorem dc_P_putHead_98 : decode b_P_putHead 98 = .ok (.aload_n 0, 1) := by decide +kernel
theorem dc_P_putHead_99 : decode b_P_putHead 99 = .ok (.getfield 20, 3) := by decide +kernel
theorem dc_P_putHead_102 : decode b_P_putHead 102 = .ok (.iload_n 2, 1) := by decide +kernel
theorem dc_P_putHead_103 : decode b_P_putHead 103 = .ok (.aaload, 1) := by decide +kernel
theorem dc_P_putHead_104 : decode b_P_putHead 104 = .ok (.getfield 129, 3) := by decide +kernel
theorem dc_P_putHead_107 : decode b_P_putHead 107 = .ok (.invokevirtual 119, 3) := by decide +kernel
theorem dc_P_putHead_110 : decode b_P_putHead 110 = .ok (.aload_n 1, 1) := by decide +kernel
theorem dc_P_putHead_111 : decode b_P_putHead 111 = .ok (.aload_n 0, 1) := by decide +kernel
theorem dc_P_putHead_112 : decode b_P_putHead 112 = .ok (.getfield 20, 3) := by decide +kernel
theorem dc_P_putHead_115 : decode b_P_putHead 115 = .ok (.iload_n 2, 1) := by decide +kernel
theorem dc_P_putHead_116 : decode b_P_putHead 116 = .ok (.aaload, 1) := by decide +kernel
theorem dc_P_putHead_117 : decode b_P_putHead 117 = .ok (.getfield 132, 3) := by decide +kernel
theorem dc_P_putHead_120 : decode b_P_putHead 120 = .ok (.invokevirtual 114, 3) := by decide +kernel
theorem dc_P_putHead_123 : decode b_P_putHead 123 = .ok (.iinc 2 1, 3) := by decide +kernel
theorem dc_P_putHead_126 : decode b_P_putHead 126 = .ok (.goto (-50), 3) := by decide +kernel
theorem dc_S_putByte_0 : decode b_S_putByte 0 = .ok (.aload_n 0, 1) := by decide +kernel
theorem dc_S_putByte_1 : decode b_S_putByte 1 = .ok (.getfield 19, 3) := by decide +kernel
theorem dc_S_putByte_4 : decode b_S_putByte 4 = .ok (.ifCond .lt 15, 3) := by decide +kernel
theorem dc_S_putByte_19 : decode b_S_putByte 19 = .ok (.return_, 1) := by decide +kernel
theorem dc_S_putByte_7 : decode b_S_putByte 7 = .ok (.aload_n 0, 1) := by decide +kernel
theorem dc_S_putByte_8 : decode b_S_putByte 8 = .ok (.getfield 19, 3) := by decide +kernel
theorem dc_S_putByte_11 : decode b_S_putByte 11 = .ok (.aload_n 0, 1) := by decide +kernel
theorem dc_S_putByte_12 : decode b_S_putByte 12 = .ok (.getfield 9, 3) := by decide +kernel
theorem dc_S_putByte_15 : decode b_S_putByte 15 = .ok (.arraylength, 1) := by decide +kernel
theorem dc_S_putByte_16 : decode b_S_putByte 16 = .ok (.if_icmp .lt 4, 3) := by decide +kernel
theorem dc_S_putByte_20 : decode b_S_putByte 20 = .ok (.aload_n 0, 1) := by decide +kernel
theorem dc_S_putByte_21 : decode b_S_putByte 21 = .ok (.getfield 9, 3) := by decide +kernel
theorem dc_S_putByte_24 : decode b_S_putByte 24 = .ok (.aload_n 0, 1) := by decide +kernel
theorem dc_S_putByte_25 : decode b_S_putByte 25 = .ok (.getfield 19, 3) := by decide +kernel
theorem dc_S_putByte_28 : decode b_S_putByte 28 = .ok (.iload_n 1, 1) := by decide +kernel
theorem dc_S_putByte_29 : decode b_S_putByte 29 = .ok (.iastore, 1) := by decide +kernel
theorem dc_S_putByte_30 : decode b_S_putByte 30 = .ok (.aload_n 0, 1) := by decide +kernel
theorem dc_S_putByte_31 : decode b_S_putByte 31 = .ok (.dup, 1) := by decide +kernel
theorem dc_S_putByte_32 : decode b_S_putByte 32 = .ok (.getfield 19, 3) := by decide +kernel
theorem dc_S_putByte_35 : decode b_S_putByte 35 = .ok (.iconst 1, 1) := by decide +kernel
theorem dc_S_putByte_36 : decode b_S_putByte 36 = .ok (.iadd, 1) := by decide +kernel
theorem dc_S_putByte_37 : decode b_S_putByte 37 = .ok (.putfield 19, 3) := by decide +kernel
theorem dc_S_putByte_40 : decode b_S_putByte 40 = .ok (.aload_n 0, 1) := by decide +kernel
theorem dc_S_putByte_41 : decode b_S_putByte 41 = .ok (.aload_n 0, 1) := by decide +kernel
theorem dc_S_putByte_42 : decode b_S_putByte 42 = .ok (.getfield 15, 3) := by decide +kernel
theorem dc_S_putByte_45 : decode b_S_putByte 45 = .ok (.aload_n 0, 1) := by decide +kernel
theorem dc_S_putByte_46 : decode b_S_putByte 46 = .ok (.getfield 19, 3) := by decide +kernel
theorem dc_S_putByte_49 : decode b_S_putByte 49 = .ok (.invokestatic 22, 3) := by decide +kernel
theorem dc_S_putByte_52 : decode b_S_putByte 52 = .ok (.putfield 15, 3) := by decide +kernel
theorem dc_S_putByte_55 : decode b_S_putByte 55 = .ok (.return_, 1) := by decide +kernel
theorem dc_S_empty_0 : decode b_S_empty 0 = .ok (.aload_n 0, 1) := by decide +kernel
theorem dc_S_empty_1 : decode b_S_empty 1 = .ok (.iconst 0, 1) := by decide +kernel
theorem dc_S_empty_2 : decode b_S_empty 2 = .ok (.putfield 15, 3) := by decide +kernel
theorem dc_S_empty_5 : decode b_S_empty 5 = .ok (.aload_n 0, 1) := by decide +kernel
theorem dc_S_empty_6 : decode b_S_empty 6 = .ok (.iconst 0, 1) := by decide +kernel
theorem dc_S_empty_7 : decode b_S_empty 7 = .ok (.putfield 19, 3) := by decide +kernel
theorem dc_S_empty_10 : decode b_S_empty 10 = .ok (.return_, 1) := by decide +kernel
theorem dc_S_goTo_0 : decode b_S_goTo 0 = .ok (.aload_n 0, 1) := by decide +kernel
theorem dc_S_goTo_1 : decode b_S_goTo 1 = .ok (.iload_n 1, 1) := by decide +kernel
theorem dc_S_goTo_2 : decode b_S_goTo 2 = .ok (.putfield 19, 3) := by decide +kernel
theorem dc_S_goTo_5 : decode b_S_goTo 5 = .ok (.return_, 1) := by decide +kernel
theorem dc_S_sumFrom_0 : decode b_S_sumFrom 0 = .ok (.iconst 1, 1) := by decide +kernel
theorem dc_S_sumFrom_1 : decode b_S_sumFrom 1 = .ok (.istore_n 2, 1) := by decide +kernel
theorem dc_S_sumFrom_2 : decode b_S_sumFrom 2 = .ok (.iconst 0, 1) := by decide +kernel
theorem dc_S_sumFrom_3 : decode b_S_sumFrom 3 = .ok (.iload_n 1, 1) := by decide +kernel
theorem dc_S_sumFrom_4 : decode b_S_sumFrom 4 = .ok (.invokestatic 22, 3) := by decide +kernel
theorem dc_S_sumFrom_7 : decode b_S_sumFrom 7 = .ok (.istore_n 3, 1) := by decide +kernel
theorem dc_S_sumFrom_8 : decode b_S_sumFrom 8 = .ok (.iload_n 3, 1) := by decide +kernel
theorem dc_S_sumFrom_9 : decode b_S_sumFrom 9 = .ok (.aload_n 0, 1) := by decide +kernel
theorem dc_S_sumFrom_10 : decode b_S_sumFrom 10 = .ok (.getfield 19, 3) := by decide +kernel
theorem dc_S_sumFrom_13 : decode b_S_sumFrom 13 = .ok (.if_icmp .ge 33, 3) := by decide +kernel
theorem dc_S_sumFrom_46 : decode b_S_sumFrom 46 = .ok (.iload_n 2, 1) := by decide +kernel
theorem dc_S_sumFrom_47 : decode b_S_sumFrom 47 = .ok (.ireturn, 1) := by decide +kernel
theorem dc_S_sumFrom_16 : decode b_S_sumFrom 16 = .ok (.iload_n 3, 1) := by decide +kernel
theorem dc_S_sumFrom_17 : decode b_S_sumFrom 17 = .ok (.aload_n 0, 1) := by decide +kernel
theorem dc_S_sumFrom_18 : decode b_S_sumFrom 18 = .ok (.getfield 9, 3) := by decide +kernel
theorem dc_S_sumFrom_21 : decode b_S_sumFrom 21 = .ok (.arraylength, 1) := by decide +kernel
theorem dc_S_sumFrom_22 : decode b_S_sumFrom 22 = .ok (.if_icmp .ge 24, 3) := by decide +kernel
theorem dc_S_sumFrom_25 : decode b_S_sumFrom 25 = .ok (.iload_n 2, 1) := by decide +kernel
theorem dc_S_sumFrom_26 : decode b_S_sumFrom 26 = .ok (.bipush 31, 2) := by decide +kernel
theorem dc_S_sumFrom_28 : decode b_S_sumFrom 28 = .ok (.imul, 1) := by decide +kernel
theorem dc_S_sumFrom_29 : decode b_S_sumFrom 29 = .ok (.aload_n 0, 1) := by decide +kernel
theorem dc_S_sumFrom_30 : decode b_S_sumFrom 30 = .ok (.getfield 9, 3) := by decide +kernel
theorem dc_S_sumFrom_33 : decode b_S_sumFrom 33 = .ok (.iload_n 3, 1) := by decide +kernel
theorem dc_S_sumFrom_34 : decode b_S_sumFrom 34 = .ok (.iaload, 1) := by decide +kernel
theorem dc_S_sumFrom_35 : decode b_S_sumFrom 35 = .ok (.iadd, 1) := by decide +kernel
theorem dc_S_sumFrom_36 : decode b_S_sumFrom 36 = .ok (.ldc 32, 2) := by decide +kernel
theorem dc_S_sumFrom_38 : decode b_S_sumFrom 38 = .ok (.irem, 1) := by decide +kernel
theorem dc_S_sumFrom_39 : decode b_S_sumFrom 39 = .ok (.istore_n 2, 1) := by decide +kernel
theorem dc_S_sumFrom_40 : decode b_S_sumFrom 40 = .ok (.iinc 3 1, 3) := by decide +kernel
theorem dc_S_sumFrom_43 : decode b_S_sumFrom 43 = .ok (.goto (-35), 3) := by decide +kernel
theorem dc_S_putNumber_0 : decode b_S_putNumber 0 = .ok (.aload_n 0, 1) := by decide +kernel
theorem dc_S_putNumber_1 : decode b_S_putNumber 1 = .ok (.iload_n 1, 1) := by decide +kernel
theorem dc_S_putNumber_2 : decode b_S_putNumber 2 = .ok (.sipush 255, 3) := by decide +kernel
theorem dc_S_putNumber_5 : decode b_S_putNumber 5 = .ok (.iand, 1) := by decide +kernel
theorem dc_S_putNumber_6 : decode b_S_putNumber 6 = .ok (.invokevirtual 28, 3) := by decide +kernel
theorem dc_S_putNumber_9 : decode b_S_putNumber 9 = .ok (.aload_n 0, 1) := by decide +kernel
theorem dc_S_putNumber_10 : decode b_S_putNumber 10 = .ok (.iload_n 1, 1) := by decide +kernel
theorem dc_S_putNumber_11 : decode b_S_putNumber 11 = .ok (.bipush 8, 2) := by decide +kernel
theorem dc_S_putNumber_13 : decode b_S_putNumber 13 = .ok (.ishr, 1) := by decide +kernel
theorem dc_S_putNumber_14 : decode b_S_putNumber 14 = .ok (.sipush 255, 3) := by decide +kernel
theorem dc_S_putNumber_17 : decode b_S_putNumber 17 = .ok (.iand, 1) := by decide +kernel
theorem dc_S_putNumber_18 : decode b_S_putNumber 18 = .ok (.invokevirtual 28, 3) := by decide +kernel
theorem dc_S_putNumber_21 : decode b_S_putNumber 21 = .ok (.return_, 1) := by decide +kernel
theorem dc_T_overlaps_0 : decode b_T_overlaps 0 = .ok (.iload_n 1, 1) := by decide +kernel
theorem dc_T_overlaps_1 : decode b_T_overlaps 1 = .ok (.aload_n 0, 1) := by decide +kernel
theorem dc_T_overlaps_2 : decode b_T_overlaps 2 = .ok (.getfield 15, 3) := by decide +kernel
theorem dc_T_overlaps_5 : decode b_T_overlaps 5 = .ok (.aload_n 0, 1) := by decide +kernel
theorem dc_T_overlaps_6 : decode b_T_overlaps 6 = .ok (.getfield 22, 3) := by decide +kernel
theorem dc_T_overlaps_9 : decode b_T_overlaps 9 = .ok (.iadd, 1) := by decide +kernel
theorem dc_T_overlaps_10 : decode b_T_overlaps 10 = .ok (.if_icmp .ge 41, 3) := by decide +kernel
theorem dc_T_overlaps_51 : decode b_T_overlaps 51 = .ok (.iconst 0, 1) := by decide +kernel
theorem dc_T_overlaps_52 : decode b_T_overlaps 52 = .ok (.ireturn, 1) := by decide +kernel
theorem dc_T_overlaps_13 : decode b_T_overlaps 13 = .ok (.aload_n 0, 1) := by decide +kernel
theorem dc_T_overlaps_14 : decode b_T_overlaps 14 = .ok (.getfield 15, 3) := by decide +kernel
theorem dc_T_overlaps_17 : decode b_T_overlaps 17 = .ok (.iload_n 1, 1) := by decide +kernel
theorem dc_T_overlaps_18 : decode b_T_overlaps 18 = .ok (.iload_n 3, 1) := by decide +kernel
theorem dc_T_overlaps_19 : decode b_T_overlaps 19 = .ok (.iadd, 1) := by decide +kernel
theorem dc_T_overlaps_20 : decode b_T_overlaps 20 = .ok (.if_icmp .ge 31, 3) := by decide +kernel
theorem dc_T_overlaps_23 : decode b_T_overlaps 23 = .ok (.iload_n 2, 1) := by decide +kernel
theorem dc_T_overlaps_24 : decode b_T_overlaps 24 = .ok (.aload_n 0, 1) := by decide +kernel
theorem dc_T_overlaps_25 : decode b_T_overlaps 25 = .ok (.getfield 19, 3) := by decide +kernel
theorem dc_T_overlaps_28 : decode b_T_overlaps 28 = .ok (.aload_n 0, 1) := by decide +kernel
theorem dc_T_overlaps_29 : decode b_T_overlaps 29 = .ok (.getfield 25, 3) := by decide +kernel
theorem dc_T_overlaps_32 : decode b_T_overlaps 32 = .ok (.iadd, 1) := by decide +kernel
theorem dc_T_overlaps_33 : decode b_T_overlaps 33 = .ok (.if_icmp .ge 18, 3) := by decide +kernel
theorem dc_T_overlaps_36 : decode b_T_overlaps 36 = .ok (.aload_n 0, 1) := by decide +kernel
theorem dc_T_overlaps_37 : decode b_T_overlaps 37 = .ok (.getfield 19, 3) := by decide +kernel
theorem dc_T_overlaps_40 : decode b_T_overlaps 40 = .ok (.iload_n 2, 1) := by decide +kernel
theorem dc_T_overlaps_41 : decode b_T_overlaps 41 = .ok (.iload 4, 2) := by decide +kernel
theorem dc_T_overlaps_43 : decode b_T_overlaps 43 = .ok (.iadd, 1) := by decide +kernel
theorem dc_T_overlaps_44 : decode b_T_overlaps 44 = .ok (.if_icmp .ge 7, 3) := by decide +kernel
theorem dc_T_overlaps_47 : decode b_T_overlaps 47 = .ok (.iconst 1, 1) := by decide +kernel
theorem dc_T_overlaps_48 : decode b_T_overlaps 48 = .ok (.goto 4, 3) := by decide +kernel
theorem dc_T_startAnew_0 : decode b_T_startAnew 0 = .ok (.aload_n 0, 1) := by decide +kernel
theorem dc_T_startAnew_1 : decode b_T_startAnew 1 = .ok (.iload_n 1, 1) := by decide +kernel
theorem dc_T_startAnew_2 : decode b_T_startAnew 2 = .ok (.putfield 15, 3) := by decide +kernel
theorem dc_T_startAnew_5 : decode b_T_startAnew 5 = .ok (.aload_n 0, 1) := by decide +kernel
theorem dc_T_startAnew_6 : decode b_T_startAnew 6 = .ok (.iload_n 2, 1) := by decide +kernel
theorem dc_T_startAnew_7 : decode b_T_startAnew 7 = .ok (.putfield 19, 3) := by decide +kernel
theorem dc_T_startAnew_10 : decode b_T_startAnew 10 = .ok (.aload_n 0, 1) := by decide +kernel
theorem dc_T_startAnew_11 : decode b_T_startAnew 11 = .ok (.iload_n 3, 1) := by decide +kernel
theorem dc_T_startAnew_12 : decode b_T_startAnew 12 = .ok (.putfield 22, 3) := by decide +kernel
theorem dc_T_startAnew_15 : decode b_T_startAnew 15 = .ok (.aload_n 0, 1) := by decide +kernel
theorem dc_T_startAnew_16 : decode b_T_startAnew 16 = .ok (.iload 4, 2) := by decide +kernel
theorem dc_T_startAnew_18 : decode b_T_startAnew 18 = .ok (.putfield 25, 3) := by decide +kernel
theorem dc_T_startAnew_21 : decode b_T_startAnew 21 = .ok (.aload_n 0, 1) := by decide +kernel
theorem dc_T_startAnew_22 : decode b_T_startAnew 22 = .ok (.iconst 0, 1) := by decide +kernel
theorem dc_T_startAnew_23 : decode b_T_startAnew 23 = .ok (.putfield 28, 3) := by decide +kernel
theorem dc_T_startAnew_26 : decode b_T_startAnew 26 = .ok (.aload_n 0, 1) := by decide +kernel
theorem dc_T_startAnew_27 : decode b_T_startAnew 27 = .ok (.iconst 0, 1) := by decide +kernel
theorem dc_T_startAnew_28 : decode b_T_startAnew 28 = .ok (.putfield 31, 3) := by decide +kernel
theorem dc_T_startAnew_31 : decode b_T_startAnew 31 = .ok (.return_, 1) := by decide +kernel
theorem dc_T_crosses_0 : decode b_T_crosses 0 = .ok (.iload_n 1, 1) := by decide +kernel
theorem dc_T_crosses_1 : decode b_T_crosses 1 = .ok (.ifCond .eq 10, 3) := by decide +kernel
theorem dc_T_crosses_11 : decode b_T_crosses 11 = .ok (.aload_n 0, 1) := by decide +kernel
theorem dc_T_crosses_12 : decode b_T_crosses 12 = .ok (.getfield 19, 3) := by decide +kernel
theorem dc_T_crosses_4 : decode b_T_crosses 4 = .ok (.aload_n 0, 1) := by decide +kernel
theorem dc_T_crosses_5 : decode b_T_crosses 5 = .ok (.getfield 15, 3) := by decide +kernel
theorem dc_T_crosses_8 : decode b_T_crosses 8 = .ok (.goto 7, 3) := by decide +kernel
theorem dc_T_crosses_15 : decode b_T_crosses 15 = .ok (.istore_n 3, 1) := by decide +kernel
theorem dc_T_crosses_16 : decode b_T_crosses 16 = .ok (.iload_n 1, 1) := by decide +kernel
theorem dc_T_crosses_17 : decode b_T_crosses 17 = .ok (.ifCond .eq 10, 3) := by decide +kernel
theorem dc_T_crosses_27 : decode b_T_crosses 27 = .ok (.aload_n 0, 1) := by decide +kernel
theorem dc_T_crosses_28 : decode b_T_crosses 28 = .ok (.getfield 25, 3) := by decide +kernel
theorem dc_T_crosses_20 : decode b_T_crosses 20 = .ok (.aload_n 0, 1) := by decide +kernel
theorem dc_T_crosses_21 : decode b_T_crosses 21 = .ok (.getfield 22, 3) := by decide +kernel
theorem dc_T_crosses_24 : decode b_T_crosses 24 = .ok (.goto 7, 3) := by decide +kernel
theorem dc_T_crosses_31 : decode b_T_crosses 31 = .ok (.istore 4, 2) := by decide +kernel
theorem dc_T_crosses_33 : decode b_T_crosses 33 = .ok (.iload_n 3, 1) := by decide +kernel
theorem dc_T_crosses_34 : decode b_T_crosses 34 = .ok (.iload_n 2, 1) := by decide +kernel
theorem dc_T_crosses_35 : decode b_T_crosses 35 = .ok (.if_icmp .ge 15, 3) := by decide +kernel
theorem dc_T_crosses_50 : decode b_T_crosses 50 = .ok (.iconst 0, 1) := by decide +kernel
theorem dc_T_crosses_51 : decode b_T_crosses 51 = .ok (.ireturn, 1) := by decide +kernel
theorem dc_T_crosses_38 : decode b_T_crosses 38 = .ok (.iload_n 2, 1) := by decide +kernel
theorem dc_T_crosses_39 : decode b_T_crosses 39 = .ok (.iload_n 3, 1) := by decide +kernel
theorem dc_T_crosses_40 : decode b_T_crosses 40 = .ok (.iload 4, 2) := by decide +kernel
theorem dc_T_crosses_42 : decode b_T_crosses 42 = .ok (.iadd, 1) := by decide +kernel
theorem dc_T_crosses_43 : decode b_T_crosses 43 = .ok (.if_icmp .ge 7, 3) := by decide +kernel
theorem dc_T_crosses_46 : decode b_T_crosses 46 = .ok (.iconst 1, 1) := by decide +kernel
theorem dc_T_crosses_47 : decode b_T_crosses 47 = .ok (.goto 4, 3) := by decide +kernel
theorem dc_T_isWithin_0 : decode b_T_isWithin 0 = .ok (.aload_n 0, 1) := by decide +kernel
theorem dc_T_isWithin_1 : decode b_T_isWithin 1 = .ok (.getfield 15, 3) := by decide +kernel
theorem dc_T_isWithin_4 : decode b_T_isWithin 4 = .ok (.iload_n 1, 1) := by decide +kernel
theorem dc_T_isWithin_5 : decode b_T_isWithin 5 = .ok (.if_icmp .lt 42, 3) := by decide +kernel
theorem dc_T_isWithin_47 : decode b_T_isWithin 47 = .ok (.iconst 0, 1) := by decide +kernel
theorem dc_T_isWithin_48 : decode b_T_isWithin 48 = .ok (.ireturn, 1) := by decide +kernel
theorem dc_T_isWithin_8 : decode b_T_isWithin 8 = .ok (.aload_n 0, 1) := by decide +kernel
theorem dc_T_isWithin_9 : decode b_T_isWithin 9 = .ok (.getfield 19, 3) := by decide +kernel
theorem dc_T_isWithin_12 : decode b_T_isWithin 12 = .ok (.iload_n 2, 1) := by decide +kernel
theorem dc_T_isWithin_13 : decode b_T_isWithin 13 = .ok (.if_icmp .lt 34, 3) := by decide +kernel
theorem dc_T_isWithin_16 : decode b_T_isWithin 16 = .ok (.aload_n 0, 1) := by decide +kernel
theorem dc_T_isWithin_17 : decode b_T_isWithin 17 = .ok (.getfield 15, 3) := by decide +kernel
theorem dc_T_isWithin_20 : decode b_T_isWithin 20 = .ok (.aload_n 0, 1) := by decide +kernel
theorem dc_T_isWithin_21 : decode b_T_isWithin 21 = .ok (.getfield 22, 3) := by decide +kernel
theorem dc_T_isWithin_24 : decode b_T_isWithin 24 = .ok (.iadd, 1) := by decide +kernel
theorem dc_T_isWithin_25 : decode b_T_isWithin 25 = .ok (.iload_n 3, 1) := by decide +kernel
theorem dc_T_isWithin_26 : decode b_T_isWithin 26 = .ok (.if_icmp .gt 21, 3) := by decide +kernel
theorem dc_T_isWithin_29 : decode b_T_isWithin 29 = .ok (.aload_n 0, 1) := by decide +kernel
theorem dc_T_isWithin_30 : decode b_T_isWithin 30 = .ok (.getfield 19, 3) := by decide +kernel
theorem dc_T_isWithin_33 : decode b_T_isWithin 33 = .ok (.aload_n 0, 1) := by decide +kernel
theorem dc_T_isWithin_34 : decode b_T_isWithin 34 = .ok (.getfield 25, 3) := by decide +kernel
theorem dc_T_isWithin_37 : decode b_T_isWithin 37 = .ok (.iadd, 1) := by decide +kernel
theorem dc_T_isWithin_38 : decode b_T_isWithin 38 = .ok (.iload 4, 2) := by decide +kernel
theorem dc_T_isWithin_40 : decode b_T_isWithin 40 = .ok (.if_icmp .gt 7, 3) := by decide +kernel
theorem dc_T_isWithin_43 : decode b_T_isWithin 43 = .ok (.iconst 1, 1) := by decide +kernel
theorem dc_T_isWithin_44 : decode b_T_isWithin 44 = .ok (.goto 4, 3) := by decide +kernel
theorem dc_T_moveBy_0 : decode b_T_moveBy 0 = .ok (.aload_n 0, 1) := by decide +kernel
theorem dc_T_moveBy_1 : decode b_T_moveBy 1 = .ok (.dup, 1) := by decide +kernel
theorem dc_T_moveBy_2 : decode b_T_moveBy 2 = .ok (.getfield 15, 3) := by decide +kernel
theorem dc_T_moveBy_5 : decode b_T_moveBy 5 = .ok (.iload_n 1, 1) := by decide +kernel
theorem dc_T_moveBy_6 : decode b_T_moveBy 6 = .ok (.iadd, 1) := by decide +kernel
theorem dc_T_moveBy_7 : decode b_T_moveBy 7 = .ok (.putfield 15, 3) := by decide +kernel
theorem dc_T_moveBy_10 : decode b_T_moveBy 10 = .ok (.aload_n 0, 1) := by decide +kernel
theorem dc_T_moveBy_11 : decode b_T_moveBy 11 = .ok (.dup, 1) := by decide +kernel
theorem dc_T_moveBy_12 : decode b_T_moveBy 12 = .ok (.getfield 19, 3) := by decide +kernel
theorem dc_T_moveBy_15 : decode b_T_moveBy 15 = .ok (.iload_n 2, 1) := by decide +kernel
theorem dc_T_moveBy_16 : decode b_T_moveBy 16 = .ok (.iadd, 1) := by decide +kernel
theorem dc_T_moveBy_17 : decode b_T_moveBy 17 = .ok (.putfield 19, 3) := by decide +kernel
theorem dc_T_moveBy_20 : decode b_T_moveBy 20 = .ok (.return_, 1) := by decide +kernel
theorem dc_T_mirrorIn_0 : decode b_T_mirrorIn 0 = .ok (.aload_n 0, 1) := by decide +kernel
theorem dc_T_mirrorIn_1 : decode b_T_mirrorIn 1 = .ok (.iload_n 1, 1) := by decide +kernel
theorem dc_T_mirrorIn_2 : decode b_T_mirrorIn 2 = .ok (.aload_n 0, 1) := by decide +kernel
theorem dc_T_mirrorIn_3 : decode b_T_mirrorIn 3 = .ok (.getfield 15, 3) := by decide +kernel
theorem dc_T_mirrorIn_6 : decode b_T_mirrorIn 6 = .ok (.isub, 1) := by decide +kernel
theorem dc_T_mirrorIn_7 : decode b_T_mirrorIn 7 = .ok (.aload_n 0, 1) := by decide +kernel
theorem dc_T_mirrorIn_8 : decode b_T_mirrorIn 8 = .ok (.getfield 22, 3) := by decide +kernel
theorem dc_T_mirrorIn_11 : decode b_T_mirrorIn 11 = .ok (.isub, 1) := by decide +kernel
theorem dc_T_mirrorIn_12 : decode b_T_mirrorIn 12 = .ok (.putfield 15, 3) := by decide +kernel
theorem dc_T_mirrorIn_15 : decode b_T_mirrorIn 15 = .ok (.return_, 1) := by decide +kernel
theorem dc_T_quarterIn_0 : decode b_T_quarterIn 0 = .ok (.iload_n 1, 1) := by decide +kernel
theorem dc_T_quarterIn_1 : decode b_T_quarterIn 1 = .ok (.aload_n 0, 1) := by decide +kernel
theorem dc_T_quarterIn_2 : decode b_T_quarterIn 2 = .ok (.getfield 19, 3) := by decide +kernel
theorem dc_T_quarterIn_5 : decode b_T_quarterIn 5 = .ok (.isub, 1) := by decide +kernel
theorem dc_T_quarterIn_6 : decode b_T_quarterIn 6 = .ok (.aload_n 0, 1) := by decide +kernel
theorem dc_T_quarterIn_7 : decode b_T_quarterIn 7 = .ok (.getfield 25, 3) := by decide +kernel
theorem dc_T_quarterIn_10 : decode b_T_quarterIn 10 = .ok (.isub, 1) := by decide +kernel
theorem dc_T_quarterIn_11 : decode b_T_quarterIn 11 = .ok (.istore_n 2, 1) := by decide +kernel
theorem dc_T_quarterIn_12 : decode b_T_quarterIn 12 = .ok (.aload_n 0, 1) := by decide +kernel
theorem dc_T_quarterIn_13 : decode b_T_quarterIn 13 = .ok (.aload_n 0, 1) := by decide +kernel
theorem dc_T_quarterIn_14 : decode b_T_quarterIn 14 = .ok (.getfield 15, 3) := by decide +kernel
theorem dc_T_quarterIn_17 : decode b_T_quarterIn 17 = .ok (.putfield 19, 3) := by decide +kernel
theorem dc_T_quarterIn_20 : decode b_T_quarterIn 20 = .ok (.aload_n 0, 1) := by decide +kernel
theorem dc_T_quarterIn_21 : decode b_T_quarterIn 21 = .ok (.iload_n 2, 1) := by decide +kernel
theorem dc_T_quarterIn_22 : decode b_T_quarterIn 22 = .ok (.putfield 15, 3) := by decide +kernel
theorem dc_T_quarterIn_25 : decode b_T_quarterIn 25 = .ok (.aload_n 0, 1) := by decide +kernel
theorem dc_T_quarterIn_26 : decode b_T_quarterIn 26 = .ok (.getfield 22, 3) := by decide +kernel
theorem dc_T_quarterIn_29 : decode b_T_quarterIn 29 = .ok (.istore_n 3, 1) := by decide +kernel
theorem dc_T_quarterIn_30 : decode b_T_quarterIn 30 = .ok (.aload_n 0, 1) := by decide +kernel
theorem dc_T_quarterIn_31 : decode b_T_quarterIn 31 = .ok (.aload_n 0, 1) := by decide +kernel
theorem dc_T_quarterIn_32 : decode b_T_quarterIn 32 = .ok (.getfield 25, 3) := by decide +kernel
theorem dc_T_quarterIn_35 : decode b_T_quarterIn 35 = .ok (.putfield 22, 3) := by decide +kernel
theorem dc_T_quarterIn_38 : decode b_T_quarterIn 38 = .ok (.aload_n 0, 1) := by decide +kernel
theorem dc_T_quarterIn_39 : decode b_T_quarterIn 39 = .ok (.iload_n 3, 1) := by decide +kernel
theorem dc_T_quarterIn_40 : decode b_T_quarterIn 40 = .ok (.putfield 25, 3) := by decide +kernel
theorem dc_T_quarterIn_43 : decode b_T_quarterIn 43 = .ok (.return_, 1) := by decide +kernel
theorem dc_T_partComesBefore_0 : decode b_T_partComesBefore 0 = .ok (.aload_n 0, 1) := by decide +kernel
theorem dc_T_partComesBefore_1 : decode b_T_partComesBefore 1 = .ok (.getfield 19, 3) := by decide +kernel
theorem dc_T_partComesBefore_4 : decode b_T_partComesBefore 4 = .ok (.aload_n 1, 1) := by decide +kernel
theorem dc_T_partComesBefore_5 : decode b_T_partComesBefore 5 = .ok (.getfield 19, 3) := by decide +kernel
theorem dc_T_partComesBefore_8 : decode b_T_partComesBefore 8 = .ok (.if_icmp .lt 25, 3) := by decide +kernel
theorem dc_T_partComesBefore_11 : decode b_T_partComesBefore 11 = .ok (.aload_n 0, 1) := by decide +kernel
theorem dc_T_partComesBefore_12 : decode b_T_partComesBefore 12 = .ok (.getfield 19, 3) := by decide +kernel
theorem dc_T_partComesBefore_15 : decode b_T_partComesBefore 15 = .ok (.aload_n 1, 1) := by decide +kernel
theorem dc_T_partComesBefore_16 : decode b_T_partComesBefore 16 = .ok (.getfield 19, 3) := by decide +kernel
theorem dc_T_partComesBefore_19 : decode b_T_partComesBefore 19 = .ok (.if_icmp .ne 18, 3) := by decide +kernel
theorem dc_T_partComesBefore_37 : decode b_T_partComesBefore 37 = .ok (.iconst 0, 1) := by decide +kernel
theorem dc_T_partComesBefore_38 : decode b_T_partComesBefore 38 = .ok (.ireturn, 1) := by decide +kernel
theorem dc_T_partComesBefore_22 : decode b_T_partComesBefore 22 = .ok (.aload_n 0, 1) := by decide +kernel
theorem dc_T_partComesBefore_23 : decode b_T_partComesBefore 23 = .ok (.getfield 15, 3) := by decide +kernel
theorem dc_T_partComesBefore_26 : decode b_T_partComesBefore 26 = .ok (.aload_n 1, 1) := by decide +kernel
theorem dc_T_partComesBefore_27 : decode b_T_partComesBefore 27 = .ok (.getfield 15, 3) := by decide +kernel
theorem dc_T_partComesBefore_30 : decode b_T_partComesBefore 30 = .ok (.if_icmp .ge 7, 3) := by decide +kernel
theorem dc_T_partComesBefore_33 : decode b_T_partComesBefore 33 = .ok (.iconst 1, 1) := by decide +kernel
theorem dc_T_partComesBefore_34 : decode b_T_partComesBefore 34 = .ok (.goto 4, 3) := by decide +kernel
theorem dc_T_partLength_0 : decode b_T_partLength 0 = .ok (.bipush 12, 2) := by decide +kernel
theorem dc_T_partLength_2 : decode b_T_partLength 2 = .ok (.aload_n 0, 1) := by decide +kernel
theorem dc_T_partLength_3 : decode b_T_partLength 3 = .ok (.getfield 31, 3) := by decide +kernel
theorem dc_T_partLength_6 : decode b_T_partLength 6 = .ok (.iadd, 1) := by decide +kernel
theorem dc_T_partLength_7 : decode b_T_partLength 7 = .ok (.ireturn, 1) := by decide +kernel
theorem dc_T_addByte_0 : decode b_T_addByte 0 = .ok (.aload_n 0, 1) := by decide +kernel
theorem dc_T_addByte_1 : decode b_T_addByte 1 = .ok (.getfield 31, 3) := by decide +kernel
theorem dc_T_addByte_4 : decode b_T_addByte 4 = .ok (.aload_n 0, 1) := by decide +kernel
theorem dc_T_addByte_5 : decode b_T_addByte 5 = .ok (.getfield 9, 3) := by decide +kernel
theorem dc_T_addByte_8 : decode b_T_addByte 8 = .ok (.arraylength, 1) := by decide +kernel
theorem dc_T_addByte_9 : decode b_T_addByte 9 = .ok (.if_icmp .ge 23, 3) := by decide +kernel
theorem dc_T_addByte_32 : decode b_T_addByte 32 = .ok (.aload_n 0, 1) := by decide +kernel
theorem dc_T_addByte_33 : decode b_T_addByte 33 = .ok (.getfield 31, 3) := by decide +kernel
theorem dc_T_addByte_36 : decode b_T_addByte 36 = .ok (.ireturn, 1) := by decide +kernel
theorem dc_T_addByte_12 : decode b_T_addByte 12 = .ok (.aload_n 0, 1) := by decide +kernel
theorem dc_T_addByte_13 : decode b_T_addByte 13 = .ok (.getfield 9, 3) := by decide +kernel
theorem dc_T_addByte_16 : decode b_T_addByte 16 = .ok (.aload_n 0, 1) := by decide +kernel
theorem dc_T_addByte_17 : decode b_T_addByte 17 = .ok (.getfield 31, 3) := by decide +kernel
theorem dc_T_addByte_20 : decode b_T_addByte 20 = .ok (.iload_n 1, 1) := by decide +kernel
theorem dc_T_addByte_21 : decode b_T_addByte 21 = .ok (.iastore, 1) := by decide +kernel
theorem dc_T_addByte_22 : decode b_T_addByte 22 = .ok (.aload_n 0, 1) := by decide +kernel
theorem dc_T_addByte_23 : decode b_T_addByte 23 = .ok (.dup, 1) := by decide +kernel
theorem dc_T_addByte_24 : decode b_T_addByte 24 = .ok (.getfield 31, 3) := by decide +kernel
theorem dc_T_addByte_27 : decode b_T_addByte 27 = .ok (.iconst 1, 1) := by decide +kernel
theorem dc_T_addByte_28 : decode b_T_addByte 28 = .ok (.iadd, 1) := by decide +kernel
theorem dc_T_addByte_29 : decode b_T_addByte 29 = .ok (.putfield 31, 3) := by decide +kernel
theorem dc_T_liesOnItsSide_0 : decode b_T_liesOnItsSide 0 = .ok (.aload_n 0, 1) := by decide +kernel
theorem dc_T_liesOnItsSide_1 : decode b_T_liesOnItsSide 1 = .ok (.getfield 28, 3) := by decide +kernel
theorem dc_T_liesOnItsSide_4 : decode b_T_liesOnItsSide 4 = .ok (.invokestatic 34, 3) := by decide +kernel
theorem dc_T_liesOnItsSide_7 : decode b_T_liesOnItsSide 7 = .ok (.iconst 1, 1) := by decide +kernel
theorem dc_T_liesOnItsSide_8 : decode b_T_liesOnItsSide 8 = .ok (.iand, 1) := by decide +kernel
theorem dc_T_liesOnItsSide_9 : decode b_T_liesOnItsSide 9 = .ok (.iconst 1, 1) := by decide +kernel
theorem dc_T_liesOnItsSide_10 : decode b_T_liesOnItsSide 10 = .ok (.if_icmp .ne 7, 3) := by decide +kernel
theorem dc_T_liesOnItsSide_17 : decode b_T_liesOnItsSide 17 = .ok (.iconst 0, 1) := by decide +kernel
theorem dc_T_liesOnItsSide_18 : decode b_T_liesOnItsSide 18 = .ok (.ireturn, 1) := by decide +kernel
theorem dc_T_liesOnItsSide_13 : decode b_T_liesOnItsSide 13 = .ok (.iconst 1, 1) := by decide +kernel
theorem dc_T_liesOnItsSide_14 : decode b_T_liesOnItsSide 14 = .ok (.goto 4, 3) := by decide +kernel
theorem dc_T_ownSample_0 : decode b_T_ownSample 0 = .ok (.iload_n 1, 1) := by decide +kernel
theorem dc_T_ownSample_1 : decode b_T_ownSample 1 = .ok (.aload_n 0, 1) := by decide +kernel
theorem dc_T_ownSample_2 : decode b_T_ownSample 2 = .ok (.getfield 15, 3) := by decide +kernel
theorem dc_T_ownSample_5 : decode b_T_ownSample 5 = .ok (.isub, 1) := by decide +kernel
theorem dc_T_ownSample_6 : decode b_T_ownSample 6 = .ok (.istore_n 3, 1) := by decide +kernel
theorem dc_T_ownSample_7 : decode b_T_ownSample 7 = .ok (.iload_n 2, 1) := by decide +kernel
theorem dc_T_ownSample_8 : decode b_T_ownSample 8 = .ok (.aload_n 0, 1) := by decide +kernel
theorem dc_T_ownSample_9 : decode b_T_ownSample 9 = .ok (.getfield 19, 3) := by decide +kernel
theorem dc_T_ownSample_12 : decode b_T_ownSample 12 = .ok (.isub, 1) := by decide +kernel
theorem dc_T_ownSample_13 : decode b_T_ownSample 13 = .ok (.istore 4, 2) := by decide +kernel
theorem dc_T_ownSample_15 : decode b_T_ownSample 15 = .ok (.aload_n 0, 1) := by decide +kernel
theorem dc_T_ownSample_16 : decode b_T_ownSample 16 = .ok (.getfield 22, 3) := by decide +kernel
theorem dc_T_ownSample_19 : decode b_T_ownSample 19 = .ok (.istore 5, 2) := by decide +kernel
theorem dc_T_ownSample_21 : decode b_T_ownSample 21 = .ok (.aload_n 0, 1) := by decide +kernel
theorem dc_T_ownSample_22 : decode b_T_ownSample 22 = .ok (.getfield 25, 3) := by decide +kernel
theorem dc_T_ownSample_25 : decode b_T_ownSample 25 = .ok (.istore 6, 2) := by decide +kernel
theorem dc_T_ownSample_27 : decode b_T_ownSample 27 = .ok (.iconst 0, 1) := by decide +kernel
theorem dc_T_ownSample_28 : decode b_T_ownSample 28 = .ok (.istore 7, 2) := by decide +kernel
theorem dc_T_ownSample_30 : decode b_T_ownSample 30 = .ok (.iload 7, 2) := by decide +kernel
theorem dc_T_ownSample_32 : decode b_T_ownSample 32 = .ok (.aload_n 0, 1) := by decide +kernel
theorem dc_T_ownSample_33 : decode b_T_ownSample 33 = .ok (.getfield 28, 3) := by decide +kernel
theorem dc_T_ownSample_36 : decode b_T_ownSample 36 = .ok (.invokestatic 34, 3) := by decide +kernel
theorem dc_T_ownSample_39 : decode b_T_ownSample 39 = .ok (.if_icmp .ge 36, 3) := by decide +kernel
theorem dc_T_ownSample_75 : decode b_T_ownSample 75 = .ok (.aload_n 0, 1) := by decide +kernel
theorem dc_T_ownSample_76 : decode b_T_ownSample 76 = .ok (.getfield 28, 3) := by decide +kernel
theorem dc_T_ownSample_79 : decode b_T_ownSample 79 = .ok (.invokestatic 42, 3) := by decide +kernel
theorem dc_T_ownSample_82 : decode b_T_ownSample 82 = .ok (.ifCond .eq 10, 3) := by decide +kernel
theorem dc_T_ownSample_85 : decode b_T_ownSample 85 = .ok (.iload 5, 2) := by decide +kernel
theorem dc_T_ownSample_87 : decode b_T_ownSample 87 = .ok (.iconst 1, 1) := by decide +kernel
theorem dc_T_ownSample_88 : decode b_T_ownSample 88 = .ok (.isub, 1) := by decide +kernel
theorem dc_T_ownSample_89 : decode b_T_ownSample 89 = .ok (.iload_n 3, 1) := by decide +kernel
theorem dc_T_ownSample_90 : decode b_T_ownSample 90 = .ok (.isub, 1) := by decide +kernel
theorem dc_T_ownSample_91 : decode b_T_ownSample 91 = .ok (.istore_n 3, 1) := by decide +kernel
theorem dc_T_ownSample_42 : decode b_T_ownSample 42 = .ok (.iload_n 3, 1) := by decide +kernel
theorem dc_T_ownSample_43 : decode b_T_ownSample 43 = .ok (.istore 8, 2) := by decide +kernel
theorem dc_T_ownSample_45 : decode b_T_ownSample 45 = .ok (.iload 4, 2) := by decide +kernel
theorem dc_T_ownSample_47 : decode b_T_ownSample 47 = .ok (.istore_n 3, 1) := by decide +kernel
theorem dc_T_ownSample_48 : decode b_T_ownSample 48 = .ok (.iload 5, 2) := by decide +kernel
theorem dc_T_ownSample_50 : decode b_T_ownSample 50 = .ok (.iconst 1, 1) := by decide +kernel
theorem dc_T_ownSample_51 : decode b_T_ownSample 51 = .ok (.isub, 1) := by decide +kernel
theorem dc_T_ownSample_52 : decode b_T_ownSample 52 = .ok (.iload 8, 2) := by decide +kernel
theorem dc_T_ownSample_54 : decode b_T_ownSample 54 = .ok (.isub, 1) := by decide +kernel
theorem dc_T_ownSample_55 : decode b_T_ownSample 55 = .ok (.istore 4, 2) := by decide +kernel
theorem dc_T_ownSample_57 : decode b_T_ownSample 57 = .ok (.iload 5, 2) := by decide +kernel
theorem dc_T_ownSample_59 : decode b_T_ownSample 59 = .ok (.istore 9, 2) := by decide +kernel
theorem dc_T_ownSample_61 : decode b_T_ownSample 61 = .ok (.iload 6, 2) := by decide +kernel
theorem dc_T_ownSample_63 : decode b_T_ownSample 63 = .ok (.istore 5, 2) := by decide +kernel
theorem dc_T_ownSample_65 : decode b_T_ownSample 65 = .ok (.iload 9, 2) := by decide +kernel
theorem dc_T_ownSample_67 : decode b_T_ownSample 67 = .ok (.istore 6, 2) := by decide +kernel
theorem dc_T_ownSample_69 : decode b_T_ownSample 69 = .ok (.iinc 7 1, 3) := by decide +kernel
theorem dc_T_ownSample_72 : decode b_T_ownSample 72 = .ok (.goto (-42), 3) := by decide +kernel
theorem dc_T_ownSample_92 : decode b_T_ownSample 92 = .ok (.bipush 64, 2) := by decide +kernel
theorem dc_T_ownSample_94 : decode b_T_ownSample 94 = .ok (.iload 4, 2) := by decide +kernel
theorem dc_T_ownSample_96 : decode b_T_ownSample 96 = .ok (.imul, 1) := by decide +kernel
theorem dc_T_ownSample_97 : decode b_T_ownSample 97 = .ok (.iload_n 3, 1) := by decide +kernel
theorem dc_T_ownSample_98 : decode b_T_ownSample 98 = .ok (.iadd, 1) := by decide +kernel
theorem dc_T_ownSample_99 : decode b_T_ownSample 99 = .ok (.ireturn, 1) := by decide +kernel
theorem dc_T_ownWidth_0 : decode b_T_ownWidth 0 = .ok (.aload_n 0, 1) := by decide +kernel
theorem dc_T_ownWidth_1 : decode b_T_ownWidth 1 = .ok (.invokevirtual 38, 3) := by decide +kernel
theorem dc_T_ownWidth_4 : decode b_T_ownWidth 4 = .ok (.ifCond .eq 10, 3) := by decide +kernel
theorem dc_T_ownWidth_14 : decode b_T_ownWidth 14 = .ok (.aload_n 0, 1) := by decide +kernel
theorem dc_T_ownWidth_15 : decode b_T_ownWidth 15 = .ok (.getfield 22, 3) := by decide +kernel
theorem dc_T_ownWidth_18 : decode b_T_ownWidth 18 = .ok (.ireturn, 1) := by decide +kernel
theorem dc_T_ownWidth_7 : decode b_T_ownWidth 7 = .ok (.aload_n 0, 1) := by decide +kernel
theorem dc_T_ownWidth_8 : decode b_T_ownWidth 8 = .ok (.getfield 25, 3) := by decide +kernel
theorem dc_T_ownWidth_11 : decode b_T_ownWidth 11 = .ok (.goto 7, 3) := by decide +kernel
theorem dc_T_ownHeight_0 : decode b_T_ownHeight 0 = .ok (.aload_n 0, 1) := by decide +kernel
theorem dc_T_ownHeight_1 : decode b_T_ownHeight 1 = .ok (.invokevirtual 38, 3) := by decide +kernel
theorem dc_T_ownHeight_4 : decode b_T_ownHeight 4 = .ok (.ifCond .eq 10, 3) := by decide +kernel
theorem dc_T_ownHeight_14 : decode b_T_ownHeight 14 = .ok (.aload_n 0, 1) := by decide +kernel
theorem dc_T_ownHeight_15 : decode b_T_ownHeight 15 = .ok (.getfield 25, 3) := by decide +kernel
theorem dc_T_ownHeight_18 : decode b_T_ownHeight 18 = .ok (.ireturn, 1) := by decide +kernel
theorem dc_T_ownHeight_7 : decode b_T_ownHeight 7 = .ok (.aload_n 0, 1) := by decide +kernel
theorem dc_T_ownHeight_8 : decode b_T_ownHeight 8 = .ok (.getfield 22, 3) := by decide +kernel
theorem dc_T_ownHeight_11 : decode b_T_ownHeight 11 = .ok (.goto 7, 3) := by decide +kernel
theorem dc_T_putPart_0 : decode b_T_putPart 0 = .ok (.aload_n 1, 1) := by decide +kernel
theorem dc_T_putPart_1 : decode b_T_putPart 1 = .ok (.getfield 46, 3) := by decide +kernel
theorem dc_T_putPart_4 : decode b_T_putPart 4 = .ok (.istore_n 2, 1) := by decide +kernel
theorem dc_T_putPart_5 : decode b_T_putPart 5 = .ok (.aload_n 1, 1) := by decide +kernel
theorem dc_T_putPart_6 : decode b_T_putPart 6 = .ok (.aload_n 0, 1) := by decide +kernel
theorem dc_T_putPart_7 : decode b_T_putPart 7 = .ok (.getfield 15, 3) := by decide +kernel
theorem dc_T_putPart_10 : decode b_T_putPart 10 = .ok (.invokevirtual 51, 3) := by decide +kernel
theorem dc_T_putPart_13 : decode b_T_putPart 13 = .ok (.aload_n 1, 1) := by decide +kernel
theorem dc_T_putPart_14 : decode b_T_putPart 14 = .ok (.aload_n 0, 1) := by decide +kernel
theorem dc_T_putPart_15 : decode b_T_putPart 15 = .ok (.getfield 19, 3) := by decide +kernel
theorem dc_T_putPart_18 : decode b_T_putPart 18 = .ok (.invokevirtual 51, 3) := by decide +kernel
theorem dc_T_putPart_21 : decode b_T_putPart 21 = .ok (.aload_n 1, 1) := by decide +kernel
theorem dc_T_putPart_22 : decode b_T_putPart 22 = .ok (.aload_n 0, 1) := by decide +kernel
theorem dc_T_putPart_23 : decode b_T_putPart 23 = .ok (.getfield 22, 3) := by decide +kernel
theorem dc_T_putPart_26 : decode b_T_putPart 26 = .ok (.invokevirtual 51, 3) := by decide +kernel
theorem dc_T_putPart_29 : decode b_T_putPart 29 = .ok (.aload_n 1, 1) := by decide +kernel
theorem dc_T_putPart_30 : decode b_T_putPart 30 = .ok (.aload_n 0, 1) := by decide +kernel
theorem dc_T_putPart_31 : decode b_T_putPart 31 = .ok (.getfield 25, 3) := by decide +kernel
theorem dc_T_putPart_34 : decode b_T_putPart 34 = .ok (.invokevirtual 51, 3) := by decide +kernel
theorem dc_T_putPart_37 : decode b_T_putPart 37 = .ok (.aload_n 1, 1) := by decide +kernel
theorem dc_T_putPart_38 : decode b_T_putPart 38 = .ok (.aload_n 0, 1) := by decide +kernel
theorem dc_T_putPart_39 : decode b_T_putPart 39 = .ok (.getfield 28, 3) := by decide +kernel
theorem dc_T_putPart_42 : decode b_T_putPart 42 = .ok (.invokevirtual 55, 3) := by decide +kernel
theorem dc_T_putPart_45 : decode b_T_putPart 45 = .ok (.aload_n 1, 1) := by decide +kernel
theorem dc_T_putPart_46 : decode b_T_putPart 46 = .ok (.aload_n 0, 1) := by decide +kernel
theorem dc_T_putPart_47 : decode b_T_putPart 47 = .ok (.getfield 31, 3) := by decide +kernel
theorem dc_T_putPart_50 : decode b_T_putPart 50 = .ok (.invokevirtual 55, 3) := by decide +kernel
theorem dc_T_putPart_53 : decode b_T_putPart 53 = .ok (.iconst 0, 1) := by decide +kernel
theorem dc_T_putPart_54 : decode b_T_putPart 54 = .ok (.istore_n 3, 1) := by decide +kernel
theorem dc_T_putPart_55 : decode b_T_putPart 55 = .ok (.iload_n 3, 1) := by decide +kernel
theorem dc_T_putPart_56 : decode b_T_putPart 56 = .ok (.aload_n 0, 1) := by decide +kernel
theorem dc_T_putPart_57 : decode b_T_putPart 57 = .ok (.getfield 31, 3) := by decide +kernel
theorem dc_T_putPart_60 : decode b_T_putPart 60 = .ok (.if_icmp .ge 19, 3) := by decide +kernel
theorem dc_T_putPart_79 : decode b_T_putPart 79 = .ok (.aload_n 1, 1) := by decide +kernel
theorem dc_T_putPart_80 : decode b_T_putPart 80 = .ok (.aload_n 1, 1) := by decide +kernel
theorem dc_T_putPart_81 : decode b_T_putPart 81 = .ok (.iload_n 2, 1) := by decide +kernel
theorem dc_T_putPart_82 : decode b_T_putPart 82 = .ok (.invokevirtual 58, 3) := by decide +kernel
theorem dc_T_putPart_85 : decode b_T_putPart 85 = .ok (.invokevirtual 51, 3) := by decide +kernel
theorem dc_T_putPart_88 : decode b_T_putPart 88 = .ok (.return_, 1) := by decide +kernel
theorem dc_T_putPart_63 : decode b_T_putPart 63 = .ok (.aload_n 1, 1) := by decide +kernel
theorem dc_T_putPart_64 : decode b_T_putPart 64 = .ok (.aload_n 0, 1) := by decide +kernel
theorem dc_T_putPart_65 : decode b_T_putPart 65 = .ok (.getfield 9, 3) := by decide +kernel
theorem dc_T_putPart_68 : decode b_T_putPart 68 = .ok (.iload_n 3, 1) := by decide +kernel
theorem dc_T_putPart_69 : decode b_T_putPart 69 = .ok (.iaload, 1) := by decide +kernel
theorem dc_T_putPart_70 : decode b_T_putPart 70 = .ok (.invokevirtual 55, 3) := by decide +kernel
theorem dc_T_putPart_73 : decode b_T_putPart 73 = .ok (.iinc 3 1, 3) := by decide +kernel
theorem dc_T_putPart_76 : decode b_T_putPart 76 = .ok (.goto (-21), 3) := by decide +kernel
