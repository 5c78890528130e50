theorem dX3_readFrom_69 : decode cX3_readFrom 69 = .ok (.bipush 59, 2) := by decide +kernel
theorem dX3_readFrom_71 : decode cX3_readFrom 71 = .ok (.invokevirtual 44, 3) := by decide +kernel
theorem dX3_readFrom_74 : decode cX3_readFrom 74 = .ok (.ifCond .ne 5, 3) := by decide +kernel
theorem dX3_readFrom_77 : decode cX3_readFrom 77 = .ok (.iconst 0, 1) := by decide +kernel
theorem dX3_readFrom_78 : decode cX3_readFrom 78 = .ok (.ireturn, 1) := by decide +kernel
theorem dX3_readFrom_79 : decode cX3_readFrom 79 = .ok (.iinc 2 1, 3) := by decide +kernel
theorem dX3_readFrom_82 : decode cX3_readFrom 82 = .ok (.goto (-75), 3) := by decide +kernel
theorem dX3_readFrom_85 : decode cX3_readFrom 85 = .ok (.iconst 0, 1) := by decide +kernel
theorem dX3_readFrom_86 : decode cX3_readFrom 86 = .ok (.ireturn, 1) := by decide +kernel
theorem dX4_init_0 : decode cX4_init 0 = .ok (.aload_n 0, 1) := by decide +kernel
theorem dX4_init_1 : decode cX4_init 1 = .ok (.invokespecial 3, 3) := by decide +kernel
theorem dX4_init_4 : decode cX4_init 4 = .ok (.aload_n 0, 1) := by decide +kernel
theorem dX4_init_5 : decode cX4_init 5 = .ok (.bipush 13, 2) := by decide +kernel
theorem dX4_init_7 : decode cX4_init 7 = .ok (.newarray .long, 2) := by decide +kernel
theorem dX4_init_9 : decode cX4_init 9 = .ok (.putfield 11, 3) := by decide +kernel
theorem dX4_init_12 : decode cX4_init 12 = .ok (.aload_n 0, 1) := by decide +kernel
theorem dX4_init_13 : decode cX4_init 13 = .ok (.sipush 208, 3) := by decide +kernel
theorem dX4_init_16 : decode cX4_init 16 = .ok (.newarray .long, 2) := by decide +kernel
theorem dX4_init_18 : decode cX4_init 18 = .ok (.putfield 15, 3) := by decide +kernel
theorem dX4_init_21 : decode cX4_init 21 = .ok (.aload_n 0, 1) := by decide +kernel
theorem dX4_init_22 : decode cX4_init 22 = .ok (.bipush 26, 2) := by decide +kernel
theorem dX4_init_24 : decode cX4_init 24 = .ok (.newarray .int, 2) := by decide +kernel
theorem dX4_init_26 : decode cX4_init 26 = .ok (.putfield 18, 3) := by decide +kernel
theorem dX4_init_29 : decode cX4_init 29 = .ok (.aload_n 0, 1) := by decide +kernel
theorem dX4_init_30 : decode cX4_init 30 = .ok (.bipush 26, 2) := by decide +kernel
theorem dX4_init_32 : decode cX4_init 32 = .ok (.newarray .long, 2) := by decide +kernel
theorem dX4_init_34 : decode cX4_init 34 = .ok (.putfield 22, 3) := by decide +kernel
theorem dX4_init_37 : decode cX4_init 37 = .ok (.aload_n 0, 1) := by decide +kernel
theorem dX4_init_38 : decode cX4_init 38 = .ok (.bipush 9, 2) := by decide +kernel
theorem dX4_init_40 : decode cX4_init 40 = .ok (.newarray .int, 2) := by decide +kernel
theorem dX4_init_42 : decode cX4_init 42 = .ok (.putfield 25, 3) := by decide +kernel
theorem dX4_init_45 : decode cX4_init 45 = .ok (.aload_n 0, 1) := by decide +kernel
theorem dX4_init_46 : decode cX4_init 46 = .ok (.aload_n 1, 1) := by decide +kernel
theorem dX4_init_47 : decode cX4_init 47 = .ok (.putfield 28, 3) := by decide +kernel
theorem dX4_init_50 : decode cX4_init 50 = .ok (.return_, 1) := by decide +kernel
theorem dX4_waysTo_0 : decode cX4_waysTo 0 = .ok (.aload_n 0, 1) := by decide +kernel
theorem dX4_waysTo_1 : decode cX4_waysTo 1 = .ok (.invokevirtual 32, 3) := by decide +kernel
theorem dX4_waysTo_4 : decode cX4_waysTo 4 = .ok (.iconst 0, 1) := by decide +kernel
theorem dX4_waysTo_5 : decode cX4_waysTo 5 = .ok (.istore_n 2, 1) := by decide +kernel
theorem dX4_waysTo_6 : decode cX4_waysTo 6 = .ok (.iload_n 2, 1) := by decide +kernel
theorem dX4_waysTo_7 : decode cX4_waysTo 7 = .ok (.aload_n 0, 1) := by decide +kernel
theorem dX4_waysTo_8 : decode cX4_waysTo 8 = .ok (.getfield 28, 3) := by decide +kernel
theorem dX4_waysTo_11 : decode cX4_waysTo 11 = .ok (.getfield 35, 3) := by decide +kernel
theorem dX4_waysTo_14 : decode cX4_waysTo 14 = .ok (.if_icmp .ge 87, 3) := by decide +kernel
theorem dX4_waysTo_17 : decode cX4_waysTo 17 = .ok (.iconst 0, 1) := by decide +kernel
theorem dX4_waysTo_18 : decode cX4_waysTo 18 = .ok (.istore_n 3, 1) := by decide +kernel
theorem dX4_waysTo_19 : decode cX4_waysTo 19 = .ok (.iload_n 3, 1) := by decide +kernel
theorem dX4_waysTo_20 : decode cX4_waysTo 20 = .ok (.aload_n 0, 1) := by decide +kernel
theorem dX4_waysTo_21 : decode cX4_waysTo 21 = .ok (.getfield 28, 3) := by decide +kernel
theorem dX4_waysTo_24 : decode cX4_waysTo 24 = .ok (.getfield 41, 3) := by decide +kernel
theorem dX4_waysTo_27 : decode cX4_waysTo 27 = .ok (.iload_n 2, 1) := by decide +kernel
theorem dX4_waysTo_28 : decode cX4_waysTo 28 = .ok (.iaload, 1) := by decide +kernel
theorem dX4_waysTo_29 : decode cX4_waysTo 29 = .ok (.if_icmp .ge 66, 3) := by decide +kernel
theorem dX4_waysTo_32 : decode cX4_waysTo 32 = .ok (.aload_n 1, 1) := by decide +kernel
theorem dX4_waysTo_33 : decode cX4_waysTo 33 = .ok (.getfield 44, 3) := by decide +kernel
theorem dX4_waysTo_36 : decode cX4_waysTo 36 = .ok (.istore 4, 2) := by decide +kernel
theorem dX4_waysTo_38 : decode cX4_waysTo 38 = .ok (.iload 4, 2) := by decide +kernel
theorem dX4_waysTo_40 : decode cX4_waysTo 40 = .ok (.ifCond .le 49, 3) := by decide +kernel
theorem dX4_waysTo_43 : decode cX4_waysTo 43 = .ok (.aload_n 1, 1) := by decide +kernel
theorem dX4_waysTo_44 : decode cX4_waysTo 44 = .ok (.getfield 49, 3) := by decide +kernel
theorem dX4_waysTo_47 : decode cX4_waysTo 47 = .ok (.iload 4, 2) := by decide +kernel
theorem dX4_waysTo_49 : decode cX4_waysTo 49 = .ok (.iconst 1, 1) := by decide +kernel
theorem dX4_waysTo_50 : decode cX4_waysTo 50 = .ok (.isub, 1) := by decide +kernel
theorem dX4_waysTo_51 : decode cX4_waysTo 51 = .ok (.iaload, 1) := by decide +kernel
theorem dX4_waysTo_52 : decode cX4_waysTo 52 = .ok (.aload_n 0, 1) := by decide +kernel
theorem dX4_waysTo_53 : decode cX4_waysTo 53 = .ok (.getfield 28, 3) := by decide +kernel
theorem dX4_waysTo_56 : decode cX4_waysTo 56 = .ok (.iload_n 2, 1) := by decide +kernel
theorem dX4_waysTo_57 : decode cX4_waysTo 57 = .ok (.iload_n 3, 1) := by decide +kernel
theorem dX4_waysTo_58 : decode cX4_waysTo 58 = .ok (.invokevirtual 52, 3) := by decide +kernel
theorem dX4_waysTo_61 : decode cX4_waysTo 61 = .ok (.if_icmp .ne 22, 3) := by decide +kernel
theorem dX4_waysTo_64 : decode cX4_waysTo 64 = .ok (.aload_n 0, 1) := by decide +kernel
theorem dX4_waysTo_65 : decode cX4_waysTo 65 = .ok (.getfield 11, 3) := by decide +kernel
theorem dX4_waysTo_68 : decode cX4_waysTo 68 = .ok (.iload 4, 2) := by decide +kernel
theorem dX4_waysTo_70 : decode cX4_waysTo 70 = .ok (.dup2, 1) := by decide +kernel
theorem dX4_waysTo_71 : decode cX4_waysTo 71 = .ok (.laload, 1) := by decide +kernel
theorem dX4_waysTo_72 : decode cX4_waysTo 72 = .ok (.aload_n 0, 1) := by decide +kernel
theorem dX4_waysTo_73 : decode cX4_waysTo 73 = .ok (.getfield 11, 3) := by decide +kernel
theorem dX4_waysTo_76 : decode cX4_waysTo 76 = .ok (.iload 4, 2) := by decide +kernel
theorem dX4_waysTo_78 : decode cX4_waysTo 78 = .ok (.iconst 1, 1) := by decide +kernel
theorem dX4_waysTo_79 : decode cX4_waysTo 79 = .ok (.isub, 1) := by decide +kernel
theorem dX4_waysTo_80 : decode cX4_waysTo 80 = .ok (.laload, 1) := by decide +kernel
theorem dX4_waysTo_81 : decode cX4_waysTo 81 = .ok (.ladd, 1) := by decide +kernel
theorem dX4_waysTo_82 : decode cX4_waysTo 82 = .ok (.lastore, 1) := by decide +kernel
theorem dX4_waysTo_83 : decode cX4_waysTo 83 = .ok (.iinc 4 (-1), 3) := by decide +kernel
theorem dX4_waysTo_86 : decode cX4_waysTo 86 = .ok (.goto (-48), 3) := by decide +kernel
theorem dX4_waysTo_89 : decode cX4_waysTo 89 = .ok (.iinc 3 1, 3) := by decide +kernel
theorem dX4_waysTo_92 : decode cX4_waysTo 92 = .ok (.goto (-73), 3) := by decide +kernel
theorem dX4_waysTo_95 : decode cX4_waysTo 95 = .ok (.iinc 2 1, 3) := by decide +kernel
theorem dX4_waysTo_98 : decode cX4_waysTo 98 = .ok (.goto (-92), 3) := by decide +kernel
theorem dX4_waysTo_101 : decode cX4_waysTo 101 = .ok (.aload_n 0, 1) := by decide +kernel
theorem dX4_waysTo_102 : decode cX4_waysTo 102 = .ok (.getfield 11, 3) := by decide +kernel
theorem dX4_waysTo_105 : decode cX4_waysTo 105 = .ok (.aload_n 1, 1) := by decide +kernel
theorem dX4_waysTo_106 : decode cX4_waysTo 106 = .ok (.getfield 44, 3) := by decide +kernel
theorem dX4_waysTo_109 : decode cX4_waysTo 109 = .ok (.laload, 1) := by decide +kernel
theorem dX4_waysTo_110 : decode cX4_waysTo 110 = .ok (.lreturn, 1) := by decide +kernel
theorem dX4_startWays_0 : decode cX4_startWays 0 = .ok (.iconst 0, 1) := by decide +kernel
theorem dX4_startWays_1 : decode cX4_startWays 1 = .ok (.istore_n 1, 1) := by decide +kernel
theorem dX4_startWays_2 : decode cX4_startWays 2 = .ok (.iload_n 1, 1) := by decide +kernel
theorem dX4_startWays_3 : decode cX4_startWays 3 = .ok (.bipush 13, 2) := by decide +kernel
theorem dX4_startWays_5 : decode cX4_startWays 5 = .ok (.if_icmp .ge 16, 3) := by decide +kernel
theorem dX4_startWays_8 : decode cX4_startWays 8 = .ok (.aload_n 0, 1) := by decide +kernel
theorem dX4_startWays_9 : decode cX4_startWays 9 = .ok (.getfield 11, 3) := by decide +kernel
theorem dX4_startWays_12 : decode cX4_startWays 12 = .ok (.iload_n 1, 1) := by decide +kernel
theorem dX4_startWays_13 : decode cX4_startWays 13 = .ok (.lconst 0, 1) := by decide +kernel
theorem dX4_startWays_14 : decode cX4_startWays 14 = .ok (.lastore, 1) := by decide +kernel
theorem dX4_startWays_15 : decode cX4_startWays 15 = .ok (.iinc 1 1, 3) := by decide +kernel
theorem dX4_startWays_18 : decode cX4_startWays 18 = .ok (.goto (-16), 3) := by decide +kernel
theorem dX4_startWays_21 : decode cX4_startWays 21 = .ok (.aload_n 0, 1) := by decide +kernel
theorem dX4_startWays_22 : decode cX4_startWays 22 = .ok (.getfield 11, 3) := by decide +kernel
theorem dX4_startWays_25 : decode cX4_startWays 25 = .ok (.iconst 0, 1) := by decide +kernel
theorem dX4_startWays_26 : decode cX4_startWays 26 = .ok (.lconst 1, 1) := by decide +kernel
theorem dX4_startWays_27 : decode cX4_startWays 27 = .ok (.lastore, 1) := by decide +kernel
theorem dX4_startWays_28 : decode cX4_startWays 28 = .ok (.return_, 1) := by decide +kernel
theorem dX4_unlikeRows_0 : decode cX4_unlikeRows 0 = .ok (.aload_n 0, 1) := by decide +kernel
theorem dX4_unlikeRows_1 : decode cX4_unlikeRows 1 = .ok (.invokevirtual 32, 3) := by decide +kernel
theorem dX4_unlikeRows_4 : decode cX4_unlikeRows 4 = .ok (.iconst 0, 1) := by decide +kernel
theorem dX4_unlikeRows_5 : decode cX4_unlikeRows 5 = .ok (.istore_n 2, 1) := by decide +kernel
theorem dX4_unlikeRows_6 : decode cX4_unlikeRows 6 = .ok (.iload_n 2, 1) := by decide +kernel
theorem dX4_unlikeRows_7 : decode cX4_unlikeRows 7 = .ok (.aload_n 0, 1) := by decide +kernel
theorem dX4_unlikeRows_8 : decode cX4_unlikeRows 8 = .ok (.getfield 15, 3) := by decide +kernel
theorem dX4_unlikeRows_11 : decode cX4_unlikeRows 11 = .ok (.arraylength, 1) := by decide +kernel
theorem dX4_unlikeRows_12 : decode cX4_unlikeRows 12 = .ok (.if_icmp .ge 16, 3) := by decide +kernel
theorem dX4_unlikeRows_15 : decode cX4_unlikeRows 15 = .ok (.aload_n 0, 1) := by decide +kernel
theorem dX4_unlikeRows_16 : decode cX4_unlikeRows 16 = .ok (.getfield 15, 3) := by decide +kernel
theorem dX4_unlikeRows_19 : decode cX4_unlikeRows 19 = .ok (.iload_n 2, 1) := by decide +kernel
theorem dX4_unlikeRows_20 : decode cX4_unlikeRows 20 = .ok (.lconst 0, 1) := by decide +kernel
theorem dX4_unlikeRows_21 : decode cX4_unlikeRows 21 = .ok (.lastore, 1) := by decide +kernel
theorem dX4_unlikeRows_22 : decode cX4_unlikeRows 22 = .ok (.iinc 2 1, 3) := by decide +kernel
theorem dX4_unlikeRows_25 : decode cX4_unlikeRows 25 = .ok (.goto (-19), 3) := by decide +kernel
theorem dX4_unlikeRows_28 : decode cX4_unlikeRows 28 = .ok (.iconst 0, 1) := by decide +kernel
theorem dX4_unlikeRows_29 : decode cX4_unlikeRows 29 = .ok (.istore_n 2, 1) := by decide +kernel
theorem dX4_unlikeRows_30 : decode cX4_unlikeRows 30 = .ok (.iload_n 2, 1) := by decide +kernel
theorem dX4_unlikeRows_31 : decode cX4_unlikeRows 31 = .ok (.aload_n 0, 1) := by decide +kernel
theorem dX4_unlikeRows_32 : decode cX4_unlikeRows 32 = .ok (.getfield 28, 3) := by decide +kernel
theorem dX4_unlikeRows_35 : decode cX4_unlikeRows 35 = .ok (.getfield 35, 3) := by decide +kernel
theorem dX4_unlikeRows_38 : decode cX4_unlikeRows 38 = .ok (.if_icmp .ge 43, 3) := by decide +kernel
theorem dX4_unlikeRows_41 : decode cX4_unlikeRows 41 = .ok (.iconst 0, 1) := by decide +kernel
theorem dX4_unlikeRows_42 : decode cX4_unlikeRows 42 = .ok (.istore_n 3, 1) := by decide +kernel
theorem dX4_unlikeRows_43 : decode cX4_unlikeRows 43 = .ok (.iload_n 3, 1) := by decide +kernel
theorem dX4_unlikeRows_44 : decode cX4_unlikeRows 44 = .ok (.aload_n 0, 1) := by decide +kernel
theorem dX4_unlikeRows_45 : decode cX4_unlikeRows 45 = .ok (.getfield 28, 3) := by decide +kernel
theorem dX4_unlikeRows_48 : decode cX4_unlikeRows 48 = .ok (.getfield 41, 3) := by decide +kernel
theorem dX4_unlikeRows_51 : decode cX4_unlikeRows 51 = .ok (.iload_n 2, 1) := by decide +kernel
theorem dX4_unlikeRows_52 : decode cX4_unlikeRows 52 = .ok (.iaload, 1) := by decide +kernel
theorem dX4_unlikeRows_53 : decode cX4_unlikeRows 53 = .ok (.if_icmp .ge 22, 3) := by decide +kernel
theorem dX4_unlikeRows_56 : decode cX4_unlikeRows 56 = .ok (.aload_n 0, 1) := by decide +kernel
theorem dX4_unlikeRows_57 : decode cX4_unlikeRows 57 = .ok (.aload_n 0, 1) := by decide +kernel
theorem dX4_unlikeRows_58 : decode cX4_unlikeRows 58 = .ok (.getfield 28, 3) := by decide +kernel
theorem dX4_unlikeRows_61 : decode cX4_unlikeRows 61 = .ok (.iload_n 2, 1) := by decide +kernel
theorem dX4_unlikeRows_62 : decode cX4_unlikeRows 62 = .ok (.iload_n 3, 1) := by decide +kernel
theorem dX4_unlikeRows_63 : decode cX4_unlikeRows 63 = .ok (.invokevirtual 52, 3) := by decide +kernel
theorem dX4_unlikeRows_66 : decode cX4_unlikeRows 66 = .ok (.invokevirtual 56, 3) := by decide +kernel
theorem dX4_unlikeRows_69 : decode cX4_unlikeRows 69 = .ok (.iinc 3 1, 3) := by decide +kernel
theorem dX4_unlikeRows_72 : decode cX4_unlikeRows 72 = .ok (.goto (-29), 3) := by decide +kernel
theorem dX4_unlikeRows_75 : decode cX4_unlikeRows 75 = .ok (.iinc 2 1, 3) := by decide +kernel
theorem dX4_unlikeRows_78 : decode cX4_unlikeRows 78 = .ok (.goto (-48), 3) := by decide +kernel
theorem dX4_unlikeRows_81 : decode cX4_unlikeRows 81 = .ok (.iload_n 1, 1) := by decide +kernel
theorem dX4_unlikeRows_82 : decode cX4_unlikeRows 82 = .ok (.ifCond .lt 18, 3) := by decide +kernel
theorem dX4_unlikeRows_85 : decode cX4_unlikeRows 85 = .ok (.iload_n 1, 1) := by decide +kernel
theorem dX4_unlikeRows_86 : decode cX4_unlikeRows 86 = .ok (.bipush 13, 2) := by decide +kernel
theorem dX4_unlikeRows_88 : decode cX4_unlikeRows 88 = .ok (.if_icmp .ge 12, 3) := by decide +kernel
theorem dX4_unlikeRows_91 : decode cX4_unlikeRows 91 = .ok (.aload_n 0, 1) := by decide +kernel
theorem dX4_unlikeRows_92 : decode cX4_unlikeRows 92 = .ok (.getfield 11, 3) := by decide +kernel
theorem dX4_unlikeRows_95 : decode cX4_unlikeRows 95 = .ok (.iload_n 1, 1) := by decide +kernel
theorem dX4_unlikeRows_96 : decode cX4_unlikeRows 96 = .ok (.laload, 1) := by decide +kernel
theorem dX4_unlikeRows_97 : decode cX4_unlikeRows 97 = .ok (.goto 4, 3) := by decide +kernel
theorem dX4_unlikeRows_100 : decode cX4_unlikeRows 100 = .ok (.lconst 0, 1) := by decide +kernel
theorem dX4_unlikeRows_101 : decode cX4_unlikeRows 101 = .ok (.lreturn, 1) := by decide +kernel
theorem dX4_addRowsWith_0 : decode cX4_addRowsWith 0 = .ok (.iload_n 1, 1) := by decide +kernel
theorem dX4_addRowsWith_1 : decode cX4_addRowsWith 1 = .ok (.bipush 13, 2) := by decide +kernel
theorem dX4_addRowsWith_3 : decode cX4_addRowsWith 3 = .ok (.imul, 1) := by decide +kernel
theorem dX4_addRowsWith_4 : decode cX4_addRowsWith 4 = .ok (.istore_n 2, 1) := by decide +kernel
theorem dX4_addRowsWith_5 : decode cX4_addRowsWith 5 = .ok (.bipush 12, 2) := by decide +kernel
theorem dX4_addRowsWith_7 : decode cX4_addRowsWith 7 = .ok (.istore_n 3, 1) := by decide +kernel
theorem dX4_addRowsWith_8 : decode cX4_addRowsWith 8 = .ok (.iload_n 3, 1) := by decide +kernel
theorem dX4_addRowsWith_9 : decode cX4_addRowsWith 9 = .ok (.ifCond .le 53, 3) := by decide +kernel
theorem dX4_addRowsWith_12 : decode cX4_addRowsWith 12 = .ok (.aload_n 0, 1) := by decide +kernel
theorem dX4_addRowsWith_13 : decode cX4_addRowsWith 13 = .ok (.getfield 11, 3) := by decide +kernel
theorem dX4_addRowsWith_16 : decode cX4_addRowsWith 16 = .ok (.iload_n 3, 1) := by decide +kernel
theorem dX4_addRowsWith_17 : decode cX4_addRowsWith 17 = .ok (.iconst 1, 1) := by decide +kernel
theorem dX4_addRowsWith_18 : decode cX4_addRowsWith 18 = .ok (.isub, 1) := by decide +kernel
theorem dX4_addRowsWith_19 : decode cX4_addRowsWith 19 = .ok (.laload, 1) := by decide +kernel
theorem dX4_addRowsWith_20 : decode cX4_addRowsWith 20 = .ok (.lstore 4, 2) := by decide +kernel
theorem dX4_addRowsWith_22 : decode cX4_addRowsWith 22 = .ok (.aload_n 0, 1) := by decide +kernel
theorem dX4_addRowsWith_23 : decode cX4_addRowsWith 23 = .ok (.getfield 11, 3) := by decide +kernel
theorem dX4_addRowsWith_26 : decode cX4_addRowsWith 26 = .ok (.iload_n 3, 1) := by decide +kernel
theorem dX4_addRowsWith_27 : decode cX4_addRowsWith 27 = .ok (.dup2, 1) := by decide +kernel
theorem dX4_addRowsWith_28 : decode cX4_addRowsWith 28 = .ok (.laload, 1) := by decide +kernel
theorem dX4_addRowsWith_29 : decode cX4_addRowsWith 29 = .ok (.lload 4, 2) := by decide +kernel
theorem dX4_addRowsWith_31 : decode cX4_addRowsWith 31 = .ok (.aload_n 0, 1) := by decide +kernel
theorem dX4_addRowsWith_32 : decode cX4_addRowsWith 32 = .ok (.getfield 15, 3) := by decide +kernel
theorem dX4_addRowsWith_35 : decode cX4_addRowsWith 35 = .ok (.iload_n 2, 1) := by decide +kernel
theorem dX4_addRowsWith_36 : decode cX4_addRowsWith 36 = .ok (.iload_n 3, 1) := by decide +kernel
theorem dX4_addRowsWith_37 : decode cX4_addRowsWith 37 = .ok (.iadd, 1) := by decide +kernel
theorem dX4_addRowsWith_38 : decode cX4_addRowsWith 38 = .ok (.iconst 1, 1) := by decide +kernel
theorem dX4_addRowsWith_39 : decode cX4_addRowsWith 39 = .ok (.isub, 1) := by decide +kernel
theorem dX4_addRowsWith_40 : decode cX4_addRowsWith 40 = .ok (.laload, 1) := by decide +kernel
theorem dX4_addRowsWith_41 : decode cX4_addRowsWith 41 = .ok (.lsub, 1) := by decide +kernel
theorem dX4_addRowsWith_42 : decode cX4_addRowsWith 42 = .ok (.ladd, 1) := by decide +kernel
theorem dX4_addRowsWith_43 : decode cX4_addRowsWith 43 = .ok (.lastore, 1) := by decide +kernel
theorem dX4_addRowsWith_44 : decode cX4_addRowsWith 44 = .ok (.aload_n 0, 1) := by decide +kernel
theorem dX4_addRowsWith_45 : decode cX4_addRowsWith 45 = .ok (.getfield 15, 3) := by decide +kernel
theorem dX4_addRowsWith_48 : decode cX4_addRowsWith 48 = .ok (.iload_n 2, 1) := by decide +kernel
theorem dX4_addRowsWith_49 : decode cX4_addRowsWith 49 = .ok (.iload_n 3, 1) := by decide +kernel
theorem dX4_addRowsWith_50 : decode cX4_addRowsWith 50 = .ok (.iadd, 1) := by decide +kernel
theorem dX4_addRowsWith_51 : decode cX4_addRowsWith 51 = .ok (.iconst 1, 1) := by decide +kernel
theorem dX4_addRowsWith_52 : decode cX4_addRowsWith 52 = .ok (.isub, 1) := by decide +kernel
theorem dX4_addRowsWith_53 : decode cX4_addRowsWith 53 = .ok (.lload 4, 2) := by decide +kernel
theorem dX4_addRowsWith_55 : decode cX4_addRowsWith 55 = .ok (.lastore, 1) := by decide +kernel
theorem dX4_addRowsWith_56 : decode cX4_addRowsWith 56 = .ok (.iinc 3 (-1), 3) := by decide +kernel
theorem dX4_addRowsWith_59 : decode cX4_addRowsWith 59 = .ok (.goto (-51), 3) := by decide +kernel
theorem dX4_addRowsWith_62 : decode cX4_addRowsWith 62 = .ok (.return_, 1) := by decide +kernel
theorem dX4_seekFewest_0 : decode cX4_seekFewest 0 = .ok (.iconst 0, 1) := by decide +kernel
theorem dX4_seekFewest_1 : decode cX4_seekFewest 1 = .ok (.istore_n 3, 1) := by decide +kernel
theorem dX4_seekFewest_2 : decode cX4_seekFewest 2 = .ok (.iload_n 3, 1) := by decide +kernel
theorem dX4_seekFewest_3 : decode cX4_seekFewest 3 = .ok (.bipush 26, 2) := by decide +kernel
theorem dX4_seekFewest_5 : decode cX4_seekFewest 5 = .ok (.if_icmp .ge 25, 3) := by decide +kernel
theorem dX4_seekFewest_8 : decode cX4_seekFewest 8 = .ok (.aload_n 0, 1) := by decide +kernel
theorem dX4_seekFewest_9 : decode cX4_seekFewest 9 = .ok (.getfield 18, 3) := by decide +kernel
theorem dX4_seekFewest_12 : decode cX4_seekFewest 12 = .ok (.iload_n 3, 1) := by decide +kernel
theorem dX4_seekFewest_13 : decode cX4_seekFewest 13 = .ok (.sipush 1000, 3) := by decide +kernel
theorem dX4_seekFewest_16 : decode cX4_seekFewest 16 = .ok (.iastore, 1) := by decide +kernel
theorem dX4_seekFewest_17 : decode cX4_seekFewest 17 = .ok (.aload_n 0, 1) := by decide +kernel
theorem dX4_seekFewest_18 : decode cX4_seekFewest 18 = .ok (.getfield 22, 3) := by decide +kernel
theorem dX4_seekFewest_21 : decode cX4_seekFewest 21 = .ok (.iload_n 3, 1) := by decide +kernel
theorem dX4_seekFewest_22 : decode cX4_seekFewest 22 = .ok (.lconst 0, 1) := by decide +kernel
theorem dX4_seekFewest_23 : decode cX4_seekFewest 23 = .ok (.lastore, 1) := by decide +kernel
theorem dX4_seekFewest_24 : decode cX4_seekFewest 24 = .ok (.iinc 3 1, 3) := by decide +kernel
theorem dX4_seekFewest_27 : decode cX4_seekFewest 27 = .ok (.goto (-25), 3) := by decide +kernel
theorem dX4_seekFewest_30 : decode cX4_seekFewest 30 = .ok (.aload_n 0, 1) := by decide +kernel
theorem dX4_seekFewest_31 : decode cX4_seekFewest 31 = .ok (.getfield 18, 3) := by decide +kernel
theorem dX4_seekFewest_34 : decode cX4_seekFewest 34 = .ok (.iconst 0, 1) := by decide +kernel
theorem dX4_seekFewest_35 : decode cX4_seekFewest 35 = .ok (.iconst 0, 1) := by decide +kernel
theorem dX4_seekFewest_36 : decode cX4_seekFewest 36 = .ok (.iastore, 1) := by decide +kernel
theorem dX4_seekFewest_37 : decode cX4_seekFewest 37 = .ok (.aload_n 0, 1) := by decide +kernel
theorem dX4_seekFewest_38 : decode cX4_seekFewest 38 = .ok (.getfield 22, 3) := by decide +kernel
theorem dX4_seekFewest_41 : decode cX4_seekFewest 41 = .ok (.iconst 0, 1) := by decide +kernel
theorem dX4_seekFewest_42 : decode cX4_seekFewest 42 = .ok (.lconst 1, 1) := by decide +kernel
theorem dX4_seekFewest_43 : decode cX4_seekFewest 43 = .ok (.lastore, 1) := by decide +kernel
theorem dX4_seekFewest_44 : decode cX4_seekFewest 44 = .ok (.iconst 0, 1) := by decide +kernel
theorem dX4_seekFewest_45 : decode cX4_seekFewest 45 = .ok (.istore_n 3, 1) := by decide +kernel
theorem dX4_seekFewest_46 : decode cX4_seekFewest 46 = .ok (.iload_n 3, 1) := by decide +kernel
theorem dX4_seekFewest_47 : decode cX4_seekFewest 47 = .ok (.aload_n 0, 1) := by decide +kernel
theorem dX4_seekFewest_48 : decode cX4_seekFewest 48 = .ok (.getfield 28, 3) := by decide +kernel
theorem dX4_seekFewest_51 : decode cX4_seekFewest 51 = .ok (.getfield 35, 3) := by decide +kernel
theorem dX4_seekFewest_54 : decode cX4_seekFewest 54 = .ok (.if_icmp .ge 62, 3) := by decide +kernel
theorem dX4_seekFewest_57 : decode cX4_seekFewest 57 = .ok (.iconst 0, 1) := by decide +kernel
theorem dX4_seekFewest_58 : decode cX4_seekFewest 58 = .ok (.istore 4, 2) := by decide +kernel
theorem dX4_seekFewest_60 : decode cX4_seekFewest 60 = .ok (.iload 4, 2) := by decide +kernel
theorem dX4_seekFewest_62 : decode cX4_seekFewest 62 = .ok (.aload_n 0, 1) := by decide +kernel
theorem dX4_seekFewest_63 : decode cX4_seekFewest 63 = .ok (.getfield 28, 3) := by decide +kernel
theorem dX4_seekFewest_66 : decode cX4_seekFewest 66 = .ok (.getfield 41, 3) := by decide +kernel
theorem dX4_seekFewest_69 : decode cX4_seekFewest 69 = .ok (.iload_n 3, 1) := by decide +kernel
theorem dX4_seekFewest_70 : decode cX4_seekFewest 70 = .ok (.iaload, 1) := by decide +kernel
theorem dX4_seekFewest_71 : decode cX4_seekFewest 71 = .ok (.if_icmp .ge 31, 3) := by decide +kernel
theorem dX4_seekFewest_74 : decode cX4_seekFewest 74 = .ok (.aload_n 0, 1) := by decide +kernel
theorem dX4_seekFewest_75 : decode cX4_seekFewest 75 = .ok (.aload_n 2, 1) := by decide +kernel
theorem dX4_seekFewest_76 : decode cX4_seekFewest 76 = .ok (.aload_n 0, 1) := by decide +kernel
theorem dX4_seekFewest_77 : decode cX4_seekFewest 77 = .ok (.getfield 28, 3) := by decide +kernel
theorem dX4_seekFewest_80 : decode cX4_seekFewest 80 = .ok (.iload_n 3, 1) := by decide +kernel
theorem dX4_seekFewest_81 : decode cX4_seekFewest 81 = .ok (.iload 4, 2) := by decide +kernel
theorem dX4_seekFewest_83 : decode cX4_seekFewest 83 = .ok (.invokevirtual 52, 3) := by decide +kernel
theorem dX4_seekFewest_86 : decode cX4_seekFewest 86 = .ok (.aload_n 1, 1) := by decide +kernel
theorem dX4_seekFewest_87 : decode cX4_seekFewest 87 = .ok (.iload_n 3, 1) := by decide +kernel
theorem dX4_seekFewest_88 : decode cX4_seekFewest 88 = .ok (.iload 4, 2) := by decide +kernel
theorem dX4_seekFewest_90 : decode cX4_seekFewest 90 = .ok (.invokevirtual 60, 3) := by decide +kernel
theorem dX4_seekFewest_93 : decode cX4_seekFewest 93 = .ok (.invokevirtual 66, 3) := by decide +kernel
theorem dX4_seekFewest_96 : decode cX4_seekFewest 96 = .ok (.iinc 4 1, 3) := by decide +kernel
theorem dX4_seekFewest_99 : decode cX4_seekFewest 99 = .ok (.goto (-39), 3) := by decide +kernel
theorem dX4_seekFewest_102 : decode cX4_seekFewest 102 = .ok (.aload_n 0, 1) := by decide +kernel
theorem dX4_seekFewest_103 : decode cX4_seekFewest 103 = .ok (.aload_n 2, 1) := by decide +kernel
theorem dX4_seekFewest_104 : decode cX4_seekFewest 104 = .ok (.getfield 44, 3) := by decide +kernel
theorem dX4_seekFewest_107 : decode cX4_seekFewest 107 = .ok (.invokevirtual 70, 3) := by decide +kernel
theorem dX4_seekFewest_110 : decode cX4_seekFewest 110 = .ok (.iinc 3 1, 3) := by decide +kernel
theorem dX4_seekFewest_113 : decode cX4_seekFewest 113 = .ok (.goto (-67), 3) := by decide +kernel
theorem dX4_seekFewest_116 : decode cX4_seekFewest 116 = .ok (.return_, 1) := by decide +kernel
theorem dX4_passWord_0 : decode cX4_passWord 0 = .ok (.iload_n 3, 1) := by decide +kernel
theorem dX4_passWord_1 : decode cX4_passWord 1 = .ok (.ifCond .eq 7, 3) := by decide +kernel
theorem dX4_passWord_4 : decode cX4_passWord 4 = .ok (.iconst 1, 1) := by decide +kernel
theorem dX4_passWord_5 : decode cX4_passWord 5 = .ok (.goto 4, 3) := by decide +kernel
theorem dX4_passWord_8 : decode cX4_passWord 8 = .ok (.iconst 0, 1) := by decide +kernel
theorem dX4_passWord_9 : decode cX4_passWord 9 = .ok (.istore 4, 2) := by decide +kernel
theorem dX4_passWord_11 : decode cX4_passWord 11 = .ok (.aload_n 1, 1) := by decide +kernel
theorem dX4_passWord_12 : decode cX4_passWord 12 = .ok (.getfield 44, 3) := by decide +kernel
theorem dX4_passWord_15 : decode cX4_passWord 15 = .ok (.istore 5, 2) := by decide +kernel
theorem dX4_passWord_17 : decode cX4_passWord 17 = .ok (.iload 5, 2) := by decide +kernel
theorem dX4_passWord_19 : decode cX4_passWord 19 = .ok (.ifCond .lt 205, 3) := by decide +kernel
theorem dX4_passWord_22 : decode cX4_passWord 22 = .ok (.iconst 2, 1) := by decide +kernel
theorem dX4_passWord_23 : decode cX4_passWord 23 = .ok (.iload 5, 2) := by decide +kernel
theorem dX4_passWord_25 : decode cX4_passWord 25 = .ok (.imul, 1) := by decide +kernel
theorem dX4_passWord_26 : decode cX4_passWord 26 = .ok (.istore 6, 2) := by decide +kernel
theorem dX4_passWord_28 : decode cX4_passWord 28 = .ok (.aload_n 0, 1) := by decide +kernel
theorem dX4_passWord_29 : decode cX4_passWord 29 = .ok (.getfield 18, 3) := by decide +kernel
theorem dX4_passWord_32 : decode cX4_passWord 32 = .ok (.iload 6, 2) := by decide +kernel
theorem dX4_passWord_34 : decode cX4_passWord 34 = .ok (.iaload, 1) := by decide +kernel
theorem dX4_passWord_35 : decode cX4_passWord 35 = .ok (.istore 7, 2) := by decide +kernel
theorem dX4_passWord_37 : decode cX4_passWord 37 = .ok (.aload_n 0, 1) := by decide +kernel
theorem dX4_passWord_38 : decode cX4_passWord 38 = .ok (.getfield 22, 3) := by decide +kernel
theorem dX4_passWord_41 : decode cX4_passWord 41 = .ok (.iload 6, 2) := by decide +kernel
theorem dX4_passWord_43 : decode cX4_passWord 43 = .ok (.laload, 1) := by decide +kernel
theorem dX4_passWord_44 : decode cX4_passWord 44 = .ok (.lstore 8, 2) := by decide +kernel
theorem dX4_passWord_46 : decode cX4_passWord 46 = .ok (.aload_n 0, 1) := by decide +kernel
theorem dX4_passWord_47 : decode cX4_passWord 47 = .ok (.getfield 18, 3) := by decide +kernel
theorem dX4_passWord_50 : decode cX4_passWord 50 = .ok (.iload 6, 2) := by decide +kernel
theorem dX4_passWord_52 : decode cX4_passWord 52 = .ok (.iconst 1, 1) := by decide +kernel
theorem dX4_passWord_53 : decode cX4_passWord 53 = .ok (.iadd, 1) := by decide +kernel
theorem dX4_passWord_54 : decode cX4_passWord 54 = .ok (.iaload, 1) := by decide +kernel
theorem dX4_passWord_55 : decode cX4_passWord 55 = .ok (.istore 10, 2) := by decide +kernel
theorem dX4_passWord_57 : decode cX4_passWord 57 = .ok (.aload_n 0, 1) := by decide +kernel
theorem dX4_passWord_58 : decode cX4_passWord 58 = .ok (.getfield 22, 3) := by decide +kernel
theorem dX4_passWord_61 : decode cX4_passWord 61 = .ok (.iload 6, 2) := by decide +kernel
theorem dX4_passWord_63 : decode cX4_passWord 63 = .ok (.iconst 1, 1) := by decide +kernel
theorem dX4_passWord_64 : decode cX4_passWord 64 = .ok (.iadd, 1) := by decide +kernel
theorem dX4_passWord_65 : decode cX4_passWord 65 = .ok (.laload, 1) := by decide +kernel
theorem dX4_passWord_66 : decode cX4_passWord 66 = .ok (.lstore 11, 2) := by decide +kernel
theorem dX4_passWord_68 : decode cX4_passWord 68 = .ok (.aload_n 0, 1) := by decide +kernel
theorem dX4_passWord_69 : decode cX4_passWord 69 = .ok (.getfield 18, 3) := by decide +kernel
theorem dX4_passWord_72 : decode cX4_passWord 72 = .ok (.iload 6, 2) := by decide +kernel
theorem dX4_passWord_74 : decode cX4_passWord 74 = .ok (.sipush 1000, 3) := by decide +kernel
theorem dX4_passWord_77 : decode cX4_passWord 77 = .ok (.iastore, 1) := by decide +kernel
theorem dX4_passWord_78 : decode cX4_passWord 78 = .ok (.aload_n 0, 1) := by decide +kernel
theorem dX4_passWord_79 : decode cX4_passWord 79 = .ok (.getfield 22, 3) := by decide +kernel
theorem dX4_passWord_82 : decode cX4_passWord 82 = .ok (.iload 6, 2) := by decide +kernel
theorem dX4_passWord_84 : decode cX4_passWord 84 = .ok (.lconst 0, 1) := by decide +kernel
theorem dX4_passWord_85 : decode cX4_passWord 85 = .ok (.lastore, 1) := by decide +kernel
theorem dX4_passWord_86 : decode cX4_passWord 86 = .ok (.aload_n 0, 1) := by decide +kernel
theorem dX4_passWord_87 : decode cX4_passWord 87 = .ok (.getfield 18, 3) := by decide +kernel
theorem dX4_passWord_90 : decode cX4_passWord 90 = .ok (.iload 6, 2) := by decide +kernel
theorem dX4_passWord_92 : decode cX4_passWord 92 = .ok (.iconst 1, 1) := by decide +kernel
theorem dX4_passWord_93 : decode cX4_passWord 93 = .ok (.iadd, 1) := by decide +kernel
theorem dX4_passWord_94 : decode cX4_passWord 94 = .ok (.sipush 1000, 3) := by decide +kernel
theorem dX4_passWord_97 : decode cX4_passWord 97 = .ok (.iastore, 1) := by decide +kernel
theorem dX4_passWord_98 : decode cX4_passWord 98 = .ok (.aload_n 0, 1) := by decide +kernel
theorem dX4_passWord_99 : decode cX4_passWord 99 = .ok (.getfield 22, 3) := by decide +kernel
theorem dX4_passWord_102 : decode cX4_passWord 102 = .ok (.iload 6, 2) := by decide +kernel
theorem dX4_passWord_104 : decode cX4_passWord 104 = .ok (.iconst 1, 1) := by decide +kernel
theorem dX4_passWord_105 : decode cX4_passWord 105 = .ok (.iadd, 1) := by decide +kernel
theorem dX4_passWord_106 : decode cX4_passWord 106 = .ok (.lconst 0, 1) := by decide +kernel
theorem dX4_passWord_107 : decode cX4_passWord 107 = .ok (.lastore, 1) := by decide +kernel
theorem dX4_passWord_108 : decode cX4_passWord 108 = .ok (.aload_n 0, 1) := by decide +kernel
theorem dX4_passWord_109 : decode cX4_passWord 109 = .ok (.iload 6, 2) := by decide +kernel
theorem dX4_passWord_111 : decode cX4_passWord 111 = .ok (.iload 4, 2) := by decide +kernel
theorem dX4_passWord_113 : decode cX4_passWord 113 = .ok (.iadd, 1) := by decide +kernel
theorem dX4_passWord_114 : decode cX4_passWord 114 = .ok (.iload 7, 2) := by decide +kernel
theorem dX4_passWord_116 : decode cX4_passWord 116 = .ok (.iload 4, 2) := by decide +kernel
theorem dX4_passWord_118 : decode cX4_passWord 118 = .ok (.iadd, 1) := by decide +kernel
theorem dX4_passWord_119 : decode cX4_passWord 119 = .ok (.lload 8, 2) := by decide +kernel
theorem dX4_passWord_121 : decode cX4_passWord 121 = .ok (.invokevirtual 73, 3) := by decide +kernel
theorem dX4_passWord_124 : decode cX4_passWord 124 = .ok (.aload_n 0, 1) := by decide +kernel
theorem dX4_passWord_125 : decode cX4_passWord 125 = .ok (.iload 6, 2) := by decide +kernel
theorem dX4_passWord_127 : decode cX4_passWord 127 = .ok (.iload 4, 2) := by decide +kernel
theorem dX4_passWord_129 : decode cX4_passWord 129 = .ok (.iadd, 1) := by decide +kernel
theorem dX4_passWord_130 : decode cX4_passWord 130 = .ok (.iload 10, 2) := by decide +kernel
theorem dX4_passWord_132 : decode cX4_passWord 132 = .ok (.lload 11, 2) := by decide +kernel
theorem dX4_passWord_134 : decode cX4_passWord 134 = .ok (.invokevirtual 73, 3) := by decide +kernel
theorem dX4_passWord_137 : decode cX4_passWord 137 = .ok (.iload 5, 2) := by decide +kernel
theorem dX4_passWord_139 : decode cX4_passWord 139 = .ok (.ifCond .le 79, 3) := by decide +kernel
theorem dX4_passWord_142 : decode cX4_passWord 142 = .ok (.aload_n 1, 1) := by decide +kernel
theorem dX4_passWord_143 : decode cX4_passWord 143 = .ok (.getfield 49, 3) := by decide +kernel
theorem dX4_passWord_146 : decode cX4_passWord 146 = .ok (.iload 5, 2) := by decide +kernel
theorem dX4_passWord_148 : decode cX4_passWord 148 = .ok (.iconst 1, 1) := by decide +kernel
theorem dX4_passWord_149 : decode cX4_passWord 149 = .ok (.isub, 1) := by decide +kernel
theorem dX4_passWord_150 : decode cX4_passWord 150 = .ok (.iaload, 1) := by decide +kernel
theorem dX4_passWord_151 : decode cX4_passWord 151 = .ok (.iload_n 2, 1) := by decide +kernel
theorem dX4_passWord_152 : decode cX4_passWord 152 = .ok (.if_icmp .ne 66, 3) := by decide +kernel
theorem dX4_passWord_155 : decode cX4_passWord 155 = .ok (.iconst 1, 1) := by decide +kernel
theorem dX4_passWord_156 : decode cX4_passWord 156 = .ok (.iload 4, 2) := by decide +kernel
theorem dX4_passWord_158 : decode cX4_passWord 158 = .ok (.isub, 1) := by decide +kernel
theorem dX4_passWord_159 : decode cX4_passWord 159 = .ok (.istore 13, 2) := by decide +kernel
theorem dX4_passWord_161 : decode cX4_passWord 161 = .ok (.aload_n 0, 1) := by decide +kernel
theorem dX4_passWord_162 : decode cX4_passWord 162 = .ok (.iload 6, 2) := by decide +kernel
theorem dX4_passWord_164 : decode cX4_passWord 164 = .ok (.iload 13, 2) := by decide +kernel
theorem dX4_passWord_166 : decode cX4_passWord 166 = .ok (.iadd, 1) := by decide +kernel
theorem dX4_passWord_167 : decode cX4_passWord 167 = .ok (.aload_n 0, 1) := by decide +kernel
theorem dX4_passWord_168 : decode cX4_passWord 168 = .ok (.getfield 18, 3) := by decide +kernel
theorem dX4_passWord_171 : decode cX4_passWord 171 = .ok (.iload 6, 2) := by decide +kernel
theorem dX4_passWord_173 : decode cX4_passWord 173 = .ok (.iconst 2, 1) := by decide +kernel
theorem dX4_passWord_174 : decode cX4_passWord 174 = .ok (.isub, 1) := by decide +kernel
theorem dX4_passWord_175 : decode cX4_passWord 175 = .ok (.iaload, 1) := by decide +kernel
theorem dX4_passWord_176 : decode cX4_passWord 176 = .ok (.iload 13, 2) := by decide +kernel
theorem dX4_passWord_178 : decode cX4_passWord 178 = .ok (.iadd, 1) := by decide +kernel
theorem dX4_passWord_179 : decode cX4_passWord 179 = .ok (.aload_n 0, 1) := by decide +kernel
theorem dX4_passWord_180 : decode cX4_passWord 180 = .ok (.getfield 22, 3) := by decide +kernel
theorem dX4_passWord_183 : decode cX4_passWord 183 = .ok (.iload 6, 2) := by decide +kernel
theorem dX4_passWord_185 : decode cX4_passWord 185 = .ok (.iconst 2, 1) := by decide +kernel
theorem dX4_passWord_186 : decode cX4_passWord 186 = .ok (.isub, 1) := by decide +kernel
theorem dX4_passWord_187 : decode cX4_passWord 187 = .ok (.laload, 1) := by decide +kernel
theorem dX4_passWord_188 : decode cX4_passWord 188 = .ok (.invokevirtual 73, 3) := by decide +kernel
theorem dX4_passWord_191 : decode cX4_passWord 191 = .ok (.aload_n 0, 1) := by decide +kernel
theorem dX4_passWord_192 : decode cX4_passWord 192 = .ok (.iload 6, 2) := by decide +kernel
theorem dX4_passWord_194 : decode cX4_passWord 194 = .ok (.iload 13, 2) := by decide +kernel
theorem dX4_passWord_196 : decode cX4_passWord 196 = .ok (.iadd, 1) := by decide +kernel
theorem dX4_passWord_197 : decode cX4_passWord 197 = .ok (.aload_n 0, 1) := by decide +kernel
theorem dX4_passWord_198 : decode cX4_passWord 198 = .ok (.getfield 18, 3) := by decide +kernel
theorem dX4_passWord_201 : decode cX4_passWord 201 = .ok (.iload 6, 2) := by decide +kernel
theorem dX4_passWord_203 : decode cX4_passWord 203 = .ok (.iconst 1, 1) := by decide +kernel
theorem dX4_passWord_204 : decode cX4_passWord 204 = .ok (.isub, 1) := by decide +kernel
theorem dX4_passWord_205 : decode cX4_passWord 205 = .ok (.iaload, 1) := by decide +kernel
theorem dX4_passWord_206 : decode cX4_passWord 206 = .ok (.aload_n 0, 1) := by decide +kernel
theorem dX4_passWord_207 : decode cX4_passWord 207 = .ok (.getfield 22, 3) := by decide +kernel
theorem dX4_passWord_210 : decode cX4_passWord 210 = .ok (.iload 6, 2) := by decide +kernel
theorem dX4_passWord_212 : decode cX4_passWord 212 = .ok (.iconst 1, 1) := by decide +kernel
theorem dX4_passWord_213 : decode cX4_passWord 213 = .ok (.isub, 1) := by decide +kernel
theorem dX4_passWord_214 : decode cX4_passWord 214 = .ok (.laload, 1) := by decide +kernel
theorem dX4_passWord_215 : decode cX4_passWord 215 = .ok (.invokevirtual 73, 3) := by decide +kernel
theorem dX4_passWord_218 : decode cX4_passWord 218 = .ok (.iinc 5 (-1), 3) := by decide +kernel
theorem dX4_passWord_221 : decode cX4_passWord 221 = .ok (.goto (-204), 3) := by decide +kernel
theorem dX4_passWord_224 : decode cX4_passWord 224 = .ok (.return_, 1) := by decide +kernel
theorem dX4_join_0 : decode cX4_join 0 = .ok (.iload_n 2, 1) := by decide +kernel
theorem dX4_join_1 : decode cX4_join 1 = .ok (.aload_n 0, 1) := by decide +kernel
theorem dX4_join_2 : decode cX4_join 2 = .ok (.getfield 18, 3) := by decide +kernel
theorem dX4_join_5 : decode cX4_join 5 = .ok (.iload_n 1, 1) := by decide +kernel
theorem dX4_join_6 : decode cX4_join 6 = .ok (.iaload, 1) := by decide +kernel
theorem dX4_join_7 : decode cX4_join 7 = .ok (.if_icmp .ge 20, 3) := by decide +kernel
theorem dX4_join_10 : decode cX4_join 10 = .ok (.aload_n 0, 1) := by decide +kernel
theorem dX4_join_11 : decode cX4_join 11 = .ok (.getfield 18, 3) := by decide +kernel
theorem dX4_join_14 : decode cX4_join 14 = .ok (.iload_n 1, 1) := by decide +kernel
theorem dX4_join_15 : decode cX4_join 15 = .ok (.iload_n 2, 1) := by decide +kernel
theorem dX4_join_16 : decode cX4_join 16 = .ok (.iastore, 1) := by decide +kernel
theorem dX4_join_17 : decode cX4_join 17 = .ok (.aload_n 0, 1) := by decide +kernel
theorem dX4_join_18 : decode cX4_join 18 = .ok (.getfield 22, 3) := by decide +kernel
theorem dX4_join_21 : decode cX4_join 21 = .ok (.iload_n 1, 1) := by decide +kernel
theorem dX4_join_22 : decode cX4_join 22 = .ok (.lload_n 3, 1) := by decide +kernel
theorem dX4_join_23 : decode cX4_join 23 = .ok (.lastore, 1) := by decide +kernel
theorem dX4_join_24 : decode cX4_join 24 = .ok (.goto 30, 3) := by decide +kernel
theorem dX4_join_27 : decode cX4_join 27 = .ok (.iload_n 2, 1) := by decide +kernel
theorem dX4_join_28 : decode cX4_join 28 = .ok (.aload_n 0, 1) := by decide +kernel
theorem dX4_join_29 : decode cX4_join 29 = .ok (.getfield 18, 3) := by decide +kernel
theorem dX4_join_32 : decode cX4_join 32 = .ok (.iload_n 1, 1) := by decide +kernel
theorem dX4_join_33 : decode cX4_join 33 = .ok (.iaload, 1) := by decide +kernel
theorem dX4_join_34 : decode cX4_join 34 = .ok (.if_icmp .ne 20, 3) := by decide +kernel
theorem dX4_join_37 : decode cX4_join 37 = .ok (.iload_n 2, 1) := by decide +kernel
theorem dX4_join_38 : decode cX4_join 38 = .ok (.sipush 1000, 3) := by decide +kernel
theorem dX4_join_41 : decode cX4_join 41 = .ok (.if_icmp .ge 13, 3) := by decide +kernel
theorem dX4_join_44 : decode cX4_join 44 = .ok (.aload_n 0, 1) := by decide +kernel
theorem dX4_join_45 : decode cX4_join 45 = .ok (.getfield 22, 3) := by decide +kernel
theorem dX4_join_48 : decode cX4_join 48 = .ok (.iload_n 1, 1) := by decide +kernel
theorem dX4_join_49 : decode cX4_join 49 = .ok (.dup2, 1) := by decide +kernel
theorem dX4_join_50 : decode cX4_join 50 = .ok (.laload, 1) := by decide +kernel
theorem dX4_join_51 : decode cX4_join 51 = .ok (.lload_n 3, 1) := by decide +kernel
theorem dX4_join_52 : decode cX4_join 52 = .ok (.ladd, 1) := by decide +kernel
theorem dX4_join_53 : decode cX4_join 53 = .ok (.lastore, 1) := by decide +kernel
theorem dX4_join_54 : decode cX4_join 54 = .ok (.return_, 1) := by decide +kernel
theorem dX4_endStrokes_0 : decode cX4_endStrokes 0 = .ok (.iconst 0, 1) := by decide +kernel
theorem dX4_endStrokes_1 : decode cX4_endStrokes 1 = .ok (.istore_n 2, 1) := by decide +kernel
theorem dX4_endStrokes_2 : decode cX4_endStrokes 2 = .ok (.iload_n 2, 1) := by decide +kernel
theorem dX4_endStrokes_3 : decode cX4_endStrokes 3 = .ok (.iload_n 1, 1) := by decide +kernel
theorem dX4_endStrokes_4 : decode cX4_endStrokes 4 = .ok (.if_icmp .gt 60, 3) := by decide +kernel
theorem dX4_endStrokes_7 : decode cX4_endStrokes 7 = .ok (.aload_n 0, 1) := by decide +kernel
theorem dX4_endStrokes_8 : decode cX4_endStrokes 8 = .ok (.iconst 2, 1) := by decide +kernel
theorem dX4_endStrokes_9 : decode cX4_endStrokes 9 = .ok (.iload_n 2, 1) := by decide +kernel
theorem dX4_endStrokes_10 : decode cX4_endStrokes 10 = .ok (.imul, 1) := by decide +kernel
theorem dX4_endStrokes_11 : decode cX4_endStrokes 11 = .ok (.aload_n 0, 1) := by decide +kernel
theorem dX4_endStrokes_12 : decode cX4_endStrokes 12 = .ok (.getfield 18, 3) := by decide +kernel
theorem dX4_endStrokes_15 : decode cX4_endStrokes 15 = .ok (.iconst 2, 1) := by decide +kernel
theorem dX4_endStrokes_16 : decode cX4_endStrokes 16 = .ok (.iload_n 2, 1) := by decide +kernel
theorem dX4_endStrokes_17 : decode cX4_endStrokes 17 = .ok (.imul, 1) := by decide +kernel
theorem dX4_endStrokes_18 : decode cX4_endStrokes 18 = .ok (.iconst 1, 1) := by decide +kernel
theorem dX4_endStrokes_19 : decode cX4_endStrokes 19 = .ok (.iadd, 1) := by decide +kernel
theorem dX4_endStrokes_20 : decode cX4_endStrokes 20 = .ok (.iaload, 1) := by decide +kernel
theorem dX4_endStrokes_21 : decode cX4_endStrokes 21 = .ok (.aload_n 0, 1) := by decide +kernel
theorem dX4_endStrokes_22 : decode cX4_endStrokes 22 = .ok (.getfield 22, 3) := by decide +kernel
theorem dX4_endStrokes_25 : decode cX4_endStrokes 25 = .ok (.iconst 2, 1) := by decide +kernel
theorem dX4_endStrokes_26 : decode cX4_endStrokes 26 = .ok (.iload_n 2, 1) := by decide +kernel
theorem dX4_endStrokes_27 : decode cX4_endStrokes 27 = .ok (.imul, 1) := by decide +kernel
theorem dX4_endStrokes_28 : decode cX4_endStrokes 28 = .ok (.iconst 1, 1) := by decide +kernel
theorem dX4_endStrokes_29 : decode cX4_endStrokes 29 = .ok (.iadd, 1) := by decide +kernel
theorem dX4_endStrokes_30 : decode cX4_endStrokes 30 = .ok (.laload, 1) := by decide +kernel
theorem dX4_endStrokes_31 : decode cX4_endStrokes 31 = .ok (.invokevirtual 73, 3) := by decide +kernel
theorem dX4_endStrokes_34 : decode cX4_endStrokes 34 = .ok (.aload_n 0, 1) := by decide +kernel
theorem dX4_endStrokes_35 : decode cX4_endStrokes 35 = .ok (.getfield 18, 3) := by decide +kernel
theorem dX4_endStrokes_38 : decode cX4_endStrokes 38 = .ok (.iconst 2, 1) := by decide +kernel
theorem dX4_endStrokes_39 : decode cX4_endStrokes 39 = .ok (.iload_n 2, 1) := by decide +kernel
theorem dX4_endStrokes_40 : decode cX4_endStrokes 40 = .ok (.imul, 1) := by decide +kernel
theorem dX4_endStrokes_41 : decode cX4_endStrokes 41 = .ok (.iconst 1, 1) := by decide +kernel
theorem dX4_endStrokes_42 : decode cX4_endStrokes 42 = .ok (.iadd, 1) := by decide +kernel
theorem dX4_endStrokes_43 : decode cX4_endStrokes 43 = .ok (.sipush 1000, 3) := by decide +kernel
theorem dX4_endStrokes_46 : decode cX4_endStrokes 46 = .ok (.iastore, 1) := by decide +kernel
theorem dX4_endStrokes_47 : decode cX4_endStrokes 47 = .ok (.aload_n 0, 1) := by decide +kernel
theorem dX4_endStrokes_48 : decode cX4_endStrokes 48 = .ok (.getfield 22, 3) := by decide +kernel
theorem dX4_endStrokes_51 : decode cX4_endStrokes 51 = .ok (.iconst 2, 1) := by decide +kernel
theorem dX4_endStrokes_52 : decode cX4_endStrokes 52 = .ok (.iload_n 2, 1) := by decide +kernel
theorem dX4_endStrokes_53 : decode cX4_endStrokes 53 = .ok (.imul, 1) := by decide +kernel
theorem dX4_endStrokes_54 : decode cX4_endStrokes 54 = .ok (.iconst 1, 1) := by decide +kernel
theorem dX4_endStrokes_55 : decode cX4_endStrokes 55 = .ok (.iadd, 1) := by decide +kernel
theorem dX4_endStrokes_56 : decode cX4_endStrokes 56 = .ok (.lconst 0, 1) := by decide +kernel
theorem dX4_endStrokes_57 : decode cX4_endStrokes 57 = .ok (.lastore, 1) := by decide +kernel
theorem dX4_endStrokes_58 : decode cX4_endStrokes 58 = .ok (.iinc 2 1, 3) := by decide +kernel
theorem dX4_endStrokes_61 : decode cX4_endStrokes 61 = .ok (.goto (-59), 3) := by decide +kernel
theorem dX4_endStrokes_64 : decode cX4_endStrokes 64 = .ok (.return_, 1) := by decide +kernel
theorem dX4_foundFewest_0 : decode cX4_foundFewest 0 = .ok (.aload_n 0, 1) := by decide +kernel
theorem dX4_foundFewest_1 : decode cX4_foundFewest 1 = .ok (.getfield 18, 3) := by decide +kernel
theorem dX4_foundFewest_4 : decode cX4_foundFewest 4 = .ok (.iconst 2, 1) := by decide +kernel
theorem dX4_foundFewest_5 : decode cX4_foundFewest 5 = .ok (.iload_n 1, 1) := by decide +kernel
theorem dX4_foundFewest_6 : decode cX4_foundFewest 6 = .ok (.imul, 1) := by decide +kernel
theorem dX4_foundFewest_7 : decode cX4_foundFewest 7 = .ok (.iaload, 1) := by decide +kernel
theorem dX4_foundFewest_8 : decode cX4_foundFewest 8 = .ok (.sipush 1000, 3) := by decide +kernel
theorem dX4_foundFewest_11 : decode cX4_foundFewest 11 = .ok (.if_icmp .ge 14, 3) := by decide +kernel
theorem dX4_foundFewest_14 : decode cX4_foundFewest 14 = .ok (.aload_n 0, 1) := by decide +kernel
theorem dX4_foundFewest_15 : decode cX4_foundFewest 15 = .ok (.getfield 18, 3) := by decide +kernel
theorem dX4_foundFewest_18 : decode cX4_foundFewest 18 = .ok (.iconst 2, 1) := by decide +kernel
theorem dX4_foundFewest_19 : decode cX4_foundFewest 19 = .ok (.iload_n 1, 1) := by decide +kernel
theorem dX4_foundFewest_20 : decode cX4_foundFewest 20 = .ok (.imul, 1) := by decide +kernel
theorem dX4_foundFewest_21 : decode cX4_foundFewest 21 = .ok (.iaload, 1) := by decide +kernel
theorem dX4_foundFewest_22 : decode cX4_foundFewest 22 = .ok (.goto 4, 3) := by decide +kernel
theorem dX4_foundFewest_25 : decode cX4_foundFewest 25 = .ok (.iconst (-1), 1) := by decide +kernel
theorem dX4_foundFewest_26 : decode cX4_foundFewest 26 = .ok (.ireturn, 1) := by decide +kernel
theorem dX4_foundMany_0 : decode cX4_foundMany 0 = .ok (.aload_n 0, 1) := by decide +kernel
theorem dX4_foundMany_1 : decode cX4_foundMany 1 = .ok (.getfield 18, 3) := by decide +kernel
theorem dX4_foundMany_4 : decode cX4_foundMany 4 = .ok (.iconst 2, 1) := by decide +kernel
theorem dX4_foundMany_5 : decode cX4_foundMany 5 = .ok (.iload_n 1, 1) := by decide +kernel
theorem dX4_foundMany_6 : decode cX4_foundMany 6 = .ok (.imul, 1) := by decide +kernel
theorem dX4_foundMany_7 : decode cX4_foundMany 7 = .ok (.iaload, 1) := by decide +kernel
theorem dX4_foundMany_8 : decode cX4_foundMany 8 = .ok (.sipush 1000, 3) := by decide +kernel
theorem dX4_foundMany_11 : decode cX4_foundMany 11 = .ok (.if_icmp .ge 14, 3) := by decide +kernel
theorem dX4_foundMany_14 : decode cX4_foundMany 14 = .ok (.aload_n 0, 1) := by decide +kernel
theorem dX4_foundMany_15 : decode cX4_foundMany 15 = .ok (.getfield 22, 3) := by decide +kernel
theorem dX4_foundMany_18 : decode cX4_foundMany 18 = .ok (.iconst 2, 1) := by decide +kernel
theorem dX4_foundMany_19 : decode cX4_foundMany 19 = .ok (.iload_n 1, 1) := by decide +kernel
theorem dX4_foundMany_20 : decode cX4_foundMany 20 = .ok (.imul, 1) := by decide +kernel
theorem dX4_foundMany_21 : decode cX4_foundMany 21 = .ok (.laload, 1) := by decide +kernel
theorem dX4_foundMany_22 : decode cX4_foundMany 22 = .ok (.goto 4, 3) := by decide +kernel
theorem dX4_foundMany_25 : decode cX4_foundMany 25 = .ok (.lconst 0, 1) := by decide +kernel
theorem dX4_foundMany_26 : decode cX4_foundMany 26 = .ok (.lreturn, 1) := by decide +kernel
theorem dX4_longestInBoth_0 : decode cX4_longestInBoth 0 = .ok (.iconst 0, 1) := by decide +kernel
theorem dX4_longestInBoth_1 : decode cX4_longestInBoth 1 = .ok (.istore 4, 2) := by decide +kernel
theorem dX4_longestInBoth_3 : decode cX4_longestInBoth 3 = .ok (.iload 4, 2) := by decide +kernel
theorem dX4_longestInBoth_5 : decode cX4_longestInBoth 5 = .ok (.bipush 8, 2) := by decide +kernel
theorem dX4_longestInBoth_7 : decode cX4_longestInBoth 7 = .ok (.if_icmp .gt 17, 3) := by decide +kernel
theorem dX4_longestInBoth_10 : decode cX4_longestInBoth 10 = .ok (.aload_n 0, 1) := by decide +kernel
theorem dX4_longestInBoth_11 : decode cX4_longestInBoth 11 = .ok (.getfield 25, 3) := by decide +kernel
theorem dX4_longestInBoth_14 : decode cX4_longestInBoth 14 = .ok (.iload 4, 2) := by decide +kernel
theorem dX4_longestInBoth_16 : decode cX4_longestInBoth 16 = .ok (.iconst 0, 1) := by decide +kernel
theorem dX4_longestInBoth_17 : decode cX4_longestInBoth 17 = .ok (.iastore, 1) := by decide +kernel
theorem dX4_longestInBoth_18 : decode cX4_longestInBoth 18 = .ok (.iinc 4 1, 3) := by decide +kernel
theorem dX4_longestInBoth_21 : decode cX4_longestInBoth 21 = .ok (.goto (-18), 3) := by decide +kernel
theorem dX4_longestInBoth_24 : decode cX4_longestInBoth 24 = .ok (.iconst 0, 1) := by decide +kernel
theorem dX4_longestInBoth_25 : decode cX4_longestInBoth 25 = .ok (.istore 4, 2) := by decide +kernel
theorem dX4_longestInBoth_27 : decode cX4_longestInBoth 27 = .ok (.iload 4, 2) := by decide +kernel
theorem dX4_longestInBoth_29 : decode cX4_longestInBoth 29 = .ok (.bipush 8, 2) := by decide +kernel
theorem dX4_longestInBoth_31 : decode cX4_longestInBoth 31 = .ok (.if_icmp .ge 35, 3) := by decide +kernel
theorem dX4_longestInBoth_34 : decode cX4_longestInBoth 34 = .ok (.aload_n 1, 1) := by decide +kernel
theorem dX4_longestInBoth_35 : decode cX4_longestInBoth 35 = .ok (.iload_n 2, 1) := by decide +kernel
theorem dX4_longestInBoth_36 : decode cX4_longestInBoth 36 = .ok (.iload 4, 2) := by decide +kernel
theorem dX4_longestInBoth_38 : decode cX4_longestInBoth 38 = .ok (.invokevirtual 60, 3) := by decide +kernel
theorem dX4_longestInBoth_41 : decode cX4_longestInBoth 41 = .ok (.ifCond .eq 19, 3) := by decide +kernel
theorem dX4_longestInBoth_44 : decode cX4_longestInBoth 44 = .ok (.aload_n 0, 1) := by decide +kernel
theorem dX4_longestInBoth_45 : decode cX4_longestInBoth 45 = .ok (.aload_n 1, 1) := by decide +kernel
theorem dX4_longestInBoth_46 : decode cX4_longestInBoth 46 = .ok (.aload_n 0, 1) := by decide +kernel
theorem dX4_longestInBoth_47 : decode cX4_longestInBoth 47 = .ok (.getfield 28, 3) := by decide +kernel
theorem dX4_longestInBoth_50 : decode cX4_longestInBoth 50 = .ok (.iload_n 2, 1) := by decide +kernel
theorem dX4_longestInBoth_51 : decode cX4_longestInBoth 51 = .ok (.iload 4, 2) := by decide +kernel
theorem dX4_longestInBoth_53 : decode cX4_longestInBoth 53 = .ok (.invokevirtual 52, 3) := by decide +kernel
theorem dX4_longestInBoth_56 : decode cX4_longestInBoth 56 = .ok (.iload_n 3, 1) := by decide +kernel
theorem dX4_longestInBoth_57 : decode cX4_longestInBoth 57 = .ok (.invokevirtual 77, 3) := by decide +kernel
theorem dX4_longestInBoth_60 : decode cX4_longestInBoth 60 = .ok (.iinc 4 1, 3) := by decide +kernel
theorem dX4_longestInBoth_63 : decode cX4_longestInBoth 63 = .ok (.goto (-36), 3) := by decide +kernel
theorem dX4_longestInBoth_66 : decode cX4_longestInBoth 66 = .ok (.aload_n 0, 1) := by decide +kernel
theorem dX4_longestInBoth_67 : decode cX4_longestInBoth 67 = .ok (.getfield 25, 3) := by decide +kernel
theorem dX4_longestInBoth_70 : decode cX4_longestInBoth 70 = .ok (.bipush 8, 2) := by decide +kernel
theorem dX4_longestInBoth_72 : decode cX4_longestInBoth 72 = .ok (.iaload, 1) := by decide +kernel
theorem dX4_longestInBoth_73 : decode cX4_longestInBoth 73 = .ok (.ireturn, 1) := by decide +kernel
theorem dX4_passInBoth_0 : decode cX4_passInBoth 0 = .ok (.iconst 0, 1) := by decide +kernel
theorem dX4_passInBoth_1 : decode cX4_passInBoth 1 = .ok (.istore 4, 2) := by decide +kernel
theorem dX4_passInBoth_3 : decode cX4_passInBoth 3 = .ok (.iconst 0, 1) := by decide +kernel
theorem dX4_passInBoth_4 : decode cX4_passInBoth 4 = .ok (.istore 5, 2) := by decide +kernel
theorem dX4_passInBoth_6 : decode cX4_passInBoth 6 = .ok (.iload 5, 2) := by decide +kernel
theorem dX4_passInBoth_8 : decode cX4_passInBoth 8 = .ok (.bipush 8, 2) := by decide +kernel
theorem dX4_passInBoth_10 : decode cX4_passInBoth 10 = .ok (.if_icmp .ge 84, 3) := by decide +kernel
theorem dX4_passInBoth_13 : decode cX4_passInBoth 13 = .ok (.aload_n 0, 1) := by decide +kernel
theorem dX4_passInBoth_14 : decode cX4_passInBoth 14 = .ok (.getfield 25, 3) := by decide +kernel
theorem dX4_passInBoth_17 : decode cX4_passInBoth 17 = .ok (.iload 5, 2) := by decide +kernel
theorem dX4_passInBoth_19 : decode cX4_passInBoth 19 = .ok (.iconst 1, 1) := by decide +kernel
theorem dX4_passInBoth_20 : decode cX4_passInBoth 20 = .ok (.iadd, 1) := by decide +kernel
theorem dX4_passInBoth_21 : decode cX4_passInBoth 21 = .ok (.iaload, 1) := by decide +kernel
theorem dX4_passInBoth_22 : decode cX4_passInBoth 22 = .ok (.istore 6, 2) := by decide +kernel
theorem dX4_passInBoth_24 : decode cX4_passInBoth 24 = .ok (.aload_n 1, 1) := by decide +kernel
theorem dX4_passInBoth_25 : decode cX4_passInBoth 25 = .ok (.iload_n 3, 1) := by decide +kernel
theorem dX4_passInBoth_26 : decode cX4_passInBoth 26 = .ok (.iload 5, 2) := by decide +kernel
theorem dX4_passInBoth_28 : decode cX4_passInBoth 28 = .ok (.invokevirtual 60, 3) := by decide +kernel
theorem dX4_passInBoth_31 : decode cX4_passInBoth 31 = .ok (.ifCond .eq 24, 3) := by decide +kernel
theorem dX4_passInBoth_34 : decode cX4_passInBoth 34 = .ok (.aload_n 0, 1) := by decide +kernel
theorem dX4_passInBoth_35 : decode cX4_passInBoth 35 = .ok (.getfield 28, 3) := by decide +kernel
theorem dX4_passInBoth_38 : decode cX4_passInBoth 38 = .ok (.iload_n 3, 1) := by decide +kernel
theorem dX4_passInBoth_39 : decode cX4_passInBoth 39 = .ok (.iload 5, 2) := by decide +kernel
theorem dX4_passInBoth_41 : decode cX4_passInBoth 41 = .ok (.invokevirtual 52, 3) := by decide +kernel
theorem dX4_passInBoth_44 : decode cX4_passInBoth 44 = .ok (.iload_n 2, 1) := by decide +kernel
theorem dX4_passInBoth_45 : decode cX4_passInBoth 45 = .ok (.if_icmp .ne 10, 3) := by decide +kernel
theorem dX4_passInBoth_48 : decode cX4_passInBoth 48 = .ok (.iload 4, 2) := by decide +kernel
theorem dX4_passInBoth_50 : decode cX4_passInBoth 50 = .ok (.iconst 1, 1) := by decide +kernel
theorem dX4_passInBoth_51 : decode cX4_passInBoth 51 = .ok (.iadd, 1) := by decide +kernel
theorem dX4_passInBoth_52 : decode cX4_passInBoth 52 = .ok (.goto 4, 3) := by decide +kernel
theorem dX4_passInBoth_55 : decode cX4_passInBoth 55 = .ok (.iconst 0, 1) := by decide +kernel
theorem dX4_passInBoth_56 : decode cX4_passInBoth 56 = .ok (.istore 7, 2) := by decide +kernel
theorem dX4_passInBoth_58 : decode cX4_passInBoth 58 = .ok (.aload_n 0, 1) := by decide +kernel
theorem dX4_passInBoth_59 : decode cX4_passInBoth 59 = .ok (.getfield 25, 3) := by decide +kernel
theorem dX4_passInBoth_62 : decode cX4_passInBoth 62 = .ok (.iload 5, 2) := by decide +kernel
theorem dX4_passInBoth_64 : decode cX4_passInBoth 64 = .ok (.iconst 1, 1) := by decide +kernel
theorem dX4_passInBoth_65 : decode cX4_passInBoth 65 = .ok (.iadd, 1) := by decide +kernel
theorem dX4_passInBoth_66 : decode cX4_passInBoth 66 = .ok (.iload 7, 2) := by decide +kernel
theorem dX4_passInBoth_68 : decode cX4_passInBoth 68 = .ok (.iload 6, 2) := by decide +kernel
theorem dX4_passInBoth_70 : decode cX4_passInBoth 70 = .ok (.aload_n 0, 1) := by decide +kernel
theorem dX4_passInBoth_71 : decode cX4_passInBoth 71 = .ok (.getfield 25, 3) := by decide +kernel
theorem dX4_passInBoth_74 : decode cX4_passInBoth 74 = .ok (.iload 5, 2) := by decide +kernel
theorem dX4_passInBoth_76 : decode cX4_passInBoth 76 = .ok (.iaload, 1) := by decide +kernel
theorem dX4_passInBoth_77 : decode cX4_passInBoth 77 = .ok (.invokestatic 81, 3) := by decide +kernel
theorem dX4_passInBoth_80 : decode cX4_passInBoth 80 = .ok (.invokestatic 81, 3) := by decide +kernel
theorem dX4_passInBoth_83 : decode cX4_passInBoth 83 = .ok (.iastore, 1) := by decide +kernel
theorem dX4_passInBoth_84 : decode cX4_passInBoth 84 = .ok (.iload 6, 2) := by decide +kernel
theorem dX4_passInBoth_86 : decode cX4_passInBoth 86 = .ok (.istore 4, 2) := by decide +kernel
theorem dX4_passInBoth_88 : decode cX4_passInBoth 88 = .ok (.iinc 5 1, 3) := by decide +kernel
theorem dX4_passInBoth_91 : decode cX4_passInBoth 91 = .ok (.goto (-85), 3) := by decide +kernel
theorem dX4_passInBoth_94 : decode cX4_passInBoth 94 = .ok (.return_, 1) := by decide +kernel
theorem dX4_valueOf_0 : decode cX4_valueOf 0 = .ok (.iconst 0, 1) := by decide +kernel
theorem dX4_valueOf_1 : decode cX4_valueOf 1 = .ok (.istore_n 1, 1) := by decide +kernel
theorem dX4_valueOf_2 : decode cX4_valueOf 2 = .ok (.iconst 0, 1) := by decide +kernel
theorem dX4_valueOf_3 : decode cX4_valueOf 3 = .ok (.istore_n 2, 1) := by decide +kernel
theorem dX4_valueOf_4 : decode cX4_valueOf 4 = .ok (.iconst 0, 1) := by decide +kernel
theorem dX4_valueOf_5 : decode cX4_valueOf 5 = .ok (.istore_n 3, 1) := by decide +kernel
theorem dX4_valueOf_6 : decode cX4_valueOf 6 = .ok (.iload_n 3, 1) := by decide +kernel
theorem dX4_valueOf_7 : decode cX4_valueOf 7 = .ok (.bipush 8, 2) := by decide +kernel
theorem dX4_valueOf_9 : decode cX4_valueOf 9 = .ok (.if_icmp .gt 40, 3) := by decide +kernel
theorem dX4_valueOf_12 : decode cX4_valueOf 12 = .ok (.iload_n 0, 1) := by decide +kernel
theorem dX4_valueOf_13 : decode cX4_valueOf 13 = .ok (.iload_n 3, 1) := by decide +kernel
theorem dX4_valueOf_14 : decode cX4_valueOf 14 = .ok (.ishr, 1) := by decide +kernel
theorem dX4_valueOf_15 : decode cX4_valueOf 15 = .ok (.iconst 1, 1) := by decide +kernel
theorem dX4_valueOf_16 : decode cX4_valueOf 16 = .ok (.iand, 1) := by decide +kernel
theorem dX4_valueOf_17 : decode cX4_valueOf 17 = .ok (.iconst 1, 1) := by decide +kernel
theorem dX4_valueOf_18 : decode cX4_valueOf 18 = .ok (.if_icmp .ne 15, 3) := by decide +kernel
theorem dX4_valueOf_21 : decode cX4_valueOf 21 = .ok (.iload_n 2, 1) := by decide +kernel
theorem dX4_valueOf_22 : decode cX4_valueOf 22 = .ok (.bipush 8, 2) := by decide +kernel
theorem dX4_valueOf_24 : decode cX4_valueOf 24 = .ok (.if_icmp .ge 9, 3) := by decide +kernel
theorem dX4_valueOf_27 : decode cX4_valueOf 27 = .ok (.iinc 2 1, 3) := by decide +kernel
theorem dX4_valueOf_30 : decode cX4_valueOf 30 = .ok (.goto 13, 3) := by decide +kernel
theorem dX4_valueOf_33 : decode cX4_valueOf 33 = .ok (.iload_n 1, 1) := by decide +kernel
theorem dX4_valueOf_34 : decode cX4_valueOf 34 = .ok (.getstatic 86, 3) := by decide +kernel
theorem dX4_valueOf_37 : decode cX4_valueOf 37 = .ok (.iload_n 2, 1) := by decide +kernel
theorem dX4_valueOf_38 : decode cX4_valueOf 38 = .ok (.iaload, 1) := by decide +kernel
theorem dX4_valueOf_39 : decode cX4_valueOf 39 = .ok (.ixor, 1) := by decide +kernel
theorem dX4_valueOf_40 : decode cX4_valueOf 40 = .ok (.istore_n 1, 1) := by decide +kernel
theorem dX4_valueOf_41 : decode cX4_valueOf 41 = .ok (.iconst 0, 1) := by decide +kernel
theorem dX4_valueOf_42 : decode cX4_valueOf 42 = .ok (.istore_n 2, 1) := by decide +kernel
theorem dX4_valueOf_43 : decode cX4_valueOf 43 = .ok (.iinc 3 1, 3) := by decide +kernel
theorem dX4_valueOf_46 : decode cX4_valueOf 46 = .ok (.goto (-40), 3) := by decide +kernel
theorem dX4_valueOf_49 : decode cX4_valueOf 49 = .ok (.iload_n 1, 1) := by decide +kernel
theorem dX4_valueOf_50 : decode cX4_valueOf 50 = .ok (.ireturn, 1) := by decide +kernel
theorem dX5_init_0 : decode cX5_init 0 = .ok (.aload_n 0, 1) := by decide +kernel
theorem dX5_init_1 : decode cX5_init 1 = .ok (.invokespecial 7, 3) := by decide +kernel
theorem dX5_init_4 : decode cX5_init 4 = .ok (.aload_n 0, 1) := by decide +kernel
theorem dX5_init_5 : decode cX5_init 5 = .ok (.sipush 938, 3) := by decide +kernel
theorem dX5_init_8 : decode cX5_init 8 = .ok (.newarray .int, 2) := by decide +kernel
theorem dX5_init_10 : decode cX5_init 10 = .ok (.putfield 13, 3) := by decide +kernel
theorem dX5_init_13 : decode cX5_init 13 = .ok (.aload_n 0, 1) := by decide +kernel
theorem dX5_init_14 : decode cX5_init 14 = .ok (.iconst 3, 1) := by decide +kernel
theorem dX5_init_15 : decode cX5_init 15 = .ok (.newarray .int, 2) := by decide +kernel
theorem dX5_init_17 : decode cX5_init 17 = .ok (.putfield 17, 3) := by decide +kernel
theorem dX5_init_20 : decode cX5_init 20 = .ok (.return_, 1) := by decide +kernel
theorem dX5_clear_0 : decode cX5_clear 0 = .ok (.aload_n 0, 1) := by decide +kernel
theorem dX5_clear_1 : decode cX5_clear 1 = .ok (.iconst 0, 1) := by decide +kernel
theorem dX5_clear_2 : decode cX5_clear 2 = .ok (.putfield 20, 3) := by decide +kernel
theorem dX5_clear_5 : decode cX5_clear 5 = .ok (.aload_n 0, 1) := by decide +kernel
theorem dX5_clear_6 : decode cX5_clear 6 = .ok (.iconst 0, 1) := by decide +kernel
theorem dX5_clear_7 : decode cX5_clear 7 = .ok (.putfield 24, 3) := by decide +kernel
theorem dX5_clear_10 : decode cX5_clear 10 = .ok (.return_, 1) := by decide +kernel
theorem dX5_placeOf_0 : decode cX5_placeOf 0 = .ok (.sipush 224, 3) := by decide +kernel
theorem dX5_placeOf_3 : decode cX5_placeOf 3 = .ok (.iload_n 0, 1) := by decide +kernel
theorem dX5_placeOf_4 : decode cX5_placeOf 4 = .ok (.sipush 238, 3) := by decide +kernel
theorem dX5_placeOf_7 : decode cX5_placeOf 7 = .ok (.imul, 1) := by decide +kernel
theorem dX5_placeOf_8 : decode cX5_placeOf 8 = .ok (.iadd, 1) := by decide +kernel
theorem dX5_placeOf_9 : decode cX5_placeOf 9 = .ok (.ireturn, 1) := by decide +kernel
theorem dX5_keepWork_0 : decode cX5_keepWork 0 = .ok (.aload_n 0, 1) := by decide +kernel
theorem dX5_keepWork_1 : decode cX5_keepWork 1 = .ok (.getfield 20, 3) := by decide +kernel
theorem dX5_keepWork_4 : decode cX5_keepWork 4 = .ok (.bipush 16, 2) := by decide +kernel
theorem dX5_keepWork_6 : decode cX5_keepWork 6 = .ok (.if_icmp .ge 28, 3) := by decide +kernel
theorem dX5_keepWork_9 : decode cX5_keepWork 9 = .ok (.aload_n 1, 1) := by decide +kernel
theorem dX5_keepWork_10 : decode cX5_keepWork 10 = .ok (.aload_n 0, 1) := by decide +kernel
theorem dX5_keepWork_11 : decode cX5_keepWork 11 = .ok (.getfield 13, 3) := by decide +kernel
theorem dX5_keepWork_14 : decode cX5_keepWork 14 = .ok (.aload_n 0, 1) := by decide +kernel
theorem dX5_keepWork_15 : decode cX5_keepWork 15 = .ok (.getfield 20, 3) := by decide +kernel
theorem dX5_keepWork_18 : decode cX5_keepWork 18 = .ok (.bipush 14, 2) := by decide +kernel
theorem dX5_keepWork_20 : decode cX5_keepWork 20 = .ok (.imul, 1) := by decide +kernel
theorem dX5_keepWork_21 : decode cX5_keepWork 21 = .ok (.invokevirtual 27, 3) := by decide +kernel
theorem dX5_keepWork_24 : decode cX5_keepWork 24 = .ok (.aload_n 0, 1) := by decide +kernel
theorem dX5_keepWork_25 : decode cX5_keepWork 25 = .ok (.dup, 1) := by decide +kernel
theorem dX5_keepWork_26 : decode cX5_keepWork 26 = .ok (.getfield 20, 3) := by decide +kernel
theorem dX5_keepWork_29 : decode cX5_keepWork 29 = .ok (.iconst 1, 1) := by decide +kernel
theorem dX5_keepWork_30 : decode cX5_keepWork 30 = .ok (.iadd, 1) := by decide +kernel
theorem dX5_keepWork_31 : decode cX5_keepWork 31 = .ok (.putfield 20, 3) := by decide +kernel
theorem dX5_keepWork_34 : decode cX5_keepWork 34 = .ok (.return_, 1) := by decide +kernel
theorem dX5_takeWorkBack_0 : decode cX5_takeWorkBack 0 = .ok (.aload_n 0, 1) := by decide +kernel
theorem dX5_takeWorkBack_1 : decode cX5_takeWorkBack 1 = .ok (.getfield 20, 3) := by decide +kernel
theorem dX5_takeWorkBack_4 : decode cX5_takeWorkBack 4 = .ok (.ifCond .ne 5, 3) := by decide +kernel
theorem dX5_takeWorkBack_7 : decode cX5_takeWorkBack 7 = .ok (.iconst 0, 1) := by decide +kernel
theorem dX5_takeWorkBack_8 : decode cX5_takeWorkBack 8 = .ok (.ireturn, 1) := by decide +kernel
theorem dX5_takeWorkBack_9 : decode cX5_takeWorkBack 9 = .ok (.aload_n 0, 1) := by decide +kernel
theorem dX5_takeWorkBack_10 : decode cX5_takeWorkBack 10 = .ok (.dup, 1) := by decide +kernel
theorem dX5_takeWorkBack_11 : decode cX5_takeWorkBack 11 = .ok (.getfield 20, 3) := by decide +kernel
theorem dX5_takeWorkBack_14 : decode cX5_takeWorkBack 14 = .ok (.iconst 1, 1) := by decide +kernel
theorem dX5_takeWorkBack_15 : decode cX5_takeWorkBack 15 = .ok (.isub, 1) := by decide +kernel
theorem dX5_takeWorkBack_16 : decode cX5_takeWorkBack 16 = .ok (.putfield 20, 3) := by decide +kernel
theorem dX5_takeWorkBack_19 : decode cX5_takeWorkBack 19 = .ok (.aload_n 1, 1) := by decide +kernel
theorem dX5_takeWorkBack_20 : decode cX5_takeWorkBack 20 = .ok (.aload_n 0, 1) := by decide +kernel
theorem dX5_takeWorkBack_21 : decode cX5_takeWorkBack 21 = .ok (.getfield 13, 3) := by decide +kernel
theorem dX5_takeWorkBack_24 : decode cX5_takeWorkBack 24 = .ok (.aload_n 0, 1) := by decide +kernel
theorem dX5_takeWorkBack_25 : decode cX5_takeWorkBack 25 = .ok (.getfield 20, 3) := by decide +kernel
theorem dX5_takeWorkBack_28 : decode cX5_takeWorkBack 28 = .ok (.bipush 14, 2) := by decide +kernel
theorem dX5_takeWorkBack_30 : decode cX5_takeWorkBack 30 = .ok (.imul, 1) := by decide +kernel
theorem dX5_takeWorkBack_31 : decode cX5_takeWorkBack 31 = .ok (.invokevirtual 31, 3) := by decide +kernel
theorem dX5_takeWorkBack_34 : decode cX5_takeWorkBack 34 = .ok (.iconst 1, 1) := by decide +kernel
theorem dX5_takeWorkBack_35 : decode cX5_takeWorkBack 35 = .ok (.ireturn, 1) := by decide +kernel
theorem dX5_keepImage_0 : decode cX5_keepImage 0 = .ok (.aload_n 0, 1) := by decide +kernel
theorem dX5_keepImage_1 : decode cX5_keepImage 1 = .ok (.getfield 24, 3) := by decide +kernel
theorem dX5_keepImage_4 : decode cX5_keepImage 4 = .ok (.iconst 3, 1) := by decide +kernel
theorem dX5_keepImage_5 : decode cX5_keepImage 5 = .ok (.if_icmp .lt 5, 3) := by decide +kernel
theorem dX5_keepImage_8 : decode cX5_keepImage 8 = .ok (.iconst 0, 1) := by decide +kernel
theorem dX5_keepImage_9 : decode cX5_keepImage 9 = .ok (.ireturn, 1) := by decide +kernel
theorem dX5_keepImage_10 : decode cX5_keepImage 10 = .ok (.aload_n 0, 1) := by decide +kernel
theorem dX5_keepImage_11 : decode cX5_keepImage 11 = .ok (.getfield 24, 3) := by decide +kernel
theorem dX5_keepImage_14 : decode cX5_keepImage 14 = .ok (.invokestatic 34, 3) := by decide +kernel
theorem dX5_keepImage_17 : decode cX5_keepImage 17 = .ok (.istore_n 2, 1) := by decide +kernel
theorem dX5_keepImage_18 : decode cX5_keepImage 18 = .ok (.aload_n 1, 1) := by decide +kernel
theorem dX5_keepImage_19 : decode cX5_keepImage 19 = .ok (.aload_n 0, 1) := by decide +kernel
theorem dX5_keepImage_20 : decode cX5_keepImage 20 = .ok (.getfield 13, 3) := by decide +kernel
theorem dX5_keepImage_23 : decode cX5_keepImage 23 = .ok (.iload_n 2, 1) := by decide +kernel
theorem dX5_keepImage_24 : decode cX5_keepImage 24 = .ok (.invokevirtual 27, 3) := by decide +kernel
theorem dX5_keepImage_27 : decode cX5_keepImage 27 = .ok (.aload_n 0, 1) := by decide +kernel
theorem dX5_keepImage_28 : decode cX5_keepImage 28 = .ok (.getfield 13, 3) := by decide +kernel
theorem dX5_keepImage_31 : decode cX5_keepImage 31 = .ok (.iconst 0, 1) := by decide +kernel
theorem dX5_keepImage_32 : decode cX5_keepImage 32 = .ok (.aload_n 0, 1) := by decide +kernel
theorem dX5_keepImage_33 : decode cX5_keepImage 33 = .ok (.getfield 13, 3) := by decide +kernel
theorem dX5_keepImage_36 : decode cX5_keepImage 36 = .ok (.iload_n 2, 1) := by decide +kernel
theorem dX5_keepImage_37 : decode cX5_keepImage 37 = .ok (.bipush 14, 2) := by decide +kernel
theorem dX5_keepImage_39 : decode cX5_keepImage 39 = .ok (.iadd, 1) := by decide +kernel
theorem dX5_keepImage_40 : decode cX5_keepImage 40 = .ok (.sipush 224, 3) := by decide +kernel
theorem dX5_keepImage_43 : decode cX5_keepImage 43 = .ok (.invokestatic 38, 3) := by decide +kernel
theorem dX5_keepImage_46 : decode cX5_keepImage 46 = .ok (.aload_n 0, 1) := by decide +kernel
theorem dX5_keepImage_47 : decode cX5_keepImage 47 = .ok (.getfield 17, 3) := by decide +kernel
theorem dX5_keepImage_50 : decode cX5_keepImage 50 = .ok (.aload_n 0, 1) := by decide +kernel
theorem dX5_keepImage_51 : decode cX5_keepImage 51 = .ok (.getfield 24, 3) := by decide +kernel
theorem dX5_keepImage_54 : decode cX5_keepImage 54 = .ok (.aload_n 0, 1) := by decide +kernel
theorem dX5_keepImage_55 : decode cX5_keepImage 55 = .ok (.getfield 20, 3) := by decide +kernel
theorem dX5_keepImage_58 : decode cX5_keepImage 58 = .ok (.iastore, 1) := by decide +kernel
theorem dX5_keepImage_59 : decode cX5_keepImage 59 = .ok (.aload_n 0, 1) := by decide +kernel
theorem dX5_keepImage_60 : decode cX5_keepImage 60 = .ok (.dup, 1) := by decide +kernel
theorem dX5_keepImage_61 : decode cX5_keepImage 61 = .ok (.getfield 24, 3) := by decide +kernel
theorem dX5_keepImage_64 : decode cX5_keepImage 64 = .ok (.iconst 1, 1) := by decide +kernel
theorem dX5_keepImage_65 : decode cX5_keepImage 65 = .ok (.iadd, 1) := by decide +kernel
theorem dX5_keepImage_66 : decode cX5_keepImage 66 = .ok (.putfield 24, 3) := by decide +kernel
theorem dX5_keepImage_69 : decode cX5_keepImage 69 = .ok (.iconst 1, 1) := by decide +kernel
theorem dX5_keepImage_70 : decode cX5_keepImage 70 = .ok (.ireturn, 1) := by decide +kernel
theorem dX5_takeImageBack_0 : decode cX5_takeImageBack 0 = .ok (.aload_n 0, 1) := by decide +kernel
theorem dX5_takeImageBack_1 : decode cX5_takeImageBack 1 = .ok (.getfield 24, 3) := by decide +kernel
theorem dX5_takeImageBack_4 : decode cX5_takeImageBack 4 = .ok (.ifCond .ne 5, 3) := by decide +kernel
theorem dX5_takeImageBack_7 : decode cX5_takeImageBack 7 = .ok (.iconst 0, 1) := by decide +kernel
theorem dX5_takeImageBack_8 : decode cX5_takeImageBack 8 = .ok (.ireturn, 1) := by decide +kernel
theorem dX5_takeImageBack_9 : decode cX5_takeImageBack 9 = .ok (.aload_n 0, 1) := by decide +kernel
theorem dX5_takeImageBack_10 : decode cX5_takeImageBack 10 = .ok (.dup, 1) := by decide +kernel
theorem dX5_takeImageBack_11 : decode cX5_takeImageBack 11 = .ok (.getfield 24, 3) := by decide +kernel
theorem dX5_takeImageBack_14 : decode cX5_takeImageBack 14 = .ok (.iconst 1, 1) := by decide +kernel
theorem dX5_takeImageBack_15 : decode cX5_takeImageBack 15 = .ok (.isub, 1) := by decide +kernel
theorem dX5_takeImageBack_16 : decode cX5_takeImageBack 16 = .ok (.putfield 24, 3) := by decide +kernel
theorem dX5_takeImageBack_19 : decode cX5_takeImageBack 19 = .ok (.aload_n 0, 1) := by decide +kernel
theorem dX5_takeImageBack_20 : decode cX5_takeImageBack 20 = .ok (.getfield 24, 3) := by decide +kernel
theorem dX5_takeImageBack_23 : decode cX5_takeImageBack 23 = .ok (.invokestatic 34, 3) := by decide +kernel
theorem dX5_takeImageBack_26 : decode cX5_takeImageBack 26 = .ok (.istore_n 2, 1) := by decide +kernel
theorem dX5_takeImageBack_27 : decode cX5_takeImageBack 27 = .ok (.aload_n 1, 1) := by decide +kernel
theorem dX5_takeImageBack_28 : decode cX5_takeImageBack 28 = .ok (.aload_n 0, 1) := by decide +kernel
theorem dX5_takeImageBack_29 : decode cX5_takeImageBack 29 = .ok (.getfield 13, 3) := by decide +kernel
theorem dX5_takeImageBack_32 : decode cX5_takeImageBack 32 = .ok (.iload_n 2, 1) := by decide +kernel
theorem dX5_takeImageBack_33 : decode cX5_takeImageBack 33 = .ok (.invokevirtual 31, 3) := by decide +kernel
theorem dX5_takeImageBack_36 : decode cX5_takeImageBack 36 = .ok (.aload_n 0, 1) := by decide +kernel
theorem dX5_takeImageBack_37 : decode cX5_takeImageBack 37 = .ok (.getfield 13, 3) := by decide +kernel
theorem dX5_takeImageBack_40 : decode cX5_takeImageBack 40 = .ok (.iload_n 2, 1) := by decide +kernel
theorem dX5_takeImageBack_41 : decode cX5_takeImageBack 41 = .ok (.bipush 14, 2) := by decide +kernel
theorem dX5_takeImageBack_43 : decode cX5_takeImageBack 43 = .ok (.iadd, 1) := by decide +kernel
theorem dX5_takeImageBack_44 : decode cX5_takeImageBack 44 = .ok (.aload_n 0, 1) := by decide +kernel
theorem dX5_takeImageBack_45 : decode cX5_takeImageBack 45 = .ok (.getfield 13, 3) := by decide +kernel
theorem dX5_takeImageBack_48 : decode cX5_takeImageBack 48 = .ok (.iconst 0, 1) := by decide +kernel
theorem dX5_takeImageBack_49 : decode cX5_takeImageBack 49 = .ok (.sipush 224, 3) := by decide +kernel
theorem dX5_takeImageBack_52 : decode cX5_takeImageBack 52 = .ok (.invokestatic 38, 3) := by decide +kernel
theorem dX5_takeImageBack_55 : decode cX5_takeImageBack 55 = .ok (.aload_n 0, 1) := by decide +kernel
theorem dX5_takeImageBack_56 : decode cX5_takeImageBack 56 = .ok (.aload_n 0, 1) := by decide +kernel
theorem dX5_takeImageBack_57 : decode cX5_takeImageBack 57 = .ok (.getfield 17, 3) := by decide +kernel
theorem dX5_takeImageBack_60 : decode cX5_takeImageBack 60 = .ok (.aload_n 0, 1) := by decide +kernel
theorem dX5_takeImageBack_61 : decode cX5_takeImageBack 61 = .ok (.getfield 24, 3) := by decide +kernel
theorem dX5_takeImageBack_64 : decode cX5_takeImageBack 64 = .ok (.iaload, 1) := by decide +kernel
theorem dX5_takeImageBack_65 : decode cX5_takeImageBack 65 = .ok (.putfield 20, 3) := by decide +kernel
theorem dX5_takeImageBack_68 : decode cX5_takeImageBack 68 = .ok (.iconst 1, 1) := by decide +kernel
theorem dX5_takeImageBack_69 : decode cX5_takeImageBack 69 = .ok (.ireturn, 1) := by decide +kernel
theorem dX5_struckInImage_0 : decode cX5_struckInImage 0 = .ok (.aload_n 0, 1) := by decide +kernel
theorem dX5_struckInImage_1 : decode cX5_struckInImage 1 = .ok (.getfield 24, 3) := by decide +kernel
theorem dX5_struckInImage_4 : decode cX5_struckInImage 4 = .ok (.ifCond .le 22, 3) := by decide +kernel
theorem dX5_struckInImage_7 : decode cX5_struckInImage 7 = .ok (.aload_n 0, 1) := by decide +kernel
theorem dX5_struckInImage_8 : decode cX5_struckInImage 8 = .ok (.getfield 13, 3) := by decide +kernel
theorem dX5_struckInImage_11 : decode cX5_struckInImage 11 = .ok (.aload_n 0, 1) := by decide +kernel
theorem dX5_struckInImage_12 : decode cX5_struckInImage 12 = .ok (.getfield 24, 3) := by decide +kernel
theorem dX5_struckInImage_15 : decode cX5_struckInImage 15 = .ok (.iconst 1, 1) := by decide +kernel
theorem dX5_struckInImage_16 : decode cX5_struckInImage 16 = .ok (.isub, 1) := by decide +kernel
theorem dX5_struckInImage_17 : decode cX5_struckInImage 17 = .ok (.invokestatic 34, 3) := by decide +kernel
theorem dX5_struckInImage_20 : decode cX5_struckInImage 20 = .ok (.iload_n 1, 1) := by decide +kernel
theorem dX5_struckInImage_21 : decode cX5_struckInImage 21 = .ok (.iadd, 1) := by decide +kernel
theorem dX5_struckInImage_22 : decode cX5_struckInImage 22 = .ok (.iaload, 1) := by decide +kernel
theorem dX5_struckInImage_23 : decode cX5_struckInImage 23 = .ok (.goto 4, 3) := by decide +kernel
theorem dX5_struckInImage_26 : decode cX5_struckInImage 26 = .ok (.iconst 0, 1) := by decide +kernel
theorem dX5_struckInImage_27 : decode cX5_struckInImage 27 = .ok (.ireturn, 1) := by decide +kernel
theorem dX6_init_0 : decode cX6_init 0 = .ok (.aload_n 0, 1) := by decide +kernel
theorem dX6_init_1 : decode cX6_init 1 = .ok (.invokespecial 3, 3) := by decide +kernel
theorem dX6_init_4 : decode cX6_init 4 = .ok (.aload_n 0, 1) := by decide +kernel
theorem dX6_init_5 : decode cX6_init 5 = .ok (.bipush 30, 2) := by decide +kernel
theorem dX6_init_7 : decode cX6_init 7 = .ok (.newarray .int, 2) := by decide +kernel
theorem dX6_init_9 : decode cX6_init 9 = .ok (.putfield 11, 3) := by decide +kernel
theorem dX6_init_12 : decode cX6_init 12 = .ok (.aload_n 0, 1) := by decide +kernel
theorem dX6_init_13 : decode cX6_init 13 = .ok (.bipush 30, 2) := by decide +kernel
theorem dX6_init_15 : decode cX6_init 15 = .ok (.newarray .int, 2) := by decide +kernel
theorem dX6_init_17 : decode cX6_init 17 = .ok (.putfield 15, 3) := by decide +kernel
theorem dX6_init_20 : decode cX6_init 20 = .ok (.aload_n 0, 1) := by decide +kernel
theorem dX6_init_21 : decode cX6_init 21 = .ok (.bipush 30, 2) := by decide +kernel
theorem dX6_init_23 : decode cX6_init 23 = .ok (.newarray .int, 2) := by decide +kernel
theorem dX6_init_25 : decode cX6_init 25 = .ok (.putfield 18, 3) := by decide +kernel
theorem dX6_init_28 : decode cX6_init 28 = .ok (.aload_n 0, 1) := by decide +kernel
theorem dX6_init_29 : decode cX6_init 29 = .ok (.bipush 30, 2) := by decide +kernel
theorem dX6_init_31 : decode cX6_init 31 = .ok (.newarray .int, 2) := by decide +kernel
theorem dX6_init_33 : decode cX6_init 33 = .ok (.putfield 21, 3) := by decide +kernel
theorem dX6_init_36 : decode cX6_init 36 = .ok (.aload_n 0, 1) := by decide +kernel
theorem dX6_init_37 : decode cX6_init 37 = .ok (.bipush 30, 2) := by decide +kernel
theorem dX6_init_39 : decode cX6_init 39 = .ok (.newarray .int, 2) := by decide +kernel
theorem dX6_init_41 : decode cX6_init 41 = .ok (.putfield 24, 3) := by decide +kernel
theorem dX6_init_44 : decode cX6_init 44 = .ok (.return_, 1) := by decide +kernel
theorem dX6_readFrom_0 : decode cX6_readFrom 0 = .ok (.aload_n 0, 1) := by decide +kernel
theorem dX6_readFrom_1 : decode cX6_readFrom 1 = .ok (.iconst 0, 1) := by decide +kernel
theorem dX6_readFrom_2 : decode cX6_readFrom 2 = .ok (.putfield 27, 3) := by decide +kernel
theorem dX6_readFrom_5 : decode cX6_readFrom 5 = .ok (.aload_n 0, 1) := by decide +kernel
theorem dX6_readFrom_6 : decode cX6_readFrom 6 = .ok (.iload_n 2, 1) := by decide +kernel
theorem dX6_readFrom_7 : decode cX6_readFrom 7 = .ok (.putfield 31, 3) := by decide +kernel
theorem dX6_readFrom_10 : decode cX6_readFrom 10 = .ok (.aload_n 0, 1) := by decide +kernel
theorem dX6_readFrom_11 : decode cX6_readFrom 11 = .ok (.aload_n 1, 1) := by decide +kernel
theorem dX6_readFrom_12 : decode cX6_readFrom 12 = .ok (.iconst 0, 1) := by decide +kernel
theorem dX6_readFrom_13 : decode cX6_readFrom 13 = .ok (.invokevirtual 34, 3) := by decide +kernel
theorem dX6_readFrom_16 : decode cX6_readFrom 16 = .ok (.ifCond .eq 27, 3) := by decide +kernel
theorem dX6_readFrom_19 : decode cX6_readFrom 19 = .ok (.aload_n 1, 1) := by decide +kernel
theorem dX6_readFrom_20 : decode cX6_readFrom 20 = .ok (.invokevirtual 38, 3) := by decide +kernel
theorem dX6_readFrom_23 : decode cX6_readFrom 23 = .ok (.iconst (-1), 1) := by decide +kernel
theorem dX6_readFrom_24 : decode cX6_readFrom 24 = .ok (.if_icmp .eq 15, 3) := by decide +kernel
theorem dX6_readFrom_27 : decode cX6_readFrom 27 = .ok (.aload_n 1, 1) := by decide +kernel
theorem dX6_readFrom_28 : decode cX6_readFrom 28 = .ok (.iconst 1, 1) := by decide +kernel
theorem dX6_readFrom_29 : decode cX6_readFrom 29 = .ok (.aload_n 1, 1) := by decide +kernel
theorem dX6_readFrom_30 : decode cX6_readFrom 30 = .ok (.getfield 44, 3) := by decide +kernel
theorem dX6_readFrom_33 : decode cX6_readFrom 33 = .ok (.invokevirtual 47, 3) := by decide +kernel
theorem dX6_readFrom_36 : decode cX6_readFrom 36 = .ok (.ifCond .eq 7, 3) := by decide +kernel
theorem dX6_readFrom_39 : decode cX6_readFrom 39 = .ok (.iconst 1, 1) := by decide +kernel
theorem dX6_readFrom_40 : decode cX6_readFrom 40 = .ok (.goto 4, 3) := by decide +kernel
theorem dX6_readFrom_43 : decode cX6_readFrom 43 = .ok (.iconst 0, 1) := by decide +kernel
theorem dX6_readFrom_44 : decode cX6_readFrom 44 = .ok (.ireturn, 1) := by decide +kernel
theorem dX6_readSteps_0 : decode cX6_readSteps 0 = .ok (.iconst 0, 1) := by decide +kernel
theorem dX6_readSteps_1 : decode cX6_readSteps 1 = .ok (.istore_n 3, 1) := by decide +kernel
theorem dX6_readSteps_2 : decode cX6_readSteps 2 = .ok (.iload_n 3, 1) := by decide +kernel
theorem dX6_readSteps_3 : decode cX6_readSteps 3 = .ok (.bipush 30, 2) := by decide +kernel
theorem dX6_readSteps_5 : decode cX6_readSteps 5 = .ok (.if_icmp .gt 54, 3) := by decide +kernel
theorem dX6_readSteps_8 : decode cX6_readSteps 8 = .ok (.aload_n 1, 1) := by decide +kernel
theorem dX6_readSteps_9 : decode cX6_readSteps 9 = .ok (.invokevirtual 38, 3) := by decide +kernel
theorem dX6_readSteps_12 : decode cX6_readSteps 12 = .ok (.istore 4, 2) := by decide +kernel
theorem dX6_readSteps_14 : decode cX6_readSteps 14 = .ok (.iload 4, 2) := by decide +kernel
theorem dX6_readSteps_16 : decode cX6_readSteps 16 = .ok (.iconst (-1), 1) := by decide +kernel
theorem dX6_readSteps_17 : decode cX6_readSteps 17 = .ok (.if_icmp .eq 14, 3) := by decide +kernel
theorem dX6_readSteps_20 : decode cX6_readSteps 20 = .ok (.iload_n 2, 1) := by decide +kernel
theorem dX6_readSteps_21 : decode cX6_readSteps 21 = .ok (.ifCond .le 12, 3) := by decide +kernel
theorem dX6_readSteps_24 : decode cX6_readSteps 24 = .ok (.iload 4, 2) := by decide +kernel
theorem dX6_readSteps_26 : decode cX6_readSteps 26 = .ok (.bipush 93, 2) := by decide +kernel
theorem dX6_readSteps_28 : decode cX6_readSteps 28 = .ok (.if_icmp .ne 5, 3) := by decide +kernel
theorem dX6_readSteps_31 : decode cX6_readSteps 31 = .ok (.iconst 1, 1) := by decide +kernel
theorem dX6_readSteps_32 : decode cX6_readSteps 32 = .ok (.ireturn, 1) := by decide +kernel
theorem dX6_readSteps_33 : decode cX6_readSteps 33 = .ok (.aload_n 0, 1) := by decide +kernel
theorem dX6_readSteps_34 : decode cX6_readSteps 34 = .ok (.aload_n 1, 1) := by decide +kernel
theorem dX6_readSteps_35 : decode cX6_readSteps 35 = .ok (.iload_n 2, 1) := by decide +kernel
theorem dX6_readSteps_36 : decode cX6_readSteps 36 = .ok (.invokevirtual 51, 3) := by decide +kernel
theorem dX6_readSteps_39 : decode cX6_readSteps 39 = .ok (.ifCond .eq 12, 3) := by decide +kernel
theorem dX6_readSteps_42 : decode cX6_readSteps 42 = .ok (.aload_n 1, 1) := by decide +kernel
theorem dX6_readSteps_43 : decode cX6_readSteps 43 = .ok (.bipush 59, 2) := by decide +kernel
theorem dX6_readSteps_45 : decode cX6_readSteps 45 = .ok (.invokevirtual 54, 3) := by decide +kernel
theorem dX6_readSteps_48 : decode cX6_readSteps 48 = .ok (.ifCond .ne 5, 3) := by decide +kernel
theorem dX6_readSteps_51 : decode cX6_readSteps 51 = .ok (.iconst 0, 1) := by decide +kernel
theorem dX6_readSteps_52 : decode cX6_readSteps 52 = .ok (.ireturn, 1) := by decide +kernel
theorem dX6_readSteps_53 : decode cX6_readSteps 53 = .ok (.iinc 3 1, 3) := by decide +kernel
theorem dX6_readSteps_56 : decode cX6_readSteps 56 = .ok (.goto (-54), 3) := by decide +kernel
theorem dX6_readSteps_59 : decode cX6_readSteps 59 = .ok (.iconst 1, 1) := by decide +kernel
theorem dX6_readSteps_60 : decode cX6_readSteps 60 = .ok (.ireturn, 1) := by decide +kernel
theorem dX6_readStep_0 : decode cX6_readStep 0 = .ok (.aload_n 1, 1) := by decide +kernel
theorem dX6_readStep_1 : decode cX6_readStep 1 = .ok (.invokevirtual 58, 3) := by decide +kernel
theorem dX6_readStep_4 : decode cX6_readStep 4 = .ok (.ifCond .ne 5, 3) := by decide +kernel
theorem dX6_readStep_7 : decode cX6_readStep 7 = .ok (.iconst 0, 1) := by decide +kernel
theorem dX6_readStep_8 : decode cX6_readStep 8 = .ok (.ireturn, 1) := by decide +kernel
theorem dX6_readStep_9 : decode cX6_readStep 9 = .ok (.aload_n 1, 1) := by decide +kernel
theorem dX6_readStep_10 : decode cX6_readStep 10 = .ok (.invokestatic 62, 3) := by decide +kernel
theorem dX6_readStep_13 : decode cX6_readStep 13 = .ok (.istore_n 3, 1) := by decide +kernel
theorem dX6_readStep_14 : decode cX6_readStep 14 = .ok (.iload_n 3, 1) := by decide +kernel
theorem dX6_readStep_15 : decode cX6_readStep 15 = .ok (.iconst (-1), 1) := by decide +kernel
theorem dX6_readStep_16 : decode cX6_readStep 16 = .ok (.if_icmp .eq 12, 3) := by decide +kernel
theorem dX6_readStep_19 : decode cX6_readStep 19 = .ok (.aload_n 0, 1) := by decide +kernel
theorem dX6_readStep_20 : decode cX6_readStep 20 = .ok (.getfield 27, 3) := by decide +kernel
theorem dX6_readStep_23 : decode cX6_readStep 23 = .ok (.bipush 30, 2) := by decide +kernel
