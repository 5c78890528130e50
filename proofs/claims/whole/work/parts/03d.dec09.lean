theorem dX9_cost_92 : decode cX9_cost 92 = .ok (.aload_n 0, 1) := by decide +kernel
theorem dX9_cost_93 : decode cX9_cost 93 = .ok (.aload_n 0, 1) := by decide +kernel
theorem dX9_cost_94 : decode cX9_cost 94 = .ok (.getfield 58, 3) := by decide +kernel
theorem dX9_cost_97 : decode cX9_cost 97 = .ok (.iload_n 1, 1) := by decide +kernel
theorem dX9_cost_98 : decode cX9_cost 98 = .ok (.iload_n 2, 1) := by decide +kernel
theorem dX9_cost_99 : decode cX9_cost 99 = .ok (.iload_n 3, 1) := by decide +kernel
theorem dX9_cost_100 : decode cX9_cost 100 = .ok (.invokevirtual 313, 3) := by decide +kernel
theorem dX9_cost_103 : decode cX9_cost 103 = .ok (.ireturn, 1) := by decide +kernel
theorem dX9_would_0 : decode cX9_would 0 = .ok (.aload_n 0, 1) := by decide +kernel
theorem dX9_would_1 : decode cX9_would 1 = .ok (.iconst 0, 1) := by decide +kernel
theorem dX9_would_2 : decode cX9_would 2 = .ok (.putfield 128, 3) := by decide +kernel
theorem dX9_would_5 : decode cX9_would 5 = .ok (.aload_n 0, 1) := by decide +kernel
theorem dX9_would_6 : decode cX9_would 6 = .ok (.iload_n 1, 1) := by decide +kernel
theorem dX9_would_7 : decode cX9_would 7 = .ok (.iconst 1, 1) := by decide +kernel
theorem dX9_would_8 : decode cX9_would 8 = .ok (.bipush 8, 2) := by decide +kernel
theorem dX9_would_10 : decode cX9_would 10 = .ok (.invokestatic 162, 3) := by decide +kernel
theorem dX9_would_13 : decode cX9_would 13 = .ok (.ifCond .eq 68, 3) := by decide +kernel
theorem dX9_would_16 : decode cX9_would 16 = .ok (.iload_n 2, 1) := by decide +kernel
theorem dX9_would_17 : decode cX9_would 17 = .ok (.iconst 0, 1) := by decide +kernel
theorem dX9_would_18 : decode cX9_would 18 = .ok (.bipush 8, 2) := by decide +kernel
theorem dX9_would_20 : decode cX9_would 20 = .ok (.invokestatic 162, 3) := by decide +kernel
theorem dX9_would_23 : decode cX9_would 23 = .ok (.ifCond .eq 58, 3) := by decide +kernel
theorem dX9_would_26 : decode cX9_would 26 = .ok (.iload_n 3, 1) := by decide +kernel
theorem dX9_would_27 : decode cX9_would 27 = .ok (.iconst 0, 1) := by decide +kernel
theorem dX9_would_28 : decode cX9_would 28 = .ok (.bipush 7, 2) := by decide +kernel
theorem dX9_would_30 : decode cX9_would 30 = .ok (.invokestatic 162, 3) := by decide +kernel
theorem dX9_would_33 : decode cX9_would 33 = .ok (.ifCond .eq 48, 3) := by decide +kernel
theorem dX9_would_36 : decode cX9_would 36 = .ok (.iload 4, 2) := by decide +kernel
theorem dX9_would_38 : decode cX9_would 38 = .ok (.iconst 0, 1) := by decide +kernel
theorem dX9_would_39 : decode cX9_would 39 = .ok (.iconst 5, 1) := by decide +kernel
theorem dX9_would_40 : decode cX9_would 40 = .ok (.invokestatic 162, 3) := by decide +kernel
theorem dX9_would_43 : decode cX9_would 43 = .ok (.ifCond .eq 38, 3) := by decide +kernel
theorem dX9_would_46 : decode cX9_would 46 = .ok (.iload 5, 2) := by decide +kernel
theorem dX9_would_48 : decode cX9_would 48 = .ok (.iconst 0, 1) := by decide +kernel
theorem dX9_would_49 : decode cX9_would 49 = .ok (.bipush 48, 2) := by decide +kernel
theorem dX9_would_51 : decode cX9_would 51 = .ok (.invokestatic 162, 3) := by decide +kernel
theorem dX9_would_54 : decode cX9_would 54 = .ok (.ifCond .eq 27, 3) := by decide +kernel
theorem dX9_would_57 : decode cX9_would 57 = .ok (.iload 6, 2) := by decide +kernel
theorem dX9_would_59 : decode cX9_would 59 = .ok (.iconst 0, 1) := by decide +kernel
theorem dX9_would_60 : decode cX9_would 60 = .ok (.sipush 200, 3) := by decide +kernel
theorem dX9_would_63 : decode cX9_would 63 = .ok (.invokestatic 162, 3) := by decide +kernel
theorem dX9_would_66 : decode cX9_would 66 = .ok (.ifCond .eq 15, 3) := by decide +kernel
theorem dX9_would_69 : decode cX9_would 69 = .ok (.iload 7, 2) := by decide +kernel
theorem dX9_would_71 : decode cX9_would 71 = .ok (.iconst 0, 1) := by decide +kernel
theorem dX9_would_72 : decode cX9_would 72 = .ok (.sipush 999, 3) := by decide +kernel
theorem dX9_would_75 : decode cX9_would 75 = .ok (.invokestatic 162, 3) := by decide +kernel
theorem dX9_would_78 : decode cX9_would 78 = .ok (.ifCond .ne 7, 3) := by decide +kernel
theorem dX9_would_81 : decode cX9_would 81 = .ok (.iconst 1, 1) := by decide +kernel
theorem dX9_would_82 : decode cX9_would 82 = .ok (.goto 4, 3) := by decide +kernel
theorem dX9_would_85 : decode cX9_would 85 = .ok (.iconst 0, 1) := by decide +kernel
theorem dX9_would_86 : decode cX9_would 86 = .ok (.iconst 1, 1) := by decide +kernel
theorem dX9_would_87 : decode cX9_would 87 = .ok (.iconst 1, 1) := by decide +kernel
theorem dX9_would_88 : decode cX9_would 88 = .ok (.invokevirtual 207, 3) := by decide +kernel
theorem dX9_would_91 : decode cX9_would 91 = .ok (.ifCond .eq 5, 3) := by decide +kernel
theorem dX9_would_94 : decode cX9_would 94 = .ok (.iconst 0, 1) := by decide +kernel
theorem dX9_would_95 : decode cX9_would 95 = .ok (.ireturn, 1) := by decide +kernel
theorem dX9_would_96 : decode cX9_would 96 = .ok (.aload_n 0, 1) := by decide +kernel
theorem dX9_would_97 : decode cX9_would 97 = .ok (.iload_n 1, 1) := by decide +kernel
theorem dX9_would_98 : decode cX9_would 98 = .ok (.iload_n 2, 1) := by decide +kernel
theorem dX9_would_99 : decode cX9_would 99 = .ok (.iload_n 3, 1) := by decide +kernel
theorem dX9_would_100 : decode cX9_would 100 = .ok (.iload 4, 2) := by decide +kernel
theorem dX9_would_102 : decode cX9_would 102 = .ok (.iload 5, 2) := by decide +kernel
theorem dX9_would_104 : decode cX9_would 104 = .ok (.iload 6, 2) := by decide +kernel
theorem dX9_would_106 : decode cX9_would 106 = .ok (.iload 7, 2) := by decide +kernel
theorem dX9_would_108 : decode cX9_would 108 = .ok (.invokevirtual 309, 3) := by decide +kernel
theorem dX9_would_111 : decode cX9_would 111 = .ok (.ireturn, 1) := by decide +kernel
theorem dX9_ahead_0 : decode cX9_ahead 0 = .ok (.aload_n 0, 1) := by decide +kernel
theorem dX9_ahead_1 : decode cX9_ahead 1 = .ok (.iconst 0, 1) := by decide +kernel
theorem dX9_ahead_2 : decode cX9_ahead 2 = .ok (.putfield 128, 3) := by decide +kernel
theorem dX9_ahead_5 : decode cX9_ahead 5 = .ok (.aload_n 0, 1) := by decide +kernel
theorem dX9_ahead_6 : decode cX9_ahead 6 = .ok (.iload_n 1, 1) := by decide +kernel
theorem dX9_ahead_7 : decode cX9_ahead 7 = .ok (.iconst 0, 1) := by decide +kernel
theorem dX9_ahead_8 : decode cX9_ahead 8 = .ok (.sipush 999, 3) := by decide +kernel
theorem dX9_ahead_11 : decode cX9_ahead 11 = .ok (.invokestatic 162, 3) := by decide +kernel
theorem dX9_ahead_14 : decode cX9_ahead 14 = .ok (.ifCond .eq 12, 3) := by decide +kernel
theorem dX9_ahead_17 : decode cX9_ahead 17 = .ok (.iload_n 2, 1) := by decide +kernel
theorem dX9_ahead_18 : decode cX9_ahead 18 = .ok (.iconst 0, 1) := by decide +kernel
theorem dX9_ahead_19 : decode cX9_ahead 19 = .ok (.iconst 2, 1) := by decide +kernel
theorem dX9_ahead_20 : decode cX9_ahead 20 = .ok (.invokestatic 162, 3) := by decide +kernel
theorem dX9_ahead_23 : decode cX9_ahead 23 = .ok (.ifCond .ne 7, 3) := by decide +kernel
theorem dX9_ahead_26 : decode cX9_ahead 26 = .ok (.iconst 1, 1) := by decide +kernel
theorem dX9_ahead_27 : decode cX9_ahead 27 = .ok (.goto 4, 3) := by decide +kernel
theorem dX9_ahead_30 : decode cX9_ahead 30 = .ok (.iconst 0, 1) := by decide +kernel
theorem dX9_ahead_31 : decode cX9_ahead 31 = .ok (.iconst 1, 1) := by decide +kernel
theorem dX9_ahead_32 : decode cX9_ahead 32 = .ok (.iconst 1, 1) := by decide +kernel
theorem dX9_ahead_33 : decode cX9_ahead 33 = .ok (.invokevirtual 207, 3) := by decide +kernel
theorem dX9_ahead_36 : decode cX9_ahead 36 = .ok (.ifCond .eq 5, 3) := by decide +kernel
theorem dX9_ahead_39 : decode cX9_ahead 39 = .ok (.iconst 0, 1) := by decide +kernel
theorem dX9_ahead_40 : decode cX9_ahead 40 = .ok (.ireturn, 1) := by decide +kernel
theorem dX9_ahead_41 : decode cX9_ahead 41 = .ok (.aload_n 0, 1) := by decide +kernel
theorem dX9_ahead_42 : decode cX9_ahead 42 = .ok (.getfield 58, 3) := by decide +kernel
theorem dX9_ahead_45 : decode cX9_ahead 45 = .ok (.aload_n 0, 1) := by decide +kernel
theorem dX9_ahead_46 : decode cX9_ahead 46 = .ok (.getfield 61, 3) := by decide +kernel
theorem dX9_ahead_49 : decode cX9_ahead 49 = .ok (.invokestatic 370, 3) := by decide +kernel
theorem dX9_ahead_52 : decode cX9_ahead 52 = .ok (.iconst 0, 1) := by decide +kernel
theorem dX9_ahead_53 : decode cX9_ahead 53 = .ok (.istore_n 3, 1) := by decide +kernel
theorem dX9_ahead_54 : decode cX9_ahead 54 = .ok (.iload_n 3, 1) := by decide +kernel
theorem dX9_ahead_55 : decode cX9_ahead 55 = .ok (.iload_n 1, 1) := by decide +kernel
theorem dX9_ahead_56 : decode cX9_ahead 56 = .ok (.if_icmp .ge 32, 3) := by decide +kernel
theorem dX9_ahead_59 : decode cX9_ahead 59 = .ok (.aload_n 0, 1) := by decide +kernel
theorem dX9_ahead_60 : decode cX9_ahead 60 = .ok (.getfield 61, 3) := by decide +kernel
theorem dX9_ahead_63 : decode cX9_ahead 63 = .ok (.bipush 11, 2) := by decide +kernel
theorem dX9_ahead_65 : decode cX9_ahead 65 = .ok (.iaload, 1) := by decide +kernel
theorem dX9_ahead_66 : decode cX9_ahead 66 = .ok (.aload_n 0, 1) := by decide +kernel
theorem dX9_ahead_67 : decode cX9_ahead 67 = .ok (.getfield 223, 3) := by decide +kernel
theorem dX9_ahead_70 : decode cX9_ahead 70 = .ok (.if_icmp .ge 18, 3) := by decide +kernel
theorem dX9_ahead_73 : decode cX9_ahead 73 = .ok (.aload_n 0, 1) := by decide +kernel
theorem dX9_ahead_74 : decode cX9_ahead 74 = .ok (.aload_n 0, 1) := by decide +kernel
theorem dX9_ahead_75 : decode cX9_ahead 75 = .ok (.getfield 61, 3) := by decide +kernel
theorem dX9_ahead_78 : decode cX9_ahead 78 = .ok (.invokevirtual 335, 3) := by decide +kernel
theorem dX9_ahead_81 : decode cX9_ahead 81 = .ok (.pop, 1) := by decide +kernel
theorem dX9_ahead_82 : decode cX9_ahead 82 = .ok (.iinc 3 1, 3) := by decide +kernel
theorem dX9_ahead_85 : decode cX9_ahead 85 = .ok (.goto (-31), 3) := by decide +kernel
theorem dX9_ahead_88 : decode cX9_ahead 88 = .ok (.iload_n 2, 1) := by decide +kernel
theorem dX9_ahead_89 : decode cX9_ahead 89 = .ok (.ifCond .ne 13, 3) := by decide +kernel
theorem dX9_ahead_92 : decode cX9_ahead 92 = .ok (.aload_n 0, 1) := by decide +kernel
theorem dX9_ahead_93 : decode cX9_ahead 93 = .ok (.getfield 61, 3) := by decide +kernel
theorem dX9_ahead_96 : decode cX9_ahead 96 = .ok (.bipush 11, 2) := by decide +kernel
theorem dX9_ahead_98 : decode cX9_ahead 98 = .ok (.iaload, 1) := by decide +kernel
theorem dX9_ahead_99 : decode cX9_ahead 99 = .ok (.goto 26, 3) := by decide +kernel
theorem dX9_ahead_102 : decode cX9_ahead 102 = .ok (.iload_n 2, 1) := by decide +kernel
theorem dX9_ahead_103 : decode cX9_ahead 103 = .ok (.iconst 1, 1) := by decide +kernel
theorem dX9_ahead_104 : decode cX9_ahead 104 = .ok (.if_icmp .ne 13, 3) := by decide +kernel
theorem dX9_ahead_107 : decode cX9_ahead 107 = .ok (.aload_n 0, 1) := by decide +kernel
theorem dX9_ahead_108 : decode cX9_ahead 108 = .ok (.getfield 61, 3) := by decide +kernel
theorem dX9_ahead_111 : decode cX9_ahead 111 = .ok (.invokestatic 374, 3) := by decide +kernel
theorem dX9_ahead_114 : decode cX9_ahead 114 = .ok (.goto 11, 3) := by decide +kernel
theorem dX9_ahead_117 : decode cX9_ahead 117 = .ok (.aload_n 0, 1) := by decide +kernel
theorem dX9_ahead_118 : decode cX9_ahead 118 = .ok (.aload_n 0, 1) := by decide +kernel
theorem dX9_ahead_119 : decode cX9_ahead 119 = .ok (.getfield 61, 3) := by decide +kernel
theorem dX9_ahead_122 : decode cX9_ahead 122 = .ok (.invokevirtual 305, 3) := by decide +kernel
theorem dX9_ahead_125 : decode cX9_ahead 125 = .ok (.ireturn, 1) := by decide +kernel
theorem dX9_ends_0 : decode cX9_ends 0 = .ok (.aload_n 0, 1) := by decide +kernel
theorem dX9_ends_1 : decode cX9_ends 1 = .ok (.iconst 0, 1) := by decide +kernel
theorem dX9_ends_2 : decode cX9_ends 2 = .ok (.putfield 128, 3) := by decide +kernel
theorem dX9_ends_5 : decode cX9_ends 5 = .ok (.aload_n 0, 1) := by decide +kernel
theorem dX9_ends_6 : decode cX9_ends 6 = .ok (.getfield 58, 3) := by decide +kernel
theorem dX9_ends_9 : decode cX9_ends 9 = .ok (.aload_n 0, 1) := by decide +kernel
theorem dX9_ends_10 : decode cX9_ends 10 = .ok (.getfield 61, 3) := by decide +kernel
theorem dX9_ends_13 : decode cX9_ends 13 = .ok (.invokestatic 370, 3) := by decide +kernel
theorem dX9_ends_16 : decode cX9_ends 16 = .ok (.iconst 0, 1) := by decide +kernel
theorem dX9_ends_17 : decode cX9_ends 17 = .ok (.istore_n 1, 1) := by decide +kernel
theorem dX9_ends_18 : decode cX9_ends 18 = .ok (.aload_n 0, 1) := by decide +kernel
theorem dX9_ends_19 : decode cX9_ends 19 = .ok (.getfield 61, 3) := by decide +kernel
theorem dX9_ends_22 : decode cX9_ends 22 = .ok (.bipush 11, 2) := by decide +kernel
theorem dX9_ends_24 : decode cX9_ends 24 = .ok (.iaload, 1) := by decide +kernel
theorem dX9_ends_25 : decode cX9_ends 25 = .ok (.aload_n 0, 1) := by decide +kernel
theorem dX9_ends_26 : decode cX9_ends 26 = .ok (.getfield 223, 3) := by decide +kernel
theorem dX9_ends_29 : decode cX9_ends 29 = .ok (.if_icmp .ge 32, 3) := by decide +kernel
theorem dX9_ends_32 : decode cX9_ends 32 = .ok (.iload_n 1, 1) := by decide +kernel
theorem dX9_ends_33 : decode cX9_ends 33 = .ok (.sipush 999, 3) := by decide +kernel
theorem dX9_ends_36 : decode cX9_ends 36 = .ok (.if_icmp .gt 25, 3) := by decide +kernel
theorem dX9_ends_39 : decode cX9_ends 39 = .ok (.iload_n 1, 1) := by decide +kernel
theorem dX9_ends_40 : decode cX9_ends 40 = .ok (.aload_n 0, 1) := by decide +kernel
theorem dX9_ends_41 : decode cX9_ends 41 = .ok (.aload_n 0, 1) := by decide +kernel
theorem dX9_ends_42 : decode cX9_ends 42 = .ok (.getfield 61, 3) := by decide +kernel
theorem dX9_ends_45 : decode cX9_ends 45 = .ok (.invokevirtual 335, 3) := by decide +kernel
theorem dX9_ends_48 : decode cX9_ends 48 = .ok (.ifCond .eq 7, 3) := by decide +kernel
theorem dX9_ends_51 : decode cX9_ends 51 = .ok (.iconst 1, 1) := by decide +kernel
theorem dX9_ends_52 : decode cX9_ends 52 = .ok (.goto 4, 3) := by decide +kernel
theorem dX9_ends_55 : decode cX9_ends 55 = .ok (.iconst 0, 1) := by decide +kernel
theorem dX9_ends_56 : decode cX9_ends 56 = .ok (.iadd, 1) := by decide +kernel
theorem dX9_ends_57 : decode cX9_ends 57 = .ok (.istore_n 1, 1) := by decide +kernel
theorem dX9_ends_58 : decode cX9_ends 58 = .ok (.goto (-40), 3) := by decide +kernel
theorem dX9_ends_61 : decode cX9_ends 61 = .ok (.iload_n 1, 1) := by decide +kernel
theorem dX9_ends_62 : decode cX9_ends 62 = .ok (.sipush 999, 3) := by decide +kernel
theorem dX9_ends_65 : decode cX9_ends 65 = .ok (.if_icmp .le 7, 3) := by decide +kernel
theorem dX9_ends_68 : decode cX9_ends 68 = .ok (.iconst (-1), 1) := by decide +kernel
theorem dX9_ends_69 : decode cX9_ends 69 = .ok (.goto 4, 3) := by decide +kernel
theorem dX9_ends_72 : decode cX9_ends 72 = .ok (.iload_n 1, 1) := by decide +kernel
theorem dX9_ends_73 : decode cX9_ends 73 = .ok (.ireturn, 1) := by decide +kernel
theorem dX9_laysPage_0 : decode cX9_laysPage 0 = .ok (.iconst 0, 1) := by decide +kernel
theorem dX9_laysPage_1 : decode cX9_laysPage 1 = .ok (.istore_n 1, 1) := by decide +kernel
theorem dX9_laysPage_2 : decode cX9_laysPage 2 = .ok (.iconst 0, 1) := by decide +kernel
theorem dX9_laysPage_3 : decode cX9_laysPage 3 = .ok (.istore_n 2, 1) := by decide +kernel
theorem dX9_laysPage_4 : decode cX9_laysPage 4 = .ok (.iload_n 2, 1) := by decide +kernel
theorem dX9_laysPage_5 : decode cX9_laysPage 5 = .ok (.aload_n 0, 1) := by decide +kernel
theorem dX9_laysPage_6 : decode cX9_laysPage 6 = .ok (.getfield 223, 3) := by decide +kernel
theorem dX9_laysPage_9 : decode cX9_laysPage 9 = .ok (.if_icmp .ge 77, 3) := by decide +kernel
theorem dX9_laysPage_12 : decode cX9_laysPage 12 = .ok (.iconst 0, 1) := by decide +kernel
theorem dX9_laysPage_13 : decode cX9_laysPage 13 = .ok (.istore_n 3, 1) := by decide +kernel
theorem dX9_laysPage_14 : decode cX9_laysPage 14 = .ok (.iload_n 3, 1) := by decide +kernel
theorem dX9_laysPage_15 : decode cX9_laysPage 15 = .ok (.aload_n 0, 1) := by decide +kernel
theorem dX9_laysPage_16 : decode cX9_laysPage 16 = .ok (.getfield 26, 3) := by decide +kernel
theorem dX9_laysPage_19 : decode cX9_laysPage 19 = .ok (.iload_n 2, 1) := by decide +kernel
theorem dX9_laysPage_20 : decode cX9_laysPage 20 = .ok (.iaload, 1) := by decide +kernel
theorem dX9_laysPage_21 : decode cX9_laysPage 21 = .ok (.if_icmp .ge 59, 3) := by decide +kernel
theorem dX9_laysPage_24 : decode cX9_laysPage 24 = .ok (.aload_n 0, 1) := by decide +kernel
theorem dX9_laysPage_25 : decode cX9_laysPage 25 = .ok (.getfield 70, 3) := by decide +kernel
theorem dX9_laysPage_28 : decode cX9_laysPage 28 = .ok (.iload_n 1, 1) := by decide +kernel
theorem dX9_laysPage_29 : decode cX9_laysPage 29 = .ok (.aload_n 0, 1) := by decide +kernel
theorem dX9_laysPage_30 : decode cX9_laysPage 30 = .ok (.getfield 34, 3) := by decide +kernel
theorem dX9_laysPage_33 : decode cX9_laysPage 33 = .ok (.iload_n 2, 1) := by decide +kernel
theorem dX9_laysPage_34 : decode cX9_laysPage 34 = .ok (.aaload, 1) := by decide +kernel
theorem dX9_laysPage_35 : decode cX9_laysPage 35 = .ok (.iload_n 3, 1) := by decide +kernel
theorem dX9_laysPage_36 : decode cX9_laysPage 36 = .ok (.iaload, 1) := by decide +kernel
theorem dX9_laysPage_37 : decode cX9_laysPage 37 = .ok (.iastore, 1) := by decide +kernel
theorem dX9_laysPage_38 : decode cX9_laysPage 38 = .ok (.aload_n 0, 1) := by decide +kernel
theorem dX9_laysPage_39 : decode cX9_laysPage 39 = .ok (.getfield 73, 3) := by decide +kernel
theorem dX9_laysPage_42 : decode cX9_laysPage 42 = .ok (.iload_n 1, 1) := by decide +kernel
theorem dX9_laysPage_43 : decode cX9_laysPage 43 = .ok (.aload_n 0, 1) := by decide +kernel
theorem dX9_laysPage_44 : decode cX9_laysPage 44 = .ok (.getfield 58, 3) := by decide +kernel
theorem dX9_laysPage_47 : decode cX9_laysPage 47 = .ok (.iconst 0, 1) := by decide +kernel
theorem dX9_laysPage_48 : decode cX9_laysPage 48 = .ok (.iload_n 2, 1) := by decide +kernel
theorem dX9_laysPage_49 : decode cX9_laysPage 49 = .ok (.iadd, 1) := by decide +kernel
theorem dX9_laysPage_50 : decode cX9_laysPage 50 = .ok (.iaload, 1) := by decide +kernel
theorem dX9_laysPage_51 : decode cX9_laysPage 51 = .ok (.iload_n 3, 1) := by decide +kernel
theorem dX9_laysPage_52 : decode cX9_laysPage 52 = .ok (.ishr, 1) := by decide +kernel
theorem dX9_laysPage_53 : decode cX9_laysPage 53 = .ok (.iconst 1, 1) := by decide +kernel
theorem dX9_laysPage_54 : decode cX9_laysPage 54 = .ok (.iand, 1) := by decide +kernel
theorem dX9_laysPage_55 : decode cX9_laysPage 55 = .ok (.iastore, 1) := by decide +kernel
theorem dX9_laysPage_56 : decode cX9_laysPage 56 = .ok (.aload_n 0, 1) := by decide +kernel
theorem dX9_laysPage_57 : decode cX9_laysPage 57 = .ok (.getfield 76, 3) := by decide +kernel
theorem dX9_laysPage_60 : decode cX9_laysPage 60 = .ok (.iload_n 1, 1) := by decide +kernel
theorem dX9_laysPage_61 : decode cX9_laysPage 61 = .ok (.iload_n 3, 1) := by decide +kernel
theorem dX9_laysPage_62 : decode cX9_laysPage 62 = .ok (.ifCond .ne 7, 3) := by decide +kernel
theorem dX9_laysPage_65 : decode cX9_laysPage 65 = .ok (.iconst 1, 1) := by decide +kernel
theorem dX9_laysPage_66 : decode cX9_laysPage 66 = .ok (.goto 4, 3) := by decide +kernel
theorem dX9_laysPage_69 : decode cX9_laysPage 69 = .ok (.iconst 0, 1) := by decide +kernel
theorem dX9_laysPage_70 : decode cX9_laysPage 70 = .ok (.iastore, 1) := by decide +kernel
theorem dX9_laysPage_71 : decode cX9_laysPage 71 = .ok (.iinc 1 1, 3) := by decide +kernel
theorem dX9_laysPage_74 : decode cX9_laysPage 74 = .ok (.iinc 3 1, 3) := by decide +kernel
theorem dX9_laysPage_77 : decode cX9_laysPage 77 = .ok (.goto (-63), 3) := by decide +kernel
theorem dX9_laysPage_80 : decode cX9_laysPage 80 = .ok (.iinc 2 1, 3) := by decide +kernel
theorem dX9_laysPage_83 : decode cX9_laysPage 83 = .ok (.goto (-79), 3) := by decide +kernel
theorem dX9_laysPage_86 : decode cX9_laysPage 86 = .ok (.iload_n 1, 1) := by decide +kernel
theorem dX9_laysPage_87 : decode cX9_laysPage 87 = .ok (.ireturn, 1) := by decide +kernel
theorem dX9_says_0 : decode cX9_says 0 = .ok (.aload_n 0, 1) := by decide +kernel
theorem dX9_says_1 : decode cX9_says 1 = .ok (.iconst 0, 1) := by decide +kernel
theorem dX9_says_2 : decode cX9_says 2 = .ok (.putfield 128, 3) := by decide +kernel
theorem dX9_says_5 : decode cX9_says 5 = .ok (.aload_n 0, 1) := by decide +kernel
theorem dX9_says_6 : decode cX9_says 6 = .ok (.invokevirtual 380, 3) := by decide +kernel
theorem dX9_says_9 : decode cX9_says 9 = .ok (.istore_n 1, 1) := by decide +kernel
theorem dX9_says_10 : decode cX9_says 10 = .ok (.iconst 0, 1) := by decide +kernel
theorem dX9_says_11 : decode cX9_says 11 = .ok (.istore_n 2, 1) := by decide +kernel
theorem dX9_says_12 : decode cX9_says 12 = .ok (.iconst 0, 1) := by decide +kernel
theorem dX9_says_13 : decode cX9_says 13 = .ok (.istore_n 3, 1) := by decide +kernel
theorem dX9_says_14 : decode cX9_says 14 = .ok (.iload_n 3, 1) := by decide +kernel
theorem dX9_says_15 : decode cX9_says 15 = .ok (.iload_n 1, 1) := by decide +kernel
theorem dX9_says_16 : decode cX9_says 16 = .ok (.if_icmp .ge 50, 3) := by decide +kernel
theorem dX9_says_19 : decode cX9_says 19 = .ok (.aload_n 0, 1) := by decide +kernel
theorem dX9_says_20 : decode cX9_says 20 = .ok (.getfield 73, 3) := by decide +kernel
theorem dX9_says_23 : decode cX9_says 23 = .ok (.iload_n 3, 1) := by decide +kernel
theorem dX9_says_24 : decode cX9_says 24 = .ok (.iaload, 1) := by decide +kernel
theorem dX9_says_25 : decode cX9_says 25 = .ok (.iconst 1, 1) := by decide +kernel
theorem dX9_says_26 : decode cX9_says 26 = .ok (.if_icmp .ne 6, 3) := by decide +kernel
theorem dX9_says_29 : decode cX9_says 29 = .ok (.goto 31, 3) := by decide +kernel
theorem dX9_says_32 : decode cX9_says 32 = .ok (.iload_n 2, 1) := by decide +kernel
theorem dX9_says_33 : decode cX9_says 33 = .ok (.aload_n 0, 1) := by decide +kernel
theorem dX9_says_34 : decode cX9_says 34 = .ok (.getfield 233, 3) := by decide +kernel
theorem dX9_says_37 : decode cX9_says 37 = .ok (.if_icmp .eq 18, 3) := by decide +kernel
theorem dX9_says_40 : decode cX9_says 40 = .ok (.aload_n 0, 1) := by decide +kernel
theorem dX9_says_41 : decode cX9_says 41 = .ok (.getfield 49, 3) := by decide +kernel
theorem dX9_says_44 : decode cX9_says 44 = .ok (.iload_n 2, 1) := by decide +kernel
theorem dX9_says_45 : decode cX9_says 45 = .ok (.iaload, 1) := by decide +kernel
theorem dX9_says_46 : decode cX9_says 46 = .ok (.aload_n 0, 1) := by decide +kernel
theorem dX9_says_47 : decode cX9_says 47 = .ok (.getfield 70, 3) := by decide +kernel
theorem dX9_says_50 : decode cX9_says 50 = .ok (.iload_n 3, 1) := by decide +kernel
theorem dX9_says_51 : decode cX9_says 51 = .ok (.iaload, 1) := by decide +kernel
theorem dX9_says_52 : decode cX9_says 52 = .ok (.if_icmp .eq 5, 3) := by decide +kernel
theorem dX9_says_55 : decode cX9_says 55 = .ok (.iconst 0, 1) := by decide +kernel
theorem dX9_says_56 : decode cX9_says 56 = .ok (.ireturn, 1) := by decide +kernel
theorem dX9_says_57 : decode cX9_says 57 = .ok (.iinc 2 1, 3) := by decide +kernel
theorem dX9_says_60 : decode cX9_says 60 = .ok (.iinc 3 1, 3) := by decide +kernel
theorem dX9_says_63 : decode cX9_says 63 = .ok (.goto (-49), 3) := by decide +kernel
theorem dX9_says_66 : decode cX9_says 66 = .ok (.iload_n 2, 1) := by decide +kernel
theorem dX9_says_67 : decode cX9_says 67 = .ok (.aload_n 0, 1) := by decide +kernel
theorem dX9_says_68 : decode cX9_says 68 = .ok (.getfield 233, 3) := by decide +kernel
theorem dX9_says_71 : decode cX9_says 71 = .ok (.if_icmp .ne 7, 3) := by decide +kernel
theorem dX9_says_74 : decode cX9_says 74 = .ok (.iconst 1, 1) := by decide +kernel
theorem dX9_says_75 : decode cX9_says 75 = .ok (.goto 4, 3) := by decide +kernel
theorem dX9_says_78 : decode cX9_says 78 = .ok (.iconst 0, 1) := by decide +kernel
theorem dX9_says_79 : decode cX9_says 79 = .ok (.ireturn, 1) := by decide +kernel
theorem dX9_comes_0 : decode cX9_comes 0 = .ok (.iload_n 2, 1) := by decide +kernel
theorem dX9_comes_1 : decode cX9_comes 1 = .ok (.aload_n 0, 1) := by decide +kernel
theorem dX9_comes_2 : decode cX9_comes 2 = .ok (.getfield 82, 3) := by decide +kernel
theorem dX9_comes_5 : decode cX9_comes 5 = .ok (.iload_n 1, 1) := by decide +kernel
theorem dX9_comes_6 : decode cX9_comes 6 = .ok (.iaload, 1) := by decide +kernel
theorem dX9_comes_7 : decode cX9_comes 7 = .ok (.if_icmp .le 4, 3) := by decide +kernel
theorem dX9_comes_10 : decode cX9_comes 10 = .ok (.return_, 1) := by decide +kernel
theorem dX9_comes_11 : decode cX9_comes 11 = .ok (.aload_n 0, 1) := by decide +kernel
theorem dX9_comes_12 : decode cX9_comes 12 = .ok (.getfield 89, 3) := by decide +kernel
theorem dX9_comes_15 : decode cX9_comes 15 = .ok (.iload_n 1, 1) := by decide +kernel
theorem dX9_comes_16 : decode cX9_comes 16 = .ok (.iload_n 2, 1) := by decide +kernel
theorem dX9_comes_17 : decode cX9_comes 17 = .ok (.aload_n 0, 1) := by decide +kernel
theorem dX9_comes_18 : decode cX9_comes 18 = .ok (.getfield 82, 3) := by decide +kernel
theorem dX9_comes_21 : decode cX9_comes 21 = .ok (.iload_n 1, 1) := by decide +kernel
theorem dX9_comes_22 : decode cX9_comes 22 = .ok (.iaload, 1) := by decide +kernel
theorem dX9_comes_23 : decode cX9_comes 23 = .ok (.if_icmp .ge 7, 3) := by decide +kernel
theorem dX9_comes_26 : decode cX9_comes 26 = .ok (.lload_n 3, 1) := by decide +kernel
theorem dX9_comes_27 : decode cX9_comes 27 = .ok (.goto 11, 3) := by decide +kernel
theorem dX9_comes_30 : decode cX9_comes 30 = .ok (.aload_n 0, 1) := by decide +kernel
theorem dX9_comes_31 : decode cX9_comes 31 = .ok (.getfield 89, 3) := by decide +kernel
theorem dX9_comes_34 : decode cX9_comes 34 = .ok (.iload_n 1, 1) := by decide +kernel
theorem dX9_comes_35 : decode cX9_comes 35 = .ok (.laload, 1) := by decide +kernel
theorem dX9_comes_36 : decode cX9_comes 36 = .ok (.lload_n 3, 1) := by decide +kernel
theorem dX9_comes_37 : decode cX9_comes 37 = .ok (.ladd, 1) := by decide +kernel
theorem dX9_comes_38 : decode cX9_comes 38 = .ok (.lastore, 1) := by decide +kernel
theorem dX9_comes_39 : decode cX9_comes 39 = .ok (.aload_n 0, 1) := by decide +kernel
theorem dX9_comes_40 : decode cX9_comes 40 = .ok (.getfield 82, 3) := by decide +kernel
theorem dX9_comes_43 : decode cX9_comes 43 = .ok (.iload_n 1, 1) := by decide +kernel
theorem dX9_comes_44 : decode cX9_comes 44 = .ok (.iload_n 2, 1) := by decide +kernel
theorem dX9_comes_45 : decode cX9_comes 45 = .ok (.iastore, 1) := by decide +kernel
theorem dX9_comes_46 : decode cX9_comes 46 = .ok (.return_, 1) := by decide +kernel
theorem dX9_goesOver_0 : decode cX9_goesOver 0 = .ok (.iload_n 2, 1) := by decide +kernel
theorem dX9_goesOver_1 : decode cX9_goesOver 1 = .ok (.iconst 2, 1) := by decide +kernel
theorem dX9_goesOver_2 : decode cX9_goesOver 2 = .ok (.idiv, 1) := by decide +kernel
theorem dX9_goesOver_3 : decode cX9_goesOver 3 = .ok (.iload_n 3, 1) := by decide +kernel
theorem dX9_goesOver_4 : decode cX9_goesOver 4 = .ok (.ifCond .eq 7, 3) := by decide +kernel
theorem dX9_goesOver_7 : decode cX9_goesOver 7 = .ok (.iconst 1, 1) := by decide +kernel
theorem dX9_goesOver_8 : decode cX9_goesOver 8 = .ok (.goto 4, 3) := by decide +kernel
theorem dX9_goesOver_11 : decode cX9_goesOver 11 = .ok (.iconst 0, 1) := by decide +kernel
theorem dX9_goesOver_12 : decode cX9_goesOver 12 = .ok (.iadd, 1) := by decide +kernel
theorem dX9_goesOver_13 : decode cX9_goesOver 13 = .ok (.istore 4, 2) := by decide +kernel
theorem dX9_goesOver_15 : decode cX9_goesOver 15 = .ok (.aload_n 0, 1) := by decide +kernel
theorem dX9_goesOver_16 : decode cX9_goesOver 16 = .ok (.getfield 73, 3) := by decide +kernel
theorem dX9_goesOver_19 : decode cX9_goesOver 19 = .ok (.iload_n 1, 1) := by decide +kernel
theorem dX9_goesOver_20 : decode cX9_goesOver 20 = .ok (.iaload, 1) := by decide +kernel
theorem dX9_goesOver_21 : decode cX9_goesOver 21 = .ok (.iconst 1, 1) := by decide +kernel
theorem dX9_goesOver_22 : decode cX9_goesOver 22 = .ok (.if_icmp .ne 7, 3) := by decide +kernel
theorem dX9_goesOver_25 : decode cX9_goesOver 25 = .ok (.iconst 1, 1) := by decide +kernel
theorem dX9_goesOver_26 : decode cX9_goesOver 26 = .ok (.goto 4, 3) := by decide +kernel
theorem dX9_goesOver_29 : decode cX9_goesOver 29 = .ok (.iconst 0, 1) := by decide +kernel
theorem dX9_goesOver_30 : decode cX9_goesOver 30 = .ok (.iload_n 3, 1) := by decide +kernel
theorem dX9_goesOver_31 : decode cX9_goesOver 31 = .ok (.if_icmp .ne 7, 3) := by decide +kernel
theorem dX9_goesOver_34 : decode cX9_goesOver 34 = .ok (.iconst 1, 1) := by decide +kernel
theorem dX9_goesOver_35 : decode cX9_goesOver 35 = .ok (.goto 4, 3) := by decide +kernel
theorem dX9_goesOver_38 : decode cX9_goesOver 38 = .ok (.iconst 0, 1) := by decide +kernel
theorem dX9_goesOver_39 : decode cX9_goesOver 39 = .ok (.istore 5, 2) := by decide +kernel
theorem dX9_goesOver_41 : decode cX9_goesOver 41 = .ok (.aload_n 0, 1) := by decide +kernel
theorem dX9_goesOver_42 : decode cX9_goesOver 42 = .ok (.getfield 76, 3) := by decide +kernel
theorem dX9_goesOver_45 : decode cX9_goesOver 45 = .ok (.iload_n 1, 1) := by decide +kernel
theorem dX9_goesOver_46 : decode cX9_goesOver 46 = .ok (.iaload, 1) := by decide +kernel
theorem dX9_goesOver_47 : decode cX9_goesOver 47 = .ok (.iconst 1, 1) := by decide +kernel
theorem dX9_goesOver_48 : decode cX9_goesOver 48 = .ok (.if_icmp .ne 7, 3) := by decide +kernel
theorem dX9_goesOver_51 : decode cX9_goesOver 51 = .ok (.iconst 0, 1) := by decide +kernel
theorem dX9_goesOver_52 : decode cX9_goesOver 52 = .ok (.goto 6, 3) := by decide +kernel
theorem dX9_goesOver_55 : decode cX9_goesOver 55 = .ok (.iload_n 2, 1) := by decide +kernel
theorem dX9_goesOver_56 : decode cX9_goesOver 56 = .ok (.iconst 2, 1) := by decide +kernel
theorem dX9_goesOver_57 : decode cX9_goesOver 57 = .ok (.irem, 1) := by decide +kernel
theorem dX9_goesOver_58 : decode cX9_goesOver 58 = .ok (.istore 6, 2) := by decide +kernel
theorem dX9_goesOver_60 : decode cX9_goesOver 60 = .ok (.aload_n 0, 1) := by decide +kernel
theorem dX9_goesOver_61 : decode cX9_goesOver 61 = .ok (.iconst 2, 1) := by decide +kernel
theorem dX9_goesOver_62 : decode cX9_goesOver 62 = .ok (.iload 4, 2) := by decide +kernel
theorem dX9_goesOver_64 : decode cX9_goesOver 64 = .ok (.imul, 1) := by decide +kernel
theorem dX9_goesOver_65 : decode cX9_goesOver 65 = .ok (.iload 5, 2) := by decide +kernel
theorem dX9_goesOver_67 : decode cX9_goesOver 67 = .ok (.iadd, 1) := by decide +kernel
theorem dX9_goesOver_68 : decode cX9_goesOver 68 = .ok (.aload_n 0, 1) := by decide +kernel
theorem dX9_goesOver_69 : decode cX9_goesOver 69 = .ok (.getfield 79, 3) := by decide +kernel
theorem dX9_goesOver_72 : decode cX9_goesOver 72 = .ok (.iload_n 2, 1) := by decide +kernel
theorem dX9_goesOver_73 : decode cX9_goesOver 73 = .ok (.iaload, 1) := by decide +kernel
theorem dX9_goesOver_74 : decode cX9_goesOver 74 = .ok (.iload 5, 2) := by decide +kernel
theorem dX9_goesOver_76 : decode cX9_goesOver 76 = .ok (.iconst 1, 1) := by decide +kernel
theorem dX9_goesOver_77 : decode cX9_goesOver 77 = .ok (.if_icmp .ne 12, 3) := by decide +kernel
theorem dX9_goesOver_80 : decode cX9_goesOver 80 = .ok (.iload 6, 2) := by decide +kernel
theorem dX9_goesOver_82 : decode cX9_goesOver 82 = .ok (.ifCond .ne 7, 3) := by decide +kernel
theorem dX9_goesOver_85 : decode cX9_goesOver 85 = .ok (.iconst 1, 1) := by decide +kernel
theorem dX9_goesOver_86 : decode cX9_goesOver 86 = .ok (.goto 4, 3) := by decide +kernel
theorem dX9_goesOver_89 : decode cX9_goesOver 89 = .ok (.iconst 0, 1) := by decide +kernel
theorem dX9_goesOver_90 : decode cX9_goesOver 90 = .ok (.iadd, 1) := by decide +kernel
theorem dX9_goesOver_91 : decode cX9_goesOver 91 = .ok (.aload_n 0, 1) := by decide +kernel
theorem dX9_goesOver_92 : decode cX9_goesOver 92 = .ok (.getfield 85, 3) := by decide +kernel
theorem dX9_goesOver_95 : decode cX9_goesOver 95 = .ok (.iload_n 2, 1) := by decide +kernel
theorem dX9_goesOver_96 : decode cX9_goesOver 96 = .ok (.laload, 1) := by decide +kernel
theorem dX9_goesOver_97 : decode cX9_goesOver 97 = .ok (.invokevirtual 383, 3) := by decide +kernel
theorem dX9_goesOver_100 : decode cX9_goesOver 100 = .ok (.return_, 1) := by decide +kernel
theorem dX9_laysStrokes_0 : decode cX9_laysStrokes 0 = .ok (.aload_n 0, 1) := by decide +kernel
theorem dX9_laysStrokes_1 : decode cX9_laysStrokes 1 = .ok (.invokevirtual 380, 3) := by decide +kernel
theorem dX9_laysStrokes_4 : decode cX9_laysStrokes 4 = .ok (.istore_n 1, 1) := by decide +kernel
theorem dX9_laysStrokes_5 : decode cX9_laysStrokes 5 = .ok (.iconst 0, 1) := by decide +kernel
theorem dX9_laysStrokes_6 : decode cX9_laysStrokes 6 = .ok (.istore_n 2, 1) := by decide +kernel
theorem dX9_laysStrokes_7 : decode cX9_laysStrokes 7 = .ok (.iload_n 2, 1) := by decide +kernel
theorem dX9_laysStrokes_8 : decode cX9_laysStrokes 8 = .ok (.bipush 26, 2) := by decide +kernel
theorem dX9_laysStrokes_10 : decode cX9_laysStrokes 10 = .ok (.if_icmp .ge 41, 3) := by decide +kernel
theorem dX9_laysStrokes_13 : decode cX9_laysStrokes 13 = .ok (.aload_n 0, 1) := by decide +kernel
theorem dX9_laysStrokes_14 : decode cX9_laysStrokes 14 = .ok (.getfield 79, 3) := by decide +kernel
theorem dX9_laysStrokes_17 : decode cX9_laysStrokes 17 = .ok (.iload_n 2, 1) := by decide +kernel
theorem dX9_laysStrokes_18 : decode cX9_laysStrokes 18 = .ok (.iload_n 2, 1) := by decide +kernel
theorem dX9_laysStrokes_19 : decode cX9_laysStrokes 19 = .ok (.ifCond .ne 7, 3) := by decide +kernel
theorem dX9_laysStrokes_22 : decode cX9_laysStrokes 22 = .ok (.iconst 0, 1) := by decide +kernel
theorem dX9_laysStrokes_23 : decode cX9_laysStrokes 23 = .ok (.goto 6, 3) := by decide +kernel
theorem dX9_laysStrokes_26 : decode cX9_laysStrokes 26 = .ok (.sipush 9999, 3) := by decide +kernel
theorem dX9_laysStrokes_29 : decode cX9_laysStrokes 29 = .ok (.iastore, 1) := by decide +kernel
theorem dX9_laysStrokes_30 : decode cX9_laysStrokes 30 = .ok (.aload_n 0, 1) := by decide +kernel
theorem dX9_laysStrokes_31 : decode cX9_laysStrokes 31 = .ok (.getfield 85, 3) := by decide +kernel
theorem dX9_laysStrokes_34 : decode cX9_laysStrokes 34 = .ok (.iload_n 2, 1) := by decide +kernel
theorem dX9_laysStrokes_35 : decode cX9_laysStrokes 35 = .ok (.iload_n 2, 1) := by decide +kernel
theorem dX9_laysStrokes_36 : decode cX9_laysStrokes 36 = .ok (.ifCond .ne 7, 3) := by decide +kernel
theorem dX9_laysStrokes_39 : decode cX9_laysStrokes 39 = .ok (.lconst 1, 1) := by decide +kernel
theorem dX9_laysStrokes_40 : decode cX9_laysStrokes 40 = .ok (.goto 4, 3) := by decide +kernel
theorem dX9_laysStrokes_43 : decode cX9_laysStrokes 43 = .ok (.lconst 0, 1) := by decide +kernel
theorem dX9_laysStrokes_44 : decode cX9_laysStrokes 44 = .ok (.lastore, 1) := by decide +kernel
theorem dX9_laysStrokes_45 : decode cX9_laysStrokes 45 = .ok (.iinc 2 1, 3) := by decide +kernel
theorem dX9_laysStrokes_48 : decode cX9_laysStrokes 48 = .ok (.goto (-41), 3) := by decide +kernel
theorem dX9_laysStrokes_51 : decode cX9_laysStrokes 51 = .ok (.iconst 0, 1) := by decide +kernel
theorem dX9_laysStrokes_52 : decode cX9_laysStrokes 52 = .ok (.istore_n 2, 1) := by decide +kernel
theorem dX9_laysStrokes_53 : decode cX9_laysStrokes 53 = .ok (.iload_n 2, 1) := by decide +kernel
theorem dX9_laysStrokes_54 : decode cX9_laysStrokes 54 = .ok (.iload_n 1, 1) := by decide +kernel
theorem dX9_laysStrokes_55 : decode cX9_laysStrokes 55 = .ok (.if_icmp .ge 147, 3) := by decide +kernel
theorem dX9_laysStrokes_58 : decode cX9_laysStrokes 58 = .ok (.iconst 0, 1) := by decide +kernel
theorem dX9_laysStrokes_59 : decode cX9_laysStrokes 59 = .ok (.istore_n 3, 1) := by decide +kernel
theorem dX9_laysStrokes_60 : decode cX9_laysStrokes 60 = .ok (.iload_n 3, 1) := by decide +kernel
theorem dX9_laysStrokes_61 : decode cX9_laysStrokes 61 = .ok (.bipush 26, 2) := by decide +kernel
theorem dX9_laysStrokes_63 : decode cX9_laysStrokes 63 = .ok (.if_icmp .ge 25, 3) := by decide +kernel
theorem dX9_laysStrokes_66 : decode cX9_laysStrokes 66 = .ok (.aload_n 0, 1) := by decide +kernel
theorem dX9_laysStrokes_67 : decode cX9_laysStrokes 67 = .ok (.getfield 82, 3) := by decide +kernel
theorem dX9_laysStrokes_70 : decode cX9_laysStrokes 70 = .ok (.iload_n 3, 1) := by decide +kernel
theorem dX9_laysStrokes_71 : decode cX9_laysStrokes 71 = .ok (.sipush 9999, 3) := by decide +kernel
theorem dX9_laysStrokes_74 : decode cX9_laysStrokes 74 = .ok (.iastore, 1) := by decide +kernel
theorem dX9_laysStrokes_75 : decode cX9_laysStrokes 75 = .ok (.aload_n 0, 1) := by decide +kernel
theorem dX9_laysStrokes_76 : decode cX9_laysStrokes 76 = .ok (.getfield 89, 3) := by decide +kernel
theorem dX9_laysStrokes_79 : decode cX9_laysStrokes 79 = .ok (.iload_n 3, 1) := by decide +kernel
theorem dX9_laysStrokes_80 : decode cX9_laysStrokes 80 = .ok (.lconst 0, 1) := by decide +kernel
theorem dX9_laysStrokes_81 : decode cX9_laysStrokes 81 = .ok (.lastore, 1) := by decide +kernel
theorem dX9_laysStrokes_82 : decode cX9_laysStrokes 82 = .ok (.iinc 3 1, 3) := by decide +kernel
theorem dX9_laysStrokes_85 : decode cX9_laysStrokes 85 = .ok (.goto (-25), 3) := by decide +kernel
theorem dX9_laysStrokes_88 : decode cX9_laysStrokes 88 = .ok (.iconst 0, 1) := by decide +kernel
theorem dX9_laysStrokes_89 : decode cX9_laysStrokes 89 = .ok (.istore_n 3, 1) := by decide +kernel
theorem dX9_laysStrokes_90 : decode cX9_laysStrokes 90 = .ok (.iload_n 3, 1) := by decide +kernel
theorem dX9_laysStrokes_91 : decode cX9_laysStrokes 91 = .ok (.bipush 26, 2) := by decide +kernel
theorem dX9_laysStrokes_93 : decode cX9_laysStrokes 93 = .ok (.if_icmp .ge 65, 3) := by decide +kernel
theorem dX9_laysStrokes_96 : decode cX9_laysStrokes 96 = .ok (.aload_n 0, 1) := by decide +kernel
theorem dX9_laysStrokes_97 : decode cX9_laysStrokes 97 = .ok (.getfield 79, 3) := by decide +kernel
theorem dX9_laysStrokes_100 : decode cX9_laysStrokes 100 = .ok (.iload_n 3, 1) := by decide +kernel
theorem dX9_laysStrokes_101 : decode cX9_laysStrokes 101 = .ok (.iaload, 1) := by decide +kernel
theorem dX9_laysStrokes_102 : decode cX9_laysStrokes 102 = .ok (.sipush 9999, 3) := by decide +kernel
theorem dX9_laysStrokes_105 : decode cX9_laysStrokes 105 = .ok (.if_icmp .ne 6, 3) := by decide +kernel
theorem dX9_laysStrokes_108 : decode cX9_laysStrokes 108 = .ok (.goto 44, 3) := by decide +kernel
theorem dX9_laysStrokes_111 : decode cX9_laysStrokes 111 = .ok (.aload_n 0, 1) := by decide +kernel
theorem dX9_laysStrokes_112 : decode cX9_laysStrokes 112 = .ok (.iload_n 2, 1) := by decide +kernel
theorem dX9_laysStrokes_113 : decode cX9_laysStrokes 113 = .ok (.iload_n 3, 1) := by decide +kernel
theorem dX9_laysStrokes_114 : decode cX9_laysStrokes 114 = .ok (.iconst 0, 1) := by decide +kernel
theorem dX9_laysStrokes_115 : decode cX9_laysStrokes 115 = .ok (.invokevirtual 387, 3) := by decide +kernel
theorem dX9_laysStrokes_118 : decode cX9_laysStrokes 118 = .ok (.iload_n 3, 1) := by decide +kernel
theorem dX9_laysStrokes_119 : decode cX9_laysStrokes 119 = .ok (.iconst 2, 1) := by decide +kernel
theorem dX9_laysStrokes_120 : decode cX9_laysStrokes 120 = .ok (.idiv, 1) := by decide +kernel
theorem dX9_laysStrokes_121 : decode cX9_laysStrokes 121 = .ok (.aload_n 0, 1) := by decide +kernel
theorem dX9_laysStrokes_122 : decode cX9_laysStrokes 122 = .ok (.getfield 233, 3) := by decide +kernel
theorem dX9_laysStrokes_125 : decode cX9_laysStrokes 125 = .ok (.if_icmp .ge 27, 3) := by decide +kernel
theorem dX9_laysStrokes_128 : decode cX9_laysStrokes 128 = .ok (.aload_n 0, 1) := by decide +kernel
theorem dX9_laysStrokes_129 : decode cX9_laysStrokes 129 = .ok (.getfield 49, 3) := by decide +kernel
theorem dX9_laysStrokes_132 : decode cX9_laysStrokes 132 = .ok (.iload_n 3, 1) := by decide +kernel
theorem dX9_laysStrokes_133 : decode cX9_laysStrokes 133 = .ok (.iconst 2, 1) := by decide +kernel
theorem dX9_laysStrokes_134 : decode cX9_laysStrokes 134 = .ok (.idiv, 1) := by decide +kernel
theorem dX9_laysStrokes_135 : decode cX9_laysStrokes 135 = .ok (.iaload, 1) := by decide +kernel
theorem dX9_laysStrokes_136 : decode cX9_laysStrokes 136 = .ok (.aload_n 0, 1) := by decide +kernel
theorem dX9_laysStrokes_137 : decode cX9_laysStrokes 137 = .ok (.getfield 70, 3) := by decide +kernel
theorem dX9_laysStrokes_140 : decode cX9_laysStrokes 140 = .ok (.iload_n 2, 1) := by decide +kernel
theorem dX9_laysStrokes_141 : decode cX9_laysStrokes 141 = .ok (.iaload, 1) := by decide +kernel
theorem dX9_laysStrokes_142 : decode cX9_laysStrokes 142 = .ok (.if_icmp .ne 10, 3) := by decide +kernel
theorem dX9_laysStrokes_145 : decode cX9_laysStrokes 145 = .ok (.aload_n 0, 1) := by decide +kernel
theorem dX9_laysStrokes_146 : decode cX9_laysStrokes 146 = .ok (.iload_n 2, 1) := by decide +kernel
theorem dX9_laysStrokes_147 : decode cX9_laysStrokes 147 = .ok (.iload_n 3, 1) := by decide +kernel
theorem dX9_laysStrokes_148 : decode cX9_laysStrokes 148 = .ok (.iconst 1, 1) := by decide +kernel
theorem dX9_laysStrokes_149 : decode cX9_laysStrokes 149 = .ok (.invokevirtual 387, 3) := by decide +kernel
theorem dX9_laysStrokes_152 : decode cX9_laysStrokes 152 = .ok (.iinc 3 1, 3) := by decide +kernel
theorem dX9_laysStrokes_155 : decode cX9_laysStrokes 155 = .ok (.goto (-65), 3) := by decide +kernel
theorem dX9_laysStrokes_158 : decode cX9_laysStrokes 158 = .ok (.iconst 0, 1) := by decide +kernel
theorem dX9_laysStrokes_159 : decode cX9_laysStrokes 159 = .ok (.istore_n 3, 1) := by decide +kernel
theorem dX9_laysStrokes_160 : decode cX9_laysStrokes 160 = .ok (.iload_n 3, 1) := by decide +kernel
theorem dX9_laysStrokes_161 : decode cX9_laysStrokes 161 = .ok (.bipush 26, 2) := by decide +kernel
theorem dX9_laysStrokes_163 : decode cX9_laysStrokes 163 = .ok (.if_icmp .ge 33, 3) := by decide +kernel
theorem dX9_laysStrokes_166 : decode cX9_laysStrokes 166 = .ok (.aload_n 0, 1) := by decide +kernel
theorem dX9_laysStrokes_167 : decode cX9_laysStrokes 167 = .ok (.getfield 79, 3) := by decide +kernel
theorem dX9_laysStrokes_170 : decode cX9_laysStrokes 170 = .ok (.iload_n 3, 1) := by decide +kernel
theorem dX9_laysStrokes_171 : decode cX9_laysStrokes 171 = .ok (.aload_n 0, 1) := by decide +kernel
theorem dX9_laysStrokes_172 : decode cX9_laysStrokes 172 = .ok (.getfield 82, 3) := by decide +kernel
theorem dX9_laysStrokes_175 : decode cX9_laysStrokes 175 = .ok (.iload_n 3, 1) := by decide +kernel
theorem dX9_laysStrokes_176 : decode cX9_laysStrokes 176 = .ok (.iaload, 1) := by decide +kernel
theorem dX9_laysStrokes_177 : decode cX9_laysStrokes 177 = .ok (.iastore, 1) := by decide +kernel
theorem dX9_laysStrokes_178 : decode cX9_laysStrokes 178 = .ok (.aload_n 0, 1) := by decide +kernel
theorem dX9_laysStrokes_179 : decode cX9_laysStrokes 179 = .ok (.getfield 85, 3) := by decide +kernel
theorem dX9_laysStrokes_182 : decode cX9_laysStrokes 182 = .ok (.iload_n 3, 1) := by decide +kernel
theorem dX9_laysStrokes_183 : decode cX9_laysStrokes 183 = .ok (.aload_n 0, 1) := by decide +kernel
theorem dX9_laysStrokes_184 : decode cX9_laysStrokes 184 = .ok (.getfield 89, 3) := by decide +kernel
theorem dX9_laysStrokes_187 : decode cX9_laysStrokes 187 = .ok (.iload_n 3, 1) := by decide +kernel
theorem dX9_laysStrokes_188 : decode cX9_laysStrokes 188 = .ok (.laload, 1) := by decide +kernel
theorem dX9_laysStrokes_189 : decode cX9_laysStrokes 189 = .ok (.lastore, 1) := by decide +kernel
theorem dX9_laysStrokes_190 : decode cX9_laysStrokes 190 = .ok (.iinc 3 1, 3) := by decide +kernel
theorem dX9_laysStrokes_193 : decode cX9_laysStrokes 193 = .ok (.goto (-33), 3) := by decide +kernel
theorem dX9_laysStrokes_196 : decode cX9_laysStrokes 196 = .ok (.iinc 2 1, 3) := by decide +kernel
theorem dX9_laysStrokes_199 : decode cX9_laysStrokes 199 = .ok (.goto (-146), 3) := by decide +kernel
theorem dX9_laysStrokes_202 : decode cX9_laysStrokes 202 = .ok (.return_, 1) := by decide +kernel
theorem dX9_strokes_0 : decode cX9_strokes 0 = .ok (.aload_n 0, 1) := by decide +kernel
theorem dX9_strokes_1 : decode cX9_strokes 1 = .ok (.iconst 0, 1) := by decide +kernel
theorem dX9_strokes_2 : decode cX9_strokes 2 = .ok (.putfield 128, 3) := by decide +kernel
theorem dX9_strokes_5 : decode cX9_strokes 5 = .ok (.aload_n 0, 1) := by decide +kernel
theorem dX9_strokes_6 : decode cX9_strokes 6 = .ok (.invokevirtual 391, 3) := by decide +kernel
theorem dX9_strokes_9 : decode cX9_strokes 9 = .ok (.aload_n 0, 1) := by decide +kernel
theorem dX9_strokes_10 : decode cX9_strokes 10 = .ok (.getfield 79, 3) := by decide +kernel
theorem dX9_strokes_13 : decode cX9_strokes 13 = .ok (.iconst 2, 1) := by decide +kernel
theorem dX9_strokes_14 : decode cX9_strokes 14 = .ok (.aload_n 0, 1) := by decide +kernel
theorem dX9_strokes_15 : decode cX9_strokes 15 = .ok (.getfield 233, 3) := by decide +kernel
theorem dX9_strokes_18 : decode cX9_strokes 18 = .ok (.imul, 1) := by decide +kernel
theorem dX9_strokes_19 : decode cX9_strokes 19 = .ok (.iaload, 1) := by decide +kernel
theorem dX9_strokes_20 : decode cX9_strokes 20 = .ok (.aload_n 0, 1) := by decide +kernel
theorem dX9_strokes_21 : decode cX9_strokes 21 = .ok (.getfield 79, 3) := by decide +kernel
theorem dX9_strokes_24 : decode cX9_strokes 24 = .ok (.iconst 2, 1) := by decide +kernel
theorem dX9_strokes_25 : decode cX9_strokes 25 = .ok (.aload_n 0, 1) := by decide +kernel
theorem dX9_strokes_26 : decode cX9_strokes 26 = .ok (.getfield 233, 3) := by decide +kernel
theorem dX9_strokes_29 : decode cX9_strokes 29 = .ok (.imul, 1) := by decide +kernel
theorem dX9_strokes_30 : decode cX9_strokes 30 = .ok (.iconst 1, 1) := by decide +kernel
theorem dX9_strokes_31 : decode cX9_strokes 31 = .ok (.iadd, 1) := by decide +kernel
theorem dX9_strokes_32 : decode cX9_strokes 32 = .ok (.iaload, 1) := by decide +kernel
theorem dX9_strokes_33 : decode cX9_strokes 33 = .ok (.invokestatic 273, 3) := by decide +kernel
theorem dX9_strokes_36 : decode cX9_strokes 36 = .ok (.istore_n 1, 1) := by decide +kernel
theorem dX9_strokes_37 : decode cX9_strokes 37 = .ok (.iload_n 1, 1) := by decide +kernel
theorem dX9_strokes_38 : decode cX9_strokes 38 = .ok (.sipush 9999, 3) := by decide +kernel
theorem dX9_strokes_41 : decode cX9_strokes 41 = .ok (.if_icmp .ne 7, 3) := by decide +kernel
theorem dX9_strokes_44 : decode cX9_strokes 44 = .ok (.iconst (-1), 1) := by decide +kernel
theorem dX9_strokes_45 : decode cX9_strokes 45 = .ok (.goto 4, 3) := by decide +kernel
theorem dX9_strokes_48 : decode cX9_strokes 48 = .ok (.iload_n 1, 1) := by decide +kernel
theorem dX9_strokes_49 : decode cX9_strokes 49 = .ok (.ireturn, 1) := by decide +kernel
theorem dX9_best_0 : decode cX9_best 0 = .ok (.aload_n 0, 1) := by decide +kernel
theorem dX9_best_1 : decode cX9_best 1 = .ok (.iconst 0, 1) := by decide +kernel
theorem dX9_best_2 : decode cX9_best 2 = .ok (.putfield 128, 3) := by decide +kernel
theorem dX9_best_5 : decode cX9_best 5 = .ok (.aload_n 0, 1) := by decide +kernel
theorem dX9_best_6 : decode cX9_best 6 = .ok (.invokevirtual 391, 3) := by decide +kernel
theorem dX9_best_9 : decode cX9_best 9 = .ok (.aload_n 0, 1) := by decide +kernel
theorem dX9_best_10 : decode cX9_best 10 = .ok (.getfield 79, 3) := by decide +kernel
theorem dX9_best_13 : decode cX9_best 13 = .ok (.iconst 2, 1) := by decide +kernel
theorem dX9_best_14 : decode cX9_best 14 = .ok (.aload_n 0, 1) := by decide +kernel
theorem dX9_best_15 : decode cX9_best 15 = .ok (.getfield 233, 3) := by decide +kernel
theorem dX9_best_18 : decode cX9_best 18 = .ok (.imul, 1) := by decide +kernel
theorem dX9_best_19 : decode cX9_best 19 = .ok (.iaload, 1) := by decide +kernel
theorem dX9_best_20 : decode cX9_best 20 = .ok (.aload_n 0, 1) := by decide +kernel
theorem dX9_best_21 : decode cX9_best 21 = .ok (.getfield 79, 3) := by decide +kernel
theorem dX9_best_24 : decode cX9_best 24 = .ok (.iconst 2, 1) := by decide +kernel
theorem dX9_best_25 : decode cX9_best 25 = .ok (.aload_n 0, 1) := by decide +kernel
theorem dX9_best_26 : decode cX9_best 26 = .ok (.getfield 233, 3) := by decide +kernel
theorem dX9_best_29 : decode cX9_best 29 = .ok (.imul, 1) := by decide +kernel
theorem dX9_best_30 : decode cX9_best 30 = .ok (.iconst 1, 1) := by decide +kernel
theorem dX9_best_31 : decode cX9_best 31 = .ok (.iadd, 1) := by decide +kernel
theorem dX9_best_32 : decode cX9_best 32 = .ok (.iaload, 1) := by decide +kernel
theorem dX9_best_33 : decode cX9_best 33 = .ok (.invokestatic 273, 3) := by decide +kernel
theorem dX9_best_36 : decode cX9_best 36 = .ok (.istore_n 1, 1) := by decide +kernel
theorem dX9_best_37 : decode cX9_best 37 = .ok (.iload_n 1, 1) := by decide +kernel
theorem dX9_best_38 : decode cX9_best 38 = .ok (.sipush 9999, 3) := by decide +kernel
theorem dX9_best_41 : decode cX9_best 41 = .ok (.if_icmp .ne 5, 3) := by decide +kernel
theorem dX9_best_44 : decode cX9_best 44 = .ok (.lconst 0, 1) := by decide +kernel
theorem dX9_best_45 : decode cX9_best 45 = .ok (.lreturn, 1) := by decide +kernel
theorem dX9_best_46 : decode cX9_best 46 = .ok (.aload_n 0, 1) := by decide +kernel
theorem dX9_best_47 : decode cX9_best 47 = .ok (.getfield 79, 3) := by decide +kernel
theorem dX9_best_50 : decode cX9_best 50 = .ok (.iconst 2, 1) := by decide +kernel
theorem dX9_best_51 : decode cX9_best 51 = .ok (.aload_n 0, 1) := by decide +kernel
theorem dX9_best_52 : decode cX9_best 52 = .ok (.getfield 233, 3) := by decide +kernel
theorem dX9_best_55 : decode cX9_best 55 = .ok (.imul, 1) := by decide +kernel
theorem dX9_best_56 : decode cX9_best 56 = .ok (.iaload, 1) := by decide +kernel
theorem dX9_best_57 : decode cX9_best 57 = .ok (.iload_n 1, 1) := by decide +kernel
theorem dX9_best_58 : decode cX9_best 58 = .ok (.if_icmp .ne 17, 3) := by decide +kernel
theorem dX9_best_61 : decode cX9_best 61 = .ok (.aload_n 0, 1) := by decide +kernel
theorem dX9_best_62 : decode cX9_best 62 = .ok (.getfield 85, 3) := by decide +kernel
theorem dX9_best_65 : decode cX9_best 65 = .ok (.iconst 2, 1) := by decide +kernel
theorem dX9_best_66 : decode cX9_best 66 = .ok (.aload_n 0, 1) := by decide +kernel
theorem dX9_best_67 : decode cX9_best 67 = .ok (.getfield 233, 3) := by decide +kernel
theorem dX9_best_70 : decode cX9_best 70 = .ok (.imul, 1) := by decide +kernel
theorem dX9_best_71 : decode cX9_best 71 = .ok (.laload, 1) := by decide +kernel
theorem dX9_best_72 : decode cX9_best 72 = .ok (.goto 4, 3) := by decide +kernel
theorem dX9_best_75 : decode cX9_best 75 = .ok (.lconst 0, 1) := by decide +kernel
theorem dX9_best_76 : decode cX9_best 76 = .ok (.aload_n 0, 1) := by decide +kernel
theorem dX9_best_77 : decode cX9_best 77 = .ok (.getfield 79, 3) := by decide +kernel
theorem dX9_best_80 : decode cX9_best 80 = .ok (.iconst 2, 1) := by decide +kernel
theorem dX9_best_81 : decode cX9_best 81 = .ok (.aload_n 0, 1) := by decide +kernel
theorem dX9_best_82 : decode cX9_best 82 = .ok (.getfield 233, 3) := by decide +kernel
theorem dX9_best_85 : decode cX9_best 85 = .ok (.imul, 1) := by decide +kernel
theorem dX9_best_86 : decode cX9_best 86 = .ok (.iconst 1, 1) := by decide +kernel
theorem dX9_best_87 : decode cX9_best 87 = .ok (.iadd, 1) := by decide +kernel
theorem dX9_best_88 : decode cX9_best 88 = .ok (.iaload, 1) := by decide +kernel
theorem dX9_best_89 : decode cX9_best 89 = .ok (.iload_n 1, 1) := by decide +kernel
theorem dX9_best_90 : decode cX9_best 90 = .ok (.if_icmp .ne 19, 3) := by decide +kernel
theorem dX9_best_93 : decode cX9_best 93 = .ok (.aload_n 0, 1) := by decide +kernel
theorem dX9_best_94 : decode cX9_best 94 = .ok (.getfield 85, 3) := by decide +kernel
theorem dX9_best_97 : decode cX9_best 97 = .ok (.iconst 2, 1) := by decide +kernel
theorem dX9_best_98 : decode cX9_best 98 = .ok (.aload_n 0, 1) := by decide +kernel
theorem dX9_best_99 : decode cX9_best 99 = .ok (.getfield 233, 3) := by decide +kernel
theorem dX9_best_102 : decode cX9_best 102 = .ok (.imul, 1) := by decide +kernel
theorem dX9_best_103 : decode cX9_best 103 = .ok (.iconst 1, 1) := by decide +kernel
theorem dX9_best_104 : decode cX9_best 104 = .ok (.iadd, 1) := by decide +kernel
theorem dX9_best_105 : decode cX9_best 105 = .ok (.laload, 1) := by decide +kernel
theorem dX9_best_106 : decode cX9_best 106 = .ok (.goto 4, 3) := by decide +kernel
theorem dX9_best_109 : decode cX9_best 109 = .ok (.lconst 0, 1) := by decide +kernel
theorem dX9_best_110 : decode cX9_best 110 = .ok (.ladd, 1) := by decide +kernel
theorem dX9_best_111 : decode cX9_best 111 = .ok (.lreturn, 1) := by decide +kernel
theorem dX9_ways_0 : decode cX9_ways 0 = .ok (.aload_n 0, 1) := by decide +kernel
theorem dX9_ways_1 : decode cX9_ways 1 = .ok (.iconst 0, 1) := by decide +kernel
theorem dX9_ways_2 : decode cX9_ways 2 = .ok (.putfield 128, 3) := by decide +kernel
theorem dX9_ways_5 : decode cX9_ways 5 = .ok (.aload_n 0, 1) := by decide +kernel
theorem dX9_ways_6 : decode cX9_ways 6 = .ok (.invokevirtual 380, 3) := by decide +kernel
theorem dX9_ways_9 : decode cX9_ways 9 = .ok (.istore_n 1, 1) := by decide +kernel
theorem dX9_ways_10 : decode cX9_ways 10 = .ok (.iconst 0, 1) := by decide +kernel
theorem dX9_ways_11 : decode cX9_ways 11 = .ok (.istore_n 2, 1) := by decide +kernel
theorem dX9_ways_12 : decode cX9_ways 12 = .ok (.iload_n 2, 1) := by decide +kernel
theorem dX9_ways_13 : decode cX9_ways 13 = .ok (.bipush 12, 2) := by decide +kernel
theorem dX9_ways_15 : decode cX9_ways 15 = .ok (.if_icmp .gt 24, 3) := by decide +kernel
theorem dX9_ways_18 : decode cX9_ways 18 = .ok (.aload_n 0, 1) := by decide +kernel
theorem dX9_ways_19 : decode cX9_ways 19 = .ok (.getfield 92, 3) := by decide +kernel
theorem dX9_ways_22 : decode cX9_ways 22 = .ok (.iload_n 2, 1) := by decide +kernel
theorem dX9_ways_23 : decode cX9_ways 23 = .ok (.iload_n 2, 1) := by decide +kernel
theorem dX9_ways_24 : decode cX9_ways 24 = .ok (.ifCond .ne 7, 3) := by decide +kernel
theorem dX9_ways_27 : decode cX9_ways 27 = .ok (.lconst 1, 1) := by decide +kernel
theorem dX9_ways_28 : decode cX9_ways 28 = .ok (.goto 4, 3) := by decide +kernel
theorem dX9_ways_31 : decode cX9_ways 31 = .ok (.lconst 0, 1) := by decide +kernel
theorem dX9_ways_32 : decode cX9_ways 32 = .ok (.lastore, 1) := by decide +kernel
theorem dX9_ways_33 : decode cX9_ways 33 = .ok (.iinc 2 1, 3) := by decide +kernel
theorem dX9_ways_36 : decode cX9_ways 36 = .ok (.goto (-24), 3) := by decide +kernel
theorem dX9_ways_39 : decode cX9_ways 39 = .ok (.iconst 0, 1) := by decide +kernel
theorem dX9_ways_40 : decode cX9_ways 40 = .ok (.istore_n 2, 1) := by decide +kernel
theorem dX9_ways_41 : decode cX9_ways 41 = .ok (.iload_n 2, 1) := by decide +kernel
theorem dX9_ways_42 : decode cX9_ways 42 = .ok (.iload_n 1, 1) := by decide +kernel
theorem dX9_ways_43 : decode cX9_ways 43 = .ok (.if_icmp .ge 62, 3) := by decide +kernel
theorem dX9_ways_46 : decode cX9_ways 46 = .ok (.aload_n 0, 1) := by decide +kernel
theorem dX9_ways_47 : decode cX9_ways 47 = .ok (.getfield 233, 3) := by decide +kernel
theorem dX9_ways_50 : decode cX9_ways 50 = .ok (.istore_n 3, 1) := by decide +kernel
theorem dX9_ways_51 : decode cX9_ways 51 = .ok (.iload_n 3, 1) := by decide +kernel
theorem dX9_ways_52 : decode cX9_ways 52 = .ok (.ifCond .le 47, 3) := by decide +kernel
theorem dX9_ways_55 : decode cX9_ways 55 = .ok (.aload_n 0, 1) := by decide +kernel
theorem dX9_ways_56 : decode cX9_ways 56 = .ok (.getfield 92, 3) := by decide +kernel
theorem dX9_ways_59 : decode cX9_ways 59 = .ok (.iload_n 3, 1) := by decide +kernel
theorem dX9_ways_60 : decode cX9_ways 60 = .ok (.dup2, 1) := by decide +kernel
theorem dX9_ways_61 : decode cX9_ways 61 = .ok (.laload, 1) := by decide +kernel
theorem dX9_ways_62 : decode cX9_ways 62 = .ok (.aload_n 0, 1) := by decide +kernel
theorem dX9_ways_63 : decode cX9_ways 63 = .ok (.getfield 49, 3) := by decide +kernel
theorem dX9_ways_66 : decode cX9_ways 66 = .ok (.iload_n 3, 1) := by decide +kernel
theorem dX9_ways_67 : decode cX9_ways 67 = .ok (.iconst 1, 1) := by decide +kernel
theorem dX9_ways_68 : decode cX9_ways 68 = .ok (.isub, 1) := by decide +kernel
theorem dX9_ways_69 : decode cX9_ways 69 = .ok (.iaload, 1) := by decide +kernel
theorem dX9_ways_70 : decode cX9_ways 70 = .ok (.aload_n 0, 1) := by decide +kernel
theorem dX9_ways_71 : decode cX9_ways 71 = .ok (.getfield 70, 3) := by decide +kernel
theorem dX9_ways_74 : decode cX9_ways 74 = .ok (.iload_n 2, 1) := by decide +kernel
theorem dX9_ways_75 : decode cX9_ways 75 = .ok (.iaload, 1) := by decide +kernel
theorem dX9_ways_76 : decode cX9_ways 76 = .ok (.if_icmp .ne 14, 3) := by decide +kernel
theorem dX9_ways_79 : decode cX9_ways 79 = .ok (.aload_n 0, 1) := by decide +kernel
theorem dX9_ways_80 : decode cX9_ways 80 = .ok (.getfield 92, 3) := by decide +kernel
theorem dX9_ways_83 : decode cX9_ways 83 = .ok (.iload_n 3, 1) := by decide +kernel
theorem dX9_ways_84 : decode cX9_ways 84 = .ok (.iconst 1, 1) := by decide +kernel
theorem dX9_ways_85 : decode cX9_ways 85 = .ok (.isub, 1) := by decide +kernel
theorem dX9_ways_86 : decode cX9_ways 86 = .ok (.laload, 1) := by decide +kernel
theorem dX9_ways_87 : decode cX9_ways 87 = .ok (.goto 4, 3) := by decide +kernel
theorem dX9_ways_90 : decode cX9_ways 90 = .ok (.lconst 0, 1) := by decide +kernel
theorem dX9_ways_91 : decode cX9_ways 91 = .ok (.ladd, 1) := by decide +kernel
theorem dX9_ways_92 : decode cX9_ways 92 = .ok (.lastore, 1) := by decide +kernel
theorem dX9_ways_93 : decode cX9_ways 93 = .ok (.iinc 3 (-1), 3) := by decide +kernel
theorem dX9_ways_96 : decode cX9_ways 96 = .ok (.goto (-45), 3) := by decide +kernel
theorem dX9_ways_99 : decode cX9_ways 99 = .ok (.iinc 2 1, 3) := by decide +kernel
theorem dX9_ways_102 : decode cX9_ways 102 = .ok (.goto (-61), 3) := by decide +kernel
theorem dX9_ways_105 : decode cX9_ways 105 = .ok (.aload_n 0, 1) := by decide +kernel
theorem dX9_ways_106 : decode cX9_ways 106 = .ok (.getfield 92, 3) := by decide +kernel
theorem dX9_ways_109 : decode cX9_ways 109 = .ok (.aload_n 0, 1) := by decide +kernel
theorem dX9_ways_110 : decode cX9_ways 110 = .ok (.getfield 233, 3) := by decide +kernel
theorem dX9_ways_113 : decode cX9_ways 113 = .ok (.laload, 1) := by decide +kernel
theorem dX9_ways_114 : decode cX9_ways 114 = .ok (.lreturn, 1) := by decide +kernel
theorem dX9_unlike_0 : decode cX9_unlike 0 = .ok (.aload_n 0, 1) := by decide +kernel
theorem dX9_unlike_1 : decode cX9_unlike 1 = .ok (.iconst 0, 1) := by decide +kernel
theorem dX9_unlike_2 : decode cX9_unlike 2 = .ok (.putfield 128, 3) := by decide +kernel
theorem dX9_unlike_5 : decode cX9_unlike 5 = .ok (.aload_n 0, 1) := by decide +kernel
theorem dX9_unlike_6 : decode cX9_unlike 6 = .ok (.iload_n 1, 1) := by decide +kernel
theorem dX9_unlike_7 : decode cX9_unlike 7 = .ok (.iconst 0, 1) := by decide +kernel
theorem dX9_unlike_8 : decode cX9_unlike 8 = .ok (.bipush 12, 2) := by decide +kernel
theorem dX9_unlike_10 : decode cX9_unlike 10 = .ok (.invokestatic 162, 3) := by decide +kernel
theorem dX9_unlike_13 : decode cX9_unlike 13 = .ok (.ifCond .ne 7, 3) := by decide +kernel
theorem dX9_unlike_16 : decode cX9_unlike 16 = .ok (.iconst 1, 1) := by decide +kernel
theorem dX9_unlike_17 : decode cX9_unlike 17 = .ok (.goto 4, 3) := by decide +kernel
theorem dX9_unlike_20 : decode cX9_unlike 20 = .ok (.iconst 0, 1) := by decide +kernel
theorem dX9_unlike_21 : decode cX9_unlike 21 = .ok (.iconst 1, 1) := by decide +kernel
theorem dX9_unlike_22 : decode cX9_unlike 22 = .ok (.iconst 1, 1) := by decide +kernel
theorem dX9_unlike_23 : decode cX9_unlike 23 = .ok (.invokevirtual 207, 3) := by decide +kernel
theorem dX9_unlike_26 : decode cX9_unlike 26 = .ok (.ifCond .eq 5, 3) := by decide +kernel
theorem dX9_unlike_29 : decode cX9_unlike 29 = .ok (.lconst 0, 1) := by decide +kernel
theorem dX9_unlike_30 : decode cX9_unlike 30 = .ok (.lreturn, 1) := by decide +kernel
theorem dX9_unlike_31 : decode cX9_unlike 31 = .ok (.aload_n 0, 1) := by decide +kernel
theorem dX9_unlike_32 : decode cX9_unlike 32 = .ok (.invokevirtual 380, 3) := by decide +kernel
theorem dX9_unlike_35 : decode cX9_unlike 35 = .ok (.istore_n 2, 1) := by decide +kernel
theorem dX9_unlike_36 : decode cX9_unlike 36 = .ok (.iconst 0, 1) := by decide +kernel
theorem dX9_unlike_37 : decode cX9_unlike 37 = .ok (.istore_n 3, 1) := by decide +kernel
theorem dX9_unlike_38 : decode cX9_unlike 38 = .ok (.iload_n 3, 1) := by decide +kernel
theorem dX9_unlike_39 : decode cX9_unlike 39 = .ok (.bipush 12, 2) := by decide +kernel
theorem dX9_unlike_41 : decode cX9_unlike 41 = .ok (.if_icmp .gt 35, 3) := by decide +kernel
theorem dX9_unlike_44 : decode cX9_unlike 44 = .ok (.iconst 0, 1) := by decide +kernel
theorem dX9_unlike_45 : decode cX9_unlike 45 = .ok (.istore 4, 2) := by decide +kernel
theorem dX9_unlike_47 : decode cX9_unlike 47 = .ok (.iload 4, 2) := by decide +kernel
theorem dX9_unlike_49 : decode cX9_unlike 49 = .ok (.bipush 16, 2) := by decide +kernel
theorem dX9_unlike_51 : decode cX9_unlike 51 = .ok (.if_icmp .ge 19, 3) := by decide +kernel
theorem dX9_unlike_54 : decode cX9_unlike 54 = .ok (.aload_n 0, 1) := by decide +kernel
theorem dX9_unlike_55 : decode cX9_unlike 55 = .ok (.getfield 97, 3) := by decide +kernel
theorem dX9_unlike_58 : decode cX9_unlike 58 = .ok (.iload_n 3, 1) := by decide +kernel
theorem dX9_unlike_59 : decode cX9_unlike 59 = .ok (.aaload, 1) := by decide +kernel
theorem dX9_unlike_60 : decode cX9_unlike 60 = .ok (.iload 4, 2) := by decide +kernel
theorem dX9_unlike_62 : decode cX9_unlike 62 = .ok (.lconst 0, 1) := by decide +kernel
theorem dX9_unlike_63 : decode cX9_unlike 63 = .ok (.lastore, 1) := by decide +kernel
theorem dX9_unlike_64 : decode cX9_unlike 64 = .ok (.iinc 4 1, 3) := by decide +kernel
theorem dX9_unlike_67 : decode cX9_unlike 67 = .ok (.goto (-20), 3) := by decide +kernel
theorem dX9_unlike_70 : decode cX9_unlike 70 = .ok (.iinc 3 1, 3) := by decide +kernel
theorem dX9_unlike_73 : decode cX9_unlike 73 = .ok (.goto (-35), 3) := by decide +kernel
theorem dX9_unlike_76 : decode cX9_unlike 76 = .ok (.iconst 0, 1) := by decide +kernel
theorem dX9_unlike_77 : decode cX9_unlike 77 = .ok (.istore_n 3, 1) := by decide +kernel
theorem dX9_unlike_78 : decode cX9_unlike 78 = .ok (.iload_n 3, 1) := by decide +kernel
theorem dX9_unlike_79 : decode cX9_unlike 79 = .ok (.iload_n 2, 1) := by decide +kernel
theorem dX9_unlike_80 : decode cX9_unlike 80 = .ok (.if_icmp .ge 91, 3) := by decide +kernel
theorem dX9_unlike_83 : decode cX9_unlike 83 = .ok (.iload_n 1, 1) := by decide +kernel
theorem dX9_unlike_84 : decode cX9_unlike 84 = .ok (.istore 4, 2) := by decide +kernel
theorem dX9_unlike_86 : decode cX9_unlike 86 = .ok (.iload 4, 2) := by decide +kernel
theorem dX9_unlike_88 : decode cX9_unlike 88 = .ok (.ifCond .le 77, 3) := by decide +kernel
theorem dX9_unlike_91 : decode cX9_unlike 91 = .ok (.iload 4, 2) := by decide +kernel
theorem dX9_unlike_93 : decode cX9_unlike 93 = .ok (.iconst 1, 1) := by decide +kernel
theorem dX9_unlike_94 : decode cX9_unlike 94 = .ok (.if_icmp .ne 7, 3) := by decide +kernel
theorem dX9_unlike_97 : decode cX9_unlike 97 = .ok (.lconst 1, 1) := by decide +kernel
theorem dX9_unlike_98 : decode cX9_unlike 98 = .ok (.goto 4, 3) := by decide +kernel
theorem dX9_unlike_101 : decode cX9_unlike 101 = .ok (.lconst 0, 1) := by decide +kernel
theorem dX9_unlike_102 : decode cX9_unlike 102 = .ok (.lstore 5, 2) := by decide +kernel
theorem dX9_unlike_104 : decode cX9_unlike 104 = .ok (.iconst 0, 1) := by decide +kernel
theorem dX9_unlike_105 : decode cX9_unlike 105 = .ok (.istore 7, 2) := by decide +kernel
theorem dX9_unlike_107 : decode cX9_unlike 107 = .ok (.iload 7, 2) := by decide +kernel
theorem dX9_unlike_109 : decode cX9_unlike 109 = .ok (.bipush 16, 2) := by decide +kernel
theorem dX9_unlike_111 : decode cX9_unlike 111 = .ok (.if_icmp .ge 32, 3) := by decide +kernel
theorem dX9_unlike_114 : decode cX9_unlike 114 = .ok (.iload 4, 2) := by decide +kernel
theorem dX9_unlike_116 : decode cX9_unlike 116 = .ok (.iconst 1, 1) := by decide +kernel
theorem dX9_unlike_117 : decode cX9_unlike 117 = .ok (.if_icmp .le 26, 3) := by decide +kernel
theorem dX9_unlike_120 : decode cX9_unlike 120 = .ok (.lload 5, 2) := by decide +kernel
theorem dX9_unlike_122 : decode cX9_unlike 122 = .ok (.aload_n 0, 1) := by decide +kernel
theorem dX9_unlike_123 : decode cX9_unlike 123 = .ok (.getfield 97, 3) := by decide +kernel
theorem dX9_unlike_126 : decode cX9_unlike 126 = .ok (.iload 4, 2) := by decide +kernel
theorem dX9_unlike_128 : decode cX9_unlike 128 = .ok (.iconst 1, 1) := by decide +kernel
theorem dX9_unlike_129 : decode cX9_unlike 129 = .ok (.isub, 1) := by decide +kernel
theorem dX9_unlike_130 : decode cX9_unlike 130 = .ok (.aaload, 1) := by decide +kernel
theorem dX9_unlike_131 : decode cX9_unlike 131 = .ok (.iload 7, 2) := by decide +kernel
theorem dX9_unlike_133 : decode cX9_unlike 133 = .ok (.laload, 1) := by decide +kernel
theorem dX9_unlike_134 : decode cX9_unlike 134 = .ok (.ladd, 1) := by decide +kernel
theorem dX9_unlike_135 : decode cX9_unlike 135 = .ok (.lstore 5, 2) := by decide +kernel
theorem dX9_unlike_137 : decode cX9_unlike 137 = .ok (.iinc 7 1, 3) := by decide +kernel
theorem dX9_unlike_140 : decode cX9_unlike 140 = .ok (.goto (-33), 3) := by decide +kernel
theorem dX9_unlike_143 : decode cX9_unlike 143 = .ok (.aload_n 0, 1) := by decide +kernel
theorem dX9_unlike_144 : decode cX9_unlike 144 = .ok (.getfield 97, 3) := by decide +kernel
theorem dX9_unlike_147 : decode cX9_unlike 147 = .ok (.iload 4, 2) := by decide +kernel
theorem dX9_unlike_149 : decode cX9_unlike 149 = .ok (.aaload, 1) := by decide +kernel
theorem dX9_unlike_150 : decode cX9_unlike 150 = .ok (.aload_n 0, 1) := by decide +kernel
theorem dX9_unlike_151 : decode cX9_unlike 151 = .ok (.getfield 70, 3) := by decide +kernel
theorem dX9_unlike_154 : decode cX9_unlike 154 = .ok (.iload_n 3, 1) := by decide +kernel
theorem dX9_unlike_155 : decode cX9_unlike 155 = .ok (.iaload, 1) := by decide +kernel
theorem dX9_unlike_156 : decode cX9_unlike 156 = .ok (.lload 5, 2) := by decide +kernel
theorem dX9_unlike_158 : decode cX9_unlike 158 = .ok (.lastore, 1) := by decide +kernel
theorem dX9_unlike_159 : decode cX9_unlike 159 = .ok (.iinc 4 (-1), 3) := by decide +kernel
theorem dX9_unlike_162 : decode cX9_unlike 162 = .ok (.goto (-76), 3) := by decide +kernel
theorem dX9_unlike_165 : decode cX9_unlike 165 = .ok (.iinc 3 1, 3) := by decide +kernel
theorem dX9_unlike_168 : decode cX9_unlike 168 = .ok (.goto (-90), 3) := by decide +kernel
theorem dX9_unlike_171 : decode cX9_unlike 171 = .ok (.iload_n 1, 1) := by decide +kernel
theorem dX9_unlike_172 : decode cX9_unlike 172 = .ok (.ifCond .ne 7, 3) := by decide +kernel
theorem dX9_unlike_175 : decode cX9_unlike 175 = .ok (.lconst 1, 1) := by decide +kernel
theorem dX9_unlike_176 : decode cX9_unlike 176 = .ok (.goto 4, 3) := by decide +kernel
theorem dX9_unlike_179 : decode cX9_unlike 179 = .ok (.lconst 0, 1) := by decide +kernel
theorem dX9_unlike_180 : decode cX9_unlike 180 = .ok (.lstore_n 3, 1) := by decide +kernel
theorem dX9_unlike_181 : decode cX9_unlike 181 = .ok (.iconst 0, 1) := by decide +kernel
theorem dX9_unlike_182 : decode cX9_unlike 182 = .ok (.istore 5, 2) := by decide +kernel
theorem dX9_unlike_184 : decode cX9_unlike 184 = .ok (.iload 5, 2) := by decide +kernel
theorem dX9_unlike_186 : decode cX9_unlike 186 = .ok (.bipush 16, 2) := by decide +kernel
theorem dX9_unlike_188 : decode cX9_unlike 188 = .ok (.if_icmp .ge 21, 3) := by decide +kernel
theorem dX9_unlike_191 : decode cX9_unlike 191 = .ok (.lload_n 3, 1) := by decide +kernel
theorem dX9_unlike_192 : decode cX9_unlike 192 = .ok (.aload_n 0, 1) := by decide +kernel
theorem dX9_unlike_193 : decode cX9_unlike 193 = .ok (.getfield 97, 3) := by decide +kernel
theorem dX9_unlike_196 : decode cX9_unlike 196 = .ok (.iload_n 1, 1) := by decide +kernel
theorem dX9_unlike_197 : decode cX9_unlike 197 = .ok (.aaload, 1) := by decide +kernel
theorem dX9_unlike_198 : decode cX9_unlike 198 = .ok (.iload 5, 2) := by decide +kernel
theorem dX9_unlike_200 : decode cX9_unlike 200 = .ok (.laload, 1) := by decide +kernel
theorem dX9_unlike_201 : decode cX9_unlike 201 = .ok (.ladd, 1) := by decide +kernel
theorem dX9_unlike_202 : decode cX9_unlike 202 = .ok (.lstore_n 3, 1) := by decide +kernel
theorem dX9_unlike_203 : decode cX9_unlike 203 = .ok (.iinc 5 1, 3) := by decide +kernel
theorem dX9_unlike_206 : decode cX9_unlike 206 = .ok (.goto (-22), 3) := by decide +kernel
theorem dX9_unlike_209 : decode cX9_unlike 209 = .ok (.lload_n 3, 1) := by decide +kernel
theorem dX9_unlike_210 : decode cX9_unlike 210 = .ok (.lreturn, 1) := by decide +kernel
theorem dX9_forged_0 : decode cX9_forged 0 = .ok (.aload_n 0, 1) := by decide +kernel
theorem dX9_forged_1 : decode cX9_forged 1 = .ok (.iconst 0, 1) := by decide +kernel
theorem dX9_forged_2 : decode cX9_forged 2 = .ok (.putfield 128, 3) := by decide +kernel
theorem dX9_forged_5 : decode cX9_forged 5 = .ok (.aload_n 0, 1) := by decide +kernel
theorem dX9_forged_6 : decode cX9_forged 6 = .ok (.iload_n 1, 1) := by decide +kernel
theorem dX9_forged_7 : decode cX9_forged 7 = .ok (.iconst 0, 1) := by decide +kernel
theorem dX9_forged_8 : decode cX9_forged 8 = .ok (.iconst 1, 1) := by decide +kernel
theorem dX9_forged_9 : decode cX9_forged 9 = .ok (.invokestatic 162, 3) := by decide +kernel
theorem dX9_forged_12 : decode cX9_forged 12 = .ok (.ifCond .ne 7, 3) := by decide +kernel
theorem dX9_forged_15 : decode cX9_forged 15 = .ok (.iconst 1, 1) := by decide +kernel
theorem dX9_forged_16 : decode cX9_forged 16 = .ok (.goto 4, 3) := by decide +kernel
theorem dX9_forged_19 : decode cX9_forged 19 = .ok (.iconst 0, 1) := by decide +kernel
theorem dX9_forged_20 : decode cX9_forged 20 = .ok (.iconst 1, 1) := by decide +kernel
theorem dX9_forged_21 : decode cX9_forged 21 = .ok (.iconst 1, 1) := by decide +kernel
theorem dX9_forged_22 : decode cX9_forged 22 = .ok (.invokevirtual 207, 3) := by decide +kernel
theorem dX9_forged_25 : decode cX9_forged 25 = .ok (.ifCond .eq 5, 3) := by decide +kernel
theorem dX9_forged_28 : decode cX9_forged 28 = .ok (.iconst 0, 1) := by decide +kernel
theorem dX9_forged_29 : decode cX9_forged 29 = .ok (.ireturn, 1) := by decide +kernel
theorem dX9_forged_30 : decode cX9_forged 30 = .ok (.iconst 0, 1) := by decide +kernel
theorem dX9_forged_31 : decode cX9_forged 31 = .ok (.istore_n 2, 1) := by decide +kernel
theorem dX9_forged_32 : decode cX9_forged 32 = .ok (.iconst (-1), 1) := by decide +kernel
theorem dX9_forged_33 : decode cX9_forged 33 = .ok (.istore_n 3, 1) := by decide +kernel
theorem dX9_forged_34 : decode cX9_forged 34 = .ok (.iconst 0, 1) := by decide +kernel
theorem dX9_forged_35 : decode cX9_forged 35 = .ok (.istore 4, 2) := by decide +kernel
theorem dX9_forged_37 : decode cX9_forged 37 = .ok (.iload 4, 2) := by decide +kernel
theorem dX9_forged_39 : decode cX9_forged 39 = .ok (.aload_n 0, 1) := by decide +kernel
theorem dX9_forged_40 : decode cX9_forged 40 = .ok (.getfield 223, 3) := by decide +kernel
theorem dX9_forged_43 : decode cX9_forged 43 = .ok (.if_icmp .ge 130, 3) := by decide +kernel
theorem dX9_forged_46 : decode cX9_forged 46 = .ok (.iconst 0, 1) := by decide +kernel
theorem dX9_forged_47 : decode cX9_forged 47 = .ok (.istore 5, 2) := by decide +kernel
theorem dX9_forged_49 : decode cX9_forged 49 = .ok (.iload 5, 2) := by decide +kernel
theorem dX9_forged_51 : decode cX9_forged 51 = .ok (.aload_n 0, 1) := by decide +kernel
theorem dX9_forged_52 : decode cX9_forged 52 = .ok (.getfield 26, 3) := by decide +kernel
theorem dX9_forged_55 : decode cX9_forged 55 = .ok (.iload 4, 2) := by decide +kernel
theorem dX9_forged_57 : decode cX9_forged 57 = .ok (.iaload, 1) := by decide +kernel
theorem dX9_forged_58 : decode cX9_forged 58 = .ok (.if_icmp .ge 109, 3) := by decide +kernel
theorem dX9_forged_61 : decode cX9_forged 61 = .ok (.iload 5, 2) := by decide +kernel
theorem dX9_forged_63 : decode cX9_forged 63 = .ok (.istore 6, 2) := by decide +kernel
theorem dX9_forged_65 : decode cX9_forged 65 = .ok (.iload 6, 2) := by decide +kernel
theorem dX9_forged_67 : decode cX9_forged 67 = .ok (.aload_n 0, 1) := by decide +kernel
theorem dX9_forged_68 : decode cX9_forged 68 = .ok (.getfield 26, 3) := by decide +kernel
theorem dX9_forged_71 : decode cX9_forged 71 = .ok (.iload 4, 2) := by decide +kernel
theorem dX9_forged_73 : decode cX9_forged 73 = .ok (.iaload, 1) := by decide +kernel
theorem dX9_forged_74 : decode cX9_forged 74 = .ok (.if_icmp .ge 87, 3) := by decide +kernel
theorem dX9_forged_77 : decode cX9_forged 77 = .ok (.aload_n 0, 1) := by decide +kernel
theorem dX9_forged_78 : decode cX9_forged 78 = .ok (.getfield 58, 3) := by decide +kernel
theorem dX9_forged_81 : decode cX9_forged 81 = .ok (.iconst 0, 1) := by decide +kernel
theorem dX9_forged_82 : decode cX9_forged 82 = .ok (.iload 4, 2) := by decide +kernel
theorem dX9_forged_84 : decode cX9_forged 84 = .ok (.iadd, 1) := by decide +kernel
theorem dX9_forged_85 : decode cX9_forged 85 = .ok (.dup2, 1) := by decide +kernel
theorem dX9_forged_86 : decode cX9_forged 86 = .ok (.iaload, 1) := by decide +kernel
theorem dX9_forged_87 : decode cX9_forged 87 = .ok (.iload 5, 2) := by decide +kernel
theorem dX9_forged_89 : decode cX9_forged 89 = .ok (.iload 6, 2) := by decide +kernel
theorem dX9_forged_91 : decode cX9_forged 91 = .ok (.invokestatic 302, 3) := by decide +kernel
theorem dX9_forged_94 : decode cX9_forged 94 = .ok (.ixor, 1) := by decide +kernel
theorem dX9_forged_95 : decode cX9_forged 95 = .ok (.iastore, 1) := by decide +kernel
theorem dX9_forged_96 : decode cX9_forged 96 = .ok (.aload_n 0, 1) := by decide +kernel
theorem dX9_forged_97 : decode cX9_forged 97 = .ok (.invokevirtual 394, 3) := by decide +kernel
theorem dX9_forged_100 : decode cX9_forged 100 = .ok (.istore 7, 2) := by decide +kernel
theorem dX9_forged_102 : decode cX9_forged 102 = .ok (.aload_n 0, 1) := by decide +kernel
theorem dX9_forged_103 : decode cX9_forged 103 = .ok (.getfield 58, 3) := by decide +kernel
theorem dX9_forged_106 : decode cX9_forged 106 = .ok (.iconst 0, 1) := by decide +kernel
theorem dX9_forged_107 : decode cX9_forged 107 = .ok (.iload 4, 2) := by decide +kernel
theorem dX9_forged_109 : decode cX9_forged 109 = .ok (.iadd, 1) := by decide +kernel
theorem dX9_forged_110 : decode cX9_forged 110 = .ok (.dup2, 1) := by decide +kernel
theorem dX9_forged_111 : decode cX9_forged 111 = .ok (.iaload, 1) := by decide +kernel
theorem dX9_forged_112 : decode cX9_forged 112 = .ok (.iload 5, 2) := by decide +kernel
theorem dX9_forged_114 : decode cX9_forged 114 = .ok (.iload 6, 2) := by decide +kernel
theorem dX9_forged_116 : decode cX9_forged 116 = .ok (.invokestatic 302, 3) := by decide +kernel
theorem dX9_forged_119 : decode cX9_forged 119 = .ok (.ixor, 1) := by decide +kernel
theorem dX9_forged_120 : decode cX9_forged 120 = .ok (.iastore, 1) := by decide +kernel
theorem dX9_forged_121 : decode cX9_forged 121 = .ok (.iload 7, 2) := by decide +kernel
theorem dX9_forged_123 : decode cX9_forged 123 = .ok (.ifCond .ne 6, 3) := by decide +kernel
theorem dX9_forged_126 : decode cX9_forged 126 = .ok (.goto 29, 3) := by decide +kernel
theorem dX9_forged_129 : decode cX9_forged 129 = .ok (.iload_n 2, 1) := by decide +kernel
theorem dX9_forged_130 : decode cX9_forged 130 = .ok (.ifCond .ne 20, 3) := by decide +kernel
theorem dX9_forged_133 : decode cX9_forged 133 = .ok (.bipush 100, 2) := by decide +kernel
theorem dX9_forged_135 : decode cX9_forged 135 = .ok (.iload 4, 2) := by decide +kernel
theorem dX9_forged_137 : decode cX9_forged 137 = .ok (.imul, 1) := by decide +kernel
theorem dX9_forged_138 : decode cX9_forged 138 = .ok (.bipush 10, 2) := by decide +kernel
theorem dX9_forged_140 : decode cX9_forged 140 = .ok (.iload 5, 2) := by decide +kernel
theorem dX9_forged_142 : decode cX9_forged 142 = .ok (.imul, 1) := by decide +kernel
theorem dX9_forged_143 : decode cX9_forged 143 = .ok (.iadd, 1) := by decide +kernel
theorem dX9_forged_144 : decode cX9_forged 144 = .ok (.iload 6, 2) := by decide +kernel
theorem dX9_forged_146 : decode cX9_forged 146 = .ok (.iadd, 1) := by decide +kernel
theorem dX9_forged_147 : decode cX9_forged 147 = .ok (.goto 4, 3) := by decide +kernel
theorem dX9_forged_150 : decode cX9_forged 150 = .ok (.iload_n 3, 1) := by decide +kernel
theorem dX9_forged_151 : decode cX9_forged 151 = .ok (.istore_n 3, 1) := by decide +kernel
theorem dX9_forged_152 : decode cX9_forged 152 = .ok (.iinc 2 1, 3) := by decide +kernel
theorem dX9_forged_155 : decode cX9_forged 155 = .ok (.iinc 6 1, 3) := by decide +kernel
theorem dX9_forged_158 : decode cX9_forged 158 = .ok (.goto (-93), 3) := by decide +kernel
theorem dX9_forged_161 : decode cX9_forged 161 = .ok (.iinc 5 1, 3) := by decide +kernel
theorem dX9_forged_164 : decode cX9_forged 164 = .ok (.goto (-115), 3) := by decide +kernel
theorem dX9_forged_167 : decode cX9_forged 167 = .ok (.iinc 4 1, 3) := by decide +kernel
theorem dX9_forged_170 : decode cX9_forged 170 = .ok (.goto (-133), 3) := by decide +kernel
theorem dX9_forged_173 : decode cX9_forged 173 = .ok (.iload_n 1, 1) := by decide +kernel
theorem dX9_forged_174 : decode cX9_forged 174 = .ok (.ifCond .ne 7, 3) := by decide +kernel
theorem dX9_forged_177 : decode cX9_forged 177 = .ok (.iload_n 2, 1) := by decide +kernel
theorem dX9_forged_178 : decode cX9_forged 178 = .ok (.goto 4, 3) := by decide +kernel
theorem dX9_forged_181 : decode cX9_forged 181 = .ok (.iload_n 3, 1) := by decide +kernel
theorem dX9_forged_182 : decode cX9_forged 182 = .ok (.ireturn, 1) := by decide +kernel
theorem dX9_laysPiles_0 : decode cX9_laysPiles 0 = .ok (.iconst 0, 1) := by decide +kernel
theorem dX9_laysPiles_1 : decode cX9_laysPiles 1 = .ok (.istore_n 1, 1) := by decide +kernel
theorem dX9_laysPiles_2 : decode cX9_laysPiles 2 = .ok (.iload_n 1, 1) := by decide +kernel
theorem dX9_laysPiles_3 : decode cX9_laysPiles 3 = .ok (.bipush 8, 2) := by decide +kernel
theorem dX9_laysPiles_5 : decode cX9_laysPiles 5 = .ok (.if_icmp .gt 105, 3) := by decide +kernel
theorem dX9_laysPiles_8 : decode cX9_laysPiles 8 = .ok (.iconst 0, 1) := by decide +kernel
theorem dX9_laysPiles_9 : decode cX9_laysPiles 9 = .ok (.istore_n 2, 1) := by decide +kernel
theorem dX9_laysPiles_10 : decode cX9_laysPiles 10 = .ok (.iload_n 2, 1) := by decide +kernel
theorem dX9_laysPiles_11 : decode cX9_laysPiles 11 = .ok (.bipush 16, 2) := by decide +kernel
theorem dX9_laysPiles_13 : decode cX9_laysPiles 13 = .ok (.if_icmp .ge 16, 3) := by decide +kernel
theorem dX9_laysPiles_16 : decode cX9_laysPiles 16 = .ok (.aload_n 0, 1) := by decide +kernel
theorem dX9_laysPiles_17 : decode cX9_laysPiles 17 = .ok (.getfield 103, 3) := by decide +kernel
theorem dX9_laysPiles_20 : decode cX9_laysPiles 20 = .ok (.iload_n 2, 1) := by decide +kernel
theorem dX9_laysPiles_21 : decode cX9_laysPiles 21 = .ok (.iconst 0, 1) := by decide +kernel
theorem dX9_laysPiles_22 : decode cX9_laysPiles 22 = .ok (.bastore, 1) := by decide +kernel
theorem dX9_laysPiles_23 : decode cX9_laysPiles 23 = .ok (.iinc 2 1, 3) := by decide +kernel
theorem dX9_laysPiles_26 : decode cX9_laysPiles 26 = .ok (.goto (-16), 3) := by decide +kernel
theorem dX9_laysPiles_29 : decode cX9_laysPiles 29 = .ok (.iconst 1, 1) := by decide +kernel
theorem dX9_laysPiles_30 : decode cX9_laysPiles 30 = .ok (.istore_n 2, 1) := by decide +kernel
theorem dX9_laysPiles_31 : decode cX9_laysPiles 31 = .ok (.iload_n 2, 1) := by decide +kernel
theorem dX9_laysPiles_32 : decode cX9_laysPiles 32 = .ok (.iconst 3, 1) := by decide +kernel
theorem dX9_laysPiles_33 : decode cX9_laysPiles 33 = .ok (.if_icmp .ge 47, 3) := by decide +kernel
theorem dX9_laysPiles_36 : decode cX9_laysPiles 36 = .ok (.iconst 0, 1) := by decide +kernel
theorem dX9_laysPiles_37 : decode cX9_laysPiles 37 = .ok (.istore_n 3, 1) := by decide +kernel
theorem dX9_laysPiles_38 : decode cX9_laysPiles 38 = .ok (.iload_n 3, 1) := by decide +kernel
theorem dX9_laysPiles_39 : decode cX9_laysPiles 39 = .ok (.iload_n 2, 1) := by decide +kernel
theorem dX9_laysPiles_40 : decode cX9_laysPiles 40 = .ok (.iadd, 1) := by decide +kernel
theorem dX9_laysPiles_41 : decode cX9_laysPiles 41 = .ok (.iload_n 1, 1) := by decide +kernel
theorem dX9_laysPiles_42 : decode cX9_laysPiles 42 = .ok (.if_icmp .gt 32, 3) := by decide +kernel
theorem dX9_laysPiles_45 : decode cX9_laysPiles 45 = .ok (.aload_n 0, 1) := by decide +kernel
theorem dX9_laysPiles_46 : decode cX9_laysPiles 46 = .ok (.getfield 103, 3) := by decide +kernel
