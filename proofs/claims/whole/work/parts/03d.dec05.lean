theorem dX8_common_6 : decode cX8_common 6 = .ok (.iload_n 2, 1) := by decide +kernel
theorem dX8_common_7 : decode cX8_common 7 = .ok (.invokevirtual 217, 3) := by decide +kernel
theorem dX8_common_10 : decode cX8_common 10 = .ok (.aload_n 0, 1) := by decide +kernel
theorem dX8_common_11 : decode cX8_common 11 = .ok (.getfield 77, 3) := by decide +kernel
theorem dX8_common_14 : decode cX8_common 14 = .ok (.aload_n 0, 1) := by decide +kernel
theorem dX8_common_15 : decode cX8_common 15 = .ok (.getfield 58, 3) := by decide +kernel
theorem dX8_common_18 : decode cX8_common 18 = .ok (.iload_n 1, 1) := by decide +kernel
theorem dX8_common_19 : decode cX8_common 19 = .ok (.iload_n 2, 1) := by decide +kernel
theorem dX8_common_20 : decode cX8_common 20 = .ok (.invokevirtual 308, 3) := by decide +kernel
theorem dX8_common_23 : decode cX8_common 23 = .ok (.ireturn, 1) := by decide +kernel
theorem dX8_share_0 : decode cX8_share 0 = .ok (.aload_n 0, 1) := by decide +kernel
theorem dX8_share_1 : decode cX8_share 1 = .ok (.iload_n 1, 1) := by decide +kernel
theorem dX8_share_2 : decode cX8_share 2 = .ok (.invokevirtual 217, 3) := by decide +kernel
theorem dX8_share_5 : decode cX8_share 5 = .ok (.aload_n 0, 1) := by decide +kernel
theorem dX8_share_6 : decode cX8_share 6 = .ok (.iload_n 2, 1) := by decide +kernel
theorem dX8_share_7 : decode cX8_share 7 = .ok (.invokevirtual 302, 3) := by decide +kernel
theorem dX8_share_10 : decode cX8_share 10 = .ok (.aload_n 0, 1) := by decide +kernel
theorem dX8_share_11 : decode cX8_share 11 = .ok (.iload_n 3, 1) := by decide +kernel
theorem dX8_share_12 : decode cX8_share 12 = .ok (.ifCond .lt 14, 3) := by decide +kernel
theorem dX8_share_15 : decode cX8_share 15 = .ok (.iload_n 3, 1) := by decide +kernel
theorem dX8_share_16 : decode cX8_share 16 = .ok (.sipush 200, 3) := by decide +kernel
theorem dX8_share_19 : decode cX8_share 19 = .ok (.if_icmp .gt 7, 3) := by decide +kernel
theorem dX8_share_22 : decode cX8_share 22 = .ok (.iconst 1, 1) := by decide +kernel
theorem dX8_share_23 : decode cX8_share 23 = .ok (.goto 4, 3) := by decide +kernel
theorem dX8_share_26 : decode cX8_share 26 = .ok (.iconst 0, 1) := by decide +kernel
theorem dX8_share_27 : decode cX8_share 27 = .ok (.invokevirtual 159, 3) := by decide +kernel
theorem dX8_share_30 : decode cX8_share 30 = .ok (.iload_n 2, 1) := by decide +kernel
theorem dX8_share_31 : decode cX8_share 31 = .ok (.iload_n 1, 1) := by decide +kernel
theorem dX8_share_32 : decode cX8_share 32 = .ok (.ishr, 1) := by decide +kernel
theorem dX8_share_33 : decode cX8_share 33 = .ok (.iconst 1, 1) := by decide +kernel
theorem dX8_share_34 : decode cX8_share 34 = .ok (.iand, 1) := by decide +kernel
theorem dX8_share_35 : decode cX8_share 35 = .ok (.ifCond .ne 5, 3) := by decide +kernel
theorem dX8_share_38 : decode cX8_share 38 = .ok (.iconst 0, 1) := by decide +kernel
theorem dX8_share_39 : decode cX8_share 39 = .ok (.ireturn, 1) := by decide +kernel
theorem dX8_share_40 : decode cX8_share 40 = .ok (.bipush 8, 2) := by decide +kernel
theorem dX8_share_42 : decode cX8_share 42 = .ok (.istore 4, 2) := by decide +kernel
theorem dX8_share_44 : decode cX8_share 44 = .ok (.iload 4, 2) := by decide +kernel
theorem dX8_share_46 : decode cX8_share 46 = .ok (.ifCond .le 20, 3) := by decide +kernel
theorem dX8_share_49 : decode cX8_share 49 = .ok (.aload_n 0, 1) := by decide +kernel
theorem dX8_share_50 : decode cX8_share 50 = .ok (.iload_n 2, 1) := by decide +kernel
theorem dX8_share_51 : decode cX8_share 51 = .ok (.iload 4, 2) := by decide +kernel
theorem dX8_share_53 : decode cX8_share 53 = .ok (.invokevirtual 312, 3) := by decide +kernel
theorem dX8_share_56 : decode cX8_share 56 = .ok (.iload_n 3, 1) := by decide +kernel
theorem dX8_share_57 : decode cX8_share 57 = .ok (.if_icmp .le 9, 3) := by decide +kernel
theorem dX8_share_60 : decode cX8_share 60 = .ok (.iinc 4 (-1), 3) := by decide +kernel
theorem dX8_share_63 : decode cX8_share 63 = .ok (.goto (-19), 3) := by decide +kernel
theorem dX8_share_66 : decode cX8_share 66 = .ok (.aload_n 0, 1) := by decide +kernel
theorem dX8_share_67 : decode cX8_share 67 = .ok (.getfield 58, 3) := by decide +kernel
theorem dX8_share_70 : decode cX8_share 70 = .ok (.iload_n 1, 1) := by decide +kernel
theorem dX8_share_71 : decode cX8_share 71 = .ok (.invokevirtual 214, 3) := by decide +kernel
theorem dX8_share_74 : decode cX8_share 74 = .ok (.iload 4, 2) := by decide +kernel
theorem dX8_share_76 : decode cX8_share 76 = .ok (.invokestatic 315, 3) := by decide +kernel
theorem dX8_share_79 : decode cX8_share 79 = .ok (.ireturn, 1) := by decide +kernel
theorem dX8_givenBy_0 : decode cX8_givenBy 0 = .ok (.iconst 0, 1) := by decide +kernel
theorem dX8_givenBy_1 : decode cX8_givenBy 1 = .ok (.istore_n 3, 1) := by decide +kernel
theorem dX8_givenBy_2 : decode cX8_givenBy 2 = .ok (.iconst 0, 1) := by decide +kernel
theorem dX8_givenBy_3 : decode cX8_givenBy 3 = .ok (.istore 4, 2) := by decide +kernel
theorem dX8_givenBy_5 : decode cX8_givenBy 5 = .ok (.iload 4, 2) := by decide +kernel
theorem dX8_givenBy_7 : decode cX8_givenBy 7 = .ok (.aload_n 0, 1) := by decide +kernel
theorem dX8_givenBy_8 : decode cX8_givenBy 8 = .ok (.getfield 19, 3) := by decide +kernel
theorem dX8_givenBy_11 : decode cX8_givenBy 11 = .ok (.getfield 128, 3) := by decide +kernel
theorem dX8_givenBy_14 : decode cX8_givenBy 14 = .ok (.if_icmp .ge 35, 3) := by decide +kernel
theorem dX8_givenBy_17 : decode cX8_givenBy 17 = .ok (.iload_n 1, 1) := by decide +kernel
theorem dX8_givenBy_18 : decode cX8_givenBy 18 = .ok (.iload 4, 2) := by decide +kernel
theorem dX8_givenBy_20 : decode cX8_givenBy 20 = .ok (.ishr, 1) := by decide +kernel
theorem dX8_givenBy_21 : decode cX8_givenBy 21 = .ok (.iconst 1, 1) := by decide +kernel
theorem dX8_givenBy_22 : decode cX8_givenBy 22 = .ok (.iand, 1) := by decide +kernel
theorem dX8_givenBy_23 : decode cX8_givenBy 23 = .ok (.iconst 1, 1) := by decide +kernel
theorem dX8_givenBy_24 : decode cX8_givenBy 24 = .ok (.if_icmp .ne 19, 3) := by decide +kernel
theorem dX8_givenBy_27 : decode cX8_givenBy 27 = .ok (.iload_n 3, 1) := by decide +kernel
theorem dX8_givenBy_28 : decode cX8_givenBy 28 = .ok (.aload_n 0, 1) := by decide +kernel
theorem dX8_givenBy_29 : decode cX8_givenBy 29 = .ok (.getfield 58, 3) := by decide +kernel
theorem dX8_givenBy_32 : decode cX8_givenBy 32 = .ok (.iload 4, 2) := by decide +kernel
theorem dX8_givenBy_34 : decode cX8_givenBy 34 = .ok (.invokevirtual 214, 3) := by decide +kernel
theorem dX8_givenBy_37 : decode cX8_givenBy 37 = .ok (.iload_n 2, 1) := by decide +kernel
theorem dX8_givenBy_38 : decode cX8_givenBy 38 = .ok (.invokestatic 315, 3) := by decide +kernel
theorem dX8_givenBy_41 : decode cX8_givenBy 41 = .ok (.iadd, 1) := by decide +kernel
theorem dX8_givenBy_42 : decode cX8_givenBy 42 = .ok (.istore_n 3, 1) := by decide +kernel
theorem dX8_givenBy_43 : decode cX8_givenBy 43 = .ok (.iinc 4 1, 3) := by decide +kernel
theorem dX8_givenBy_46 : decode cX8_givenBy 46 = .ok (.goto (-41), 3) := by decide +kernel
theorem dX8_givenBy_49 : decode cX8_givenBy 49 = .ok (.iload_n 3, 1) := by decide +kernel
theorem dX8_givenBy_50 : decode cX8_givenBy 50 = .ok (.ireturn, 1) := by decide +kernel
theorem dX8_duel_0 : decode cX8_duel 0 = .ok (.aload_n 0, 1) := by decide +kernel
theorem dX8_duel_1 : decode cX8_duel 1 = .ok (.iload_n 1, 1) := by decide +kernel
theorem dX8_duel_2 : decode cX8_duel 2 = .ok (.ifCond .lt 32, 3) := by decide +kernel
theorem dX8_duel_5 : decode cX8_duel 5 = .ok (.iload_n 1, 1) := by decide +kernel
theorem dX8_duel_6 : decode cX8_duel 6 = .ok (.bipush 99, 2) := by decide +kernel
theorem dX8_duel_8 : decode cX8_duel 8 = .ok (.if_icmp .gt 26, 3) := by decide +kernel
theorem dX8_duel_11 : decode cX8_duel 11 = .ok (.iload_n 2, 1) := by decide +kernel
theorem dX8_duel_12 : decode cX8_duel 12 = .ok (.ifCond .lt 22, 3) := by decide +kernel
theorem dX8_duel_15 : decode cX8_duel 15 = .ok (.iload_n 2, 1) := by decide +kernel
theorem dX8_duel_16 : decode cX8_duel 16 = .ok (.bipush 99, 2) := by decide +kernel
theorem dX8_duel_18 : decode cX8_duel 18 = .ok (.if_icmp .gt 16, 3) := by decide +kernel
theorem dX8_duel_21 : decode cX8_duel 21 = .ok (.iload_n 3, 1) := by decide +kernel
theorem dX8_duel_22 : decode cX8_duel 22 = .ok (.ifCond .lt 12, 3) := by decide +kernel
theorem dX8_duel_25 : decode cX8_duel 25 = .ok (.iload_n 3, 1) := by decide +kernel
theorem dX8_duel_26 : decode cX8_duel 26 = .ok (.iconst 2, 1) := by decide +kernel
theorem dX8_duel_27 : decode cX8_duel 27 = .ok (.if_icmp .gt 7, 3) := by decide +kernel
theorem dX8_duel_30 : decode cX8_duel 30 = .ok (.iconst 1, 1) := by decide +kernel
theorem dX8_duel_31 : decode cX8_duel 31 = .ok (.goto 4, 3) := by decide +kernel
theorem dX8_duel_34 : decode cX8_duel 34 = .ok (.iconst 0, 1) := by decide +kernel
theorem dX8_duel_35 : decode cX8_duel 35 = .ok (.invokevirtual 159, 3) := by decide +kernel
theorem dX8_duel_38 : decode cX8_duel 38 = .ok (.iconst 0, 1) := by decide +kernel
theorem dX8_duel_39 : decode cX8_duel 39 = .ok (.istore 4, 2) := by decide +kernel
theorem dX8_duel_41 : decode cX8_duel 41 = .ok (.iconst (-1), 1) := by decide +kernel
theorem dX8_duel_42 : decode cX8_duel 42 = .ok (.istore 5, 2) := by decide +kernel
theorem dX8_duel_44 : decode cX8_duel 44 = .ok (.iconst 0, 1) := by decide +kernel
theorem dX8_duel_45 : decode cX8_duel 45 = .ok (.istore 6, 2) := by decide +kernel
theorem dX8_duel_47 : decode cX8_duel 47 = .ok (.iconst 0, 1) := by decide +kernel
theorem dX8_duel_48 : decode cX8_duel 48 = .ok (.istore 7, 2) := by decide +kernel
theorem dX8_duel_50 : decode cX8_duel 50 = .ok (.iload 7, 2) := by decide +kernel
theorem dX8_duel_52 : decode cX8_duel 52 = .ok (.iconst 1, 1) := by decide +kernel
theorem dX8_duel_53 : decode cX8_duel 53 = .ok (.if_icmp .gt 75, 3) := by decide +kernel
theorem dX8_duel_56 : decode cX8_duel 56 = .ok (.iconst 0, 1) := by decide +kernel
theorem dX8_duel_57 : decode cX8_duel 57 = .ok (.istore 8, 2) := by decide +kernel
theorem dX8_duel_59 : decode cX8_duel 59 = .ok (.iload 8, 2) := by decide +kernel
theorem dX8_duel_61 : decode cX8_duel 61 = .ok (.iconst 1, 1) := by decide +kernel
theorem dX8_duel_62 : decode cX8_duel 62 = .ok (.if_icmp .gt 60, 3) := by decide +kernel
theorem dX8_duel_65 : decode cX8_duel 65 = .ok (.iload_n 1, 1) := by decide +kernel
theorem dX8_duel_66 : decode cX8_duel 66 = .ok (.iload_n 2, 1) := by decide +kernel
theorem dX8_duel_67 : decode cX8_duel 67 = .ok (.iload 7, 2) := by decide +kernel
theorem dX8_duel_69 : decode cX8_duel 69 = .ok (.iload 8, 2) := by decide +kernel
theorem dX8_duel_71 : decode cX8_duel 71 = .ok (.invokestatic 320, 3) := by decide +kernel
theorem dX8_duel_74 : decode cX8_duel 74 = .ok (.ifCond .eq 42, 3) := by decide +kernel
theorem dX8_duel_77 : decode cX8_duel 77 = .ok (.iload 4, 2) := by decide +kernel
theorem dX8_duel_79 : decode cX8_duel 79 = .ok (.ifCond .ne 34, 3) := by decide +kernel
theorem dX8_duel_82 : decode cX8_duel 82 = .ok (.bipush 10, 2) := by decide +kernel
theorem dX8_duel_84 : decode cX8_duel 84 = .ok (.iload 7, 2) := by decide +kernel
theorem dX8_duel_86 : decode cX8_duel 86 = .ok (.imul, 1) := by decide +kernel
theorem dX8_duel_87 : decode cX8_duel 87 = .ok (.iload 8, 2) := by decide +kernel
theorem dX8_duel_89 : decode cX8_duel 89 = .ok (.iadd, 1) := by decide +kernel
theorem dX8_duel_90 : decode cX8_duel 90 = .ok (.istore 5, 2) := by decide +kernel
theorem dX8_duel_92 : decode cX8_duel 92 = .ok (.iload_n 1, 1) := by decide +kernel
theorem dX8_duel_93 : decode cX8_duel 93 = .ok (.iload_n 2, 1) := by decide +kernel
theorem dX8_duel_94 : decode cX8_duel 94 = .ok (.iload 7, 2) := by decide +kernel
theorem dX8_duel_96 : decode cX8_duel 96 = .ok (.iload 8, 2) := by decide +kernel
theorem dX8_duel_98 : decode cX8_duel 98 = .ok (.invokestatic 324, 3) := by decide +kernel
theorem dX8_duel_101 : decode cX8_duel 101 = .ok (.iload_n 1, 1) := by decide +kernel
theorem dX8_duel_102 : decode cX8_duel 102 = .ok (.iload_n 2, 1) := by decide +kernel
theorem dX8_duel_103 : decode cX8_duel 103 = .ok (.iload 8, 2) := by decide +kernel
theorem dX8_duel_105 : decode cX8_duel 105 = .ok (.iload 7, 2) := by decide +kernel
theorem dX8_duel_107 : decode cX8_duel 107 = .ok (.invokestatic 324, 3) := by decide +kernel
theorem dX8_duel_110 : decode cX8_duel 110 = .ok (.iadd, 1) := by decide +kernel
theorem dX8_duel_111 : decode cX8_duel 111 = .ok (.istore 6, 2) := by decide +kernel
theorem dX8_duel_113 : decode cX8_duel 113 = .ok (.iinc 4 1, 3) := by decide +kernel
theorem dX8_duel_116 : decode cX8_duel 116 = .ok (.iinc 8 1, 3) := by decide +kernel
theorem dX8_duel_119 : decode cX8_duel 119 = .ok (.goto (-60), 3) := by decide +kernel
theorem dX8_duel_122 : decode cX8_duel 122 = .ok (.iinc 7 1, 3) := by decide +kernel
theorem dX8_duel_125 : decode cX8_duel 125 = .ok (.goto (-75), 3) := by decide +kernel
theorem dX8_duel_128 : decode cX8_duel 128 = .ok (.iload_n 3, 1) := by decide +kernel
theorem dX8_duel_129 : decode cX8_duel 129 = .ok (.ifCond .ne 8, 3) := by decide +kernel
theorem dX8_duel_132 : decode cX8_duel 132 = .ok (.iload 4, 2) := by decide +kernel
theorem dX8_duel_134 : decode cX8_duel 134 = .ok (.goto 15, 3) := by decide +kernel
theorem dX8_duel_137 : decode cX8_duel 137 = .ok (.iload_n 3, 1) := by decide +kernel
theorem dX8_duel_138 : decode cX8_duel 138 = .ok (.iconst 1, 1) := by decide +kernel
theorem dX8_duel_139 : decode cX8_duel 139 = .ok (.if_icmp .ne 8, 3) := by decide +kernel
theorem dX8_duel_142 : decode cX8_duel 142 = .ok (.iload 5, 2) := by decide +kernel
theorem dX8_duel_144 : decode cX8_duel 144 = .ok (.goto 5, 3) := by decide +kernel
theorem dX8_duel_147 : decode cX8_duel 147 = .ok (.iload 6, 2) := by decide +kernel
theorem dX8_duel_149 : decode cX8_duel 149 = .ok (.ireturn, 1) := by decide +kernel
theorem dX8_restsThere_0 : decode cX8_restsThere 0 = .ok (.iload_n 0, 1) := by decide +kernel
theorem dX8_restsThere_1 : decode cX8_restsThere 1 = .ok (.iload_n 1, 1) := by decide +kernel
theorem dX8_restsThere_2 : decode cX8_restsThere 2 = .ok (.iload_n 2, 1) := by decide +kernel
theorem dX8_restsThere_3 : decode cX8_restsThere 3 = .ok (.iload_n 3, 1) := by decide +kernel
theorem dX8_restsThere_4 : decode cX8_restsThere 4 = .ok (.invokestatic 324, 3) := by decide +kernel
theorem dX8_restsThere_7 : decode cX8_restsThere 7 = .ok (.iload_n 0, 1) := by decide +kernel
theorem dX8_restsThere_8 : decode cX8_restsThere 8 = .ok (.iload_n 1, 1) := by decide +kernel
theorem dX8_restsThere_9 : decode cX8_restsThere 9 = .ok (.iconst 1, 1) := by decide +kernel
theorem dX8_restsThere_10 : decode cX8_restsThere 10 = .ok (.iload_n 2, 1) := by decide +kernel
theorem dX8_restsThere_11 : decode cX8_restsThere 11 = .ok (.isub, 1) := by decide +kernel
theorem dX8_restsThere_12 : decode cX8_restsThere 12 = .ok (.iload_n 3, 1) := by decide +kernel
theorem dX8_restsThere_13 : decode cX8_restsThere 13 = .ok (.invokestatic 324, 3) := by decide +kernel
theorem dX8_restsThere_16 : decode cX8_restsThere 16 = .ok (.if_icmp .lt 26, 3) := by decide +kernel
theorem dX8_restsThere_19 : decode cX8_restsThere 19 = .ok (.iload_n 0, 1) := by decide +kernel
theorem dX8_restsThere_20 : decode cX8_restsThere 20 = .ok (.iload_n 1, 1) := by decide +kernel
theorem dX8_restsThere_21 : decode cX8_restsThere 21 = .ok (.iload_n 3, 1) := by decide +kernel
theorem dX8_restsThere_22 : decode cX8_restsThere 22 = .ok (.iload_n 2, 1) := by decide +kernel
theorem dX8_restsThere_23 : decode cX8_restsThere 23 = .ok (.invokestatic 324, 3) := by decide +kernel
theorem dX8_restsThere_26 : decode cX8_restsThere 26 = .ok (.iload_n 0, 1) := by decide +kernel
theorem dX8_restsThere_27 : decode cX8_restsThere 27 = .ok (.iload_n 1, 1) := by decide +kernel
theorem dX8_restsThere_28 : decode cX8_restsThere 28 = .ok (.iconst 1, 1) := by decide +kernel
theorem dX8_restsThere_29 : decode cX8_restsThere 29 = .ok (.iload_n 3, 1) := by decide +kernel
theorem dX8_restsThere_30 : decode cX8_restsThere 30 = .ok (.isub, 1) := by decide +kernel
theorem dX8_restsThere_31 : decode cX8_restsThere 31 = .ok (.iload_n 2, 1) := by decide +kernel
theorem dX8_restsThere_32 : decode cX8_restsThere 32 = .ok (.invokestatic 324, 3) := by decide +kernel
theorem dX8_restsThere_35 : decode cX8_restsThere 35 = .ok (.if_icmp .lt 7, 3) := by decide +kernel
theorem dX8_restsThere_38 : decode cX8_restsThere 38 = .ok (.iconst 1, 1) := by decide +kernel
theorem dX8_restsThere_39 : decode cX8_restsThere 39 = .ok (.goto 4, 3) := by decide +kernel
theorem dX8_restsThere_42 : decode cX8_restsThere 42 = .ok (.iconst 0, 1) := by decide +kernel
theorem dX8_restsThere_43 : decode cX8_restsThere 43 = .ok (.ireturn, 1) := by decide +kernel
theorem dX8_hadBy_0 : decode cX8_hadBy 0 = .ok (.iload_n 2, 1) := by decide +kernel
theorem dX8_hadBy_1 : decode cX8_hadBy 1 = .ok (.ifCond .ne 14, 3) := by decide +kernel
theorem dX8_hadBy_4 : decode cX8_hadBy 4 = .ok (.iload_n 3, 1) := by decide +kernel
theorem dX8_hadBy_5 : decode cX8_hadBy 5 = .ok (.ifCond .ne 8, 3) := by decide +kernel
theorem dX8_hadBy_8 : decode cX8_hadBy 8 = .ok (.iload_n 1, 1) := by decide +kernel
theorem dX8_hadBy_9 : decode cX8_hadBy 9 = .ok (.ineg, 1) := by decide +kernel
theorem dX8_hadBy_10 : decode cX8_hadBy 10 = .ok (.goto 4, 3) := by decide +kernel
theorem dX8_hadBy_13 : decode cX8_hadBy 13 = .ok (.iload_n 0, 1) := by decide +kernel
theorem dX8_hadBy_14 : decode cX8_hadBy 14 = .ok (.ireturn, 1) := by decide +kernel
theorem dX8_hadBy_15 : decode cX8_hadBy 15 = .ok (.iload_n 3, 1) := by decide +kernel
theorem dX8_hadBy_16 : decode cX8_hadBy 16 = .ok (.ifCond .ne 7, 3) := by decide +kernel
theorem dX8_hadBy_19 : decode cX8_hadBy 19 = .ok (.iconst 0, 1) := by decide +kernel
theorem dX8_hadBy_20 : decode cX8_hadBy 20 = .ok (.goto 4, 3) := by decide +kernel
theorem dX8_hadBy_23 : decode cX8_hadBy 23 = .ok (.iload_n 1, 1) := by decide +kernel
theorem dX8_hadBy_24 : decode cX8_hadBy 24 = .ok (.ireturn, 1) := by decide +kernel
theorem dX8_chance_0 : decode cX8_chance 0 = .ok (.aload_n 0, 1) := by decide +kernel
theorem dX8_chance_1 : decode cX8_chance 1 = .ok (.iload_n 1, 1) := by decide +kernel
theorem dX8_chance_2 : decode cX8_chance 2 = .ok (.ifCond .lt 33, 3) := by decide +kernel
theorem dX8_chance_5 : decode cX8_chance 5 = .ok (.iload_n 1, 1) := by decide +kernel
theorem dX8_chance_6 : decode cX8_chance 6 = .ok (.bipush 12, 2) := by decide +kernel
theorem dX8_chance_8 : decode cX8_chance 8 = .ok (.if_icmp .gt 27, 3) := by decide +kernel
theorem dX8_chance_11 : decode cX8_chance 11 = .ok (.iload_n 2, 1) := by decide +kernel
theorem dX8_chance_12 : decode cX8_chance 12 = .ok (.ifCond .lt 23, 3) := by decide +kernel
theorem dX8_chance_15 : decode cX8_chance 15 = .ok (.iload_n 2, 1) := by decide +kernel
theorem dX8_chance_16 : decode cX8_chance 16 = .ok (.bipush 13, 2) := by decide +kernel
theorem dX8_chance_18 : decode cX8_chance 18 = .ok (.if_icmp .gt 17, 3) := by decide +kernel
theorem dX8_chance_21 : decode cX8_chance 21 = .ok (.iload_n 3, 1) := by decide +kernel
theorem dX8_chance_22 : decode cX8_chance 22 = .ok (.ifCond .lt 13, 3) := by decide +kernel
theorem dX8_chance_25 : decode cX8_chance 25 = .ok (.iload_n 3, 1) := by decide +kernel
theorem dX8_chance_26 : decode cX8_chance 26 = .ok (.bipush 16, 2) := by decide +kernel
theorem dX8_chance_28 : decode cX8_chance 28 = .ok (.if_icmp .gt 7, 3) := by decide +kernel
theorem dX8_chance_31 : decode cX8_chance 31 = .ok (.iconst 1, 1) := by decide +kernel
theorem dX8_chance_32 : decode cX8_chance 32 = .ok (.goto 4, 3) := by decide +kernel
theorem dX8_chance_35 : decode cX8_chance 35 = .ok (.iconst 0, 1) := by decide +kernel
theorem dX8_chance_36 : decode cX8_chance 36 = .ok (.invokevirtual 159, 3) := by decide +kernel
theorem dX8_chance_39 : decode cX8_chance 39 = .ok (.aload_n 0, 1) := by decide +kernel
theorem dX8_chance_40 : decode cX8_chance 40 = .ok (.iload 4, 2) := by decide +kernel
theorem dX8_chance_42 : decode cX8_chance 42 = .ok (.ifCond .eq 9, 3) := by decide +kernel
theorem dX8_chance_45 : decode cX8_chance 45 = .ok (.iload 4, 2) := by decide +kernel
theorem dX8_chance_47 : decode cX8_chance 47 = .ok (.iconst 1, 1) := by decide +kernel
theorem dX8_chance_48 : decode cX8_chance 48 = .ok (.if_icmp .ne 7, 3) := by decide +kernel
theorem dX8_chance_51 : decode cX8_chance 51 = .ok (.iconst 1, 1) := by decide +kernel
theorem dX8_chance_52 : decode cX8_chance 52 = .ok (.goto 4, 3) := by decide +kernel
theorem dX8_chance_55 : decode cX8_chance 55 = .ok (.iconst 0, 1) := by decide +kernel
theorem dX8_chance_56 : decode cX8_chance 56 = .ok (.invokevirtual 159, 3) := by decide +kernel
theorem dX8_chance_59 : decode cX8_chance 59 = .ok (.lconst 0, 1) := by decide +kernel
theorem dX8_chance_60 : decode cX8_chance 60 = .ok (.lstore 5, 2) := by decide +kernel
theorem dX8_chance_62 : decode cX8_chance 62 = .ok (.lconst 1, 1) := by decide +kernel
theorem dX8_chance_63 : decode cX8_chance 63 = .ok (.lstore 7, 2) := by decide +kernel
theorem dX8_chance_65 : decode cX8_chance 65 = .ok (.iconst 0, 1) := by decide +kernel
theorem dX8_chance_66 : decode cX8_chance 66 = .ok (.istore 9, 2) := by decide +kernel
theorem dX8_chance_68 : decode cX8_chance 68 = .ok (.iload 9, 2) := by decide +kernel
theorem dX8_chance_70 : decode cX8_chance 70 = .ok (.iload_n 1, 1) := by decide +kernel
theorem dX8_chance_71 : decode cX8_chance 71 = .ok (.if_icmp .gt 57, 3) := by decide +kernel
theorem dX8_chance_74 : decode cX8_chance 74 = .ok (.iload 9, 2) := by decide +kernel
theorem dX8_chance_76 : decode cX8_chance 76 = .ok (.iload_n 2, 1) := by decide +kernel
theorem dX8_chance_77 : decode cX8_chance 77 = .ok (.if_icmp .lt 29, 3) := by decide +kernel
theorem dX8_chance_80 : decode cX8_chance 80 = .ok (.lload 5, 2) := by decide +kernel
theorem dX8_chance_82 : decode cX8_chance 82 = .ok (.lload 7, 2) := by decide +kernel
theorem dX8_chance_84 : decode cX8_chance 84 = .ok (.bipush 16, 2) := by decide +kernel
theorem dX8_chance_86 : decode cX8_chance 86 = .ok (.iload_n 3, 1) := by decide +kernel
theorem dX8_chance_87 : decode cX8_chance 87 = .ok (.isub, 1) := by decide +kernel
theorem dX8_chance_88 : decode cX8_chance 88 = .ok (.iload 9, 2) := by decide +kernel
theorem dX8_chance_90 : decode cX8_chance 90 = .ok (.invokestatic 328, 3) := by decide +kernel
theorem dX8_chance_93 : decode cX8_chance 93 = .ok (.lmul, 1) := by decide +kernel
theorem dX8_chance_94 : decode cX8_chance 94 = .ok (.iload_n 3, 1) := by decide +kernel
theorem dX8_chance_95 : decode cX8_chance 95 = .ok (.iload_n 1, 1) := by decide +kernel
theorem dX8_chance_96 : decode cX8_chance 96 = .ok (.iload 9, 2) := by decide +kernel
theorem dX8_chance_98 : decode cX8_chance 98 = .ok (.isub, 1) := by decide +kernel
theorem dX8_chance_99 : decode cX8_chance 99 = .ok (.invokestatic 328, 3) := by decide +kernel
theorem dX8_chance_102 : decode cX8_chance 102 = .ok (.lmul, 1) := by decide +kernel
theorem dX8_chance_103 : decode cX8_chance 103 = .ok (.ladd, 1) := by decide +kernel
theorem dX8_chance_104 : decode cX8_chance 104 = .ok (.lstore 5, 2) := by decide +kernel
theorem dX8_chance_106 : decode cX8_chance 106 = .ok (.lload 7, 2) := by decide +kernel
theorem dX8_chance_108 : decode cX8_chance 108 = .ok (.iload_n 1, 1) := by decide +kernel
theorem dX8_chance_109 : decode cX8_chance 109 = .ok (.iload 9, 2) := by decide +kernel
theorem dX8_chance_111 : decode cX8_chance 111 = .ok (.isub, 1) := by decide +kernel
theorem dX8_chance_112 : decode cX8_chance 112 = .ok (.i2l, 1) := by decide +kernel
theorem dX8_chance_113 : decode cX8_chance 113 = .ok (.lmul, 1) := by decide +kernel
theorem dX8_chance_114 : decode cX8_chance 114 = .ok (.iload 9, 2) := by decide +kernel
theorem dX8_chance_116 : decode cX8_chance 116 = .ok (.iconst 1, 1) := by decide +kernel
theorem dX8_chance_117 : decode cX8_chance 117 = .ok (.iadd, 1) := by decide +kernel
theorem dX8_chance_118 : decode cX8_chance 118 = .ok (.i2l, 1) := by decide +kernel
theorem dX8_chance_119 : decode cX8_chance 119 = .ok (.ldiv, 1) := by decide +kernel
theorem dX8_chance_120 : decode cX8_chance 120 = .ok (.lstore 7, 2) := by decide +kernel
theorem dX8_chance_122 : decode cX8_chance 122 = .ok (.iinc 9 1, 3) := by decide +kernel
theorem dX8_chance_125 : decode cX8_chance 125 = .ok (.goto (-57), 3) := by decide +kernel
theorem dX8_chance_128 : decode cX8_chance 128 = .ok (.bipush 16, 2) := by decide +kernel
theorem dX8_chance_130 : decode cX8_chance 130 = .ok (.iload_n 1, 1) := by decide +kernel
theorem dX8_chance_131 : decode cX8_chance 131 = .ok (.invokestatic 328, 3) := by decide +kernel
theorem dX8_chance_134 : decode cX8_chance 134 = .ok (.lstore 9, 2) := by decide +kernel
theorem dX8_chance_136 : decode cX8_chance 136 = .ok (.lload 9, 2) := by decide +kernel
theorem dX8_chance_138 : decode cX8_chance 138 = .ok (.lconst 1, 1) := by decide +kernel
theorem dX8_chance_139 : decode cX8_chance 139 = .ok (.lcmp, 1) := by decide +kernel
theorem dX8_chance_140 : decode cX8_chance 140 = .ok (.ifCond .le 33, 3) := by decide +kernel
theorem dX8_chance_143 : decode cX8_chance 143 = .ok (.lload 5, 2) := by decide +kernel
theorem dX8_chance_145 : decode cX8_chance 145 = .ok (.ldc2_w 332, 3) := by decide +kernel
theorem dX8_chance_148 : decode cX8_chance 148 = .ok (.lrem, 1) := by decide +kernel
theorem dX8_chance_149 : decode cX8_chance 149 = .ok (.lconst 0, 1) := by decide +kernel
theorem dX8_chance_150 : decode cX8_chance 150 = .ok (.lcmp, 1) := by decide +kernel
theorem dX8_chance_151 : decode cX8_chance 151 = .ok (.ifCond .ne 22, 3) := by decide +kernel
theorem dX8_chance_154 : decode cX8_chance 154 = .ok (.lload 5, 2) := by decide +kernel
theorem dX8_chance_156 : decode cX8_chance 156 = .ok (.ldc2_w 332, 3) := by decide +kernel
theorem dX8_chance_159 : decode cX8_chance 159 = .ok (.ldiv, 1) := by decide +kernel
theorem dX8_chance_160 : decode cX8_chance 160 = .ok (.lstore 5, 2) := by decide +kernel
theorem dX8_chance_162 : decode cX8_chance 162 = .ok (.lload 9, 2) := by decide +kernel
theorem dX8_chance_164 : decode cX8_chance 164 = .ok (.ldc2_w 332, 3) := by decide +kernel
theorem dX8_chance_167 : decode cX8_chance 167 = .ok (.ldiv, 1) := by decide +kernel
theorem dX8_chance_168 : decode cX8_chance 168 = .ok (.lstore 9, 2) := by decide +kernel
theorem dX8_chance_170 : decode cX8_chance 170 = .ok (.goto (-34), 3) := by decide +kernel
theorem dX8_chance_173 : decode cX8_chance 173 = .ok (.iload 4, 2) := by decide +kernel
theorem dX8_chance_175 : decode cX8_chance 175 = .ok (.ifCond .ne 8, 3) := by decide +kernel
theorem dX8_chance_178 : decode cX8_chance 178 = .ok (.lload 5, 2) := by decide +kernel
theorem dX8_chance_180 : decode cX8_chance 180 = .ok (.goto 5, 3) := by decide +kernel
theorem dX8_chance_183 : decode cX8_chance 183 = .ok (.lload 9, 2) := by decide +kernel
theorem dX8_chance_185 : decode cX8_chance 185 = .ok (.lreturn, 1) := by decide +kernel
theorem dX8_power_0 : decode cX8_power 0 = .ok (.lconst 1, 1) := by decide +kernel
theorem dX8_power_1 : decode cX8_power 1 = .ok (.lstore_n 2, 1) := by decide +kernel
theorem dX8_power_2 : decode cX8_power 2 = .ok (.iconst 0, 1) := by decide +kernel
theorem dX8_power_3 : decode cX8_power 3 = .ok (.istore 4, 2) := by decide +kernel
theorem dX8_power_5 : decode cX8_power 5 = .ok (.iload 4, 2) := by decide +kernel
theorem dX8_power_7 : decode cX8_power 7 = .ok (.iload_n 1, 1) := by decide +kernel
theorem dX8_power_8 : decode cX8_power 8 = .ok (.if_icmp .ge 14, 3) := by decide +kernel
theorem dX8_power_11 : decode cX8_power 11 = .ok (.lload_n 2, 1) := by decide +kernel
theorem dX8_power_12 : decode cX8_power 12 = .ok (.iload_n 0, 1) := by decide +kernel
theorem dX8_power_13 : decode cX8_power 13 = .ok (.i2l, 1) := by decide +kernel
theorem dX8_power_14 : decode cX8_power 14 = .ok (.lmul, 1) := by decide +kernel
theorem dX8_power_15 : decode cX8_power 15 = .ok (.lstore_n 2, 1) := by decide +kernel
theorem dX8_power_16 : decode cX8_power 16 = .ok (.iinc 4 1, 3) := by decide +kernel
theorem dX8_power_19 : decode cX8_power 19 = .ok (.goto (-14), 3) := by decide +kernel
theorem dX8_power_22 : decode cX8_power 22 = .ok (.lload_n 2, 1) := by decide +kernel
theorem dX8_power_23 : decode cX8_power 23 = .ok (.lreturn, 1) := by decide +kernel
theorem dX8_hand_0 : decode cX8_hand 0 = .ok (.aload_n 0, 1) := by decide +kernel
theorem dX8_hand_1 : decode cX8_hand 1 = .ok (.iload_n 2, 1) := by decide +kernel
theorem dX8_hand_2 : decode cX8_hand 2 = .ok (.iload_n 3, 1) := by decide +kernel
theorem dX8_hand_3 : decode cX8_hand 3 = .ok (.invokevirtual 334, 3) := by decide +kernel
theorem dX8_hand_6 : decode cX8_hand 6 = .ok (.aload_n 0, 1) := by decide +kernel
theorem dX8_hand_7 : decode cX8_hand 7 = .ok (.iload 4, 2) := by decide +kernel
theorem dX8_hand_9 : decode cX8_hand 9 = .ok (.ifCond .lt 13, 3) := by decide +kernel
theorem dX8_hand_12 : decode cX8_hand 12 = .ok (.iload 4, 2) := by decide +kernel
theorem dX8_hand_14 : decode cX8_hand 14 = .ok (.iconst 3, 1) := by decide +kernel
theorem dX8_hand_15 : decode cX8_hand 15 = .ok (.if_icmp .gt 7, 3) := by decide +kernel
theorem dX8_hand_18 : decode cX8_hand 18 = .ok (.iconst 1, 1) := by decide +kernel
theorem dX8_hand_19 : decode cX8_hand 19 = .ok (.goto 4, 3) := by decide +kernel
theorem dX8_hand_22 : decode cX8_hand 22 = .ok (.iconst 0, 1) := by decide +kernel
theorem dX8_hand_23 : decode cX8_hand 23 = .ok (.invokevirtual 159, 3) := by decide +kernel
theorem dX8_hand_26 : decode cX8_hand 26 = .ok (.aload_n 0, 1) := by decide +kernel
theorem dX8_hand_27 : decode cX8_hand 27 = .ok (.getfield 62, 3) := by decide +kernel
theorem dX8_hand_30 : decode cX8_hand 30 = .ok (.aload_n 0, 1) := by decide +kernel
theorem dX8_hand_31 : decode cX8_hand 31 = .ok (.getfield 58, 3) := by decide +kernel
theorem dX8_hand_34 : decode cX8_hand 34 = .ok (.invokevirtual 254, 3) := by decide +kernel
theorem dX8_hand_37 : decode cX8_hand 37 = .ok (.aload_n 0, 1) := by decide +kernel
theorem dX8_hand_38 : decode cX8_hand 38 = .ok (.getfield 62, 3) := by decide +kernel
theorem dX8_hand_41 : decode cX8_hand 41 = .ok (.iload_n 1, 1) := by decide +kernel
theorem dX8_hand_42 : decode cX8_hand 42 = .ok (.iload_n 2, 1) := by decide +kernel
theorem dX8_hand_43 : decode cX8_hand 43 = .ok (.iload_n 3, 1) := by decide +kernel
theorem dX8_hand_44 : decode cX8_hand 44 = .ok (.invokevirtual 337, 3) := by decide +kernel
theorem dX8_hand_47 : decode cX8_hand 47 = .ok (.iload 4, 2) := by decide +kernel
theorem dX8_hand_49 : decode cX8_hand 49 = .ok (.tableswitch 59 0 2 #[27, 35, 43], 27) := by decide +kernel
theorem dX8_hand_76 : decode cX8_hand 76 = .ok (.aload_n 0, 1) := by decide +kernel
theorem dX8_hand_77 : decode cX8_hand 77 = .ok (.getfield 62, 3) := by decide +kernel
theorem dX8_hand_80 : decode cX8_hand 80 = .ok (.invokevirtual 192, 3) := by decide +kernel
theorem dX8_hand_83 : decode cX8_hand 83 = .ok (.ireturn, 1) := by decide +kernel
theorem dX8_hand_84 : decode cX8_hand 84 = .ok (.aload_n 0, 1) := by decide +kernel
theorem dX8_hand_85 : decode cX8_hand 85 = .ok (.getfield 62, 3) := by decide +kernel
theorem dX8_hand_88 : decode cX8_hand 88 = .ok (.getfield 196, 3) := by decide +kernel
theorem dX8_hand_91 : decode cX8_hand 91 = .ok (.ireturn, 1) := by decide +kernel
theorem dX8_hand_92 : decode cX8_hand 92 = .ok (.aload_n 0, 1) := by decide +kernel
theorem dX8_hand_93 : decode cX8_hand 93 = .ok (.getfield 62, 3) := by decide +kernel
theorem dX8_hand_96 : decode cX8_hand 96 = .ok (.getfield 199, 3) := by decide +kernel
theorem dX8_hand_99 : decode cX8_hand 99 = .ok (.aload_n 0, 1) := by decide +kernel
theorem dX8_hand_100 : decode cX8_hand 100 = .ok (.getfield 58, 3) := by decide +kernel
theorem dX8_hand_103 : decode cX8_hand 103 = .ok (.getfield 199, 3) := by decide +kernel
theorem dX8_hand_106 : decode cX8_hand 106 = .ok (.isub, 1) := by decide +kernel
theorem dX8_hand_107 : decode cX8_hand 107 = .ok (.ireturn, 1) := by decide +kernel
theorem dX8_hand_108 : decode cX8_hand 108 = .ok (.aload_n 0, 1) := by decide +kernel
theorem dX8_hand_109 : decode cX8_hand 109 = .ok (.getfield 62, 3) := by decide +kernel
theorem dX8_hand_112 : decode cX8_hand 112 = .ok (.invokevirtual 208, 3) := by decide +kernel
theorem dX8_hand_115 : decode cX8_hand 115 = .ok (.ireturn, 1) := by decide +kernel
theorem dX8_span_0 : decode cX8_span 0 = .ok (.aload_n 0, 1) := by decide +kernel
theorem dX8_span_1 : decode cX8_span 1 = .ok (.iload_n 3, 1) := by decide +kernel
theorem dX8_span_2 : decode cX8_span 2 = .ok (.iload 4, 2) := by decide +kernel
theorem dX8_span_4 : decode cX8_span 4 = .ok (.invokevirtual 334, 3) := by decide +kernel
theorem dX8_span_7 : decode cX8_span 7 = .ok (.aload_n 0, 1) := by decide +kernel
theorem dX8_span_8 : decode cX8_span 8 = .ok (.iload_n 2, 1) := by decide +kernel
theorem dX8_span_9 : decode cX8_span 9 = .ok (.iconst 1, 1) := by decide +kernel
theorem dX8_span_10 : decode cX8_span 10 = .ok (.if_icmp .lt 36, 3) := by decide +kernel
theorem dX8_span_13 : decode cX8_span 13 = .ok (.iload_n 2, 1) := by decide +kernel
theorem dX8_span_14 : decode cX8_span 14 = .ok (.bipush 20, 2) := by decide +kernel
theorem dX8_span_16 : decode cX8_span 16 = .ok (.if_icmp .gt 30, 3) := by decide +kernel
theorem dX8_span_19 : decode cX8_span 19 = .ok (.iload 5, 2) := by decide +kernel
theorem dX8_span_21 : decode cX8_span 21 = .ok (.ifCond .lt 25, 3) := by decide +kernel
theorem dX8_span_24 : decode cX8_span 24 = .ok (.iload 5, 2) := by decide +kernel
theorem dX8_span_26 : decode cX8_span 26 = .ok (.iconst 2, 1) := by decide +kernel
theorem dX8_span_27 : decode cX8_span 27 = .ok (.if_icmp .gt 19, 3) := by decide +kernel
theorem dX8_span_30 : decode cX8_span 30 = .ok (.aload_n 0, 1) := by decide +kernel
theorem dX8_span_31 : decode cX8_span 31 = .ok (.getfield 19, 3) := by decide +kernel
theorem dX8_span_34 : decode cX8_span 34 = .ok (.iload 6, 2) := by decide +kernel
theorem dX8_span_36 : decode cX8_span 36 = .ok (.invokevirtual 341, 3) := by decide +kernel
theorem dX8_span_39 : decode cX8_span 39 = .ok (.ifCond .eq 7, 3) := by decide +kernel
theorem dX8_span_42 : decode cX8_span 42 = .ok (.iconst 1, 1) := by decide +kernel
theorem dX8_span_43 : decode cX8_span 43 = .ok (.goto 4, 3) := by decide +kernel
theorem dX8_span_46 : decode cX8_span 46 = .ok (.iconst 0, 1) := by decide +kernel
theorem dX8_span_47 : decode cX8_span 47 = .ok (.invokevirtual 159, 3) := by decide +kernel
theorem dX8_span_50 : decode cX8_span 50 = .ok (.aload_n 0, 1) := by decide +kernel
theorem dX8_span_51 : decode cX8_span 51 = .ok (.getfield 19, 3) := by decide +kernel
theorem dX8_span_54 : decode cX8_span 54 = .ok (.getfield 118, 3) := by decide +kernel
theorem dX8_span_57 : decode cX8_span 57 = .ok (.istore 7, 2) := by decide +kernel
theorem dX8_span_59 : decode cX8_span 59 = .ok (.iconst 0, 1) := by decide +kernel
theorem dX8_span_60 : decode cX8_span 60 = .ok (.istore 8, 2) := by decide +kernel
theorem dX8_span_62 : decode cX8_span 62 = .ok (.iconst 0, 1) := by decide +kernel
theorem dX8_span_63 : decode cX8_span 63 = .ok (.istore 9, 2) := by decide +kernel
theorem dX8_span_65 : decode cX8_span 65 = .ok (.iconst 0, 1) := by decide +kernel
theorem dX8_span_66 : decode cX8_span 66 = .ok (.istore 10, 2) := by decide +kernel
theorem dX8_span_68 : decode cX8_span 68 = .ok (.iload 10, 2) := by decide +kernel
theorem dX8_span_70 : decode cX8_span 70 = .ok (.iload_n 2, 1) := by decide +kernel
theorem dX8_span_71 : decode cX8_span 71 = .ok (.if_icmp .ge 84, 3) := by decide +kernel
theorem dX8_span_74 : decode cX8_span 74 = .ok (.aload_n 0, 1) := by decide +kernel
theorem dX8_span_75 : decode cX8_span 75 = .ok (.getfield 62, 3) := by decide +kernel
theorem dX8_span_78 : decode cX8_span 78 = .ok (.aload_n 0, 1) := by decide +kernel
theorem dX8_span_79 : decode cX8_span 79 = .ok (.getfield 58, 3) := by decide +kernel
theorem dX8_span_82 : decode cX8_span 82 = .ok (.invokevirtual 254, 3) := by decide +kernel
theorem dX8_span_85 : decode cX8_span 85 = .ok (.aload_n 0, 1) := by decide +kernel
theorem dX8_span_86 : decode cX8_span 86 = .ok (.getfield 62, 3) := by decide +kernel
theorem dX8_span_89 : decode cX8_span 89 = .ok (.iload_n 1, 1) := by decide +kernel
theorem dX8_span_90 : decode cX8_span 90 = .ok (.iload 10, 2) := by decide +kernel
theorem dX8_span_92 : decode cX8_span 92 = .ok (.iadd, 1) := by decide +kernel
theorem dX8_span_93 : decode cX8_span 93 = .ok (.iload_n 3, 1) := by decide +kernel
theorem dX8_span_94 : decode cX8_span 94 = .ok (.iload 4, 2) := by decide +kernel
theorem dX8_span_96 : decode cX8_span 96 = .ok (.invokevirtual 337, 3) := by decide +kernel
theorem dX8_span_99 : decode cX8_span 99 = .ok (.iload 7, 2) := by decide +kernel
theorem dX8_span_101 : decode cX8_span 101 = .ok (.aload_n 0, 1) := by decide +kernel
theorem dX8_span_102 : decode cX8_span 102 = .ok (.getfield 62, 3) := by decide +kernel
theorem dX8_span_105 : decode cX8_span 105 = .ok (.invokevirtual 192, 3) := by decide +kernel
theorem dX8_span_108 : decode cX8_span 108 = .ok (.invokestatic 315, 3) := by decide +kernel
theorem dX8_span_111 : decode cX8_span 111 = .ok (.istore 7, 2) := by decide +kernel
theorem dX8_span_113 : decode cX8_span 113 = .ok (.iload 8, 2) := by decide +kernel
theorem dX8_span_115 : decode cX8_span 115 = .ok (.aload_n 0, 1) := by decide +kernel
theorem dX8_span_116 : decode cX8_span 116 = .ok (.getfield 62, 3) := by decide +kernel
theorem dX8_span_119 : decode cX8_span 119 = .ok (.invokevirtual 192, 3) := by decide +kernel
theorem dX8_span_122 : decode cX8_span 122 = .ok (.invokestatic 344, 3) := by decide +kernel
theorem dX8_span_125 : decode cX8_span 125 = .ok (.istore 8, 2) := by decide +kernel
theorem dX8_span_127 : decode cX8_span 127 = .ok (.iload 9, 2) := by decide +kernel
theorem dX8_span_129 : decode cX8_span 129 = .ok (.aload_n 0, 1) := by decide +kernel
theorem dX8_span_130 : decode cX8_span 130 = .ok (.getfield 62, 3) := by decide +kernel
theorem dX8_span_133 : decode cX8_span 133 = .ok (.iload 6, 2) := by decide +kernel
theorem dX8_span_135 : decode cX8_span 135 = .ok (.invokevirtual 214, 3) := by decide +kernel
theorem dX8_span_138 : decode cX8_span 138 = .ok (.ifCond .ne 7, 3) := by decide +kernel
theorem dX8_span_141 : decode cX8_span 141 = .ok (.iconst 1, 1) := by decide +kernel
theorem dX8_span_142 : decode cX8_span 142 = .ok (.goto 4, 3) := by decide +kernel
theorem dX8_span_145 : decode cX8_span 145 = .ok (.iconst 0, 1) := by decide +kernel
theorem dX8_span_146 : decode cX8_span 146 = .ok (.iadd, 1) := by decide +kernel
theorem dX8_span_147 : decode cX8_span 147 = .ok (.istore 9, 2) := by decide +kernel
theorem dX8_span_149 : decode cX8_span 149 = .ok (.iinc 10 1, 3) := by decide +kernel
theorem dX8_span_152 : decode cX8_span 152 = .ok (.goto (-84), 3) := by decide +kernel
theorem dX8_span_155 : decode cX8_span 155 = .ok (.iload 5, 2) := by decide +kernel
theorem dX8_span_157 : decode cX8_span 157 = .ok (.ifCond .ne 8, 3) := by decide +kernel
theorem dX8_span_160 : decode cX8_span 160 = .ok (.iload 7, 2) := by decide +kernel
theorem dX8_span_162 : decode cX8_span 162 = .ok (.goto 16, 3) := by decide +kernel
theorem dX8_span_165 : decode cX8_span 165 = .ok (.iload 5, 2) := by decide +kernel
theorem dX8_span_167 : decode cX8_span 167 = .ok (.iconst 1, 1) := by decide +kernel
theorem dX8_span_168 : decode cX8_span 168 = .ok (.if_icmp .ne 8, 3) := by decide +kernel
theorem dX8_span_171 : decode cX8_span 171 = .ok (.iload 8, 2) := by decide +kernel
theorem dX8_span_173 : decode cX8_span 173 = .ok (.goto 5, 3) := by decide +kernel
theorem dX8_span_176 : decode cX8_span 176 = .ok (.iload 9, 2) := by decide +kernel
theorem dX8_span_178 : decode cX8_span 178 = .ok (.ireturn, 1) := by decide +kernel
theorem dX8_mustBeHand_0 : decode cX8_mustBeHand 0 = .ok (.aload_n 0, 1) := by decide +kernel
theorem dX8_mustBeHand_1 : decode cX8_mustBeHand 1 = .ok (.iload_n 1, 1) := by decide +kernel
theorem dX8_mustBeHand_2 : decode cX8_mustBeHand 2 = .ok (.iconst 1, 1) := by decide +kernel
theorem dX8_mustBeHand_3 : decode cX8_mustBeHand 3 = .ok (.if_icmp .lt 23, 3) := by decide +kernel
theorem dX8_mustBeHand_6 : decode cX8_mustBeHand 6 = .ok (.iload_n 1, 1) := by decide +kernel
theorem dX8_mustBeHand_7 : decode cX8_mustBeHand 7 = .ok (.bipush 96, 2) := by decide +kernel
theorem dX8_mustBeHand_9 : decode cX8_mustBeHand 9 = .ok (.if_icmp .gt 17, 3) := by decide +kernel
theorem dX8_mustBeHand_12 : decode cX8_mustBeHand 12 = .ok (.iload_n 2, 1) := by decide +kernel
theorem dX8_mustBeHand_13 : decode cX8_mustBeHand 13 = .ok (.ifCond .lt 13, 3) := by decide +kernel
theorem dX8_mustBeHand_16 : decode cX8_mustBeHand 16 = .ok (.iload_n 2, 1) := by decide +kernel
theorem dX8_mustBeHand_17 : decode cX8_mustBeHand 17 = .ok (.bipush 16, 2) := by decide +kernel
theorem dX8_mustBeHand_19 : decode cX8_mustBeHand 19 = .ok (.if_icmp .gt 7, 3) := by decide +kernel
theorem dX8_mustBeHand_22 : decode cX8_mustBeHand 22 = .ok (.iconst 1, 1) := by decide +kernel
theorem dX8_mustBeHand_23 : decode cX8_mustBeHand 23 = .ok (.goto 4, 3) := by decide +kernel
theorem dX8_mustBeHand_26 : decode cX8_mustBeHand 26 = .ok (.iconst 0, 1) := by decide +kernel
theorem dX8_mustBeHand_27 : decode cX8_mustBeHand 27 = .ok (.invokevirtual 159, 3) := by decide +kernel
theorem dX8_mustBeHand_30 : decode cX8_mustBeHand 30 = .ok (.return_, 1) := by decide +kernel
theorem dX8_status_0 : decode cX8_status 0 = .ok (.iload_n 1, 1) := by decide +kernel
theorem dX8_status_1 : decode cX8_status 1 = .ok (.ifCond .ne 10, 3) := by decide +kernel
theorem dX8_status_4 : decode cX8_status 4 = .ok (.aload_n 0, 1) := by decide +kernel
theorem dX8_status_5 : decode cX8_status 5 = .ok (.getfield 347, 3) := by decide +kernel
theorem dX8_status_8 : decode cX8_status 8 = .ok (.goto 16, 3) := by decide +kernel
theorem dX8_status_11 : decode cX8_status 11 = .ok (.iload_n 1, 1) := by decide +kernel
theorem dX8_status_12 : decode cX8_status 12 = .ok (.iconst 1, 1) := by decide +kernel
theorem dX8_status_13 : decode cX8_status 13 = .ok (.if_icmp .ne 10, 3) := by decide +kernel
theorem dX8_status_16 : decode cX8_status 16 = .ok (.aload_n 0, 1) := by decide +kernel
theorem dX8_status_17 : decode cX8_status 17 = .ok (.getfield 350, 3) := by decide +kernel
theorem dX8_status_20 : decode cX8_status 20 = .ok (.goto 4, 3) := by decide +kernel
theorem dX8_status_23 : decode cX8_status 23 = .ok (.iconst (-1), 1) := by decide +kernel
theorem dX8_status_24 : decode cX8_status 24 = .ok (.ireturn, 1) := by decide +kernel
theorem dX8_count_0 : decode cX8_count 0 = .ok (.iload_n 1, 1) := by decide +kernel
theorem dX8_count_1 : decode cX8_count 1 = .ok (.tableswitch 51 0 2 #[27, 35, 43], 27) := by decide +kernel
theorem dX8_count_28 : decode cX8_count 28 = .ok (.aload_n 0, 1) := by decide +kernel
theorem dX8_count_29 : decode cX8_count 29 = .ok (.getfield 68, 3) := by decide +kernel
theorem dX8_count_32 : decode cX8_count 32 = .ok (.getfield 173, 3) := by decide +kernel
theorem dX8_count_35 : decode cX8_count 35 = .ok (.ireturn, 1) := by decide +kernel
theorem dX8_count_36 : decode cX8_count 36 = .ok (.aload_n 0, 1) := by decide +kernel
theorem dX8_count_37 : decode cX8_count 37 = .ok (.getfield 10, 3) := by decide +kernel
theorem dX8_count_40 : decode cX8_count 40 = .ok (.getfield 81, 3) := by decide +kernel
theorem dX8_count_43 : decode cX8_count 43 = .ok (.ireturn, 1) := by decide +kernel
theorem dX8_count_44 : decode cX8_count 44 = .ok (.aload_n 0, 1) := by decide +kernel
theorem dX8_count_45 : decode cX8_count 45 = .ok (.getfield 68, 3) := by decide +kernel
theorem dX8_count_48 : decode cX8_count 48 = .ok (.getfield 125, 3) := by decide +kernel
theorem dX8_count_51 : decode cX8_count 51 = .ok (.ireturn, 1) := by decide +kernel
theorem dX8_count_52 : decode cX8_count 52 = .ok (.iconst (-1), 1) := by decide +kernel
theorem dX8_count_53 : decode cX8_count 53 = .ok (.ireturn, 1) := by decide +kernel
theorem dX8_must_0 : decode cX8_must 0 = .ok (.iload_n 1, 1) := by decide +kernel
theorem dX8_must_1 : decode cX8_must 1 = .ok (.ifCond .ne 24, 3) := by decide +kernel
theorem dX8_must_4 : decode cX8_must 4 = .ok (.aload_n 0, 1) := by decide +kernel
theorem dX8_must_5 : decode cX8_must 5 = .ok (.dup, 1) := by decide +kernel
theorem dX8_must_6 : decode cX8_must 6 = .ok (.getfield 350, 3) := by decide +kernel
theorem dX8_must_9 : decode cX8_must 9 = .ok (.iconst 1, 1) := by decide +kernel
theorem dX8_must_10 : decode cX8_must 10 = .ok (.iadd, 1) := by decide +kernel
theorem dX8_must_11 : decode cX8_must 11 = .ok (.putfield 350, 3) := by decide +kernel
theorem dX8_must_14 : decode cX8_must 14 = .ok (.new 353, 3) := by decide +kernel
theorem dX8_must_17 : decode cX8_must 17 = .ok (.dup, 1) := by decide +kernel
theorem dX8_must_18 : decode cX8_must 18 = .ok (.ldc_w 355, 3) := by decide +kernel
theorem dX8_must_21 : decode cX8_must 21 = .ok (.invokespecial 357, 3) := by decide +kernel
theorem dX8_must_24 : decode cX8_must 24 = .ok (.athrow, 1) := by decide +kernel
theorem dX8_must_25 : decode cX8_must 25 = .ok (.return_, 1) := by decide +kernel
theorem dX8_mustBeBits_0 : decode cX8_mustBeBits 0 = .ok (.aload_n 0, 1) := by decide +kernel
theorem dX8_mustBeBits_1 : decode cX8_mustBeBits 1 = .ok (.iload_n 1, 1) := by decide +kernel
theorem dX8_mustBeBits_2 : decode cX8_mustBeBits 2 = .ok (.ifCond .lt 20, 3) := by decide +kernel
theorem dX8_mustBeBits_5 : decode cX8_mustBeBits 5 = .ok (.iload_n 1, 1) := by decide +kernel
theorem dX8_mustBeBits_6 : decode cX8_mustBeBits 6 = .ok (.iconst 1, 1) := by decide +kernel
theorem dX8_mustBeBits_7 : decode cX8_mustBeBits 7 = .ok (.aload_n 0, 1) := by decide +kernel
theorem dX8_mustBeBits_8 : decode cX8_mustBeBits 8 = .ok (.getfield 19, 3) := by decide +kernel
theorem dX8_mustBeBits_11 : decode cX8_mustBeBits 11 = .ok (.getfield 128, 3) := by decide +kernel
theorem dX8_mustBeBits_14 : decode cX8_mustBeBits 14 = .ok (.ishl, 1) := by decide +kernel
theorem dX8_mustBeBits_15 : decode cX8_mustBeBits 15 = .ok (.if_icmp .ge 7, 3) := by decide +kernel
theorem dX8_mustBeBits_18 : decode cX8_mustBeBits 18 = .ok (.iconst 1, 1) := by decide +kernel
theorem dX8_mustBeBits_19 : decode cX8_mustBeBits 19 = .ok (.goto 4, 3) := by decide +kernel
theorem dX8_mustBeBits_22 : decode cX8_mustBeBits 22 = .ok (.iconst 0, 1) := by decide +kernel
theorem dX8_mustBeBits_23 : decode cX8_mustBeBits 23 = .ok (.invokevirtual 159, 3) := by decide +kernel
theorem dX8_mustBeBits_26 : decode cX8_mustBeBits 26 = .ok (.return_, 1) := by decide +kernel
theorem dX8_mustBeLine_0 : decode cX8_mustBeLine 0 = .ok (.aload_n 0, 1) := by decide +kernel
theorem dX8_mustBeLine_1 : decode cX8_mustBeLine 1 = .ok (.getfield 19, 3) := by decide +kernel
theorem dX8_mustBeLine_4 : decode cX8_mustBeLine 4 = .ok (.iload_n 1, 1) := by decide +kernel
theorem dX8_mustBeLine_5 : decode cX8_mustBeLine 5 = .ok (.invokevirtual 341, 3) := by decide +kernel
theorem dX8_mustBeLine_8 : decode cX8_mustBeLine 8 = .ok (.ifCond .ne 24, 3) := by decide +kernel
theorem dX8_mustBeLine_11 : decode cX8_mustBeLine 11 = .ok (.aload_n 0, 1) := by decide +kernel
theorem dX8_mustBeLine_12 : decode cX8_mustBeLine 12 = .ok (.dup, 1) := by decide +kernel
theorem dX8_mustBeLine_13 : decode cX8_mustBeLine 13 = .ok (.getfield 347, 3) := by decide +kernel
theorem dX8_mustBeLine_16 : decode cX8_mustBeLine 16 = .ok (.iconst 1, 1) := by decide +kernel
theorem dX8_mustBeLine_17 : decode cX8_mustBeLine 17 = .ok (.iadd, 1) := by decide +kernel
theorem dX8_mustBeLine_18 : decode cX8_mustBeLine 18 = .ok (.putfield 347, 3) := by decide +kernel
theorem dX8_mustBeLine_21 : decode cX8_mustBeLine 21 = .ok (.new 360, 3) := by decide +kernel
theorem dX8_mustBeLine_24 : decode cX8_mustBeLine 24 = .ok (.dup, 1) := by decide +kernel
theorem dX8_mustBeLine_25 : decode cX8_mustBeLine 25 = .ok (.ldc_w 362, 3) := by decide +kernel
theorem dX8_mustBeLine_28 : decode cX8_mustBeLine 28 = .ok (.invokespecial 364, 3) := by decide +kernel
theorem dX8_mustBeLine_31 : decode cX8_mustBeLine 31 = .ok (.athrow, 1) := by decide +kernel
theorem dX8_mustBeLine_32 : decode cX8_mustBeLine 32 = .ok (.return_, 1) := by decide +kernel
theorem dX8_mustBeWord_0 : decode cX8_mustBeWord 0 = .ok (.aload_n 0, 1) := by decide +kernel
theorem dX8_mustBeWord_1 : decode cX8_mustBeWord 1 = .ok (.getfield 19, 3) := by decide +kernel
theorem dX8_mustBeWord_4 : decode cX8_mustBeWord 4 = .ok (.iload_n 1, 1) := by decide +kernel
theorem dX8_mustBeWord_5 : decode cX8_mustBeWord 5 = .ok (.iload_n 2, 1) := by decide +kernel
theorem dX8_mustBeWord_6 : decode cX8_mustBeWord 6 = .ok (.invokevirtual 365, 3) := by decide +kernel
theorem dX8_mustBeWord_9 : decode cX8_mustBeWord 9 = .ok (.ifCond .ne 24, 3) := by decide +kernel
theorem dX8_mustBeWord_12 : decode cX8_mustBeWord 12 = .ok (.aload_n 0, 1) := by decide +kernel
theorem dX8_mustBeWord_13 : decode cX8_mustBeWord 13 = .ok (.dup, 1) := by decide +kernel
theorem dX8_mustBeWord_14 : decode cX8_mustBeWord 14 = .ok (.getfield 347, 3) := by decide +kernel
theorem dX8_mustBeWord_17 : decode cX8_mustBeWord 17 = .ok (.iconst 1, 1) := by decide +kernel
theorem dX8_mustBeWord_18 : decode cX8_mustBeWord 18 = .ok (.iadd, 1) := by decide +kernel
theorem dX8_mustBeWord_19 : decode cX8_mustBeWord 19 = .ok (.putfield 347, 3) := by decide +kernel
theorem dX8_mustBeWord_22 : decode cX8_mustBeWord 22 = .ok (.new 360, 3) := by decide +kernel
theorem dX8_mustBeWord_25 : decode cX8_mustBeWord 25 = .ok (.dup, 1) := by decide +kernel
theorem dX8_mustBeWord_26 : decode cX8_mustBeWord 26 = .ok (.ldc_w 368, 3) := by decide +kernel
theorem dX8_mustBeWord_29 : decode cX8_mustBeWord 29 = .ok (.invokespecial 364, 3) := by decide +kernel
theorem dX8_mustBeWord_32 : decode cX8_mustBeWord 32 = .ok (.athrow, 1) := by decide +kernel
theorem dX8_mustBeWord_33 : decode cX8_mustBeWord 33 = .ok (.return_, 1) := by decide +kernel
theorem dX8_bitsOf_0 : decode cX8_bitsOf 0 = .ok (.iconst 1, 1) := by decide +kernel
theorem dX8_bitsOf_1 : decode cX8_bitsOf 1 = .ok (.iload_n 1, 1) := by decide +kernel
theorem dX8_bitsOf_2 : decode cX8_bitsOf 2 = .ok (.iload_n 0, 1) := by decide +kernel
theorem dX8_bitsOf_3 : decode cX8_bitsOf 3 = .ok (.isub, 1) := by decide +kernel
theorem dX8_bitsOf_4 : decode cX8_bitsOf 4 = .ok (.iconst 1, 1) := by decide +kernel
theorem dX8_bitsOf_5 : decode cX8_bitsOf 5 = .ok (.iadd, 1) := by decide +kernel
theorem dX8_bitsOf_6 : decode cX8_bitsOf 6 = .ok (.ishl, 1) := by decide +kernel
theorem dX8_bitsOf_7 : decode cX8_bitsOf 7 = .ok (.iconst 1, 1) := by decide +kernel
theorem dX8_bitsOf_8 : decode cX8_bitsOf 8 = .ok (.isub, 1) := by decide +kernel
theorem dX8_bitsOf_9 : decode cX8_bitsOf 9 = .ok (.iload_n 0, 1) := by decide +kernel
theorem dX8_bitsOf_10 : decode cX8_bitsOf 10 = .ok (.ishl, 1) := by decide +kernel
theorem dX8_bitsOf_11 : decode cX8_bitsOf 11 = .ok (.ireturn, 1) := by decide +kernel
theorem dX8_named_0 : decode cX8_named 0 = .ok (.bipush 100, 2) := by decide +kernel
theorem dX8_named_2 : decode cX8_named 2 = .ok (.iload_n 0, 1) := by decide +kernel
theorem dX8_named_3 : decode cX8_named 3 = .ok (.imul, 1) := by decide +kernel
theorem dX8_named_4 : decode cX8_named 4 = .ok (.bipush 10, 2) := by decide +kernel
theorem dX8_named_6 : decode cX8_named 6 = .ok (.iload_n 1, 1) := by decide +kernel
theorem dX8_named_7 : decode cX8_named 7 = .ok (.imul, 1) := by decide +kernel
theorem dX8_named_8 : decode cX8_named 8 = .ok (.iadd, 1) := by decide +kernel
theorem dX8_named_9 : decode cX8_named 9 = .ok (.iload_n 2, 1) := by decide +kernel
theorem dX8_named_10 : decode cX8_named 10 = .ok (.iadd, 1) := by decide +kernel
theorem dX8_named_11 : decode cX8_named 11 = .ok (.ireturn, 1) := by decide +kernel
theorem dX9_init_0 : decode cX9_init 0 = .ok (.aload_n 0, 1) := by decide +kernel
theorem dX9_init_1 : decode cX9_init 1 = .ok (.invokespecial 1, 3) := by decide +kernel
theorem dX9_init_4 : decode cX9_init 4 = .ok (.aload_n 0, 1) := by decide +kernel
theorem dX9_init_5 : decode cX9_init 5 = .ok (.iconst (-1), 1) := by decide +kernel
theorem dX9_init_6 : decode cX9_init 6 = .ok (.putfield 9, 3) := by decide +kernel
theorem dX9_init_9 : decode cX9_init 9 = .ok (.aload_n 0, 1) := by decide +kernel
theorem dX9_init_10 : decode cX9_init 10 = .ok (.sipush 600, 3) := by decide +kernel
theorem dX9_init_13 : decode cX9_init 13 = .ok (.newarray .int, 2) := by decide +kernel
theorem dX9_init_15 : decode cX9_init 15 = .ok (.putfield 13, 3) := by decide +kernel
theorem dX9_init_18 : decode cX9_init 18 = .ok (.aload_n 0, 1) := by decide +kernel
theorem dX9_init_19 : decode cX9_init 19 = .ok (.iconst 2, 1) := by decide +kernel
theorem dX9_init_20 : decode cX9_init 20 = .ok (.newarray .int, 2) := by decide +kernel
theorem dX9_init_22 : decode cX9_init 22 = .ok (.putfield 17, 3) := by decide +kernel
theorem dX9_init_25 : decode cX9_init 25 = .ok (.aload_n 0, 1) := by decide +kernel
theorem dX9_init_26 : decode cX9_init 26 = .ok (.iconst 4, 1) := by decide +kernel
theorem dX9_init_27 : decode cX9_init 27 = .ok (.newarray .int, 2) := by decide +kernel
theorem dX9_init_29 : decode cX9_init 29 = .ok (.putfield 20, 3) := by decide +kernel
theorem dX9_init_32 : decode cX9_init 32 = .ok (.aload_n 0, 1) := by decide +kernel
theorem dX9_init_33 : decode cX9_init 33 = .ok (.bipush 6, 2) := by decide +kernel
theorem dX9_init_35 : decode cX9_init 35 = .ok (.newarray .int, 2) := by decide +kernel
theorem dX9_init_37 : decode cX9_init 37 = .ok (.putfield 23, 3) := by decide +kernel
theorem dX9_init_40 : decode cX9_init 40 = .ok (.aload_n 0, 1) := by decide +kernel
theorem dX9_init_41 : decode cX9_init 41 = .ok (.bipush 6, 2) := by decide +kernel
theorem dX9_init_43 : decode cX9_init 43 = .ok (.newarray .int, 2) := by decide +kernel
theorem dX9_init_45 : decode cX9_init 45 = .ok (.putfield 26, 3) := by decide +kernel
theorem dX9_init_48 : decode cX9_init 48 = .ok (.aload_n 0, 1) := by decide +kernel
theorem dX9_init_49 : decode cX9_init 49 = .ok (.bipush 6, 2) := by decide +kernel
theorem dX9_init_51 : decode cX9_init 51 = .ok (.bipush 8, 2) := by decide +kernel
theorem dX9_init_53 : decode cX9_init 53 = .ok (.multianewarray 29 2, 4) := by decide +kernel
theorem dX9_init_57 : decode cX9_init 57 = .ok (.putfield 31, 3) := by decide +kernel
theorem dX9_init_60 : decode cX9_init 60 = .ok (.aload_n 0, 1) := by decide +kernel
theorem dX9_init_61 : decode cX9_init 61 = .ok (.bipush 6, 2) := by decide +kernel
theorem dX9_init_63 : decode cX9_init 63 = .ok (.bipush 8, 2) := by decide +kernel
theorem dX9_init_65 : decode cX9_init 65 = .ok (.multianewarray 29 2, 4) := by decide +kernel
theorem dX9_init_69 : decode cX9_init 69 = .ok (.putfield 34, 3) := by decide +kernel
theorem dX9_init_72 : decode cX9_init 72 = .ok (.aload_n 0, 1) := by decide +kernel
theorem dX9_init_73 : decode cX9_init 73 = .ok (.sipush 160, 3) := by decide +kernel
theorem dX9_init_76 : decode cX9_init 76 = .ok (.iconst 2, 1) := by decide +kernel
theorem dX9_init_77 : decode cX9_init 77 = .ok (.multianewarray 29 2, 4) := by decide +kernel
theorem dX9_init_81 : decode cX9_init 81 = .ok (.putfield 37, 3) := by decide +kernel
theorem dX9_init_84 : decode cX9_init 84 = .ok (.aload_n 0, 1) := by decide +kernel
theorem dX9_init_85 : decode cX9_init 85 = .ok (.sipush 160, 3) := by decide +kernel
theorem dX9_init_88 : decode cX9_init 88 = .ok (.iconst 2, 1) := by decide +kernel
theorem dX9_init_89 : decode cX9_init 89 = .ok (.multianewarray 29 2, 4) := by decide +kernel
theorem dX9_init_93 : decode cX9_init 93 = .ok (.putfield 40, 3) := by decide +kernel
theorem dX9_init_96 : decode cX9_init 96 = .ok (.aload_n 0, 1) := by decide +kernel
theorem dX9_init_97 : decode cX9_init 97 = .ok (.sipush 160, 3) := by decide +kernel
theorem dX9_init_100 : decode cX9_init 100 = .ok (.newarray .int, 2) := by decide +kernel
theorem dX9_init_102 : decode cX9_init 102 = .ok (.putfield 43, 3) := by decide +kernel
theorem dX9_init_105 : decode cX9_init 105 = .ok (.aload_n 0, 1) := by decide +kernel
theorem dX9_init_106 : decode cX9_init 106 = .ok (.bipush 7, 2) := by decide +kernel
theorem dX9_init_108 : decode cX9_init 108 = .ok (.newarray .int, 2) := by decide +kernel
theorem dX9_init_110 : decode cX9_init 110 = .ok (.putfield 46, 3) := by decide +kernel
theorem dX9_init_113 : decode cX9_init 113 = .ok (.aload_n 0, 1) := by decide +kernel
theorem dX9_init_114 : decode cX9_init 114 = .ok (.bipush 12, 2) := by decide +kernel
theorem dX9_init_116 : decode cX9_init 116 = .ok (.newarray .int, 2) := by decide +kernel
theorem dX9_init_118 : decode cX9_init 118 = .ok (.putfield 49, 3) := by decide +kernel
theorem dX9_init_121 : decode cX9_init 121 = .ok (.aload_n 0, 1) := by decide +kernel
theorem dX9_init_122 : decode cX9_init 122 = .ok (.bipush 12, 2) := by decide +kernel
theorem dX9_init_124 : decode cX9_init 124 = .ok (.newarray .int, 2) := by decide +kernel
theorem dX9_init_126 : decode cX9_init 126 = .ok (.putfield 52, 3) := by decide +kernel
theorem dX9_init_129 : decode cX9_init 129 = .ok (.aload_n 0, 1) := by decide +kernel
theorem dX9_init_130 : decode cX9_init 130 = .ok (.bipush 80, 2) := by decide +kernel
theorem dX9_init_132 : decode cX9_init 132 = .ok (.iconst 5, 1) := by decide +kernel
theorem dX9_init_133 : decode cX9_init 133 = .ok (.multianewarray 29 2, 4) := by decide +kernel
theorem dX9_init_137 : decode cX9_init 137 = .ok (.putfield 55, 3) := by decide +kernel
theorem dX9_init_140 : decode cX9_init 140 = .ok (.aload_n 0, 1) := by decide +kernel
theorem dX9_init_141 : decode cX9_init 141 = .ok (.bipush 14, 2) := by decide +kernel
theorem dX9_init_143 : decode cX9_init 143 = .ok (.newarray .int, 2) := by decide +kernel
theorem dX9_init_145 : decode cX9_init 145 = .ok (.putfield 58, 3) := by decide +kernel
theorem dX9_init_148 : decode cX9_init 148 = .ok (.aload_n 0, 1) := by decide +kernel
theorem dX9_init_149 : decode cX9_init 149 = .ok (.bipush 14, 2) := by decide +kernel
theorem dX9_init_151 : decode cX9_init 151 = .ok (.newarray .int, 2) := by decide +kernel
theorem dX9_init_153 : decode cX9_init 153 = .ok (.putfield 61, 3) := by decide +kernel
theorem dX9_init_156 : decode cX9_init 156 = .ok (.aload_n 0, 1) := by decide +kernel
theorem dX9_init_157 : decode cX9_init 157 = .ok (.bipush 16, 2) := by decide +kernel
theorem dX9_init_159 : decode cX9_init 159 = .ok (.bipush 14, 2) := by decide +kernel
theorem dX9_init_161 : decode cX9_init 161 = .ok (.multianewarray 29 2, 4) := by decide +kernel
theorem dX9_init_165 : decode cX9_init 165 = .ok (.putfield 64, 3) := by decide +kernel
theorem dX9_init_168 : decode cX9_init 168 = .ok (.aload_n 0, 1) := by decide +kernel
theorem dX9_init_169 : decode cX9_init 169 = .ok (.iconst 3, 1) := by decide +kernel
theorem dX9_init_170 : decode cX9_init 170 = .ok (.sipush 239, 3) := by decide +kernel
theorem dX9_init_173 : decode cX9_init 173 = .ok (.multianewarray 29 2, 4) := by decide +kernel
theorem dX9_init_177 : decode cX9_init 177 = .ok (.putfield 67, 3) := by decide +kernel
theorem dX9_init_180 : decode cX9_init 180 = .ok (.aload_n 0, 1) := by decide +kernel
theorem dX9_init_181 : decode cX9_init 181 = .ok (.bipush 48, 2) := by decide +kernel
theorem dX9_init_183 : decode cX9_init 183 = .ok (.newarray .int, 2) := by decide +kernel
theorem dX9_init_185 : decode cX9_init 185 = .ok (.putfield 70, 3) := by decide +kernel
theorem dX9_init_188 : decode cX9_init 188 = .ok (.aload_n 0, 1) := by decide +kernel
theorem dX9_init_189 : decode cX9_init 189 = .ok (.bipush 48, 2) := by decide +kernel
theorem dX9_init_191 : decode cX9_init 191 = .ok (.newarray .int, 2) := by decide +kernel
theorem dX9_init_193 : decode cX9_init 193 = .ok (.putfield 73, 3) := by decide +kernel
theorem dX9_init_196 : decode cX9_init 196 = .ok (.aload_n 0, 1) := by decide +kernel
theorem dX9_init_197 : decode cX9_init 197 = .ok (.bipush 48, 2) := by decide +kernel
theorem dX9_init_199 : decode cX9_init 199 = .ok (.newarray .int, 2) := by decide +kernel
theorem dX9_init_201 : decode cX9_init 201 = .ok (.putfield 76, 3) := by decide +kernel
theorem dX9_init_204 : decode cX9_init 204 = .ok (.aload_n 0, 1) := by decide +kernel
theorem dX9_init_205 : decode cX9_init 205 = .ok (.bipush 26, 2) := by decide +kernel
theorem dX9_init_207 : decode cX9_init 207 = .ok (.newarray .int, 2) := by decide +kernel
theorem dX9_init_209 : decode cX9_init 209 = .ok (.putfield 79, 3) := by decide +kernel
theorem dX9_init_212 : decode cX9_init 212 = .ok (.aload_n 0, 1) := by decide +kernel
theorem dX9_init_213 : decode cX9_init 213 = .ok (.bipush 26, 2) := by decide +kernel
theorem dX9_init_215 : decode cX9_init 215 = .ok (.newarray .int, 2) := by decide +kernel
theorem dX9_init_217 : decode cX9_init 217 = .ok (.putfield 82, 3) := by decide +kernel
theorem dX9_init_220 : decode cX9_init 220 = .ok (.aload_n 0, 1) := by decide +kernel
theorem dX9_init_221 : decode cX9_init 221 = .ok (.bipush 26, 2) := by decide +kernel
theorem dX9_init_223 : decode cX9_init 223 = .ok (.newarray .long, 2) := by decide +kernel
theorem dX9_init_225 : decode cX9_init 225 = .ok (.putfield 85, 3) := by decide +kernel
theorem dX9_init_228 : decode cX9_init 228 = .ok (.aload_n 0, 1) := by decide +kernel
theorem dX9_init_229 : decode cX9_init 229 = .ok (.bipush 26, 2) := by decide +kernel
theorem dX9_init_231 : decode cX9_init 231 = .ok (.newarray .long, 2) := by decide +kernel
theorem dX9_init_233 : decode cX9_init 233 = .ok (.putfield 89, 3) := by decide +kernel
theorem dX9_init_236 : decode cX9_init 236 = .ok (.aload_n 0, 1) := by decide +kernel
theorem dX9_init_237 : decode cX9_init 237 = .ok (.bipush 13, 2) := by decide +kernel
theorem dX9_init_239 : decode cX9_init 239 = .ok (.newarray .long, 2) := by decide +kernel
theorem dX9_init_241 : decode cX9_init 241 = .ok (.putfield 92, 3) := by decide +kernel
theorem dX9_init_244 : decode cX9_init 244 = .ok (.aload_n 0, 1) := by decide +kernel
theorem dX9_init_245 : decode cX9_init 245 = .ok (.bipush 13, 2) := by decide +kernel
theorem dX9_init_247 : decode cX9_init 247 = .ok (.bipush 16, 2) := by decide +kernel
theorem dX9_init_249 : decode cX9_init 249 = .ok (.multianewarray 95 2, 4) := by decide +kernel
theorem dX9_init_253 : decode cX9_init 253 = .ok (.putfield 97, 3) := by decide +kernel
theorem dX9_init_256 : decode cX9_init 256 = .ok (.aload_n 0, 1) := by decide +kernel
theorem dX9_init_257 : decode cX9_init 257 = .ok (.bipush 9, 2) := by decide +kernel
theorem dX9_init_259 : decode cX9_init 259 = .ok (.newarray .int, 2) := by decide +kernel
theorem dX9_init_261 : decode cX9_init 261 = .ok (.putfield 100, 3) := by decide +kernel
theorem dX9_init_264 : decode cX9_init 264 = .ok (.aload_n 0, 1) := by decide +kernel
theorem dX9_init_265 : decode cX9_init 265 = .ok (.bipush 16, 2) := by decide +kernel
theorem dX9_init_267 : decode cX9_init 267 = .ok (.newarray .boolean, 2) := by decide +kernel
theorem dX9_init_269 : decode cX9_init 269 = .ok (.putfield 103, 3) := by decide +kernel
theorem dX9_init_272 : decode cX9_init 272 = .ok (.aload_n 0, 1) := by decide +kernel
theorem dX9_init_273 : decode cX9_init 273 = .ok (.bipush 9, 2) := by decide +kernel
theorem dX9_init_275 : decode cX9_init 275 = .ok (.bipush 9, 2) := by decide +kernel
theorem dX9_init_277 : decode cX9_init 277 = .ok (.multianewarray 29 2, 4) := by decide +kernel
theorem dX9_init_281 : decode cX9_init 281 = .ok (.putfield 107, 3) := by decide +kernel
theorem dX9_init_284 : decode cX9_init 284 = .ok (.aload_n 0, 1) := by decide +kernel
theorem dX9_init_285 : decode cX9_init 285 = .ok (.bipush 14, 2) := by decide +kernel
theorem dX9_init_287 : decode cX9_init 287 = .ok (.newarray .long, 2) := by decide +kernel
theorem dX9_init_289 : decode cX9_init 289 = .ok (.putfield 110, 3) := by decide +kernel
theorem dX9_init_292 : decode cX9_init 292 = .ok (.aload_n 0, 1) := by decide +kernel
theorem dX9_init_293 : decode cX9_init 293 = .ok (.bipush 16, 2) := by decide +kernel
theorem dX9_init_295 : decode cX9_init 295 = .ok (.newarray .int, 2) := by decide +kernel
theorem dX9_init_297 : decode cX9_init 297 = .ok (.putfield 113, 3) := by decide +kernel
theorem dX9_init_300 : decode cX9_init 300 = .ok (.aload_n 0, 1) := by decide +kernel
theorem dX9_init_301 : decode cX9_init 301 = .ok (.invokevirtual 116, 3) := by decide +kernel
theorem dX9_init_304 : decode cX9_init 304 = .ok (.aload_n 0, 1) := by decide +kernel
theorem dX9_init_305 : decode cX9_init 305 = .ok (.invokevirtual 119, 3) := by decide +kernel
theorem dX9_init_308 : decode cX9_init 308 = .ok (.return_, 1) := by decide +kernel
theorem dX9_tellsNothing_0 : decode cX9_tellsNothing 0 = .ok (.aload_n 0, 1) := by decide +kernel
theorem dX9_tellsNothing_1 : decode cX9_tellsNothing 1 = .ok (.iconst 0, 1) := by decide +kernel
theorem dX9_tellsNothing_2 : decode cX9_tellsNothing 2 = .ok (.putfield 122, 3) := by decide +kernel
theorem dX9_tellsNothing_5 : decode cX9_tellsNothing 5 = .ok (.aload_n 0, 1) := by decide +kernel
theorem dX9_tellsNothing_6 : decode cX9_tellsNothing 6 = .ok (.bipush 60, 2) := by decide +kernel
theorem dX9_tellsNothing_8 : decode cX9_tellsNothing 8 = .ok (.putfield 125, 3) := by decide +kernel
theorem dX9_tellsNothing_11 : decode cX9_tellsNothing 11 = .ok (.iconst 0, 1) := by decide +kernel
theorem dX9_tellsNothing_12 : decode cX9_tellsNothing 12 = .ok (.istore_n 1, 1) := by decide +kernel
theorem dX9_tellsNothing_13 : decode cX9_tellsNothing 13 = .ok (.iload_n 1, 1) := by decide +kernel
theorem dX9_tellsNothing_14 : decode cX9_tellsNothing 14 = .ok (.iconst 4, 1) := by decide +kernel
theorem dX9_tellsNothing_15 : decode cX9_tellsNothing 15 = .ok (.if_icmp .ge 16, 3) := by decide +kernel
theorem dX9_tellsNothing_18 : decode cX9_tellsNothing 18 = .ok (.aload_n 0, 1) := by decide +kernel
theorem dX9_tellsNothing_19 : decode cX9_tellsNothing 19 = .ok (.getfield 20, 3) := by decide +kernel
theorem dX9_tellsNothing_22 : decode cX9_tellsNothing 22 = .ok (.iload_n 1, 1) := by decide +kernel
theorem dX9_tellsNothing_23 : decode cX9_tellsNothing 23 = .ok (.iconst 0, 1) := by decide +kernel
theorem dX9_tellsNothing_24 : decode cX9_tellsNothing 24 = .ok (.iastore, 1) := by decide +kernel
theorem dX9_tellsNothing_25 : decode cX9_tellsNothing 25 = .ok (.iinc 1 1, 3) := by decide +kernel
theorem dX9_tellsNothing_28 : decode cX9_tellsNothing 28 = .ok (.goto (-15), 3) := by decide +kernel
theorem dX9_tellsNothing_31 : decode cX9_tellsNothing 31 = .ok (.return_, 1) := by decide +kernel
theorem dX9_thrown_0 : decode cX9_thrown 0 = .ok (.aload_n 0, 1) := by decide +kernel
theorem dX9_thrown_1 : decode cX9_thrown 1 = .ok (.getfield 128, 3) := by decide +kernel
theorem dX9_thrown_4 : decode cX9_thrown 4 = .ok (.ireturn, 1) := by decide +kernel
theorem dX9_bad_0 : decode cX9_bad 0 = .ok (.iload_n 1, 1) := by decide +kernel
theorem dX9_bad_1 : decode cX9_bad 1 = .ok (.ifCond .eq 25, 3) := by decide +kernel
theorem dX9_bad_4 : decode cX9_bad 4 = .ok (.aload_n 0, 1) := by decide +kernel
theorem dX9_bad_5 : decode cX9_bad 5 = .ok (.getfield 128, 3) := by decide +kernel
theorem dX9_bad_8 : decode cX9_bad 8 = .ok (.ifCond .ne 18, 3) := by decide +kernel
theorem dX9_bad_11 : decode cX9_bad 11 = .ok (.aload_n 0, 1) := by decide +kernel
theorem dX9_bad_12 : decode cX9_bad 12 = .ok (.iload_n 2, 1) := by decide +kernel
theorem dX9_bad_13 : decode cX9_bad 13 = .ok (.putfield 128, 3) := by decide +kernel
theorem dX9_bad_16 : decode cX9_bad 16 = .ok (.aload_n 0, 1) := by decide +kernel
theorem dX9_bad_17 : decode cX9_bad 17 = .ok (.getfield 17, 3) := by decide +kernel
theorem dX9_bad_20 : decode cX9_bad 20 = .ok (.iload_n 3, 1) := by decide +kernel
theorem dX9_bad_21 : decode cX9_bad 21 = .ok (.dup2, 1) := by decide +kernel
theorem dX9_bad_22 : decode cX9_bad 22 = .ok (.iaload, 1) := by decide +kernel
theorem dX9_bad_23 : decode cX9_bad 23 = .ok (.iconst 1, 1) := by decide +kernel
theorem dX9_bad_24 : decode cX9_bad 24 = .ok (.iadd, 1) := by decide +kernel
theorem dX9_bad_25 : decode cX9_bad 25 = .ok (.iastore, 1) := by decide +kernel
theorem dX9_bad_26 : decode cX9_bad 26 = .ok (.aload_n 0, 1) := by decide +kernel
theorem dX9_bad_27 : decode cX9_bad 27 = .ok (.getfield 128, 3) := by decide +kernel
theorem dX9_bad_30 : decode cX9_bad 30 = .ok (.ifCond .eq 7, 3) := by decide +kernel
theorem dX9_bad_33 : decode cX9_bad 33 = .ok (.iconst 1, 1) := by decide +kernel
theorem dX9_bad_34 : decode cX9_bad 34 = .ok (.goto 4, 3) := by decide +kernel
theorem dX9_bad_37 : decode cX9_bad 37 = .ok (.iconst 0, 1) := by decide +kernel
theorem dX9_bad_38 : decode cX9_bad 38 = .ok (.ireturn, 1) := by decide +kernel
theorem dX9_in_0 : decode cX9_in 0 = .ok (.iload_n 0, 1) := by decide +kernel
theorem dX9_in_1 : decode cX9_in 1 = .ok (.iload_n 1, 1) := by decide +kernel
theorem dX9_in_2 : decode cX9_in 2 = .ok (.if_icmp .lt 12, 3) := by decide +kernel
theorem dX9_in_5 : decode cX9_in 5 = .ok (.iload_n 0, 1) := by decide +kernel
theorem dX9_in_6 : decode cX9_in 6 = .ok (.iload_n 2, 1) := by decide +kernel
theorem dX9_in_7 : decode cX9_in 7 = .ok (.if_icmp .gt 7, 3) := by decide +kernel
theorem dX9_in_10 : decode cX9_in 10 = .ok (.iconst 1, 1) := by decide +kernel
theorem dX9_in_11 : decode cX9_in 11 = .ok (.goto 4, 3) := by decide +kernel
theorem dX9_in_14 : decode cX9_in 14 = .ok (.iconst 0, 1) := by decide +kernel
theorem dX9_in_15 : decode cX9_in 15 = .ok (.ireturn, 1) := by decide +kernel
theorem dX9_less_0 : decode cX9_less 0 = .ok (.iload_n 0, 1) := by decide +kernel
theorem dX9_less_1 : decode cX9_less 1 = .ok (.iload_n 1, 1) := by decide +kernel
theorem dX9_less_2 : decode cX9_less 2 = .ok (.if_icmp .ge 7, 3) := by decide +kernel
theorem dX9_less_5 : decode cX9_less 5 = .ok (.iload_n 0, 1) := by decide +kernel
theorem dX9_less_6 : decode cX9_less 6 = .ok (.goto 4, 3) := by decide +kernel
theorem dX9_less_9 : decode cX9_less 9 = .ok (.iload_n 1, 1) := by decide +kernel
theorem dX9_less_10 : decode cX9_less 10 = .ok (.ireturn, 1) := by decide +kernel
theorem dX9_more_0 : decode cX9_more 0 = .ok (.iload_n 0, 1) := by decide +kernel
theorem dX9_more_1 : decode cX9_more 1 = .ok (.iload_n 1, 1) := by decide +kernel
theorem dX9_more_2 : decode cX9_more 2 = .ok (.if_icmp .le 7, 3) := by decide +kernel
theorem dX9_more_5 : decode cX9_more 5 = .ok (.iload_n 0, 1) := by decide +kernel
theorem dX9_more_6 : decode cX9_more 6 = .ok (.goto 4, 3) := by decide +kernel
theorem dX9_more_9 : decode cX9_more 9 = .ok (.iload_n 1, 1) := by decide +kernel
theorem dX9_more_10 : decode cX9_more 10 = .ok (.ireturn, 1) := by decide +kernel
theorem dX9_has_0 : decode cX9_has 0 = .ok (.iload_n 0, 1) := by decide +kernel
theorem dX9_has_1 : decode cX9_has 1 = .ok (.iload_n 1, 1) := by decide +kernel
theorem dX9_has_2 : decode cX9_has 2 = .ok (.ishr, 1) := by decide +kernel
theorem dX9_has_3 : decode cX9_has 3 = .ok (.iconst 1, 1) := by decide +kernel
theorem dX9_has_4 : decode cX9_has 4 = .ok (.iand, 1) := by decide +kernel
theorem dX9_has_5 : decode cX9_has 5 = .ok (.iconst 1, 1) := by decide +kernel
theorem dX9_has_6 : decode cX9_has 6 = .ok (.if_icmp .ne 7, 3) := by decide +kernel
theorem dX9_has_9 : decode cX9_has 9 = .ok (.iconst 1, 1) := by decide +kernel
theorem dX9_has_10 : decode cX9_has 10 = .ok (.goto 4, 3) := by decide +kernel
theorem dX9_has_13 : decode cX9_has 13 = .ok (.iconst 0, 1) := by decide +kernel
theorem dX9_has_14 : decode cX9_has 14 = .ok (.ireturn, 1) := by decide +kernel
theorem dX9_feed_0 : decode cX9_feed 0 = .ok (.aload_n 0, 1) := by decide +kernel
theorem dX9_feed_1 : decode cX9_feed 1 = .ok (.iconst 0, 1) := by decide +kernel
theorem dX9_feed_2 : decode cX9_feed 2 = .ok (.putfield 128, 3) := by decide +kernel
theorem dX9_feed_5 : decode cX9_feed 5 = .ok (.aload_n 0, 1) := by decide +kernel
theorem dX9_feed_6 : decode cX9_feed 6 = .ok (.getfield 131, 3) := by decide +kernel
theorem dX9_feed_9 : decode cX9_feed 9 = .ok (.bipush 20, 2) := by decide +kernel
theorem dX9_feed_11 : decode cX9_feed 11 = .ok (.iadd, 1) := by decide +kernel
theorem dX9_feed_12 : decode cX9_feed 12 = .ok (.sipush 600, 3) := by decide +kernel
theorem dX9_feed_15 : decode cX9_feed 15 = .ok (.if_icmp .le 5, 3) := by decide +kernel
theorem dX9_feed_18 : decode cX9_feed 18 = .ok (.iconst (-1), 1) := by decide +kernel
theorem dX9_feed_19 : decode cX9_feed 19 = .ok (.ireturn, 1) := by decide +kernel
theorem dX9_feed_20 : decode cX9_feed 20 = .ok (.iconst 0, 1) := by decide +kernel
theorem dX9_feed_21 : decode cX9_feed 21 = .ok (.istore 6, 2) := by decide +kernel
theorem dX9_feed_23 : decode cX9_feed 23 = .ok (.iload 6, 2) := by decide +kernel
theorem dX9_feed_25 : decode cX9_feed 25 = .ok (.bipush 20, 2) := by decide +kernel
theorem dX9_feed_27 : decode cX9_feed 27 = .ok (.if_icmp .ge 93, 3) := by decide +kernel
theorem dX9_feed_30 : decode cX9_feed 30 = .ok (.iload 6, 2) := by decide +kernel
theorem dX9_feed_32 : decode cX9_feed 32 = .ok (.iconst 4, 1) := by decide +kernel
theorem dX9_feed_33 : decode cX9_feed 33 = .ok (.if_icmp .ge 7, 3) := by decide +kernel
theorem dX9_feed_36 : decode cX9_feed 36 = .ok (.iload_n 1, 1) := by decide +kernel
theorem dX9_feed_37 : decode cX9_feed 37 = .ok (.goto 39, 3) := by decide +kernel
theorem dX9_feed_40 : decode cX9_feed 40 = .ok (.iload 6, 2) := by decide +kernel
theorem dX9_feed_42 : decode cX9_feed 42 = .ok (.bipush 8, 2) := by decide +kernel
theorem dX9_feed_44 : decode cX9_feed 44 = .ok (.if_icmp .ge 7, 3) := by decide +kernel
theorem dX9_feed_47 : decode cX9_feed 47 = .ok (.iload_n 2, 1) := by decide +kernel
theorem dX9_feed_48 : decode cX9_feed 48 = .ok (.goto 28, 3) := by decide +kernel
theorem dX9_feed_51 : decode cX9_feed 51 = .ok (.iload 6, 2) := by decide +kernel
theorem dX9_feed_53 : decode cX9_feed 53 = .ok (.bipush 12, 2) := by decide +kernel
theorem dX9_feed_55 : decode cX9_feed 55 = .ok (.if_icmp .ge 7, 3) := by decide +kernel
theorem dX9_feed_58 : decode cX9_feed 58 = .ok (.iload_n 3, 1) := by decide +kernel
theorem dX9_feed_59 : decode cX9_feed 59 = .ok (.goto 17, 3) := by decide +kernel
theorem dX9_feed_62 : decode cX9_feed 62 = .ok (.iload 6, 2) := by decide +kernel
theorem dX9_feed_64 : decode cX9_feed 64 = .ok (.bipush 16, 2) := by decide +kernel
theorem dX9_feed_66 : decode cX9_feed 66 = .ok (.if_icmp .ge 8, 3) := by decide +kernel
theorem dX9_feed_69 : decode cX9_feed 69 = .ok (.iload 4, 2) := by decide +kernel
theorem dX9_feed_71 : decode cX9_feed 71 = .ok (.goto 5, 3) := by decide +kernel
theorem dX9_feed_74 : decode cX9_feed 74 = .ok (.iload 5, 2) := by decide +kernel
theorem dX9_feed_76 : decode cX9_feed 76 = .ok (.istore 7, 2) := by decide +kernel
theorem dX9_feed_78 : decode cX9_feed 78 = .ok (.aload_n 0, 1) := by decide +kernel
theorem dX9_feed_79 : decode cX9_feed 79 = .ok (.getfield 13, 3) := by decide +kernel
theorem dX9_feed_82 : decode cX9_feed 82 = .ok (.aload_n 0, 1) := by decide +kernel
theorem dX9_feed_83 : decode cX9_feed 83 = .ok (.getfield 131, 3) := by decide +kernel
theorem dX9_feed_86 : decode cX9_feed 86 = .ok (.iload 7, 2) := by decide +kernel
theorem dX9_feed_88 : decode cX9_feed 88 = .ok (.bipush 24, 2) := by decide +kernel
theorem dX9_feed_90 : decode cX9_feed 90 = .ok (.bipush 8, 2) := by decide +kernel
theorem dX9_feed_92 : decode cX9_feed 92 = .ok (.iload 6, 2) := by decide +kernel
theorem dX9_feed_94 : decode cX9_feed 94 = .ok (.iconst 4, 1) := by decide +kernel
theorem dX9_feed_95 : decode cX9_feed 95 = .ok (.irem, 1) := by decide +kernel
theorem dX9_feed_96 : decode cX9_feed 96 = .ok (.imul, 1) := by decide +kernel
theorem dX9_feed_97 : decode cX9_feed 97 = .ok (.isub, 1) := by decide +kernel
theorem dX9_feed_98 : decode cX9_feed 98 = .ok (.ishr, 1) := by decide +kernel
theorem dX9_feed_99 : decode cX9_feed 99 = .ok (.sipush 255, 3) := by decide +kernel
theorem dX9_feed_102 : decode cX9_feed 102 = .ok (.iand, 1) := by decide +kernel
theorem dX9_feed_103 : decode cX9_feed 103 = .ok (.iastore, 1) := by decide +kernel
theorem dX9_feed_104 : decode cX9_feed 104 = .ok (.aload_n 0, 1) := by decide +kernel
theorem dX9_feed_105 : decode cX9_feed 105 = .ok (.dup, 1) := by decide +kernel
theorem dX9_feed_106 : decode cX9_feed 106 = .ok (.getfield 131, 3) := by decide +kernel
theorem dX9_feed_109 : decode cX9_feed 109 = .ok (.iconst 1, 1) := by decide +kernel
theorem dX9_feed_110 : decode cX9_feed 110 = .ok (.iadd, 1) := by decide +kernel
theorem dX9_feed_111 : decode cX9_feed 111 = .ok (.putfield 131, 3) := by decide +kernel
theorem dX9_feed_114 : decode cX9_feed 114 = .ok (.iinc 6 1, 3) := by decide +kernel
theorem dX9_feed_117 : decode cX9_feed 117 = .ok (.goto (-94), 3) := by decide +kernel
theorem dX9_feed_120 : decode cX9_feed 120 = .ok (.aload_n 0, 1) := by decide +kernel
theorem dX9_feed_121 : decode cX9_feed 121 = .ok (.getfield 131, 3) := by decide +kernel
theorem dX9_feed_124 : decode cX9_feed 124 = .ok (.ireturn, 1) := by decide +kernel
theorem dX9_byteAt_0 : decode cX9_byteAt 0 = .ok (.iload_n 1, 1) := by decide +kernel
theorem dX9_byteAt_1 : decode cX9_byteAt 1 = .ok (.aload_n 0, 1) := by decide +kernel
theorem dX9_byteAt_2 : decode cX9_byteAt 2 = .ok (.getfield 134, 3) := by decide +kernel
theorem dX9_byteAt_5 : decode cX9_byteAt 5 = .ok (.if_icmp .lt 7, 3) := by decide +kernel
theorem dX9_byteAt_8 : decode cX9_byteAt 8 = .ok (.iconst (-1), 1) := by decide +kernel
theorem dX9_byteAt_9 : decode cX9_byteAt 9 = .ok (.goto 9, 3) := by decide +kernel
theorem dX9_byteAt_12 : decode cX9_byteAt 12 = .ok (.aload_n 0, 1) := by decide +kernel
theorem dX9_byteAt_13 : decode cX9_byteAt 13 = .ok (.getfield 13, 3) := by decide +kernel
theorem dX9_byteAt_16 : decode cX9_byteAt 16 = .ok (.iload_n 1, 1) := by decide +kernel
theorem dX9_byteAt_17 : decode cX9_byteAt 17 = .ok (.iaload, 1) := by decide +kernel
theorem dX9_byteAt_18 : decode cX9_byteAt 18 = .ok (.ireturn, 1) := by decide +kernel
theorem dX9_blanks_0 : decode cX9_blanks 0 = .ok (.aload_n 0, 1) := by decide +kernel
theorem dX9_blanks_1 : decode cX9_blanks 1 = .ok (.aload_n 0, 1) := by decide +kernel
theorem dX9_blanks_2 : decode cX9_blanks 2 = .ok (.getfield 137, 3) := by decide +kernel
theorem dX9_blanks_5 : decode cX9_blanks 5 = .ok (.invokevirtual 140, 3) := by decide +kernel
theorem dX9_blanks_8 : decode cX9_blanks 8 = .ok (.bipush 32, 2) := by decide +kernel
theorem dX9_blanks_10 : decode cX9_blanks 10 = .ok (.if_icmp .ne 16, 3) := by decide +kernel
theorem dX9_blanks_13 : decode cX9_blanks 13 = .ok (.aload_n 0, 1) := by decide +kernel
theorem dX9_blanks_14 : decode cX9_blanks 14 = .ok (.dup, 1) := by decide +kernel
theorem dX9_blanks_15 : decode cX9_blanks 15 = .ok (.getfield 137, 3) := by decide +kernel
