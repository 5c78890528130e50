theorem dX8_ends_0 : decode cX8_ends 0 = .ok (.aload_n 0, 1) := by decide +kernel
theorem dX8_ends_1 : decode cX8_ends 1 = .ok (.getfield 62, 3) := by decide +kernel
theorem dX8_ends_4 : decode cX8_ends 4 = .ok (.aload_n 0, 1) := by decide +kernel
theorem dX8_ends_5 : decode cX8_ends 5 = .ok (.getfield 58, 3) := by decide +kernel
theorem dX8_ends_8 : decode cX8_ends 8 = .ok (.invokevirtual 249, 3) := by decide +kernel
theorem dX8_ends_11 : decode cX8_ends 11 = .ok (.iconst 0, 1) := by decide +kernel
theorem dX8_ends_12 : decode cX8_ends 12 = .ok (.istore_n 1, 1) := by decide +kernel
theorem dX8_ends_13 : decode cX8_ends 13 = .ok (.iload_n 1, 1) := by decide +kernel
theorem dX8_ends_14 : decode cX8_ends 14 = .ok (.sipush 999, 3) := by decide +kernel
theorem dX8_ends_17 : decode cX8_ends 17 = .ok (.if_icmp .gt 21, 3) := by decide +kernel
theorem dX8_ends_20 : decode cX8_ends 20 = .ok (.aload_n 0, 1) := by decide +kernel
theorem dX8_ends_21 : decode cX8_ends 21 = .ok (.getfield 62, 3) := by decide +kernel
theorem dX8_ends_24 : decode cX8_ends 24 = .ok (.invokevirtual 254, 3) := by decide +kernel
theorem dX8_ends_27 : decode cX8_ends 27 = .ok (.ifCond .ne 5, 3) := by decide +kernel
theorem dX8_ends_30 : decode cX8_ends 30 = .ok (.iload_n 1, 1) := by decide +kernel
theorem dX8_ends_31 : decode cX8_ends 31 = .ok (.ireturn, 1) := by decide +kernel
theorem dX8_ends_32 : decode cX8_ends 32 = .ok (.iinc 1 1, 3) := by decide +kernel
theorem dX8_ends_35 : decode cX8_ends 35 = .ok (.goto (-22), 3) := by decide +kernel
theorem dX8_ends_38 : decode cX8_ends 38 = .ok (.iconst (-1), 1) := by decide +kernel
theorem dX8_ends_39 : decode cX8_ends 39 = .ok (.ireturn, 1) := by decide +kernel
theorem dX8_says_0 : decode cX8_says 0 = .ok (.aload_n 0, 1) := by decide +kernel
theorem dX8_says_1 : decode cX8_says 1 = .ok (.getfield 58, 3) := by decide +kernel
theorem dX8_says_4 : decode cX8_says 4 = .ok (.aload_n 0, 1) := by decide +kernel
theorem dX8_says_5 : decode cX8_says 5 = .ok (.getfield 39, 3) := by decide +kernel
theorem dX8_says_8 : decode cX8_says 8 = .ok (.invokevirtual 258, 3) := by decide +kernel
theorem dX8_says_11 : decode cX8_says 11 = .ok (.ireturn, 1) := by decide +kernel
theorem dX8_ways_0 : decode cX8_ways 0 = .ok (.aload_n 0, 1) := by decide +kernel
theorem dX8_ways_1 : decode cX8_ways 1 = .ok (.getfield 77, 3) := by decide +kernel
theorem dX8_ways_4 : decode cX8_ways 4 = .ok (.aload_n 0, 1) := by decide +kernel
theorem dX8_ways_5 : decode cX8_ways 5 = .ok (.getfield 39, 3) := by decide +kernel
theorem dX8_ways_8 : decode cX8_ways 8 = .ok (.invokevirtual 262, 3) := by decide +kernel
theorem dX8_ways_11 : decode cX8_ways 11 = .ok (.lreturn, 1) := by decide +kernel
theorem dX8_strokes_0 : decode cX8_strokes 0 = .ok (.aload_n 0, 1) := by decide +kernel
theorem dX8_strokes_1 : decode cX8_strokes 1 = .ok (.getfield 77, 3) := by decide +kernel
theorem dX8_strokes_4 : decode cX8_strokes 4 = .ok (.aload_n 0, 1) := by decide +kernel
theorem dX8_strokes_5 : decode cX8_strokes 5 = .ok (.getfield 58, 3) := by decide +kernel
theorem dX8_strokes_8 : decode cX8_strokes 8 = .ok (.aload_n 0, 1) := by decide +kernel
theorem dX8_strokes_9 : decode cX8_strokes 9 = .ok (.getfield 39, 3) := by decide +kernel
theorem dX8_strokes_12 : decode cX8_strokes 12 = .ok (.invokevirtual 266, 3) := by decide +kernel
theorem dX8_strokes_15 : decode cX8_strokes 15 = .ok (.aload_n 0, 1) := by decide +kernel
theorem dX8_strokes_16 : decode cX8_strokes 16 = .ok (.getfield 77, 3) := by decide +kernel
theorem dX8_strokes_19 : decode cX8_strokes 19 = .ok (.aload_n 0, 1) := by decide +kernel
theorem dX8_strokes_20 : decode cX8_strokes 20 = .ok (.getfield 39, 3) := by decide +kernel
theorem dX8_strokes_23 : decode cX8_strokes 23 = .ok (.getfield 106, 3) := by decide +kernel
theorem dX8_strokes_26 : decode cX8_strokes 26 = .ok (.invokevirtual 270, 3) := by decide +kernel
theorem dX8_strokes_29 : decode cX8_strokes 29 = .ok (.ireturn, 1) := by decide +kernel
theorem dX8_best_0 : decode cX8_best 0 = .ok (.aload_n 0, 1) := by decide +kernel
theorem dX8_best_1 : decode cX8_best 1 = .ok (.getfield 77, 3) := by decide +kernel
theorem dX8_best_4 : decode cX8_best 4 = .ok (.aload_n 0, 1) := by decide +kernel
theorem dX8_best_5 : decode cX8_best 5 = .ok (.getfield 58, 3) := by decide +kernel
theorem dX8_best_8 : decode cX8_best 8 = .ok (.aload_n 0, 1) := by decide +kernel
theorem dX8_best_9 : decode cX8_best 9 = .ok (.getfield 39, 3) := by decide +kernel
theorem dX8_best_12 : decode cX8_best 12 = .ok (.invokevirtual 266, 3) := by decide +kernel
theorem dX8_best_15 : decode cX8_best 15 = .ok (.aload_n 0, 1) := by decide +kernel
theorem dX8_best_16 : decode cX8_best 16 = .ok (.getfield 77, 3) := by decide +kernel
theorem dX8_best_19 : decode cX8_best 19 = .ok (.aload_n 0, 1) := by decide +kernel
theorem dX8_best_20 : decode cX8_best 20 = .ok (.getfield 39, 3) := by decide +kernel
theorem dX8_best_23 : decode cX8_best 23 = .ok (.getfield 106, 3) := by decide +kernel
theorem dX8_best_26 : decode cX8_best 26 = .ok (.invokevirtual 273, 3) := by decide +kernel
theorem dX8_best_29 : decode cX8_best 29 = .ok (.lreturn, 1) := by decide +kernel
theorem dX8_unlike_0 : decode cX8_unlike 0 = .ok (.aload_n 0, 1) := by decide +kernel
theorem dX8_unlike_1 : decode cX8_unlike 1 = .ok (.iload_n 1, 1) := by decide +kernel
theorem dX8_unlike_2 : decode cX8_unlike 2 = .ok (.ifCond .lt 13, 3) := by decide +kernel
theorem dX8_unlike_5 : decode cX8_unlike 5 = .ok (.iload_n 1, 1) := by decide +kernel
theorem dX8_unlike_6 : decode cX8_unlike 6 = .ok (.bipush 12, 2) := by decide +kernel
theorem dX8_unlike_8 : decode cX8_unlike 8 = .ok (.if_icmp .gt 7, 3) := by decide +kernel
theorem dX8_unlike_11 : decode cX8_unlike 11 = .ok (.iconst 1, 1) := by decide +kernel
theorem dX8_unlike_12 : decode cX8_unlike 12 = .ok (.goto 4, 3) := by decide +kernel
theorem dX8_unlike_15 : decode cX8_unlike 15 = .ok (.iconst 0, 1) := by decide +kernel
theorem dX8_unlike_16 : decode cX8_unlike 16 = .ok (.invokevirtual 154, 3) := by decide +kernel
theorem dX8_unlike_19 : decode cX8_unlike 19 = .ok (.aload_n 0, 1) := by decide +kernel
theorem dX8_unlike_20 : decode cX8_unlike 20 = .ok (.getfield 77, 3) := by decide +kernel
theorem dX8_unlike_23 : decode cX8_unlike 23 = .ok (.iload_n 1, 1) := by decide +kernel
theorem dX8_unlike_24 : decode cX8_unlike 24 = .ok (.invokevirtual 277, 3) := by decide +kernel
theorem dX8_unlike_27 : decode cX8_unlike 27 = .ok (.lreturn, 1) := by decide +kernel
theorem dX8_named_0 : decode cX8_named 0 = .ok (.bipush 100, 2) := by decide +kernel
theorem dX8_named_2 : decode cX8_named 2 = .ok (.iload_n 0, 1) := by decide +kernel
theorem dX8_named_3 : decode cX8_named 3 = .ok (.imul, 1) := by decide +kernel
theorem dX8_named_4 : decode cX8_named 4 = .ok (.bipush 10, 2) := by decide +kernel
theorem dX8_named_6 : decode cX8_named 6 = .ok (.iload_n 1, 1) := by decide +kernel
theorem dX8_named_7 : decode cX8_named 7 = .ok (.imul, 1) := by decide +kernel
theorem dX8_named_8 : decode cX8_named 8 = .ok (.iadd, 1) := by decide +kernel
theorem dX8_named_9 : decode cX8_named 9 = .ok (.iload_n 2, 1) := by decide +kernel
theorem dX8_named_10 : decode cX8_named 10 = .ok (.iadd, 1) := by decide +kernel
theorem dX8_named_11 : decode cX8_named 11 = .ok (.ireturn, 1) := by decide +kernel
theorem dX8_forged_0 : decode cX8_forged 0 = .ok (.aload_n 0, 1) := by decide +kernel
theorem dX8_forged_1 : decode cX8_forged 1 = .ok (.iload_n 1, 1) := by decide +kernel
theorem dX8_forged_2 : decode cX8_forged 2 = .ok (.ifCond .eq 8, 3) := by decide +kernel
theorem dX8_forged_5 : decode cX8_forged 5 = .ok (.iload_n 1, 1) := by decide +kernel
theorem dX8_forged_6 : decode cX8_forged 6 = .ok (.iconst 1, 1) := by decide +kernel
theorem dX8_forged_7 : decode cX8_forged 7 = .ok (.if_icmp .ne 7, 3) := by decide +kernel
theorem dX8_forged_10 : decode cX8_forged 10 = .ok (.iconst 1, 1) := by decide +kernel
theorem dX8_forged_11 : decode cX8_forged 11 = .ok (.goto 4, 3) := by decide +kernel
theorem dX8_forged_14 : decode cX8_forged 14 = .ok (.iconst 0, 1) := by decide +kernel
theorem dX8_forged_15 : decode cX8_forged 15 = .ok (.invokevirtual 154, 3) := by decide +kernel
theorem dX8_forged_18 : decode cX8_forged 18 = .ok (.aload_n 0, 1) := by decide +kernel
theorem dX8_forged_19 : decode cX8_forged 19 = .ok (.getfield 62, 3) := by decide +kernel
theorem dX8_forged_22 : decode cX8_forged 22 = .ok (.aload_n 0, 1) := by decide +kernel
theorem dX8_forged_23 : decode cX8_forged 23 = .ok (.getfield 58, 3) := by decide +kernel
theorem dX8_forged_26 : decode cX8_forged 26 = .ok (.invokevirtual 249, 3) := by decide +kernel
theorem dX8_forged_29 : decode cX8_forged 29 = .ok (.iconst 0, 1) := by decide +kernel
theorem dX8_forged_30 : decode cX8_forged 30 = .ok (.istore_n 2, 1) := by decide +kernel
theorem dX8_forged_31 : decode cX8_forged 31 = .ok (.iconst (-1), 1) := by decide +kernel
theorem dX8_forged_32 : decode cX8_forged 32 = .ok (.istore_n 3, 1) := by decide +kernel
theorem dX8_forged_33 : decode cX8_forged 33 = .ok (.iconst 0, 1) := by decide +kernel
theorem dX8_forged_34 : decode cX8_forged 34 = .ok (.istore 4, 2) := by decide +kernel
theorem dX8_forged_36 : decode cX8_forged 36 = .ok (.iload 4, 2) := by decide +kernel
theorem dX8_forged_38 : decode cX8_forged 38 = .ok (.aload_n 0, 1) := by decide +kernel
theorem dX8_forged_39 : decode cX8_forged 39 = .ok (.getfield 19, 3) := by decide +kernel
theorem dX8_forged_42 : decode cX8_forged 42 = .ok (.getfield 128, 3) := by decide +kernel
theorem dX8_forged_45 : decode cX8_forged 45 = .ok (.if_icmp .ge 102, 3) := by decide +kernel
theorem dX8_forged_48 : decode cX8_forged 48 = .ok (.iconst 0, 1) := by decide +kernel
theorem dX8_forged_49 : decode cX8_forged 49 = .ok (.istore 5, 2) := by decide +kernel
theorem dX8_forged_51 : decode cX8_forged 51 = .ok (.iload 5, 2) := by decide +kernel
theorem dX8_forged_53 : decode cX8_forged 53 = .ok (.aload_n 0, 1) := by decide +kernel
theorem dX8_forged_54 : decode cX8_forged 54 = .ok (.getfield 19, 3) := by decide +kernel
theorem dX8_forged_57 : decode cX8_forged 57 = .ok (.getfield 215, 3) := by decide +kernel
theorem dX8_forged_60 : decode cX8_forged 60 = .ok (.iload 4, 2) := by decide +kernel
theorem dX8_forged_62 : decode cX8_forged 62 = .ok (.iaload, 1) := by decide +kernel
theorem dX8_forged_63 : decode cX8_forged 63 = .ok (.if_icmp .ge 78, 3) := by decide +kernel
theorem dX8_forged_66 : decode cX8_forged 66 = .ok (.iload 5, 2) := by decide +kernel
theorem dX8_forged_68 : decode cX8_forged 68 = .ok (.istore 6, 2) := by decide +kernel
theorem dX8_forged_70 : decode cX8_forged 70 = .ok (.iload 6, 2) := by decide +kernel
theorem dX8_forged_72 : decode cX8_forged 72 = .ok (.aload_n 0, 1) := by decide +kernel
theorem dX8_forged_73 : decode cX8_forged 73 = .ok (.getfield 19, 3) := by decide +kernel
theorem dX8_forged_76 : decode cX8_forged 76 = .ok (.getfield 215, 3) := by decide +kernel
theorem dX8_forged_79 : decode cX8_forged 79 = .ok (.iload 4, 2) := by decide +kernel
theorem dX8_forged_81 : decode cX8_forged 81 = .ok (.iaload, 1) := by decide +kernel
theorem dX8_forged_82 : decode cX8_forged 82 = .ok (.if_icmp .ge 53, 3) := by decide +kernel
theorem dX8_forged_85 : decode cX8_forged 85 = .ok (.aload_n 0, 1) := by decide +kernel
theorem dX8_forged_86 : decode cX8_forged 86 = .ok (.getfield 62, 3) := by decide +kernel
theorem dX8_forged_89 : decode cX8_forged 89 = .ok (.aload_n 0, 1) := by decide +kernel
theorem dX8_forged_90 : decode cX8_forged 90 = .ok (.getfield 39, 3) := by decide +kernel
theorem dX8_forged_93 : decode cX8_forged 93 = .ok (.iload 4, 2) := by decide +kernel
theorem dX8_forged_95 : decode cX8_forged 95 = .ok (.iload 5, 2) := by decide +kernel
theorem dX8_forged_97 : decode cX8_forged 97 = .ok (.iload 6, 2) := by decide +kernel
theorem dX8_forged_99 : decode cX8_forged 99 = .ok (.invokestatic 280, 3) := by decide +kernel
theorem dX8_forged_102 : decode cX8_forged 102 = .ok (.invokevirtual 283, 3) := by decide +kernel
theorem dX8_forged_105 : decode cX8_forged 105 = .ok (.ifCond .eq 24, 3) := by decide +kernel
theorem dX8_forged_108 : decode cX8_forged 108 = .ok (.iload_n 2, 1) := by decide +kernel
theorem dX8_forged_109 : decode cX8_forged 109 = .ok (.ifCond .ne 15, 3) := by decide +kernel
theorem dX8_forged_112 : decode cX8_forged 112 = .ok (.iload 4, 2) := by decide +kernel
theorem dX8_forged_114 : decode cX8_forged 114 = .ok (.iload 5, 2) := by decide +kernel
theorem dX8_forged_116 : decode cX8_forged 116 = .ok (.iload 6, 2) := by decide +kernel
theorem dX8_forged_118 : decode cX8_forged 118 = .ok (.invokestatic 287, 3) := by decide +kernel
theorem dX8_forged_121 : decode cX8_forged 121 = .ok (.goto 4, 3) := by decide +kernel
theorem dX8_forged_124 : decode cX8_forged 124 = .ok (.iload_n 3, 1) := by decide +kernel
theorem dX8_forged_125 : decode cX8_forged 125 = .ok (.istore_n 3, 1) := by decide +kernel
theorem dX8_forged_126 : decode cX8_forged 126 = .ok (.iinc 2 1, 3) := by decide +kernel
theorem dX8_forged_129 : decode cX8_forged 129 = .ok (.iinc 6 1, 3) := by decide +kernel
theorem dX8_forged_132 : decode cX8_forged 132 = .ok (.goto (-62), 3) := by decide +kernel
theorem dX8_forged_135 : decode cX8_forged 135 = .ok (.iinc 5 1, 3) := by decide +kernel
theorem dX8_forged_138 : decode cX8_forged 138 = .ok (.goto (-87), 3) := by decide +kernel
theorem dX8_forged_141 : decode cX8_forged 141 = .ok (.iinc 4 1, 3) := by decide +kernel
theorem dX8_forged_144 : decode cX8_forged 144 = .ok (.goto (-108), 3) := by decide +kernel
theorem dX8_forged_147 : decode cX8_forged 147 = .ok (.iload_n 1, 1) := by decide +kernel
theorem dX8_forged_148 : decode cX8_forged 148 = .ok (.ifCond .ne 7, 3) := by decide +kernel
theorem dX8_forged_151 : decode cX8_forged 151 = .ok (.iload_n 2, 1) := by decide +kernel
theorem dX8_forged_152 : decode cX8_forged 152 = .ok (.goto 4, 3) := by decide +kernel
theorem dX8_forged_155 : decode cX8_forged 155 = .ok (.iload_n 3, 1) := by decide +kernel
theorem dX8_forged_156 : decode cX8_forged 156 = .ok (.ireturn, 1) := by decide +kernel
theorem dX8_value_0 : decode cX8_value 0 = .ok (.aload_n 0, 1) := by decide +kernel
theorem dX8_value_1 : decode cX8_value 1 = .ok (.iload_n 1, 1) := by decide +kernel
theorem dX8_value_2 : decode cX8_value 2 = .ok (.invokevirtual 212, 3) := by decide +kernel
theorem dX8_value_5 : decode cX8_value 5 = .ok (.aload_n 0, 1) := by decide +kernel
theorem dX8_value_6 : decode cX8_value 6 = .ok (.getfield 58, 3) := by decide +kernel
theorem dX8_value_9 : decode cX8_value 9 = .ok (.iload_n 1, 1) := by decide +kernel
theorem dX8_value_10 : decode cX8_value 10 = .ok (.invokevirtual 290, 3) := by decide +kernel
theorem dX8_value_13 : decode cX8_value 13 = .ok (.invokestatic 293, 3) := by decide +kernel
theorem dX8_value_16 : decode cX8_value 16 = .ok (.ireturn, 1) := by decide +kernel
theorem dX8_mustBeBits_0 : decode cX8_mustBeBits 0 = .ok (.aload_n 0, 1) := by decide +kernel
theorem dX8_mustBeBits_1 : decode cX8_mustBeBits 1 = .ok (.iload_n 1, 1) := by decide +kernel
theorem dX8_mustBeBits_2 : decode cX8_mustBeBits 2 = .ok (.ifCond .lt 20, 3) := by decide +kernel
theorem dX8_mustBeBits_5 : decode cX8_mustBeBits 5 = .ok (.iload_n 1, 1) := by decide +kernel
theorem dX8_mustBeBits_6 : decode cX8_mustBeBits 6 = .ok (.iconst 1, 1) := by decide +kernel
theorem dX8_mustBeBits_7 : decode cX8_mustBeBits 7 = .ok (.aload_n 0, 1) := by decide +kernel
theorem dX8_mustBeBits_8 : decode cX8_mustBeBits 8 = .ok (.getfield 19, 3) := by decide +kernel
theorem dX8_mustBeBits_11 : decode cX8_mustBeBits 11 = .ok (.getfield 128, 3) := by decide +kernel
theorem dX8_mustBeBits_14 : decode cX8_mustBeBits 14 = .ok (.ishl, 1) := by decide +kernel
theorem dX8_mustBeBits_15 : decode cX8_mustBeBits 15 = .ok (.if_icmp .ge 7, 3) := by decide +kernel
theorem dX8_mustBeBits_18 : decode cX8_mustBeBits 18 = .ok (.iconst 1, 1) := by decide +kernel
theorem dX8_mustBeBits_19 : decode cX8_mustBeBits 19 = .ok (.goto 4, 3) := by decide +kernel
theorem dX8_mustBeBits_22 : decode cX8_mustBeBits 22 = .ok (.iconst 0, 1) := by decide +kernel
theorem dX8_mustBeBits_23 : decode cX8_mustBeBits 23 = .ok (.invokevirtual 154, 3) := by decide +kernel
theorem dX8_mustBeBits_26 : decode cX8_mustBeBits 26 = .ok (.return_, 1) := by decide +kernel
theorem dX8_firstWinning_0 : decode cX8_firstWinning 0 = .ok (.iconst 0, 1) := by decide +kernel
theorem dX8_firstWinning_1 : decode cX8_firstWinning 1 = .ok (.istore_n 3, 1) := by decide +kernel
theorem dX8_firstWinning_2 : decode cX8_firstWinning 2 = .ok (.iload_n 3, 1) := by decide +kernel
theorem dX8_firstWinning_3 : decode cX8_firstWinning 3 = .ok (.aload_n 0, 1) := by decide +kernel
theorem dX8_firstWinning_4 : decode cX8_firstWinning 4 = .ok (.getfield 19, 3) := by decide +kernel
theorem dX8_firstWinning_7 : decode cX8_firstWinning 7 = .ok (.getfield 128, 3) := by decide +kernel
theorem dX8_firstWinning_10 : decode cX8_firstWinning 10 = .ok (.if_icmp .ge 126, 3) := by decide +kernel
theorem dX8_firstWinning_13 : decode cX8_firstWinning 13 = .ok (.iload_n 1, 1) := by decide +kernel
theorem dX8_firstWinning_14 : decode cX8_firstWinning 14 = .ok (.iload_n 3, 1) := by decide +kernel
theorem dX8_firstWinning_15 : decode cX8_firstWinning 15 = .ok (.ishr, 1) := by decide +kernel
theorem dX8_firstWinning_16 : decode cX8_firstWinning 16 = .ok (.iconst 1, 1) := by decide +kernel
theorem dX8_firstWinning_17 : decode cX8_firstWinning 17 = .ok (.iand, 1) := by decide +kernel
theorem dX8_firstWinning_18 : decode cX8_firstWinning 18 = .ok (.iconst 1, 1) := by decide +kernel
theorem dX8_firstWinning_19 : decode cX8_firstWinning 19 = .ok (.if_icmp .ne 14, 3) := by decide +kernel
theorem dX8_firstWinning_22 : decode cX8_firstWinning 22 = .ok (.aload_n 0, 1) := by decide +kernel
theorem dX8_firstWinning_23 : decode cX8_firstWinning 23 = .ok (.getfield 58, 3) := by decide +kernel
theorem dX8_firstWinning_26 : decode cX8_firstWinning 26 = .ok (.iload_n 3, 1) := by decide +kernel
theorem dX8_firstWinning_27 : decode cX8_firstWinning 27 = .ok (.invokevirtual 290, 3) := by decide +kernel
theorem dX8_firstWinning_30 : decode cX8_firstWinning 30 = .ok (.goto 4, 3) := by decide +kernel
theorem dX8_firstWinning_33 : decode cX8_firstWinning 33 = .ok (.iconst 0, 1) := by decide +kernel
theorem dX8_firstWinning_34 : decode cX8_firstWinning 34 = .ok (.istore 4, 2) := by decide +kernel
theorem dX8_firstWinning_36 : decode cX8_firstWinning 36 = .ok (.iload_n 2, 1) := by decide +kernel
theorem dX8_firstWinning_37 : decode cX8_firstWinning 37 = .ok (.iload 4, 2) := by decide +kernel
theorem dX8_firstWinning_39 : decode cX8_firstWinning 39 = .ok (.invokestatic 293, 3) := by decide +kernel
theorem dX8_firstWinning_42 : decode cX8_firstWinning 42 = .ok (.ixor, 1) := by decide +kernel
theorem dX8_firstWinning_43 : decode cX8_firstWinning 43 = .ok (.istore 5, 2) := by decide +kernel
theorem dX8_firstWinning_45 : decode cX8_firstWinning 45 = .ok (.iconst 0, 1) := by decide +kernel
theorem dX8_firstWinning_46 : decode cX8_firstWinning 46 = .ok (.istore 6, 2) := by decide +kernel
theorem dX8_firstWinning_48 : decode cX8_firstWinning 48 = .ok (.iload 6, 2) := by decide +kernel
theorem dX8_firstWinning_50 : decode cX8_firstWinning 50 = .ok (.aload_n 0, 1) := by decide +kernel
theorem dX8_firstWinning_51 : decode cX8_firstWinning 51 = .ok (.getfield 19, 3) := by decide +kernel
theorem dX8_firstWinning_54 : decode cX8_firstWinning 54 = .ok (.getfield 215, 3) := by decide +kernel
theorem dX8_firstWinning_57 : decode cX8_firstWinning 57 = .ok (.iload_n 3, 1) := by decide +kernel
theorem dX8_firstWinning_58 : decode cX8_firstWinning 58 = .ok (.iaload, 1) := by decide +kernel
theorem dX8_firstWinning_59 : decode cX8_firstWinning 59 = .ok (.if_icmp .ge 71, 3) := by decide +kernel
theorem dX8_firstWinning_62 : decode cX8_firstWinning 62 = .ok (.iload 6, 2) := by decide +kernel
theorem dX8_firstWinning_64 : decode cX8_firstWinning 64 = .ok (.istore 7, 2) := by decide +kernel
theorem dX8_firstWinning_66 : decode cX8_firstWinning 66 = .ok (.iload 7, 2) := by decide +kernel
theorem dX8_firstWinning_68 : decode cX8_firstWinning 68 = .ok (.iload 6, 2) := by decide +kernel
theorem dX8_firstWinning_70 : decode cX8_firstWinning 70 = .ok (.iconst 1, 1) := by decide +kernel
theorem dX8_firstWinning_71 : decode cX8_firstWinning 71 = .ok (.iadd, 1) := by decide +kernel
theorem dX8_firstWinning_72 : decode cX8_firstWinning 72 = .ok (.if_icmp .gt 52, 3) := by decide +kernel
theorem dX8_firstWinning_75 : decode cX8_firstWinning 75 = .ok (.iload 6, 2) := by decide +kernel
theorem dX8_firstWinning_77 : decode cX8_firstWinning 77 = .ok (.iload 7, 2) := by decide +kernel
theorem dX8_firstWinning_79 : decode cX8_firstWinning 79 = .ok (.invokestatic 280, 3) := by decide +kernel
theorem dX8_firstWinning_82 : decode cX8_firstWinning 82 = .ok (.istore 8, 2) := by decide +kernel
theorem dX8_firstWinning_84 : decode cX8_firstWinning 84 = .ok (.iload 4, 2) := by decide +kernel
theorem dX8_firstWinning_86 : decode cX8_firstWinning 86 = .ok (.iload 8, 2) := by decide +kernel
theorem dX8_firstWinning_88 : decode cX8_firstWinning 88 = .ok (.iand, 1) := by decide +kernel
theorem dX8_firstWinning_89 : decode cX8_firstWinning 89 = .ok (.iload 8, 2) := by decide +kernel
theorem dX8_firstWinning_91 : decode cX8_firstWinning 91 = .ok (.if_icmp .ne 27, 3) := by decide +kernel
theorem dX8_firstWinning_94 : decode cX8_firstWinning 94 = .ok (.iload 4, 2) := by decide +kernel
theorem dX8_firstWinning_96 : decode cX8_firstWinning 96 = .ok (.iload 8, 2) := by decide +kernel
theorem dX8_firstWinning_98 : decode cX8_firstWinning 98 = .ok (.iconst (-1), 1) := by decide +kernel
theorem dX8_firstWinning_99 : decode cX8_firstWinning 99 = .ok (.ixor, 1) := by decide +kernel
theorem dX8_firstWinning_100 : decode cX8_firstWinning 100 = .ok (.iand, 1) := by decide +kernel
theorem dX8_firstWinning_101 : decode cX8_firstWinning 101 = .ok (.invokestatic 293, 3) := by decide +kernel
theorem dX8_firstWinning_104 : decode cX8_firstWinning 104 = .ok (.iload 5, 2) := by decide +kernel
theorem dX8_firstWinning_106 : decode cX8_firstWinning 106 = .ok (.if_icmp .ne 12, 3) := by decide +kernel
theorem dX8_firstWinning_109 : decode cX8_firstWinning 109 = .ok (.iload_n 3, 1) := by decide +kernel
theorem dX8_firstWinning_110 : decode cX8_firstWinning 110 = .ok (.iload 6, 2) := by decide +kernel
theorem dX8_firstWinning_112 : decode cX8_firstWinning 112 = .ok (.iload 7, 2) := by decide +kernel
theorem dX8_firstWinning_114 : decode cX8_firstWinning 114 = .ok (.invokestatic 287, 3) := by decide +kernel
theorem dX8_firstWinning_117 : decode cX8_firstWinning 117 = .ok (.ireturn, 1) := by decide +kernel
theorem dX8_firstWinning_118 : decode cX8_firstWinning 118 = .ok (.iinc 7 1, 3) := by decide +kernel
theorem dX8_firstWinning_121 : decode cX8_firstWinning 121 = .ok (.goto (-55), 3) := by decide +kernel
theorem dX8_firstWinning_124 : decode cX8_firstWinning 124 = .ok (.iinc 6 1, 3) := by decide +kernel
theorem dX8_firstWinning_127 : decode cX8_firstWinning 127 = .ok (.goto (-79), 3) := by decide +kernel
theorem dX8_firstWinning_130 : decode cX8_firstWinning 130 = .ok (.iinc 3 1, 3) := by decide +kernel
theorem dX8_firstWinning_133 : decode cX8_firstWinning 133 = .ok (.goto (-131), 3) := by decide +kernel
theorem dX8_firstWinning_136 : decode cX8_firstWinning 136 = .ok (.iconst (-1), 1) := by decide +kernel
theorem dX8_firstWinning_137 : decode cX8_firstWinning 137 = .ok (.ireturn, 1) := by decide +kernel
theorem dX8_argument_0 : decode cX8_argument 0 = .ok (.aload_n 0, 1) := by decide +kernel
theorem dX8_argument_1 : decode cX8_argument 1 = .ok (.iload_n 1, 1) := by decide +kernel
theorem dX8_argument_2 : decode cX8_argument 2 = .ok (.invokevirtual 296, 3) := by decide +kernel
theorem dX8_argument_5 : decode cX8_argument 5 = .ok (.aload_n 0, 1) := by decide +kernel
theorem dX8_argument_6 : decode cX8_argument 6 = .ok (.iload_n 2, 1) := by decide +kernel
theorem dX8_argument_7 : decode cX8_argument 7 = .ok (.ifCond .eq 8, 3) := by decide +kernel
theorem dX8_argument_10 : decode cX8_argument 10 = .ok (.iload_n 2, 1) := by decide +kernel
theorem dX8_argument_11 : decode cX8_argument 11 = .ok (.iconst 1, 1) := by decide +kernel
theorem dX8_argument_12 : decode cX8_argument 12 = .ok (.if_icmp .ne 7, 3) := by decide +kernel
theorem dX8_argument_15 : decode cX8_argument 15 = .ok (.iconst 1, 1) := by decide +kernel
theorem dX8_argument_16 : decode cX8_argument 16 = .ok (.goto 4, 3) := by decide +kernel
theorem dX8_argument_19 : decode cX8_argument 19 = .ok (.iconst 0, 1) := by decide +kernel
theorem dX8_argument_20 : decode cX8_argument 20 = .ok (.invokevirtual 154, 3) := by decide +kernel
theorem dX8_argument_23 : decode cX8_argument 23 = .ok (.iconst 0, 1) := by decide +kernel
theorem dX8_argument_24 : decode cX8_argument 24 = .ok (.istore_n 3, 1) := by decide +kernel
theorem dX8_argument_25 : decode cX8_argument 25 = .ok (.iconst 0, 1) := by decide +kernel
theorem dX8_argument_26 : decode cX8_argument 26 = .ok (.istore 4, 2) := by decide +kernel
theorem dX8_argument_28 : decode cX8_argument 28 = .ok (.iload 4, 2) := by decide +kernel
theorem dX8_argument_30 : decode cX8_argument 30 = .ok (.aload_n 0, 1) := by decide +kernel
theorem dX8_argument_31 : decode cX8_argument 31 = .ok (.getfield 19, 3) := by decide +kernel
theorem dX8_argument_34 : decode cX8_argument 34 = .ok (.getfield 128, 3) := by decide +kernel
theorem dX8_argument_37 : decode cX8_argument 37 = .ok (.if_icmp .ge 34, 3) := by decide +kernel
theorem dX8_argument_40 : decode cX8_argument 40 = .ok (.iload_n 1, 1) := by decide +kernel
theorem dX8_argument_41 : decode cX8_argument 41 = .ok (.iload 4, 2) := by decide +kernel
theorem dX8_argument_43 : decode cX8_argument 43 = .ok (.ishr, 1) := by decide +kernel
theorem dX8_argument_44 : decode cX8_argument 44 = .ok (.iconst 1, 1) := by decide +kernel
theorem dX8_argument_45 : decode cX8_argument 45 = .ok (.iand, 1) := by decide +kernel
theorem dX8_argument_46 : decode cX8_argument 46 = .ok (.iconst 1, 1) := by decide +kernel
theorem dX8_argument_47 : decode cX8_argument 47 = .ok (.if_icmp .ne 18, 3) := by decide +kernel
theorem dX8_argument_50 : decode cX8_argument 50 = .ok (.iload_n 3, 1) := by decide +kernel
theorem dX8_argument_51 : decode cX8_argument 51 = .ok (.aload_n 0, 1) := by decide +kernel
theorem dX8_argument_52 : decode cX8_argument 52 = .ok (.getfield 58, 3) := by decide +kernel
theorem dX8_argument_55 : decode cX8_argument 55 = .ok (.iload 4, 2) := by decide +kernel
theorem dX8_argument_57 : decode cX8_argument 57 = .ok (.invokevirtual 290, 3) := by decide +kernel
theorem dX8_argument_60 : decode cX8_argument 60 = .ok (.invokestatic 293, 3) := by decide +kernel
theorem dX8_argument_63 : decode cX8_argument 63 = .ok (.ixor, 1) := by decide +kernel
theorem dX8_argument_64 : decode cX8_argument 64 = .ok (.istore_n 3, 1) := by decide +kernel
theorem dX8_argument_65 : decode cX8_argument 65 = .ok (.iinc 4 1, 3) := by decide +kernel
theorem dX8_argument_68 : decode cX8_argument 68 = .ok (.goto (-40), 3) := by decide +kernel
theorem dX8_argument_71 : decode cX8_argument 71 = .ok (.iload_n 2, 1) := by decide +kernel
theorem dX8_argument_72 : decode cX8_argument 72 = .ok (.ifCond .ne 7, 3) := by decide +kernel
theorem dX8_argument_75 : decode cX8_argument 75 = .ok (.iload_n 3, 1) := by decide +kernel
theorem dX8_argument_76 : decode cX8_argument 76 = .ok (.goto 9, 3) := by decide +kernel
theorem dX8_argument_79 : decode cX8_argument 79 = .ok (.aload_n 0, 1) := by decide +kernel
theorem dX8_argument_80 : decode cX8_argument 80 = .ok (.iload_n 1, 1) := by decide +kernel
theorem dX8_argument_81 : decode cX8_argument 81 = .ok (.iload_n 3, 1) := by decide +kernel
theorem dX8_argument_82 : decode cX8_argument 82 = .ok (.invokevirtual 299, 3) := by decide +kernel
theorem dX8_argument_85 : decode cX8_argument 85 = .ok (.ireturn, 1) := by decide +kernel
theorem dX8_common_0 : decode cX8_common 0 = .ok (.aload_n 0, 1) := by decide +kernel
theorem dX8_common_1 : decode cX8_common 1 = .ok (.iload_n 1, 1) := by decide +kernel
theorem dX8_common_2 : decode cX8_common 2 = .ok (.invokevirtual 212, 3) := by decide +kernel
theorem dX8_common_5 : decode cX8_common 5 = .ok (.aload_n 0, 1) := by decide +kernel
theorem dX8_common_6 : decode cX8_common 6 = .ok (.iload_n 2, 1) := by decide +kernel
theorem dX8_common_7 : decode cX8_common 7 = .ok (.invokevirtual 212, 3) := by decide +kernel
theorem dX8_common_10 : decode cX8_common 10 = .ok (.aload_n 0, 1) := by decide +kernel
theorem dX8_common_11 : decode cX8_common 11 = .ok (.getfield 77, 3) := by decide +kernel
theorem dX8_common_14 : decode cX8_common 14 = .ok (.aload_n 0, 1) := by decide +kernel
theorem dX8_common_15 : decode cX8_common 15 = .ok (.getfield 58, 3) := by decide +kernel
theorem dX8_common_18 : decode cX8_common 18 = .ok (.iload_n 1, 1) := by decide +kernel
theorem dX8_common_19 : decode cX8_common 19 = .ok (.iload_n 2, 1) := by decide +kernel
theorem dX8_common_20 : decode cX8_common 20 = .ok (.invokevirtual 302, 3) := by decide +kernel
theorem dX8_common_23 : decode cX8_common 23 = .ok (.ireturn, 1) := by decide +kernel
theorem dX8_givenBy_0 : decode cX8_givenBy 0 = .ok (.iconst 0, 1) := by decide +kernel
theorem dX8_givenBy_1 : decode cX8_givenBy 1 = .ok (.istore_n 3, 1) := by decide +kernel
theorem dX8_givenBy_2 : decode cX8_givenBy 2 = .ok (.iconst 0, 1) := by decide +kernel
theorem dX8_givenBy_3 : decode cX8_givenBy 3 = .ok (.istore 4, 2) := by decide +kernel
theorem dX8_givenBy_5 : decode cX8_givenBy 5 = .ok (.iload 4, 2) := by decide +kernel
theorem dX8_givenBy_7 : decode cX8_givenBy 7 = .ok (.aload_n 0, 1) := by decide +kernel
theorem dX8_givenBy_8 : decode cX8_givenBy 8 = .ok (.getfield 19, 3) := by decide +kernel
theorem dX8_givenBy_11 : decode cX8_givenBy 11 = .ok (.getfield 128, 3) := by decide +kernel
theorem dX8_givenBy_14 : decode cX8_givenBy 14 = .ok (.if_icmp .ge 35, 3) := by decide +kernel
theorem dX8_givenBy_17 : decode cX8_givenBy 17 = .ok (.iload_n 1, 1) := by decide +kernel
theorem dX8_givenBy_18 : decode cX8_givenBy 18 = .ok (.iload 4, 2) := by decide +kernel
theorem dX8_givenBy_20 : decode cX8_givenBy 20 = .ok (.ishr, 1) := by decide +kernel
theorem dX8_givenBy_21 : decode cX8_givenBy 21 = .ok (.iconst 1, 1) := by decide +kernel
theorem dX8_givenBy_22 : decode cX8_givenBy 22 = .ok (.iand, 1) := by decide +kernel
theorem dX8_givenBy_23 : decode cX8_givenBy 23 = .ok (.iconst 1, 1) := by decide +kernel
theorem dX8_givenBy_24 : decode cX8_givenBy 24 = .ok (.if_icmp .ne 19, 3) := by decide +kernel
theorem dX8_givenBy_27 : decode cX8_givenBy 27 = .ok (.iload_n 3, 1) := by decide +kernel
theorem dX8_givenBy_28 : decode cX8_givenBy 28 = .ok (.aload_n 0, 1) := by decide +kernel
theorem dX8_givenBy_29 : decode cX8_givenBy 29 = .ok (.getfield 58, 3) := by decide +kernel
theorem dX8_givenBy_32 : decode cX8_givenBy 32 = .ok (.iload 4, 2) := by decide +kernel
theorem dX8_givenBy_34 : decode cX8_givenBy 34 = .ok (.invokevirtual 209, 3) := by decide +kernel
theorem dX8_givenBy_37 : decode cX8_givenBy 37 = .ok (.iload_n 2, 1) := by decide +kernel
theorem dX8_givenBy_38 : decode cX8_givenBy 38 = .ok (.invokestatic 309, 3) := by decide +kernel
theorem dX8_givenBy_41 : decode cX8_givenBy 41 = .ok (.iadd, 1) := by decide +kernel
theorem dX8_givenBy_42 : decode cX8_givenBy 42 = .ok (.istore_n 3, 1) := by decide +kernel
theorem dX8_givenBy_43 : decode cX8_givenBy 43 = .ok (.iinc 4 1, 3) := by decide +kernel
theorem dX8_givenBy_46 : decode cX8_givenBy 46 = .ok (.goto (-41), 3) := by decide +kernel
theorem dX8_givenBy_49 : decode cX8_givenBy 49 = .ok (.iload_n 3, 1) := by decide +kernel
theorem dX8_givenBy_50 : decode cX8_givenBy 50 = .ok (.ireturn, 1) := by decide +kernel
theorem dX8_share_0 : decode cX8_share 0 = .ok (.aload_n 0, 1) := by decide +kernel
theorem dX8_share_1 : decode cX8_share 1 = .ok (.iload_n 1, 1) := by decide +kernel
theorem dX8_share_2 : decode cX8_share 2 = .ok (.invokevirtual 212, 3) := by decide +kernel
theorem dX8_share_5 : decode cX8_share 5 = .ok (.aload_n 0, 1) := by decide +kernel
theorem dX8_share_6 : decode cX8_share 6 = .ok (.iload_n 2, 1) := by decide +kernel
theorem dX8_share_7 : decode cX8_share 7 = .ok (.invokevirtual 296, 3) := by decide +kernel
theorem dX8_share_10 : decode cX8_share 10 = .ok (.aload_n 0, 1) := by decide +kernel
theorem dX8_share_11 : decode cX8_share 11 = .ok (.iload_n 3, 1) := by decide +kernel
theorem dX8_share_12 : decode cX8_share 12 = .ok (.ifCond .lt 14, 3) := by decide +kernel
theorem dX8_share_15 : decode cX8_share 15 = .ok (.iload_n 3, 1) := by decide +kernel
theorem dX8_share_16 : decode cX8_share 16 = .ok (.sipush 200, 3) := by decide +kernel
theorem dX8_share_19 : decode cX8_share 19 = .ok (.if_icmp .gt 7, 3) := by decide +kernel
theorem dX8_share_22 : decode cX8_share 22 = .ok (.iconst 1, 1) := by decide +kernel
theorem dX8_share_23 : decode cX8_share 23 = .ok (.goto 4, 3) := by decide +kernel
theorem dX8_share_26 : decode cX8_share 26 = .ok (.iconst 0, 1) := by decide +kernel
theorem dX8_share_27 : decode cX8_share 27 = .ok (.invokevirtual 154, 3) := by decide +kernel
theorem dX8_share_30 : decode cX8_share 30 = .ok (.iload_n 2, 1) := by decide +kernel
theorem dX8_share_31 : decode cX8_share 31 = .ok (.iload_n 1, 1) := by decide +kernel
theorem dX8_share_32 : decode cX8_share 32 = .ok (.ishr, 1) := by decide +kernel
theorem dX8_share_33 : decode cX8_share 33 = .ok (.iconst 1, 1) := by decide +kernel
theorem dX8_share_34 : decode cX8_share 34 = .ok (.iand, 1) := by decide +kernel
theorem dX8_share_35 : decode cX8_share 35 = .ok (.ifCond .ne 5, 3) := by decide +kernel
theorem dX8_share_38 : decode cX8_share 38 = .ok (.iconst 0, 1) := by decide +kernel
theorem dX8_share_39 : decode cX8_share 39 = .ok (.ireturn, 1) := by decide +kernel
theorem dX8_share_40 : decode cX8_share 40 = .ok (.bipush 8, 2) := by decide +kernel
theorem dX8_share_42 : decode cX8_share 42 = .ok (.istore 4, 2) := by decide +kernel
theorem dX8_share_44 : decode cX8_share 44 = .ok (.iload 4, 2) := by decide +kernel
theorem dX8_share_46 : decode cX8_share 46 = .ok (.ifCond .le 20, 3) := by decide +kernel
theorem dX8_share_49 : decode cX8_share 49 = .ok (.aload_n 0, 1) := by decide +kernel
theorem dX8_share_50 : decode cX8_share 50 = .ok (.iload_n 2, 1) := by decide +kernel
theorem dX8_share_51 : decode cX8_share 51 = .ok (.iload 4, 2) := by decide +kernel
theorem dX8_share_53 : decode cX8_share 53 = .ok (.invokevirtual 306, 3) := by decide +kernel
theorem dX8_share_56 : decode cX8_share 56 = .ok (.iload_n 3, 1) := by decide +kernel
theorem dX8_share_57 : decode cX8_share 57 = .ok (.if_icmp .le 9, 3) := by decide +kernel
theorem dX8_share_60 : decode cX8_share 60 = .ok (.iinc 4 (-1), 3) := by decide +kernel
theorem dX8_share_63 : decode cX8_share 63 = .ok (.goto (-19), 3) := by decide +kernel
theorem dX8_share_66 : decode cX8_share 66 = .ok (.aload_n 0, 1) := by decide +kernel
theorem dX8_share_67 : decode cX8_share 67 = .ok (.getfield 58, 3) := by decide +kernel
theorem dX8_share_70 : decode cX8_share 70 = .ok (.iload_n 1, 1) := by decide +kernel
theorem dX8_share_71 : decode cX8_share 71 = .ok (.invokevirtual 209, 3) := by decide +kernel
theorem dX8_share_74 : decode cX8_share 74 = .ok (.iload 4, 2) := by decide +kernel
theorem dX8_share_76 : decode cX8_share 76 = .ok (.invokestatic 309, 3) := by decide +kernel
theorem dX8_share_79 : decode cX8_share 79 = .ok (.ireturn, 1) := by decide +kernel
theorem dX8_hadBy_0 : decode cX8_hadBy 0 = .ok (.iload_n 2, 1) := by decide +kernel
theorem dX8_hadBy_1 : decode cX8_hadBy 1 = .ok (.ifCond .ne 14, 3) := by decide +kernel
theorem dX8_hadBy_4 : decode cX8_hadBy 4 = .ok (.iload_n 3, 1) := by decide +kernel
theorem dX8_hadBy_5 : decode cX8_hadBy 5 = .ok (.ifCond .ne 8, 3) := by decide +kernel
theorem dX8_hadBy_8 : decode cX8_hadBy 8 = .ok (.iload_n 1, 1) := by decide +kernel
theorem dX8_hadBy_9 : decode cX8_hadBy 9 = .ok (.ineg, 1) := by decide +kernel
theorem dX8_hadBy_10 : decode cX8_hadBy 10 = .ok (.goto 4, 3) := by decide +kernel
theorem dX8_hadBy_13 : decode cX8_hadBy 13 = .ok (.iload_n 0, 1) := by decide +kernel
theorem dX8_hadBy_14 : decode cX8_hadBy 14 = .ok (.ireturn, 1) := by decide +kernel
theorem dX8_hadBy_15 : decode cX8_hadBy 15 = .ok (.iload_n 3, 1) := by decide +kernel
theorem dX8_hadBy_16 : decode cX8_hadBy 16 = .ok (.ifCond .ne 7, 3) := by decide +kernel
theorem dX8_hadBy_19 : decode cX8_hadBy 19 = .ok (.iconst 0, 1) := by decide +kernel
theorem dX8_hadBy_20 : decode cX8_hadBy 20 = .ok (.goto 4, 3) := by decide +kernel
theorem dX8_hadBy_23 : decode cX8_hadBy 23 = .ok (.iload_n 1, 1) := by decide +kernel
theorem dX8_hadBy_24 : decode cX8_hadBy 24 = .ok (.ireturn, 1) := by decide +kernel
theorem dX8_restsThere_0 : decode cX8_restsThere 0 = .ok (.iload_n 0, 1) := by decide +kernel
theorem dX8_restsThere_1 : decode cX8_restsThere 1 = .ok (.iload_n 1, 1) := by decide +kernel
theorem dX8_restsThere_2 : decode cX8_restsThere 2 = .ok (.iload_n 2, 1) := by decide +kernel
theorem dX8_restsThere_3 : decode cX8_restsThere 3 = .ok (.iload_n 3, 1) := by decide +kernel
theorem dX8_restsThere_4 : decode cX8_restsThere 4 = .ok (.invokestatic 318, 3) := by decide +kernel
theorem dX8_restsThere_7 : decode cX8_restsThere 7 = .ok (.iload_n 0, 1) := by decide +kernel
theorem dX8_restsThere_8 : decode cX8_restsThere 8 = .ok (.iload_n 1, 1) := by decide +kernel
theorem dX8_restsThere_9 : decode cX8_restsThere 9 = .ok (.iconst 1, 1) := by decide +kernel
theorem dX8_restsThere_10 : decode cX8_restsThere 10 = .ok (.iload_n 2, 1) := by decide +kernel
theorem dX8_restsThere_11 : decode cX8_restsThere 11 = .ok (.isub, 1) := by decide +kernel
theorem dX8_restsThere_12 : decode cX8_restsThere 12 = .ok (.iload_n 3, 1) := by decide +kernel
theorem dX8_restsThere_13 : decode cX8_restsThere 13 = .ok (.invokestatic 318, 3) := by decide +kernel
theorem dX8_restsThere_16 : decode cX8_restsThere 16 = .ok (.if_icmp .lt 26, 3) := by decide +kernel
theorem dX8_restsThere_19 : decode cX8_restsThere 19 = .ok (.iload_n 0, 1) := by decide +kernel
theorem dX8_restsThere_20 : decode cX8_restsThere 20 = .ok (.iload_n 1, 1) := by decide +kernel
theorem dX8_restsThere_21 : decode cX8_restsThere 21 = .ok (.iload_n 3, 1) := by decide +kernel
theorem dX8_restsThere_22 : decode cX8_restsThere 22 = .ok (.iload_n 2, 1) := by decide +kernel
theorem dX8_restsThere_23 : decode cX8_restsThere 23 = .ok (.invokestatic 318, 3) := by decide +kernel
theorem dX8_restsThere_26 : decode cX8_restsThere 26 = .ok (.iload_n 0, 1) := by decide +kernel
theorem dX8_restsThere_27 : decode cX8_restsThere 27 = .ok (.iload_n 1, 1) := by decide +kernel
theorem dX8_restsThere_28 : decode cX8_restsThere 28 = .ok (.iconst 1, 1) := by decide +kernel
theorem dX8_restsThere_29 : decode cX8_restsThere 29 = .ok (.iload_n 3, 1) := by decide +kernel
theorem dX8_restsThere_30 : decode cX8_restsThere 30 = .ok (.isub, 1) := by decide +kernel
theorem dX8_restsThere_31 : decode cX8_restsThere 31 = .ok (.iload_n 2, 1) := by decide +kernel
theorem dX8_restsThere_32 : decode cX8_restsThere 32 = .ok (.invokestatic 318, 3) := by decide +kernel
theorem dX8_restsThere_35 : decode cX8_restsThere 35 = .ok (.if_icmp .lt 7, 3) := by decide +kernel
theorem dX8_restsThere_38 : decode cX8_restsThere 38 = .ok (.iconst 1, 1) := by decide +kernel
theorem dX8_restsThere_39 : decode cX8_restsThere 39 = .ok (.goto 4, 3) := by decide +kernel
theorem dX8_restsThere_42 : decode cX8_restsThere 42 = .ok (.iconst 0, 1) := by decide +kernel
theorem dX8_restsThere_43 : decode cX8_restsThere 43 = .ok (.ireturn, 1) := by decide +kernel
theorem dX8_duel_0 : decode cX8_duel 0 = .ok (.aload_n 0, 1) := by decide +kernel
theorem dX8_duel_1 : decode cX8_duel 1 = .ok (.iload_n 1, 1) := by decide +kernel
theorem dX8_duel_2 : decode cX8_duel 2 = .ok (.ifCond .lt 32, 3) := by decide +kernel
theorem dX8_duel_5 : decode cX8_duel 5 = .ok (.iload_n 1, 1) := by decide +kernel
theorem dX8_duel_6 : decode cX8_duel 6 = .ok (.bipush 99, 2) := by decide +kernel
theorem dX8_duel_8 : decode cX8_duel 8 = .ok (.if_icmp .gt 26, 3) := by decide +kernel
theorem dX8_duel_11 : decode cX8_duel 11 = .ok (.iload_n 2, 1) := by decide +kernel
theorem dX8_duel_12 : decode cX8_duel 12 = .ok (.ifCond .lt 22, 3) := by decide +kernel
theorem dX8_duel_15 : decode cX8_duel 15 = .ok (.iload_n 2, 1) := by decide +kernel
theorem dX8_duel_16 : decode cX8_duel 16 = .ok (.bipush 99, 2) := by decide +kernel
theorem dX8_duel_18 : decode cX8_duel 18 = .ok (.if_icmp .gt 16, 3) := by decide +kernel
theorem dX8_duel_21 : decode cX8_duel 21 = .ok (.iload_n 3, 1) := by decide +kernel
theorem dX8_duel_22 : decode cX8_duel 22 = .ok (.ifCond .lt 12, 3) := by decide +kernel
theorem dX8_duel_25 : decode cX8_duel 25 = .ok (.iload_n 3, 1) := by decide +kernel
theorem dX8_duel_26 : decode cX8_duel 26 = .ok (.iconst 2, 1) := by decide +kernel
theorem dX8_duel_27 : decode cX8_duel 27 = .ok (.if_icmp .gt 7, 3) := by decide +kernel
theorem dX8_duel_30 : decode cX8_duel 30 = .ok (.iconst 1, 1) := by decide +kernel
theorem dX8_duel_31 : decode cX8_duel 31 = .ok (.goto 4, 3) := by decide +kernel
theorem dX8_duel_34 : decode cX8_duel 34 = .ok (.iconst 0, 1) := by decide +kernel
theorem dX8_duel_35 : decode cX8_duel 35 = .ok (.invokevirtual 154, 3) := by decide +kernel
theorem dX8_duel_38 : decode cX8_duel 38 = .ok (.iconst 0, 1) := by decide +kernel
theorem dX8_duel_39 : decode cX8_duel 39 = .ok (.istore 4, 2) := by decide +kernel
theorem dX8_duel_41 : decode cX8_duel 41 = .ok (.iconst (-1), 1) := by decide +kernel
theorem dX8_duel_42 : decode cX8_duel 42 = .ok (.istore 5, 2) := by decide +kernel
theorem dX8_duel_44 : decode cX8_duel 44 = .ok (.iconst 0, 1) := by decide +kernel
theorem dX8_duel_45 : decode cX8_duel 45 = .ok (.istore 6, 2) := by decide +kernel
theorem dX8_duel_47 : decode cX8_duel 47 = .ok (.iconst 0, 1) := by decide +kernel
theorem dX8_duel_48 : decode cX8_duel 48 = .ok (.istore 7, 2) := by decide +kernel
theorem dX8_duel_50 : decode cX8_duel 50 = .ok (.iload 7, 2) := by decide +kernel
theorem dX8_duel_52 : decode cX8_duel 52 = .ok (.iconst 1, 1) := by decide +kernel
theorem dX8_duel_53 : decode cX8_duel 53 = .ok (.if_icmp .gt 75, 3) := by decide +kernel
theorem dX8_duel_56 : decode cX8_duel 56 = .ok (.iconst 0, 1) := by decide +kernel
theorem dX8_duel_57 : decode cX8_duel 57 = .ok (.istore 8, 2) := by decide +kernel
theorem dX8_duel_59 : decode cX8_duel 59 = .ok (.iload 8, 2) := by decide +kernel
theorem dX8_duel_61 : decode cX8_duel 61 = .ok (.iconst 1, 1) := by decide +kernel
theorem dX8_duel_62 : decode cX8_duel 62 = .ok (.if_icmp .gt 60, 3) := by decide +kernel
theorem dX8_duel_65 : decode cX8_duel 65 = .ok (.iload_n 1, 1) := by decide +kernel
theorem dX8_duel_66 : decode cX8_duel 66 = .ok (.iload_n 2, 1) := by decide +kernel
theorem dX8_duel_67 : decode cX8_duel 67 = .ok (.iload 7, 2) := by decide +kernel
theorem dX8_duel_69 : decode cX8_duel 69 = .ok (.iload 8, 2) := by decide +kernel
theorem dX8_duel_71 : decode cX8_duel 71 = .ok (.invokestatic 314, 3) := by decide +kernel
theorem dX8_duel_74 : decode cX8_duel 74 = .ok (.ifCond .eq 42, 3) := by decide +kernel
theorem dX8_duel_77 : decode cX8_duel 77 = .ok (.iload 4, 2) := by decide +kernel
theorem dX8_duel_79 : decode cX8_duel 79 = .ok (.ifCond .ne 34, 3) := by decide +kernel
theorem dX8_duel_82 : decode cX8_duel 82 = .ok (.bipush 10, 2) := by decide +kernel
theorem dX8_duel_84 : decode cX8_duel 84 = .ok (.iload 7, 2) := by decide +kernel
theorem dX8_duel_86 : decode cX8_duel 86 = .ok (.imul, 1) := by decide +kernel
theorem dX8_duel_87 : decode cX8_duel 87 = .ok (.iload 8, 2) := by decide +kernel
theorem dX8_duel_89 : decode cX8_duel 89 = .ok (.iadd, 1) := by decide +kernel
theorem dX8_duel_90 : decode cX8_duel 90 = .ok (.istore 5, 2) := by decide +kernel
theorem dX8_duel_92 : decode cX8_duel 92 = .ok (.iload_n 1, 1) := by decide +kernel
theorem dX8_duel_93 : decode cX8_duel 93 = .ok (.iload_n 2, 1) := by decide +kernel
theorem dX8_duel_94 : decode cX8_duel 94 = .ok (.iload 7, 2) := by decide +kernel
theorem dX8_duel_96 : decode cX8_duel 96 = .ok (.iload 8, 2) := by decide +kernel
theorem dX8_duel_98 : decode cX8_duel 98 = .ok (.invokestatic 318, 3) := by decide +kernel
theorem dX8_duel_101 : decode cX8_duel 101 = .ok (.iload_n 1, 1) := by decide +kernel
theorem dX8_duel_102 : decode cX8_duel 102 = .ok (.iload_n 2, 1) := by decide +kernel
theorem dX8_duel_103 : decode cX8_duel 103 = .ok (.iload 8, 2) := by decide +kernel
theorem dX8_duel_105 : decode cX8_duel 105 = .ok (.iload 7, 2) := by decide +kernel
theorem dX8_duel_107 : decode cX8_duel 107 = .ok (.invokestatic 318, 3) := by decide +kernel
theorem dX8_duel_110 : decode cX8_duel 110 = .ok (.iadd, 1) := by decide +kernel
theorem dX8_duel_111 : decode cX8_duel 111 = .ok (.istore 6, 2) := by decide +kernel
theorem dX8_duel_113 : decode cX8_duel 113 = .ok (.iinc 4 1, 3) := by decide +kernel
theorem dX8_duel_116 : decode cX8_duel 116 = .ok (.iinc 8 1, 3) := by decide +kernel
theorem dX8_duel_119 : decode cX8_duel 119 = .ok (.goto (-60), 3) := by decide +kernel
theorem dX8_duel_122 : decode cX8_duel 122 = .ok (.iinc 7 1, 3) := by decide +kernel
theorem dX8_duel_125 : decode cX8_duel 125 = .ok (.goto (-75), 3) := by decide +kernel
theorem dX8_duel_128 : decode cX8_duel 128 = .ok (.iload_n 3, 1) := by decide +kernel
theorem dX8_duel_129 : decode cX8_duel 129 = .ok (.ifCond .ne 8, 3) := by decide +kernel
theorem dX8_duel_132 : decode cX8_duel 132 = .ok (.iload 4, 2) := by decide +kernel
theorem dX8_duel_134 : decode cX8_duel 134 = .ok (.goto 15, 3) := by decide +kernel
theorem dX8_duel_137 : decode cX8_duel 137 = .ok (.iload_n 3, 1) := by decide +kernel
theorem dX8_duel_138 : decode cX8_duel 138 = .ok (.iconst 1, 1) := by decide +kernel
theorem dX8_duel_139 : decode cX8_duel 139 = .ok (.if_icmp .ne 8, 3) := by decide +kernel
theorem dX8_duel_142 : decode cX8_duel 142 = .ok (.iload 5, 2) := by decide +kernel
theorem dX8_duel_144 : decode cX8_duel 144 = .ok (.goto 5, 3) := by decide +kernel
theorem dX8_duel_147 : decode cX8_duel 147 = .ok (.iload 6, 2) := by decide +kernel
theorem dX8_duel_149 : decode cX8_duel 149 = .ok (.ireturn, 1) := by decide +kernel
theorem dX8_power_0 : decode cX8_power 0 = .ok (.lconst 1, 1) := by decide +kernel
theorem dX8_power_1 : decode cX8_power 1 = .ok (.lstore_n 2, 1) := by decide +kernel
theorem dX8_power_2 : decode cX8_power 2 = .ok (.iconst 0, 1) := by decide +kernel
theorem dX8_power_3 : decode cX8_power 3 = .ok (.istore 4, 2) := by decide +kernel
theorem dX8_power_5 : decode cX8_power 5 = .ok (.iload 4, 2) := by decide +kernel
theorem dX8_power_7 : decode cX8_power 7 = .ok (.iload_n 1, 1) := by decide +kernel
theorem dX8_power_8 : decode cX8_power 8 = .ok (.if_icmp .ge 14, 3) := by decide +kernel
theorem dX8_power_11 : decode cX8_power 11 = .ok (.lload_n 2, 1) := by decide +kernel
theorem dX8_power_12 : decode cX8_power 12 = .ok (.iload_n 0, 1) := by decide +kernel
theorem dX8_power_13 : decode cX8_power 13 = .ok (.i2l, 1) := by decide +kernel
theorem dX8_power_14 : decode cX8_power 14 = .ok (.lmul, 1) := by decide +kernel
theorem dX8_power_15 : decode cX8_power 15 = .ok (.lstore_n 2, 1) := by decide +kernel
theorem dX8_power_16 : decode cX8_power 16 = .ok (.iinc 4 1, 3) := by decide +kernel
theorem dX8_power_19 : decode cX8_power 19 = .ok (.goto (-14), 3) := by decide +kernel
theorem dX8_power_22 : decode cX8_power 22 = .ok (.lload_n 2, 1) := by decide +kernel
theorem dX8_power_23 : decode cX8_power 23 = .ok (.lreturn, 1) := by decide +kernel
theorem dX8_chance_0 : decode cX8_chance 0 = .ok (.aload_n 0, 1) := by decide +kernel
theorem dX8_chance_1 : decode cX8_chance 1 = .ok (.iload_n 1, 1) := by decide +kernel
theorem dX8_chance_2 : decode cX8_chance 2 = .ok (.ifCond .lt 33, 3) := by decide +kernel
theorem dX8_chance_5 : decode cX8_chance 5 = .ok (.iload_n 1, 1) := by decide +kernel
theorem dX8_chance_6 : decode cX8_chance 6 = .ok (.bipush 12, 2) := by decide +kernel
theorem dX8_chance_8 : decode cX8_chance 8 = .ok (.if_icmp .gt 27, 3) := by decide +kernel
theorem dX8_chance_11 : decode cX8_chance 11 = .ok (.iload_n 2, 1) := by decide +kernel
theorem dX8_chance_12 : decode cX8_chance 12 = .ok (.ifCond .lt 23, 3) := by decide +kernel
theorem dX8_chance_15 : decode cX8_chance 15 = .ok (.iload_n 2, 1) := by decide +kernel
theorem dX8_chance_16 : decode cX8_chance 16 = .ok (.bipush 13, 2) := by decide +kernel
theorem dX8_chance_18 : decode cX8_chance 18 = .ok (.if_icmp .gt 17, 3) := by decide +kernel
theorem dX8_chance_21 : decode cX8_chance 21 = .ok (.iload_n 3, 1) := by decide +kernel
theorem dX8_chance_22 : decode cX8_chance 22 = .ok (.ifCond .lt 13, 3) := by decide +kernel
theorem dX8_chance_25 : decode cX8_chance 25 = .ok (.iload_n 3, 1) := by decide +kernel
theorem dX8_chance_26 : decode cX8_chance 26 = .ok (.bipush 16, 2) := by decide +kernel
theorem dX8_chance_28 : decode cX8_chance 28 = .ok (.if_icmp .gt 7, 3) := by decide +kernel
theorem dX8_chance_31 : decode cX8_chance 31 = .ok (.iconst 1, 1) := by decide +kernel
theorem dX8_chance_32 : decode cX8_chance 32 = .ok (.goto 4, 3) := by decide +kernel
theorem dX8_chance_35 : decode cX8_chance 35 = .ok (.iconst 0, 1) := by decide +kernel
theorem dX8_chance_36 : decode cX8_chance 36 = .ok (.invokevirtual 154, 3) := by decide +kernel
theorem dX8_chance_39 : decode cX8_chance 39 = .ok (.aload_n 0, 1) := by decide +kernel
theorem dX8_chance_40 : decode cX8_chance 40 = .ok (.iload 4, 2) := by decide +kernel
theorem dX8_chance_42 : decode cX8_chance 42 = .ok (.ifCond .eq 9, 3) := by decide +kernel
theorem dX8_chance_45 : decode cX8_chance 45 = .ok (.iload 4, 2) := by decide +kernel
theorem dX8_chance_47 : decode cX8_chance 47 = .ok (.iconst 1, 1) := by decide +kernel
theorem dX8_chance_48 : decode cX8_chance 48 = .ok (.if_icmp .ne 7, 3) := by decide +kernel
theorem dX8_chance_51 : decode cX8_chance 51 = .ok (.iconst 1, 1) := by decide +kernel
theorem dX8_chance_52 : decode cX8_chance 52 = .ok (.goto 4, 3) := by decide +kernel
theorem dX8_chance_55 : decode cX8_chance 55 = .ok (.iconst 0, 1) := by decide +kernel
theorem dX8_chance_56 : decode cX8_chance 56 = .ok (.invokevirtual 154, 3) := by decide +kernel
theorem dX8_chance_59 : decode cX8_chance 59 = .ok (.lconst 0, 1) := by decide +kernel
theorem dX8_chance_60 : decode cX8_chance 60 = .ok (.lstore 5, 2) := by decide +kernel
theorem dX8_chance_62 : decode cX8_chance 62 = .ok (.lconst 1, 1) := by decide +kernel
theorem dX8_chance_63 : decode cX8_chance 63 = .ok (.lstore 7, 2) := by decide +kernel
theorem dX8_chance_65 : decode cX8_chance 65 = .ok (.iconst 0, 1) := by decide +kernel
theorem dX8_chance_66 : decode cX8_chance 66 = .ok (.istore 9, 2) := by decide +kernel
theorem dX8_chance_68 : decode cX8_chance 68 = .ok (.iload 9, 2) := by decide +kernel
theorem dX8_chance_70 : decode cX8_chance 70 = .ok (.iload_n 1, 1) := by decide +kernel
theorem dX8_chance_71 : decode cX8_chance 71 = .ok (.if_icmp .gt 57, 3) := by decide +kernel
theorem dX8_chance_74 : decode cX8_chance 74 = .ok (.iload 9, 2) := by decide +kernel
theorem dX8_chance_76 : decode cX8_chance 76 = .ok (.iload_n 2, 1) := by decide +kernel
theorem dX8_chance_77 : decode cX8_chance 77 = .ok (.if_icmp .lt 29, 3) := by decide +kernel
theorem dX8_chance_80 : decode cX8_chance 80 = .ok (.lload 5, 2) := by decide +kernel
theorem dX8_chance_82 : decode cX8_chance 82 = .ok (.lload 7, 2) := by decide +kernel
theorem dX8_chance_84 : decode cX8_chance 84 = .ok (.bipush 16, 2) := by decide +kernel
theorem dX8_chance_86 : decode cX8_chance 86 = .ok (.iload_n 3, 1) := by decide +kernel
theorem dX8_chance_87 : decode cX8_chance 87 = .ok (.isub, 1) := by decide +kernel
theorem dX8_chance_88 : decode cX8_chance 88 = .ok (.iload 9, 2) := by decide +kernel
theorem dX8_chance_90 : decode cX8_chance 90 = .ok (.invokestatic 322, 3) := by decide +kernel
theorem dX8_chance_93 : decode cX8_chance 93 = .ok (.lmul, 1) := by decide +kernel
theorem dX8_chance_94 : decode cX8_chance 94 = .ok (.iload_n 3, 1) := by decide +kernel
theorem dX8_chance_95 : decode cX8_chance 95 = .ok (.iload_n 1, 1) := by decide +kernel
theorem dX8_chance_96 : decode cX8_chance 96 = .ok (.iload 9, 2) := by decide +kernel
theorem dX8_chance_98 : decode cX8_chance 98 = .ok (.isub, 1) := by decide +kernel
theorem dX8_chance_99 : decode cX8_chance 99 = .ok (.invokestatic 322, 3) := by decide +kernel
theorem dX8_chance_102 : decode cX8_chance 102 = .ok (.lmul, 1) := by decide +kernel
theorem dX8_chance_103 : decode cX8_chance 103 = .ok (.ladd, 1) := by decide +kernel
theorem dX8_chance_104 : decode cX8_chance 104 = .ok (.lstore 5, 2) := by decide +kernel
theorem dX8_chance_106 : decode cX8_chance 106 = .ok (.lload 7, 2) := by decide +kernel
theorem dX8_chance_108 : decode cX8_chance 108 = .ok (.iload_n 1, 1) := by decide +kernel
theorem dX8_chance_109 : decode cX8_chance 109 = .ok (.iload 9, 2) := by decide +kernel
theorem dX8_chance_111 : decode cX8_chance 111 = .ok (.isub, 1) := by decide +kernel
theorem dX8_chance_112 : decode cX8_chance 112 = .ok (.i2l, 1) := by decide +kernel
theorem dX8_chance_113 : decode cX8_chance 113 = .ok (.lmul, 1) := by decide +kernel
theorem dX8_chance_114 : decode cX8_chance 114 = .ok (.iload 9, 2) := by decide +kernel
theorem dX8_chance_116 : decode cX8_chance 116 = .ok (.iconst 1, 1) := by decide +kernel
theorem dX8_chance_117 : decode cX8_chance 117 = .ok (.iadd, 1) := by decide +kernel
theorem dX8_chance_118 : decode cX8_chance 118 = .ok (.i2l, 1) := by decide +kernel
theorem dX8_chance_119 : decode cX8_chance 119 = .ok (.ldiv, 1) := by decide +kernel
theorem dX8_chance_120 : decode cX8_chance 120 = .ok (.lstore 7, 2) := by decide +kernel
theorem dX8_chance_122 : decode cX8_chance 122 = .ok (.iinc 9 1, 3) := by decide +kernel
theorem dX8_chance_125 : decode cX8_chance 125 = .ok (.goto (-57), 3) := by decide +kernel
theorem dX8_chance_128 : decode cX8_chance 128 = .ok (.bipush 16, 2) := by decide +kernel
theorem dX8_chance_130 : decode cX8_chance 130 = .ok (.iload_n 1, 1) := by decide +kernel
theorem dX8_chance_131 : decode cX8_chance 131 = .ok (.invokestatic 322, 3) := by decide +kernel
theorem dX8_chance_134 : decode cX8_chance 134 = .ok (.lstore 9, 2) := by decide +kernel
theorem dX8_chance_136 : decode cX8_chance 136 = .ok (.lload 9, 2) := by decide +kernel
theorem dX8_chance_138 : decode cX8_chance 138 = .ok (.lconst 1, 1) := by decide +kernel
theorem dX8_chance_139 : decode cX8_chance 139 = .ok (.lcmp, 1) := by decide +kernel
theorem dX8_chance_140 : decode cX8_chance 140 = .ok (.ifCond .le 33, 3) := by decide +kernel
theorem dX8_chance_143 : decode cX8_chance 143 = .ok (.lload 5, 2) := by decide +kernel
theorem dX8_chance_145 : decode cX8_chance 145 = .ok (.ldc2_w 326, 3) := by decide +kernel
theorem dX8_chance_148 : decode cX8_chance 148 = .ok (.lrem, 1) := by decide +kernel
theorem dX8_chance_149 : decode cX8_chance 149 = .ok (.lconst 0, 1) := by decide +kernel
theorem dX8_chance_150 : decode cX8_chance 150 = .ok (.lcmp, 1) := by decide +kernel
theorem dX8_chance_151 : decode cX8_chance 151 = .ok (.ifCond .ne 22, 3) := by decide +kernel
theorem dX8_chance_154 : decode cX8_chance 154 = .ok (.lload 5, 2) := by decide +kernel
theorem dX8_chance_156 : decode cX8_chance 156 = .ok (.ldc2_w 326, 3) := by decide +kernel
theorem dX8_chance_159 : decode cX8_chance 159 = .ok (.ldiv, 1) := by decide +kernel
theorem dX8_chance_160 : decode cX8_chance 160 = .ok (.lstore 5, 2) := by decide +kernel
theorem dX8_chance_162 : decode cX8_chance 162 = .ok (.lload 9, 2) := by decide +kernel
theorem dX8_chance_164 : decode cX8_chance 164 = .ok (.ldc2_w 326, 3) := by decide +kernel
theorem dX8_chance_167 : decode cX8_chance 167 = .ok (.ldiv, 1) := by decide +kernel
theorem dX8_chance_168 : decode cX8_chance 168 = .ok (.lstore 9, 2) := by decide +kernel
theorem dX8_chance_170 : decode cX8_chance 170 = .ok (.goto (-34), 3) := by decide +kernel
theorem dX8_chance_173 : decode cX8_chance 173 = .ok (.iload 4, 2) := by decide +kernel
theorem dX8_chance_175 : decode cX8_chance 175 = .ok (.ifCond .ne 8, 3) := by decide +kernel
theorem dX8_chance_178 : decode cX8_chance 178 = .ok (.lload 5, 2) := by decide +kernel
theorem dX8_chance_180 : decode cX8_chance 180 = .ok (.goto 5, 3) := by decide +kernel
theorem dX8_chance_183 : decode cX8_chance 183 = .ok (.lload 9, 2) := by decide +kernel
theorem dX8_chance_185 : decode cX8_chance 185 = .ok (.lreturn, 1) := by decide +kernel
theorem dX8_mustBeHand_0 : decode cX8_mustBeHand 0 = .ok (.aload_n 0, 1) := by decide +kernel
theorem dX8_mustBeHand_1 : decode cX8_mustBeHand 1 = .ok (.iload_n 1, 1) := by decide +kernel
theorem dX8_mustBeHand_2 : decode cX8_mustBeHand 2 = .ok (.iconst 1, 1) := by decide +kernel
theorem dX8_mustBeHand_3 : decode cX8_mustBeHand 3 = .ok (.if_icmp .lt 23, 3) := by decide +kernel
theorem dX8_mustBeHand_6 : decode cX8_mustBeHand 6 = .ok (.iload_n 1, 1) := by decide +kernel
theorem dX8_mustBeHand_7 : decode cX8_mustBeHand 7 = .ok (.bipush 96, 2) := by decide +kernel
theorem dX8_mustBeHand_9 : decode cX8_mustBeHand 9 = .ok (.if_icmp .gt 17, 3) := by decide +kernel
theorem dX8_mustBeHand_12 : decode cX8_mustBeHand 12 = .ok (.iload_n 2, 1) := by decide +kernel
theorem dX8_mustBeHand_13 : decode cX8_mustBeHand 13 = .ok (.ifCond .lt 13, 3) := by decide +kernel
theorem dX8_mustBeHand_16 : decode cX8_mustBeHand 16 = .ok (.iload_n 2, 1) := by decide +kernel
theorem dX8_mustBeHand_17 : decode cX8_mustBeHand 17 = .ok (.bipush 16, 2) := by decide +kernel
theorem dX8_mustBeHand_19 : decode cX8_mustBeHand 19 = .ok (.if_icmp .gt 7, 3) := by decide +kernel
theorem dX8_mustBeHand_22 : decode cX8_mustBeHand 22 = .ok (.iconst 1, 1) := by decide +kernel
theorem dX8_mustBeHand_23 : decode cX8_mustBeHand 23 = .ok (.goto 4, 3) := by decide +kernel
theorem dX8_mustBeHand_26 : decode cX8_mustBeHand 26 = .ok (.iconst 0, 1) := by decide +kernel
theorem dX8_mustBeHand_27 : decode cX8_mustBeHand 27 = .ok (.invokevirtual 154, 3) := by decide +kernel
theorem dX8_mustBeHand_30 : decode cX8_mustBeHand 30 = .ok (.return_, 1) := by decide +kernel
theorem dX8_hand_0 : decode cX8_hand 0 = .ok (.aload_n 0, 1) := by decide +kernel
theorem dX8_hand_1 : decode cX8_hand 1 = .ok (.iload_n 2, 1) := by decide +kernel
theorem dX8_hand_2 : decode cX8_hand 2 = .ok (.iload_n 3, 1) := by decide +kernel
theorem dX8_hand_3 : decode cX8_hand 3 = .ok (.invokevirtual 328, 3) := by decide +kernel
theorem dX8_hand_6 : decode cX8_hand 6 = .ok (.aload_n 0, 1) := by decide +kernel
theorem dX8_hand_7 : decode cX8_hand 7 = .ok (.iload 4, 2) := by decide +kernel
theorem dX8_hand_9 : decode cX8_hand 9 = .ok (.ifCond .lt 13, 3) := by decide +kernel
theorem dX8_hand_12 : decode cX8_hand 12 = .ok (.iload 4, 2) := by decide +kernel
theorem dX8_hand_14 : decode cX8_hand 14 = .ok (.iconst 3, 1) := by decide +kernel
theorem dX8_hand_15 : decode cX8_hand 15 = .ok (.if_icmp .gt 7, 3) := by decide +kernel
theorem dX8_hand_18 : decode cX8_hand 18 = .ok (.iconst 1, 1) := by decide +kernel
theorem dX8_hand_19 : decode cX8_hand 19 = .ok (.goto 4, 3) := by decide +kernel
theorem dX8_hand_22 : decode cX8_hand 22 = .ok (.iconst 0, 1) := by decide +kernel
theorem dX8_hand_23 : decode cX8_hand 23 = .ok (.invokevirtual 154, 3) := by decide +kernel
theorem dX8_hand_26 : decode cX8_hand 26 = .ok (.aload_n 0, 1) := by decide +kernel
theorem dX8_hand_27 : decode cX8_hand 27 = .ok (.getfield 62, 3) := by decide +kernel
theorem dX8_hand_30 : decode cX8_hand 30 = .ok (.aload_n 0, 1) := by decide +kernel
theorem dX8_hand_31 : decode cX8_hand 31 = .ok (.getfield 58, 3) := by decide +kernel
theorem dX8_hand_34 : decode cX8_hand 34 = .ok (.invokevirtual 249, 3) := by decide +kernel
theorem dX8_hand_37 : decode cX8_hand 37 = .ok (.aload_n 0, 1) := by decide +kernel
theorem dX8_hand_38 : decode cX8_hand 38 = .ok (.getfield 62, 3) := by decide +kernel
theorem dX8_hand_41 : decode cX8_hand 41 = .ok (.iload_n 1, 1) := by decide +kernel
theorem dX8_hand_42 : decode cX8_hand 42 = .ok (.iload_n 2, 1) := by decide +kernel
theorem dX8_hand_43 : decode cX8_hand 43 = .ok (.iload_n 3, 1) := by decide +kernel
theorem dX8_hand_44 : decode cX8_hand 44 = .ok (.invokevirtual 331, 3) := by decide +kernel
theorem dX8_hand_47 : decode cX8_hand 47 = .ok (.iload 4, 2) := by decide +kernel
theorem dX8_hand_49 : decode cX8_hand 49 = .ok (.tableswitch 59 0 2 #[27, 35, 43], 27) := by decide +kernel
theorem dX8_hand_76 : decode cX8_hand 76 = .ok (.aload_n 0, 1) := by decide +kernel
theorem dX8_hand_77 : decode cX8_hand 77 = .ok (.getfield 62, 3) := by decide +kernel
theorem dX8_hand_80 : decode cX8_hand 80 = .ok (.invokevirtual 187, 3) := by decide +kernel
theorem dX8_hand_83 : decode cX8_hand 83 = .ok (.ireturn, 1) := by decide +kernel
theorem dX8_hand_84 : decode cX8_hand 84 = .ok (.aload_n 0, 1) := by decide +kernel
theorem dX8_hand_85 : decode cX8_hand 85 = .ok (.getfield 62, 3) := by decide +kernel
theorem dX8_hand_88 : decode cX8_hand 88 = .ok (.getfield 191, 3) := by decide +kernel
theorem dX8_hand_91 : decode cX8_hand 91 = .ok (.ireturn, 1) := by decide +kernel
theorem dX8_hand_92 : decode cX8_hand 92 = .ok (.aload_n 0, 1) := by decide +kernel
theorem dX8_hand_93 : decode cX8_hand 93 = .ok (.getfield 62, 3) := by decide +kernel
theorem dX8_hand_96 : decode cX8_hand 96 = .ok (.getfield 194, 3) := by decide +kernel
theorem dX8_hand_99 : decode cX8_hand 99 = .ok (.aload_n 0, 1) := by decide +kernel
theorem dX8_hand_100 : decode cX8_hand 100 = .ok (.getfield 58, 3) := by decide +kernel
theorem dX8_hand_103 : decode cX8_hand 103 = .ok (.getfield 194, 3) := by decide +kernel
theorem dX8_hand_106 : decode cX8_hand 106 = .ok (.isub, 1) := by decide +kernel
theorem dX8_hand_107 : decode cX8_hand 107 = .ok (.ireturn, 1) := by decide +kernel
theorem dX8_hand_108 : decode cX8_hand 108 = .ok (.aload_n 0, 1) := by decide +kernel
theorem dX8_hand_109 : decode cX8_hand 109 = .ok (.getfield 62, 3) := by decide +kernel
theorem dX8_hand_112 : decode cX8_hand 112 = .ok (.invokevirtual 203, 3) := by decide +kernel
theorem dX8_hand_115 : decode cX8_hand 115 = .ok (.ireturn, 1) := by decide +kernel
theorem dX8_span_0 : decode cX8_span 0 = .ok (.aload_n 0, 1) := by decide +kernel
theorem dX8_span_1 : decode cX8_span 1 = .ok (.iload_n 3, 1) := by decide +kernel
theorem dX8_span_2 : decode cX8_span 2 = .ok (.iload 4, 2) := by decide +kernel
theorem dX8_span_4 : decode cX8_span 4 = .ok (.invokevirtual 328, 3) := by decide +kernel
theorem dX8_span_7 : decode cX8_span 7 = .ok (.aload_n 0, 1) := by decide +kernel
theorem dX8_span_8 : decode cX8_span 8 = .ok (.iload_n 2, 1) := by decide +kernel
theorem dX8_span_9 : decode cX8_span 9 = .ok (.iconst 1, 1) := by decide +kernel
theorem dX8_span_10 : decode cX8_span 10 = .ok (.if_icmp .lt 36, 3) := by decide +kernel
theorem dX8_span_13 : decode cX8_span 13 = .ok (.iload_n 2, 1) := by decide +kernel
theorem dX8_span_14 : decode cX8_span 14 = .ok (.bipush 20, 2) := by decide +kernel
theorem dX8_span_16 : decode cX8_span 16 = .ok (.if_icmp .gt 30, 3) := by decide +kernel
theorem dX8_span_19 : decode cX8_span 19 = .ok (.iload 5, 2) := by decide +kernel
theorem dX8_span_21 : decode cX8_span 21 = .ok (.ifCond .lt 25, 3) := by decide +kernel
theorem dX8_span_24 : decode cX8_span 24 = .ok (.iload 5, 2) := by decide +kernel
theorem dX8_span_26 : decode cX8_span 26 = .ok (.iconst 2, 1) := by decide +kernel
theorem dX8_span_27 : decode cX8_span 27 = .ok (.if_icmp .gt 19, 3) := by decide +kernel
theorem dX8_span_30 : decode cX8_span 30 = .ok (.aload_n 0, 1) := by decide +kernel
theorem dX8_span_31 : decode cX8_span 31 = .ok (.getfield 19, 3) := by decide +kernel
theorem dX8_span_34 : decode cX8_span 34 = .ok (.iload 6, 2) := by decide +kernel
theorem dX8_span_36 : decode cX8_span 36 = .ok (.invokevirtual 335, 3) := by decide +kernel
theorem dX8_span_39 : decode cX8_span 39 = .ok (.ifCond .eq 7, 3) := by decide +kernel
theorem dX8_span_42 : decode cX8_span 42 = .ok (.iconst 1, 1) := by decide +kernel
theorem dX8_span_43 : decode cX8_span 43 = .ok (.goto 4, 3) := by decide +kernel
theorem dX8_span_46 : decode cX8_span 46 = .ok (.iconst 0, 1) := by decide +kernel
theorem dX8_span_47 : decode cX8_span 47 = .ok (.invokevirtual 154, 3) := by decide +kernel
theorem dX8_span_50 : decode cX8_span 50 = .ok (.aload_n 0, 1) := by decide +kernel
theorem dX8_span_51 : decode cX8_span 51 = .ok (.getfield 19, 3) := by decide +kernel
theorem dX8_span_54 : decode cX8_span 54 = .ok (.getfield 118, 3) := by decide +kernel
theorem dX8_span_57 : decode cX8_span 57 = .ok (.istore 7, 2) := by decide +kernel
theorem dX8_span_59 : decode cX8_span 59 = .ok (.iconst 0, 1) := by decide +kernel
theorem dX8_span_60 : decode cX8_span 60 = .ok (.istore 8, 2) := by decide +kernel
theorem dX8_span_62 : decode cX8_span 62 = .ok (.iconst 0, 1) := by decide +kernel
theorem dX8_span_63 : decode cX8_span 63 = .ok (.istore 9, 2) := by decide +kernel
theorem dX8_span_65 : decode cX8_span 65 = .ok (.iconst 0, 1) := by decide +kernel
theorem dX8_span_66 : decode cX8_span 66 = .ok (.istore 10, 2) := by decide +kernel
theorem dX8_span_68 : decode cX8_span 68 = .ok (.iload 10, 2) := by decide +kernel
theorem dX8_span_70 : decode cX8_span 70 = .ok (.iload_n 2, 1) := by decide +kernel
theorem dX8_span_71 : decode cX8_span 71 = .ok (.if_icmp .ge 84, 3) := by decide +kernel
theorem dX8_span_74 : decode cX8_span 74 = .ok (.aload_n 0, 1) := by decide +kernel
theorem dX8_span_75 : decode cX8_span 75 = .ok (.getfield 62, 3) := by decide +kernel
theorem dX8_span_78 : decode cX8_span 78 = .ok (.aload_n 0, 1) := by decide +kernel
theorem dX8_span_79 : decode cX8_span 79 = .ok (.getfield 58, 3) := by decide +kernel
theorem dX8_span_82 : decode cX8_span 82 = .ok (.invokevirtual 249, 3) := by decide +kernel
theorem dX8_span_85 : decode cX8_span 85 = .ok (.aload_n 0, 1) := by decide +kernel
theorem dX8_span_86 : decode cX8_span 86 = .ok (.getfield 62, 3) := by decide +kernel
theorem dX8_span_89 : decode cX8_span 89 = .ok (.iload_n 1, 1) := by decide +kernel
theorem dX8_span_90 : decode cX8_span 90 = .ok (.iload 10, 2) := by decide +kernel
theorem dX8_span_92 : decode cX8_span 92 = .ok (.iadd, 1) := by decide +kernel
theorem dX8_span_93 : decode cX8_span 93 = .ok (.iload_n 3, 1) := by decide +kernel
theorem dX8_span_94 : decode cX8_span 94 = .ok (.iload 4, 2) := by decide +kernel
theorem dX8_span_96 : decode cX8_span 96 = .ok (.invokevirtual 331, 3) := by decide +kernel
theorem dX8_span_99 : decode cX8_span 99 = .ok (.iload 7, 2) := by decide +kernel
theorem dX8_span_101 : decode cX8_span 101 = .ok (.aload_n 0, 1) := by decide +kernel
theorem dX8_span_102 : decode cX8_span 102 = .ok (.getfield 62, 3) := by decide +kernel
theorem dX8_span_105 : decode cX8_span 105 = .ok (.invokevirtual 187, 3) := by decide +kernel
theorem dX8_span_108 : decode cX8_span 108 = .ok (.invokestatic 309, 3) := by decide +kernel
theorem dX8_span_111 : decode cX8_span 111 = .ok (.istore 7, 2) := by decide +kernel
theorem dX8_span_113 : decode cX8_span 113 = .ok (.iload 8, 2) := by decide +kernel
theorem dX8_span_115 : decode cX8_span 115 = .ok (.aload_n 0, 1) := by decide +kernel
theorem dX8_span_116 : decode cX8_span 116 = .ok (.getfield 62, 3) := by decide +kernel
theorem dX8_span_119 : decode cX8_span 119 = .ok (.invokevirtual 187, 3) := by decide +kernel
theorem dX8_span_122 : decode cX8_span 122 = .ok (.invokestatic 339, 3) := by decide +kernel
theorem dX8_span_125 : decode cX8_span 125 = .ok (.istore 8, 2) := by decide +kernel
theorem dX8_span_127 : decode cX8_span 127 = .ok (.iload 9, 2) := by decide +kernel
theorem dX8_span_129 : decode cX8_span 129 = .ok (.aload_n 0, 1) := by decide +kernel
theorem dX8_span_130 : decode cX8_span 130 = .ok (.getfield 62, 3) := by decide +kernel
theorem dX8_span_133 : decode cX8_span 133 = .ok (.iload 6, 2) := by decide +kernel
theorem dX8_span_135 : decode cX8_span 135 = .ok (.invokevirtual 209, 3) := by decide +kernel
theorem dX8_span_138 : decode cX8_span 138 = .ok (.ifCond .ne 7, 3) := by decide +kernel
theorem dX8_span_141 : decode cX8_span 141 = .ok (.iconst 1, 1) := by decide +kernel
theorem dX8_span_142 : decode cX8_span 142 = .ok (.goto 4, 3) := by decide +kernel
theorem dX8_span_145 : decode cX8_span 145 = .ok (.iconst 0, 1) := by decide +kernel
theorem dX8_span_146 : decode cX8_span 146 = .ok (.iadd, 1) := by decide +kernel
theorem dX8_span_147 : decode cX8_span 147 = .ok (.istore 9, 2) := by decide +kernel
theorem dX8_span_149 : decode cX8_span 149 = .ok (.iinc 10 1, 3) := by decide +kernel
theorem dX8_span_152 : decode cX8_span 152 = .ok (.goto (-84), 3) := by decide +kernel
theorem dX8_span_155 : decode cX8_span 155 = .ok (.iload 5, 2) := by decide +kernel
theorem dX8_span_157 : decode cX8_span 157 = .ok (.ifCond .ne 8, 3) := by decide +kernel
theorem dX8_span_160 : decode cX8_span 160 = .ok (.iload 7, 2) := by decide +kernel
theorem dX8_span_162 : decode cX8_span 162 = .ok (.goto 16, 3) := by decide +kernel
theorem dX8_span_165 : decode cX8_span 165 = .ok (.iload 5, 2) := by decide +kernel
theorem dX8_span_167 : decode cX8_span 167 = .ok (.iconst 1, 1) := by decide +kernel
theorem dX8_span_168 : decode cX8_span 168 = .ok (.if_icmp .ne 8, 3) := by decide +kernel
theorem dX8_span_171 : decode cX8_span 171 = .ok (.iload 8, 2) := by decide +kernel
theorem dX8_span_173 : decode cX8_span 173 = .ok (.goto 5, 3) := by decide +kernel
theorem dX8_span_176 : decode cX8_span 176 = .ok (.iload 9, 2) := by decide +kernel
theorem dX8_span_178 : decode cX8_span 178 = .ok (.ireturn, 1) := by decide +kernel
theorem dX8_status_0 : decode cX8_status 0 = .ok (.iload_n 1, 1) := by decide +kernel
theorem dX8_status_1 : decode cX8_status 1 = .ok (.ifCond .ne 10, 3) := by decide +kernel
theorem dX8_status_4 : decode cX8_status 4 = .ok (.aload_n 0, 1) := by decide +kernel
theorem dX8_status_5 : decode cX8_status 5 = .ok (.getfield 342, 3) := by decide +kernel
theorem dX8_status_8 : decode cX8_status 8 = .ok (.goto 16, 3) := by decide +kernel
theorem dX8_status_11 : decode cX8_status 11 = .ok (.iload_n 1, 1) := by decide +kernel
theorem dX8_status_12 : decode cX8_status 12 = .ok (.iconst 1, 1) := by decide +kernel
theorem dX8_status_13 : decode cX8_status 13 = .ok (.if_icmp .ne 10, 3) := by decide +kernel
theorem dX8_status_16 : decode cX8_status 16 = .ok (.aload_n 0, 1) := by decide +kernel
theorem dX8_status_17 : decode cX8_status 17 = .ok (.getfield 345, 3) := by decide +kernel
theorem dX8_status_20 : decode cX8_status 20 = .ok (.goto 4, 3) := by decide +kernel
theorem dX8_status_23 : decode cX8_status 23 = .ok (.iconst (-1), 1) := by decide +kernel
theorem dX8_status_24 : decode cX8_status 24 = .ok (.ireturn, 1) := by decide +kernel
theorem dX8_count_0 : decode cX8_count 0 = .ok (.iload_n 1, 1) := by decide +kernel
theorem dX8_count_1 : decode cX8_count 1 = .ok (.tableswitch 51 0 2 #[27, 35, 43], 27) := by decide +kernel
theorem dX8_count_28 : decode cX8_count 28 = .ok (.aload_n 0, 1) := by decide +kernel
theorem dX8_count_29 : decode cX8_count 29 = .ok (.getfield 68, 3) := by decide +kernel
theorem dX8_count_32 : decode cX8_count 32 = .ok (.getfield 168, 3) := by decide +kernel
theorem dX8_count_35 : decode cX8_count 35 = .ok (.ireturn, 1) := by decide +kernel
theorem dX8_count_36 : decode cX8_count 36 = .ok (.aload_n 0, 1) := by decide +kernel
theorem dX8_count_37 : decode cX8_count 37 = .ok (.getfield 10, 3) := by decide +kernel
theorem dX8_count_40 : decode cX8_count 40 = .ok (.getfield 81, 3) := by decide +kernel
theorem dX8_count_43 : decode cX8_count 43 = .ok (.ireturn, 1) := by decide +kernel
theorem dX8_count_44 : decode cX8_count 44 = .ok (.aload_n 0, 1) := by decide +kernel
theorem dX8_count_45 : decode cX8_count 45 = .ok (.getfield 68, 3) := by decide +kernel
theorem dX8_count_48 : decode cX8_count 48 = .ok (.getfield 125, 3) := by decide +kernel
theorem dX8_count_51 : decode cX8_count 51 = .ok (.ireturn, 1) := by decide +kernel
theorem dX8_count_52 : decode cX8_count 52 = .ok (.iconst (-1), 1) := by decide +kernel
theorem dX8_count_53 : decode cX8_count 53 = .ok (.ireturn, 1) := by decide +kernel
theorem dX9_tellsNothing_0 : decode cX9_tellsNothing 0 = .ok (.aload_n 0, 1) := by decide +kernel
theorem dX9_tellsNothing_1 : decode cX9_tellsNothing 1 = .ok (.iconst 0, 1) := by decide +kernel
theorem dX9_tellsNothing_2 : decode cX9_tellsNothing 2 = .ok (.putfield 122, 3) := by decide +kernel
theorem dX9_tellsNothing_5 : decode cX9_tellsNothing 5 = .ok (.aload_n 0, 1) := by decide +kernel
theorem dX9_tellsNothing_6 : decode cX9_tellsNothing 6 = .ok (.bipush 60, 2) := by decide +kernel
theorem dX9_tellsNothing_8 : decode cX9_tellsNothing 8 = .ok (.putfield 125, 3) := by decide +kernel
theorem dX9_tellsNothing_11 : decode cX9_tellsNothing 11 = .ok (.iconst 0, 1) := by decide +kernel
theorem dX9_tellsNothing_12 : decode cX9_tellsNothing 12 = .ok (.istore_n 1, 1) := by decide +kernel
theorem dX9_tellsNothing_13 : decode cX9_tellsNothing 13 = .ok (.iload_n 1, 1) := by decide +kernel
theorem dX9_tellsNothing_14 : decode cX9_tellsNothing 14 = .ok (.iconst 4, 1) := by decide +kernel
theorem dX9_tellsNothing_15 : decode cX9_tellsNothing 15 = .ok (.if_icmp .ge 16, 3) := by decide +kernel
theorem dX9_tellsNothing_18 : decode cX9_tellsNothing 18 = .ok (.aload_n 0, 1) := by decide +kernel
theorem dX9_tellsNothing_19 : decode cX9_tellsNothing 19 = .ok (.getfield 20, 3) := by decide +kernel
theorem dX9_tellsNothing_22 : decode cX9_tellsNothing 22 = .ok (.iload_n 1, 1) := by decide +kernel
theorem dX9_tellsNothing_23 : decode cX9_tellsNothing 23 = .ok (.iconst 0, 1) := by decide +kernel
theorem dX9_tellsNothing_24 : decode cX9_tellsNothing 24 = .ok (.iastore, 1) := by decide +kernel
theorem dX9_tellsNothing_25 : decode cX9_tellsNothing 25 = .ok (.iinc 1 1, 3) := by decide +kernel
theorem dX9_tellsNothing_28 : decode cX9_tellsNothing 28 = .ok (.goto (-15), 3) := by decide +kernel
theorem dX9_tellsNothing_31 : decode cX9_tellsNothing 31 = .ok (.return_, 1) := by decide +kernel
theorem dX9_lays_0 : decode cX9_lays 0 = .ok (.iconst 0, 1) := by decide +kernel
theorem dX9_lays_1 : decode cX9_lays 1 = .ok (.istore_n 3, 1) := by decide +kernel
theorem dX9_lays_2 : decode cX9_lays 2 = .ok (.iload_n 3, 1) := by decide +kernel
theorem dX9_lays_3 : decode cX9_lays 3 = .ok (.iload_n 2, 1) := by decide +kernel
theorem dX9_lays_4 : decode cX9_lays 4 = .ok (.if_icmp .ge 39, 3) := by decide +kernel
theorem dX9_lays_7 : decode cX9_lays 7 = .ok (.iconst 0, 1) := by decide +kernel
theorem dX9_lays_8 : decode cX9_lays 8 = .ok (.istore 4, 2) := by decide +kernel
theorem dX9_lays_10 : decode cX9_lays 10 = .ok (.iload 4, 2) := by decide +kernel
theorem dX9_lays_12 : decode cX9_lays 12 = .ok (.aload_n 1, 1) := by decide +kernel
theorem dX9_lays_13 : decode cX9_lays 13 = .ok (.iload_n 3, 1) := by decide +kernel
theorem dX9_lays_14 : decode cX9_lays 14 = .ok (.aaload, 1) := by decide +kernel
theorem dX9_lays_15 : decode cX9_lays 15 = .ok (.arraylength, 1) := by decide +kernel
theorem dX9_lays_16 : decode cX9_lays 16 = .ok (.if_icmp .ge 21, 3) := by decide +kernel
theorem dX9_lays_19 : decode cX9_lays 19 = .ok (.aload_n 1, 1) := by decide +kernel
theorem dX9_lays_20 : decode cX9_lays 20 = .ok (.iload_n 3, 1) := by decide +kernel
theorem dX9_lays_21 : decode cX9_lays 21 = .ok (.aaload, 1) := by decide +kernel
theorem dX9_lays_22 : decode cX9_lays 22 = .ok (.iload 4, 2) := by decide +kernel
theorem dX9_lays_24 : decode cX9_lays 24 = .ok (.aload_n 0, 1) := by decide +kernel
theorem dX9_lays_25 : decode cX9_lays 25 = .ok (.iload_n 3, 1) := by decide +kernel
theorem dX9_lays_26 : decode cX9_lays 26 = .ok (.aaload, 1) := by decide +kernel
theorem dX9_lays_27 : decode cX9_lays 27 = .ok (.iload 4, 2) := by decide +kernel
theorem dX9_lays_29 : decode cX9_lays 29 = .ok (.iaload, 1) := by decide +kernel
theorem dX9_lays_30 : decode cX9_lays 30 = .ok (.iastore, 1) := by decide +kernel
theorem dX9_lays_31 : decode cX9_lays 31 = .ok (.iinc 4 1, 3) := by decide +kernel
theorem dX9_lays_34 : decode cX9_lays 34 = .ok (.goto (-24), 3) := by decide +kernel
theorem dX9_lays_37 : decode cX9_lays 37 = .ok (.iinc 3 1, 3) := by decide +kernel
theorem dX9_lays_40 : decode cX9_lays 40 = .ok (.goto (-38), 3) := by decide +kernel
theorem dX9_lays_43 : decode cX9_lays 43 = .ok (.return_, 1) := by decide +kernel
