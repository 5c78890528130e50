theorem dX9_often_123 : decode cX9_often 123 = .ok (.getfield 113, 3) := by decide +kernel
theorem dX9_often_126 : decode cX9_often 126 = .ok (.iload 4, 2) := by decide +kernel
theorem dX9_often_128 : decode cX9_often 128 = .ok (.iaload, 1) := by decide +kernel
theorem dX9_often_129 : decode cX9_often 129 = .ok (.aload_n 0, 1) := by decide +kernel
theorem dX9_often_130 : decode cX9_often 130 = .ok (.getfield 113, 3) := by decide +kernel
theorem dX9_often_133 : decode cX9_often 133 = .ok (.iload_n 3, 1) := by decide +kernel
theorem dX9_often_134 : decode cX9_often 134 = .ok (.iaload, 1) := by decide +kernel
theorem dX9_often_135 : decode cX9_often 135 = .ok (.if_icmp .le 8, 3) := by decide +kernel
theorem dX9_often_138 : decode cX9_often 138 = .ok (.iload 4, 2) := by decide +kernel
theorem dX9_often_140 : decode cX9_often 140 = .ok (.goto 4, 3) := by decide +kernel
theorem dX9_often_143 : decode cX9_often 143 = .ok (.iload_n 3, 1) := by decide +kernel
theorem dX9_often_144 : decode cX9_often 144 = .ok (.istore_n 3, 1) := by decide +kernel
theorem dX9_often_145 : decode cX9_often 145 = .ok (.iinc 4 1, 3) := by decide +kernel
theorem dX9_often_148 : decode cX9_often 148 = .ok (.goto (-48), 3) := by decide +kernel
theorem dX9_often_151 : decode cX9_often 151 = .ok (.iload_n 1, 1) := by decide +kernel
theorem dX9_often_152 : decode cX9_often 152 = .ok (.ifCond .eq 8, 3) := by decide +kernel
theorem dX9_often_155 : decode cX9_often 155 = .ok (.iload_n 3, 1) := by decide +kernel
theorem dX9_often_156 : decode cX9_often 156 = .ok (.iconst (-1), 1) := by decide +kernel
theorem dX9_often_157 : decode cX9_often 157 = .ok (.if_icmp .ne 7, 3) := by decide +kernel
theorem dX9_often_160 : decode cX9_often 160 = .ok (.iload_n 3, 1) := by decide +kernel
theorem dX9_often_161 : decode cX9_often 161 = .ok (.goto 9, 3) := by decide +kernel
theorem dX9_often_164 : decode cX9_often 164 = .ok (.aload_n 0, 1) := by decide +kernel
theorem dX9_often_165 : decode cX9_often 165 = .ok (.getfield 113, 3) := by decide +kernel
theorem dX9_often_168 : decode cX9_often 168 = .ok (.iload_n 3, 1) := by decide +kernel
theorem dX9_often_169 : decode cX9_often 169 = .ok (.iaload, 1) := by decide +kernel
theorem dX9_often_170 : decode cX9_often 170 = .ok (.ireturn, 1) := by decide +kernel
theorem dX9_deeds_0 : decode cX9_deeds 0 = .ok (.aload_n 0, 1) := by decide +kernel
theorem dX9_deeds_1 : decode cX9_deeds 1 = .ok (.iconst 0, 1) := by decide +kernel
theorem dX9_deeds_2 : decode cX9_deeds 2 = .ok (.putfield 128, 3) := by decide +kernel
theorem dX9_deeds_5 : decode cX9_deeds 5 = .ok (.aload_n 0, 1) := by decide +kernel
theorem dX9_deeds_6 : decode cX9_deeds 6 = .ok (.iload_n 1, 1) := by decide +kernel
theorem dX9_deeds_7 : decode cX9_deeds 7 = .ok (.iconst 0, 1) := by decide +kernel
theorem dX9_deeds_8 : decode cX9_deeds 8 = .ok (.bipush 15, 2) := by decide +kernel
theorem dX9_deeds_10 : decode cX9_deeds 10 = .ok (.invokestatic 162, 3) := by decide +kernel
theorem dX9_deeds_13 : decode cX9_deeds 13 = .ok (.ifCond .ne 7, 3) := by decide +kernel
theorem dX9_deeds_16 : decode cX9_deeds 16 = .ok (.iconst 1, 1) := by decide +kernel
theorem dX9_deeds_17 : decode cX9_deeds 17 = .ok (.goto 4, 3) := by decide +kernel
theorem dX9_deeds_20 : decode cX9_deeds 20 = .ok (.iconst 0, 1) := by decide +kernel
theorem dX9_deeds_21 : decode cX9_deeds 21 = .ok (.iconst 1, 1) := by decide +kernel
theorem dX9_deeds_22 : decode cX9_deeds 22 = .ok (.iconst 1, 1) := by decide +kernel
theorem dX9_deeds_23 : decode cX9_deeds 23 = .ok (.invokevirtual 207, 3) := by decide +kernel
theorem dX9_deeds_26 : decode cX9_deeds 26 = .ok (.ifCond .eq 5, 3) := by decide +kernel
theorem dX9_deeds_29 : decode cX9_deeds 29 = .ok (.iconst 0, 1) := by decide +kernel
theorem dX9_deeds_30 : decode cX9_deeds 30 = .ok (.ireturn, 1) := by decide +kernel
theorem dX9_deeds_31 : decode cX9_deeds 31 = .ok (.iconst 0, 1) := by decide +kernel
theorem dX9_deeds_32 : decode cX9_deeds 32 = .ok (.istore_n 2, 1) := by decide +kernel
theorem dX9_deeds_33 : decode cX9_deeds 33 = .ok (.iconst 0, 1) := by decide +kernel
theorem dX9_deeds_34 : decode cX9_deeds 34 = .ok (.istore_n 3, 1) := by decide +kernel
theorem dX9_deeds_35 : decode cX9_deeds 35 = .ok (.iload_n 3, 1) := by decide +kernel
theorem dX9_deeds_36 : decode cX9_deeds 36 = .ok (.aload_n 0, 1) := by decide +kernel
theorem dX9_deeds_37 : decode cX9_deeds 37 = .ok (.getfield 223, 3) := by decide +kernel
theorem dX9_deeds_40 : decode cX9_deeds 40 = .ok (.if_icmp .ge 33, 3) := by decide +kernel
theorem dX9_deeds_43 : decode cX9_deeds 43 = .ok (.iload_n 2, 1) := by decide +kernel
theorem dX9_deeds_44 : decode cX9_deeds 44 = .ok (.aload_n 0, 1) := by decide +kernel
theorem dX9_deeds_45 : decode cX9_deeds 45 = .ok (.aload_n 0, 1) := by decide +kernel
theorem dX9_deeds_46 : decode cX9_deeds 46 = .ok (.getfield 58, 3) := by decide +kernel
theorem dX9_deeds_49 : decode cX9_deeds 49 = .ok (.iload_n 3, 1) := by decide +kernel
theorem dX9_deeds_50 : decode cX9_deeds 50 = .ok (.iconst 0, 1) := by decide +kernel
theorem dX9_deeds_51 : decode cX9_deeds 51 = .ok (.invokevirtual 321, 3) := by decide +kernel
theorem dX9_deeds_54 : decode cX9_deeds 54 = .ok (.iload_n 1, 1) := by decide +kernel
theorem dX9_deeds_55 : decode cX9_deeds 55 = .ok (.if_icmp .ne 9, 3) := by decide +kernel
theorem dX9_deeds_58 : decode cX9_deeds 58 = .ok (.iconst 1, 1) := by decide +kernel
theorem dX9_deeds_59 : decode cX9_deeds 59 = .ok (.iload_n 3, 1) := by decide +kernel
theorem dX9_deeds_60 : decode cX9_deeds 60 = .ok (.ishl, 1) := by decide +kernel
theorem dX9_deeds_61 : decode cX9_deeds 61 = .ok (.goto 4, 3) := by decide +kernel
theorem dX9_deeds_64 : decode cX9_deeds 64 = .ok (.iconst 0, 1) := by decide +kernel
theorem dX9_deeds_65 : decode cX9_deeds 65 = .ok (.ior, 1) := by decide +kernel
theorem dX9_deeds_66 : decode cX9_deeds 66 = .ok (.istore_n 2, 1) := by decide +kernel
theorem dX9_deeds_67 : decode cX9_deeds 67 = .ok (.iinc 3 1, 3) := by decide +kernel
theorem dX9_deeds_70 : decode cX9_deeds 70 = .ok (.goto (-35), 3) := by decide +kernel
theorem dX9_deeds_73 : decode cX9_deeds 73 = .ok (.iload_n 2, 1) := by decide +kernel
theorem dX9_deeds_74 : decode cX9_deeds 74 = .ok (.ireturn, 1) := by decide +kernel
theorem dX9_longest_0 : decode cX9_longest 0 = .ok (.aload_n 0, 1) := by decide +kernel
theorem dX9_longest_1 : decode cX9_longest 1 = .ok (.iconst 0, 1) := by decide +kernel
theorem dX9_longest_2 : decode cX9_longest 2 = .ok (.putfield 128, 3) := by decide +kernel
theorem dX9_longest_5 : decode cX9_longest 5 = .ok (.aload_n 0, 1) := by decide +kernel
theorem dX9_longest_6 : decode cX9_longest 6 = .ok (.iload_n 1, 1) := by decide +kernel
theorem dX9_longest_7 : decode cX9_longest 7 = .ok (.iconst 0, 1) := by decide +kernel
theorem dX9_longest_8 : decode cX9_longest 8 = .ok (.iconst 1, 1) := by decide +kernel
theorem dX9_longest_9 : decode cX9_longest 9 = .ok (.invokestatic 162, 3) := by decide +kernel
theorem dX9_longest_12 : decode cX9_longest 12 = .ok (.ifCond .ne 7, 3) := by decide +kernel
theorem dX9_longest_15 : decode cX9_longest 15 = .ok (.iconst 1, 1) := by decide +kernel
theorem dX9_longest_16 : decode cX9_longest 16 = .ok (.goto 4, 3) := by decide +kernel
theorem dX9_longest_19 : decode cX9_longest 19 = .ok (.iconst 0, 1) := by decide +kernel
theorem dX9_longest_20 : decode cX9_longest 20 = .ok (.iconst 1, 1) := by decide +kernel
theorem dX9_longest_21 : decode cX9_longest 21 = .ok (.iconst 1, 1) := by decide +kernel
theorem dX9_longest_22 : decode cX9_longest 22 = .ok (.invokevirtual 207, 3) := by decide +kernel
theorem dX9_longest_25 : decode cX9_longest 25 = .ok (.ifCond .eq 5, 3) := by decide +kernel
theorem dX9_longest_28 : decode cX9_longest 28 = .ok (.iconst 0, 1) := by decide +kernel
theorem dX9_longest_29 : decode cX9_longest 29 = .ok (.ireturn, 1) := by decide +kernel
theorem dX9_longest_30 : decode cX9_longest 30 = .ok (.iconst (-1), 1) := by decide +kernel
theorem dX9_longest_31 : decode cX9_longest 31 = .ok (.istore_n 2, 1) := by decide +kernel
theorem dX9_longest_32 : decode cX9_longest 32 = .ok (.iconst 0, 1) := by decide +kernel
theorem dX9_longest_33 : decode cX9_longest 33 = .ok (.istore_n 3, 1) := by decide +kernel
theorem dX9_longest_34 : decode cX9_longest 34 = .ok (.iload_n 3, 1) := by decide +kernel
theorem dX9_longest_35 : decode cX9_longest 35 = .ok (.aload_n 0, 1) := by decide +kernel
theorem dX9_longest_36 : decode cX9_longest 36 = .ok (.getfield 223, 3) := by decide +kernel
theorem dX9_longest_39 : decode cX9_longest 39 = .ok (.if_icmp .ge 41, 3) := by decide +kernel
theorem dX9_longest_42 : decode cX9_longest 42 = .ok (.iload_n 2, 1) := by decide +kernel
theorem dX9_longest_43 : decode cX9_longest 43 = .ok (.iconst (-1), 1) := by decide +kernel
theorem dX9_longest_44 : decode cX9_longest 44 = .ok (.if_icmp .eq 24, 3) := by decide +kernel
theorem dX9_longest_47 : decode cX9_longest 47 = .ok (.aload_n 0, 1) := by decide +kernel
theorem dX9_longest_48 : decode cX9_longest 48 = .ok (.aload_n 0, 1) := by decide +kernel
theorem dX9_longest_49 : decode cX9_longest 49 = .ok (.getfield 58, 3) := by decide +kernel
theorem dX9_longest_52 : decode cX9_longest 52 = .ok (.iload_n 3, 1) := by decide +kernel
theorem dX9_longest_53 : decode cX9_longest 53 = .ok (.invokevirtual 298, 3) := by decide +kernel
theorem dX9_longest_56 : decode cX9_longest 56 = .ok (.aload_n 0, 1) := by decide +kernel
theorem dX9_longest_57 : decode cX9_longest 57 = .ok (.aload_n 0, 1) := by decide +kernel
theorem dX9_longest_58 : decode cX9_longest 58 = .ok (.getfield 58, 3) := by decide +kernel
theorem dX9_longest_61 : decode cX9_longest 61 = .ok (.iload_n 2, 1) := by decide +kernel
theorem dX9_longest_62 : decode cX9_longest 62 = .ok (.invokevirtual 298, 3) := by decide +kernel
theorem dX9_longest_65 : decode cX9_longest 65 = .ok (.if_icmp .le 7, 3) := by decide +kernel
theorem dX9_longest_68 : decode cX9_longest 68 = .ok (.iload_n 3, 1) := by decide +kernel
theorem dX9_longest_69 : decode cX9_longest 69 = .ok (.goto 4, 3) := by decide +kernel
theorem dX9_longest_72 : decode cX9_longest 72 = .ok (.iload_n 2, 1) := by decide +kernel
theorem dX9_longest_73 : decode cX9_longest 73 = .ok (.istore_n 2, 1) := by decide +kernel
theorem dX9_longest_74 : decode cX9_longest 74 = .ok (.iinc 3 1, 3) := by decide +kernel
theorem dX9_longest_77 : decode cX9_longest 77 = .ok (.goto (-43), 3) := by decide +kernel
theorem dX9_longest_80 : decode cX9_longest 80 = .ok (.iload_n 1, 1) := by decide +kernel
theorem dX9_longest_81 : decode cX9_longest 81 = .ok (.ifCond .eq 8, 3) := by decide +kernel
theorem dX9_longest_84 : decode cX9_longest 84 = .ok (.iload_n 2, 1) := by decide +kernel
theorem dX9_longest_85 : decode cX9_longest 85 = .ok (.iconst (-1), 1) := by decide +kernel
theorem dX9_longest_86 : decode cX9_longest 86 = .ok (.if_icmp .ne 7, 3) := by decide +kernel
theorem dX9_longest_89 : decode cX9_longest 89 = .ok (.iload_n 2, 1) := by decide +kernel
theorem dX9_longest_90 : decode cX9_longest 90 = .ok (.goto 12, 3) := by decide +kernel
theorem dX9_longest_93 : decode cX9_longest 93 = .ok (.aload_n 0, 1) := by decide +kernel
theorem dX9_longest_94 : decode cX9_longest 94 = .ok (.aload_n 0, 1) := by decide +kernel
theorem dX9_longest_95 : decode cX9_longest 95 = .ok (.getfield 58, 3) := by decide +kernel
theorem dX9_longest_98 : decode cX9_longest 98 = .ok (.iload_n 2, 1) := by decide +kernel
theorem dX9_longest_99 : decode cX9_longest 99 = .ok (.invokevirtual 298, 3) := by decide +kernel
theorem dX9_longest_102 : decode cX9_longest 102 = .ok (.ireturn, 1) := by decide +kernel
theorem dX9_draw_0 : decode cX9_draw 0 = .ok (.aload_n 0, 1) := by decide +kernel
theorem dX9_draw_1 : decode cX9_draw 1 = .ok (.aload_n 0, 1) := by decide +kernel
theorem dX9_draw_2 : decode cX9_draw 2 = .ok (.getfield 420, 3) := by decide +kernel
theorem dX9_draw_5 : decode cX9_draw 5 = .ok (.ldc_w 423, 3) := by decide +kernel
theorem dX9_draw_8 : decode cX9_draw 8 = .ok (.imul, 1) := by decide +kernel
theorem dX9_draw_9 : decode cX9_draw 9 = .ok (.sipush 12345, 3) := by decide +kernel
theorem dX9_draw_12 : decode cX9_draw 12 = .ok (.iadd, 1) := by decide +kernel
theorem dX9_draw_13 : decode cX9_draw 13 = .ok (.putfield 420, 3) := by decide +kernel
theorem dX9_draw_16 : decode cX9_draw 16 = .ok (.aload_n 0, 1) := by decide +kernel
theorem dX9_draw_17 : decode cX9_draw 17 = .ok (.getfield 420, 3) := by decide +kernel
theorem dX9_draw_20 : decode cX9_draw 20 = .ok (.bipush 16, 2) := by decide +kernel
theorem dX9_draw_22 : decode cX9_draw 22 = .ok (.ishr, 1) := by decide +kernel
theorem dX9_draw_23 : decode cX9_draw 23 = .ok (.sipush 32767, 3) := by decide +kernel
theorem dX9_draw_26 : decode cX9_draw 26 = .ok (.iand, 1) := by decide +kernel
theorem dX9_draw_27 : decode cX9_draw 27 = .ok (.iload_n 1, 1) := by decide +kernel
theorem dX9_draw_28 : decode cX9_draw 28 = .ok (.irem, 1) := by decide +kernel
theorem dX9_draw_29 : decode cX9_draw 29 = .ok (.ireturn, 1) := by decide +kernel
theorem dX9_handBy_0 : decode cX9_handBy 0 = .ok (.aload_n 0, 1) := by decide +kernel
theorem dX9_handBy_1 : decode cX9_handBy 1 = .ok (.getfield 58, 3) := by decide +kernel
theorem dX9_handBy_4 : decode cX9_handBy 4 = .ok (.aload_n 0, 1) := by decide +kernel
theorem dX9_handBy_5 : decode cX9_handBy 5 = .ok (.getfield 61, 3) := by decide +kernel
theorem dX9_handBy_8 : decode cX9_handBy 8 = .ok (.invokestatic 370, 3) := by decide +kernel
theorem dX9_handBy_11 : decode cX9_handBy 11 = .ok (.aload_n 0, 1) := by decide +kernel
theorem dX9_handBy_12 : decode cX9_handBy 12 = .ok (.iload_n 1, 1) := by decide +kernel
theorem dX9_handBy_13 : decode cX9_handBy 13 = .ok (.putfield 420, 3) := by decide +kernel
theorem dX9_handBy_16 : decode cX9_handBy 16 = .ok (.iconst 0, 1) := by decide +kernel
theorem dX9_handBy_17 : decode cX9_handBy 17 = .ok (.istore 4, 2) := by decide +kernel
theorem dX9_handBy_19 : decode cX9_handBy 19 = .ok (.iload 4, 2) := by decide +kernel
theorem dX9_handBy_21 : decode cX9_handBy 21 = .ok (.iload_n 2, 1) := by decide +kernel
theorem dX9_handBy_22 : decode cX9_handBy 22 = .ok (.if_icmp .ge 108, 3) := by decide +kernel
theorem dX9_handBy_25 : decode cX9_handBy 25 = .ok (.aload_n 0, 1) := by decide +kernel
theorem dX9_handBy_26 : decode cX9_handBy 26 = .ok (.getfield 223, 3) := by decide +kernel
theorem dX9_handBy_29 : decode cX9_handBy 29 = .ok (.ifCond .le 101, 3) := by decide +kernel
theorem dX9_handBy_32 : decode cX9_handBy 32 = .ok (.aload_n 0, 1) := by decide +kernel
theorem dX9_handBy_33 : decode cX9_handBy 33 = .ok (.aload_n 0, 1) := by decide +kernel
theorem dX9_handBy_34 : decode cX9_handBy 34 = .ok (.getfield 223, 3) := by decide +kernel
theorem dX9_handBy_37 : decode cX9_handBy 37 = .ok (.invokevirtual 424, 3) := by decide +kernel
theorem dX9_handBy_40 : decode cX9_handBy 40 = .ok (.istore 5, 2) := by decide +kernel
theorem dX9_handBy_42 : decode cX9_handBy 42 = .ok (.aload_n 0, 1) := by decide +kernel
theorem dX9_handBy_43 : decode cX9_handBy 43 = .ok (.aload_n 0, 1) := by decide +kernel
theorem dX9_handBy_44 : decode cX9_handBy 44 = .ok (.getfield 26, 3) := by decide +kernel
theorem dX9_handBy_47 : decode cX9_handBy 47 = .ok (.iload 5, 2) := by decide +kernel
theorem dX9_handBy_49 : decode cX9_handBy 49 = .ok (.iaload, 1) := by decide +kernel
theorem dX9_handBy_50 : decode cX9_handBy 50 = .ok (.invokevirtual 424, 3) := by decide +kernel
theorem dX9_handBy_53 : decode cX9_handBy 53 = .ok (.istore 6, 2) := by decide +kernel
theorem dX9_handBy_55 : decode cX9_handBy 55 = .ok (.aload_n 0, 1) := by decide +kernel
theorem dX9_handBy_56 : decode cX9_handBy 56 = .ok (.aload_n 0, 1) := by decide +kernel
theorem dX9_handBy_57 : decode cX9_handBy 57 = .ok (.getfield 26, 3) := by decide +kernel
theorem dX9_handBy_60 : decode cX9_handBy 60 = .ok (.iload 5, 2) := by decide +kernel
theorem dX9_handBy_62 : decode cX9_handBy 62 = .ok (.iaload, 1) := by decide +kernel
theorem dX9_handBy_63 : decode cX9_handBy 63 = .ok (.invokevirtual 424, 3) := by decide +kernel
theorem dX9_handBy_66 : decode cX9_handBy 66 = .ok (.istore 7, 2) := by decide +kernel
theorem dX9_handBy_68 : decode cX9_handBy 68 = .ok (.aload_n 0, 1) := by decide +kernel
theorem dX9_handBy_69 : decode cX9_handBy 69 = .ok (.aload_n 0, 1) := by decide +kernel
theorem dX9_handBy_70 : decode cX9_handBy 70 = .ok (.getfield 61, 3) := by decide +kernel
theorem dX9_handBy_73 : decode cX9_handBy 73 = .ok (.iload 5, 2) := by decide +kernel
theorem dX9_handBy_75 : decode cX9_handBy 75 = .ok (.iload 6, 2) := by decide +kernel
theorem dX9_handBy_77 : decode cX9_handBy 77 = .ok (.iload 7, 2) := by decide +kernel
theorem dX9_handBy_79 : decode cX9_handBy 79 = .ok (.invokestatic 273, 3) := by decide +kernel
theorem dX9_handBy_82 : decode cX9_handBy 82 = .ok (.iload 6, 2) := by decide +kernel
theorem dX9_handBy_84 : decode cX9_handBy 84 = .ok (.iload 7, 2) := by decide +kernel
theorem dX9_handBy_86 : decode cX9_handBy 86 = .ok (.invokestatic 276, 3) := by decide +kernel
theorem dX9_handBy_89 : decode cX9_handBy 89 = .ok (.invokevirtual 339, 3) := by decide +kernel
theorem dX9_handBy_92 : decode cX9_handBy 92 = .ok (.pop, 1) := by decide +kernel
theorem dX9_handBy_93 : decode cX9_handBy 93 = .ok (.aload_n 0, 1) := by decide +kernel
theorem dX9_handBy_94 : decode cX9_handBy 94 = .ok (.bipush 16, 2) := by decide +kernel
theorem dX9_handBy_96 : decode cX9_handBy 96 = .ok (.invokevirtual 424, 3) := by decide +kernel
theorem dX9_handBy_99 : decode cX9_handBy 99 = .ok (.iload_n 3, 1) := by decide +kernel
theorem dX9_handBy_100 : decode cX9_handBy 100 = .ok (.if_icmp .ge 24, 3) := by decide +kernel
theorem dX9_handBy_103 : decode cX9_handBy 103 = .ok (.aload_n 0, 1) := by decide +kernel
theorem dX9_handBy_104 : decode cX9_handBy 104 = .ok (.aload_n 0, 1) := by decide +kernel
theorem dX9_handBy_105 : decode cX9_handBy 105 = .ok (.getfield 61, 3) := by decide +kernel
theorem dX9_handBy_108 : decode cX9_handBy 108 = .ok (.iconst 3, 1) := by decide +kernel
theorem dX9_handBy_109 : decode cX9_handBy 109 = .ok (.invokevirtual 343, 3) := by decide +kernel
theorem dX9_handBy_112 : decode cX9_handBy 112 = .ok (.ifCond .ne 12, 3) := by decide +kernel
theorem dX9_handBy_115 : decode cX9_handBy 115 = .ok (.aload_n 0, 1) := by decide +kernel
theorem dX9_handBy_116 : decode cX9_handBy 116 = .ok (.aload_n 0, 1) := by decide +kernel
theorem dX9_handBy_117 : decode cX9_handBy 117 = .ok (.getfield 61, 3) := by decide +kernel
theorem dX9_handBy_120 : decode cX9_handBy 120 = .ok (.invokevirtual 347, 3) := by decide +kernel
theorem dX9_handBy_123 : decode cX9_handBy 123 = .ok (.pop, 1) := by decide +kernel
theorem dX9_handBy_124 : decode cX9_handBy 124 = .ok (.iinc 4 1, 3) := by decide +kernel
theorem dX9_handBy_127 : decode cX9_handBy 127 = .ok (.goto (-108), 3) := by decide +kernel
theorem dX9_handBy_130 : decode cX9_handBy 130 = .ok (.return_, 1) := by decide +kernel
theorem dX9_isHand_0 : decode cX9_isHand 0 = .ok (.iload_n 0, 1) := by decide +kernel
theorem dX9_isHand_1 : decode cX9_isHand 1 = .ok (.iconst 1, 1) := by decide +kernel
theorem dX9_isHand_2 : decode cX9_isHand 2 = .ok (.bipush 96, 2) := by decide +kernel
theorem dX9_isHand_4 : decode cX9_isHand 4 = .ok (.invokestatic 162, 3) := by decide +kernel
theorem dX9_isHand_7 : decode cX9_isHand 7 = .ok (.ifCond .eq 17, 3) := by decide +kernel
theorem dX9_isHand_10 : decode cX9_isHand 10 = .ok (.iload_n 1, 1) := by decide +kernel
theorem dX9_isHand_11 : decode cX9_isHand 11 = .ok (.iconst 0, 1) := by decide +kernel
theorem dX9_isHand_12 : decode cX9_isHand 12 = .ok (.bipush 16, 2) := by decide +kernel
theorem dX9_isHand_14 : decode cX9_isHand 14 = .ok (.invokestatic 162, 3) := by decide +kernel
theorem dX9_isHand_17 : decode cX9_isHand 17 = .ok (.ifCond .eq 7, 3) := by decide +kernel
theorem dX9_isHand_20 : decode cX9_isHand 20 = .ok (.iconst 1, 1) := by decide +kernel
theorem dX9_isHand_21 : decode cX9_isHand 21 = .ok (.goto 4, 3) := by decide +kernel
theorem dX9_isHand_24 : decode cX9_isHand 24 = .ok (.iconst 0, 1) := by decide +kernel
theorem dX9_isHand_25 : decode cX9_isHand 25 = .ok (.ireturn, 1) := by decide +kernel
theorem dX9_hand_0 : decode cX9_hand 0 = .ok (.aload_n 0, 1) := by decide +kernel
theorem dX9_hand_1 : decode cX9_hand 1 = .ok (.iconst 0, 1) := by decide +kernel
theorem dX9_hand_2 : decode cX9_hand 2 = .ok (.putfield 128, 3) := by decide +kernel
theorem dX9_hand_5 : decode cX9_hand 5 = .ok (.aload_n 0, 1) := by decide +kernel
theorem dX9_hand_6 : decode cX9_hand 6 = .ok (.iload_n 2, 1) := by decide +kernel
theorem dX9_hand_7 : decode cX9_hand 7 = .ok (.iload_n 3, 1) := by decide +kernel
theorem dX9_hand_8 : decode cX9_hand 8 = .ok (.invokestatic 427, 3) := by decide +kernel
theorem dX9_hand_11 : decode cX9_hand 11 = .ok (.ifCond .eq 13, 3) := by decide +kernel
theorem dX9_hand_14 : decode cX9_hand 14 = .ok (.iload 4, 2) := by decide +kernel
theorem dX9_hand_16 : decode cX9_hand 16 = .ok (.iconst 0, 1) := by decide +kernel
theorem dX9_hand_17 : decode cX9_hand 17 = .ok (.iconst 3, 1) := by decide +kernel
theorem dX9_hand_18 : decode cX9_hand 18 = .ok (.invokestatic 162, 3) := by decide +kernel
theorem dX9_hand_21 : decode cX9_hand 21 = .ok (.ifCond .ne 7, 3) := by decide +kernel
theorem dX9_hand_24 : decode cX9_hand 24 = .ok (.iconst 1, 1) := by decide +kernel
theorem dX9_hand_25 : decode cX9_hand 25 = .ok (.goto 4, 3) := by decide +kernel
theorem dX9_hand_28 : decode cX9_hand 28 = .ok (.iconst 0, 1) := by decide +kernel
theorem dX9_hand_29 : decode cX9_hand 29 = .ok (.iconst 1, 1) := by decide +kernel
theorem dX9_hand_30 : decode cX9_hand 30 = .ok (.iconst 1, 1) := by decide +kernel
theorem dX9_hand_31 : decode cX9_hand 31 = .ok (.invokevirtual 207, 3) := by decide +kernel
theorem dX9_hand_34 : decode cX9_hand 34 = .ok (.ifCond .eq 5, 3) := by decide +kernel
theorem dX9_hand_37 : decode cX9_hand 37 = .ok (.iconst 0, 1) := by decide +kernel
theorem dX9_hand_38 : decode cX9_hand 38 = .ok (.ireturn, 1) := by decide +kernel
theorem dX9_hand_39 : decode cX9_hand 39 = .ok (.aload_n 0, 1) := by decide +kernel
theorem dX9_hand_40 : decode cX9_hand 40 = .ok (.iload_n 1, 1) := by decide +kernel
theorem dX9_hand_41 : decode cX9_hand 41 = .ok (.iload_n 2, 1) := by decide +kernel
theorem dX9_hand_42 : decode cX9_hand 42 = .ok (.iload_n 3, 1) := by decide +kernel
theorem dX9_hand_43 : decode cX9_hand 43 = .ok (.invokevirtual 430, 3) := by decide +kernel
theorem dX9_hand_46 : decode cX9_hand 46 = .ok (.iload 4, 2) := by decide +kernel
theorem dX9_hand_48 : decode cX9_hand 48 = .ok (.ifCond .ne 14, 3) := by decide +kernel
theorem dX9_hand_51 : decode cX9_hand 51 = .ok (.aload_n 0, 1) := by decide +kernel
theorem dX9_hand_52 : decode cX9_hand 52 = .ok (.aload_n 0, 1) := by decide +kernel
theorem dX9_hand_53 : decode cX9_hand 53 = .ok (.getfield 61, 3) := by decide +kernel
theorem dX9_hand_56 : decode cX9_hand 56 = .ok (.invokevirtual 305, 3) := by decide +kernel
theorem dX9_hand_59 : decode cX9_hand 59 = .ok (.goto 50, 3) := by decide +kernel
theorem dX9_hand_62 : decode cX9_hand 62 = .ok (.iload 4, 2) := by decide +kernel
theorem dX9_hand_64 : decode cX9_hand 64 = .ok (.iconst 1, 1) := by decide +kernel
theorem dX9_hand_65 : decode cX9_hand 65 = .ok (.if_icmp .ne 13, 3) := by decide +kernel
theorem dX9_hand_68 : decode cX9_hand 68 = .ok (.aload_n 0, 1) := by decide +kernel
theorem dX9_hand_69 : decode cX9_hand 69 = .ok (.getfield 61, 3) := by decide +kernel
theorem dX9_hand_72 : decode cX9_hand 72 = .ok (.bipush 10, 2) := by decide +kernel
theorem dX9_hand_74 : decode cX9_hand 74 = .ok (.iaload, 1) := by decide +kernel
theorem dX9_hand_75 : decode cX9_hand 75 = .ok (.goto 34, 3) := by decide +kernel
theorem dX9_hand_78 : decode cX9_hand 78 = .ok (.iload 4, 2) := by decide +kernel
theorem dX9_hand_80 : decode cX9_hand 80 = .ok (.iconst 2, 1) := by decide +kernel
theorem dX9_hand_81 : decode cX9_hand 81 = .ok (.if_icmp .ne 21, 3) := by decide +kernel
theorem dX9_hand_84 : decode cX9_hand 84 = .ok (.aload_n 0, 1) := by decide +kernel
theorem dX9_hand_85 : decode cX9_hand 85 = .ok (.getfield 61, 3) := by decide +kernel
theorem dX9_hand_88 : decode cX9_hand 88 = .ok (.bipush 12, 2) := by decide +kernel
theorem dX9_hand_90 : decode cX9_hand 90 = .ok (.iaload, 1) := by decide +kernel
theorem dX9_hand_91 : decode cX9_hand 91 = .ok (.aload_n 0, 1) := by decide +kernel
theorem dX9_hand_92 : decode cX9_hand 92 = .ok (.getfield 58, 3) := by decide +kernel
theorem dX9_hand_95 : decode cX9_hand 95 = .ok (.bipush 12, 2) := by decide +kernel
theorem dX9_hand_97 : decode cX9_hand 97 = .ok (.iaload, 1) := by decide +kernel
theorem dX9_hand_98 : decode cX9_hand 98 = .ok (.isub, 1) := by decide +kernel
theorem dX9_hand_99 : decode cX9_hand 99 = .ok (.goto 10, 3) := by decide +kernel
theorem dX9_hand_102 : decode cX9_hand 102 = .ok (.aload_n 0, 1) := by decide +kernel
theorem dX9_hand_103 : decode cX9_hand 103 = .ok (.getfield 61, 3) := by decide +kernel
theorem dX9_hand_106 : decode cX9_hand 106 = .ok (.invokestatic 374, 3) := by decide +kernel
theorem dX9_hand_109 : decode cX9_hand 109 = .ok (.ireturn, 1) := by decide +kernel
theorem dX9_span_0 : decode cX9_span 0 = .ok (.aload_n 0, 1) := by decide +kernel
theorem dX9_span_1 : decode cX9_span 1 = .ok (.iconst 0, 1) := by decide +kernel
theorem dX9_span_2 : decode cX9_span 2 = .ok (.putfield 128, 3) := by decide +kernel
theorem dX9_span_5 : decode cX9_span 5 = .ok (.aload_n 0, 1) := by decide +kernel
theorem dX9_span_6 : decode cX9_span 6 = .ok (.iload_n 2, 1) := by decide +kernel
theorem dX9_span_7 : decode cX9_span 7 = .ok (.iconst 1, 1) := by decide +kernel
theorem dX9_span_8 : decode cX9_span 8 = .ok (.bipush 20, 2) := by decide +kernel
theorem dX9_span_10 : decode cX9_span 10 = .ok (.invokestatic 162, 3) := by decide +kernel
theorem dX9_span_13 : decode cX9_span 13 = .ok (.ifCond .eq 31, 3) := by decide +kernel
theorem dX9_span_16 : decode cX9_span 16 = .ok (.iload_n 3, 1) := by decide +kernel
theorem dX9_span_17 : decode cX9_span 17 = .ok (.iload 4, 2) := by decide +kernel
theorem dX9_span_19 : decode cX9_span 19 = .ok (.invokestatic 427, 3) := by decide +kernel
theorem dX9_span_22 : decode cX9_span 22 = .ok (.ifCond .eq 22, 3) := by decide +kernel
theorem dX9_span_25 : decode cX9_span 25 = .ok (.iload 5, 2) := by decide +kernel
theorem dX9_span_27 : decode cX9_span 27 = .ok (.iconst 0, 1) := by decide +kernel
theorem dX9_span_28 : decode cX9_span 28 = .ok (.iconst 2, 1) := by decide +kernel
theorem dX9_span_29 : decode cX9_span 29 = .ok (.invokestatic 162, 3) := by decide +kernel
theorem dX9_span_32 : decode cX9_span 32 = .ok (.ifCond .eq 12, 3) := by decide +kernel
theorem dX9_span_35 : decode cX9_span 35 = .ok (.aload_n 0, 1) := by decide +kernel
theorem dX9_span_36 : decode cX9_span 36 = .ok (.iload 6, 2) := by decide +kernel
theorem dX9_span_38 : decode cX9_span 38 = .ok (.invokevirtual 377, 3) := by decide +kernel
theorem dX9_span_41 : decode cX9_span 41 = .ok (.ifCond .ne 7, 3) := by decide +kernel
theorem dX9_span_44 : decode cX9_span 44 = .ok (.iconst 1, 1) := by decide +kernel
theorem dX9_span_45 : decode cX9_span 45 = .ok (.goto 4, 3) := by decide +kernel
theorem dX9_span_48 : decode cX9_span 48 = .ok (.iconst 0, 1) := by decide +kernel
theorem dX9_span_49 : decode cX9_span 49 = .ok (.iconst 1, 1) := by decide +kernel
theorem dX9_span_50 : decode cX9_span 50 = .ok (.iconst 1, 1) := by decide +kernel
theorem dX9_span_51 : decode cX9_span 51 = .ok (.invokevirtual 207, 3) := by decide +kernel
theorem dX9_span_54 : decode cX9_span 54 = .ok (.ifCond .eq 5, 3) := by decide +kernel
theorem dX9_span_57 : decode cX9_span 57 = .ok (.iconst 0, 1) := by decide +kernel
theorem dX9_span_58 : decode cX9_span 58 = .ok (.ireturn, 1) := by decide +kernel
theorem dX9_span_59 : decode cX9_span 59 = .ok (.iconst (-1), 1) := by decide +kernel
theorem dX9_span_60 : decode cX9_span 60 = .ok (.istore 7, 2) := by decide +kernel
theorem dX9_span_62 : decode cX9_span 62 = .ok (.iconst 0, 1) := by decide +kernel
theorem dX9_span_63 : decode cX9_span 63 = .ok (.istore 8, 2) := by decide +kernel
theorem dX9_span_65 : decode cX9_span 65 = .ok (.iconst 0, 1) := by decide +kernel
theorem dX9_span_66 : decode cX9_span 66 = .ok (.istore 9, 2) := by decide +kernel
theorem dX9_span_68 : decode cX9_span 68 = .ok (.iconst 0, 1) := by decide +kernel
theorem dX9_span_69 : decode cX9_span 69 = .ok (.istore 10, 2) := by decide +kernel
theorem dX9_span_71 : decode cX9_span 71 = .ok (.iload 10, 2) := by decide +kernel
theorem dX9_span_73 : decode cX9_span 73 = .ok (.iload_n 2, 1) := by decide +kernel
theorem dX9_span_74 : decode cX9_span 74 = .ok (.if_icmp .ge 82, 3) := by decide +kernel
theorem dX9_span_77 : decode cX9_span 77 = .ok (.aload_n 0, 1) := by decide +kernel
theorem dX9_span_78 : decode cX9_span 78 = .ok (.iload_n 1, 1) := by decide +kernel
theorem dX9_span_79 : decode cX9_span 79 = .ok (.iload 10, 2) := by decide +kernel
theorem dX9_span_81 : decode cX9_span 81 = .ok (.iadd, 1) := by decide +kernel
theorem dX9_span_82 : decode cX9_span 82 = .ok (.iload_n 3, 1) := by decide +kernel
theorem dX9_span_83 : decode cX9_span 83 = .ok (.iload 4, 2) := by decide +kernel
theorem dX9_span_85 : decode cX9_span 85 = .ok (.invokevirtual 430, 3) := by decide +kernel
theorem dX9_span_88 : decode cX9_span 88 = .ok (.aload_n 0, 1) := by decide +kernel
theorem dX9_span_89 : decode cX9_span 89 = .ok (.aload_n 0, 1) := by decide +kernel
theorem dX9_span_90 : decode cX9_span 90 = .ok (.getfield 61, 3) := by decide +kernel
theorem dX9_span_93 : decode cX9_span 93 = .ok (.invokevirtual 305, 3) := by decide +kernel
theorem dX9_span_96 : decode cX9_span 96 = .ok (.istore 11, 2) := by decide +kernel
theorem dX9_span_98 : decode cX9_span 98 = .ok (.iload 7, 2) := by decide +kernel
theorem dX9_span_100 : decode cX9_span 100 = .ok (.iconst (-1), 1) := by decide +kernel
theorem dX9_span_101 : decode cX9_span 101 = .ok (.if_icmp .ne 8, 3) := by decide +kernel
theorem dX9_span_104 : decode cX9_span 104 = .ok (.iload 11, 2) := by decide +kernel
theorem dX9_span_106 : decode cX9_span 106 = .ok (.goto 10, 3) := by decide +kernel
theorem dX9_span_109 : decode cX9_span 109 = .ok (.iload 7, 2) := by decide +kernel
theorem dX9_span_111 : decode cX9_span 111 = .ok (.iload 11, 2) := by decide +kernel
theorem dX9_span_113 : decode cX9_span 113 = .ok (.invokestatic 273, 3) := by decide +kernel
theorem dX9_span_116 : decode cX9_span 116 = .ok (.istore 7, 2) := by decide +kernel
theorem dX9_span_118 : decode cX9_span 118 = .ok (.iload 8, 2) := by decide +kernel
theorem dX9_span_120 : decode cX9_span 120 = .ok (.iload 11, 2) := by decide +kernel
theorem dX9_span_122 : decode cX9_span 122 = .ok (.invokestatic 276, 3) := by decide +kernel
theorem dX9_span_125 : decode cX9_span 125 = .ok (.istore 8, 2) := by decide +kernel
theorem dX9_span_127 : decode cX9_span 127 = .ok (.iload 9, 2) := by decide +kernel
theorem dX9_span_129 : decode cX9_span 129 = .ok (.aload_n 0, 1) := by decide +kernel
theorem dX9_span_130 : decode cX9_span 130 = .ok (.aload_n 0, 1) := by decide +kernel
theorem dX9_span_131 : decode cX9_span 131 = .ok (.getfield 61, 3) := by decide +kernel
theorem dX9_span_134 : decode cX9_span 134 = .ok (.iload 6, 2) := by decide +kernel
theorem dX9_span_136 : decode cX9_span 136 = .ok (.invokevirtual 298, 3) := by decide +kernel
theorem dX9_span_139 : decode cX9_span 139 = .ok (.ifCond .ne 7, 3) := by decide +kernel
theorem dX9_span_142 : decode cX9_span 142 = .ok (.iconst 1, 1) := by decide +kernel
theorem dX9_span_143 : decode cX9_span 143 = .ok (.goto 4, 3) := by decide +kernel
theorem dX9_span_146 : decode cX9_span 146 = .ok (.iconst 0, 1) := by decide +kernel
theorem dX9_span_147 : decode cX9_span 147 = .ok (.iadd, 1) := by decide +kernel
theorem dX9_span_148 : decode cX9_span 148 = .ok (.istore 9, 2) := by decide +kernel
theorem dX9_span_150 : decode cX9_span 150 = .ok (.iinc 10 1, 3) := by decide +kernel
theorem dX9_span_153 : decode cX9_span 153 = .ok (.goto (-82), 3) := by decide +kernel
theorem dX9_span_156 : decode cX9_span 156 = .ok (.iload 5, 2) := by decide +kernel
theorem dX9_span_158 : decode cX9_span 158 = .ok (.ifCond .ne 8, 3) := by decide +kernel
theorem dX9_span_161 : decode cX9_span 161 = .ok (.iload 7, 2) := by decide +kernel
theorem dX9_span_163 : decode cX9_span 163 = .ok (.goto 16, 3) := by decide +kernel
theorem dX9_span_166 : decode cX9_span 166 = .ok (.iload 5, 2) := by decide +kernel
theorem dX9_span_168 : decode cX9_span 168 = .ok (.iconst 1, 1) := by decide +kernel
theorem dX9_span_169 : decode cX9_span 169 = .ok (.if_icmp .ne 8, 3) := by decide +kernel
theorem dX9_span_172 : decode cX9_span 172 = .ok (.iload 8, 2) := by decide +kernel
theorem dX9_span_174 : decode cX9_span 174 = .ok (.goto 5, 3) := by decide +kernel
theorem dX9_span_177 : decode cX9_span 177 = .ok (.iload 9, 2) := by decide +kernel
theorem dX9_span_179 : decode cX9_span 179 = .ok (.ireturn, 1) := by decide +kernel
theorem dX9_puts_0 : decode cX9_puts 0 = .ok (.iload_n 3, 1) := by decide +kernel
theorem dX9_puts_1 : decode cX9_puts 1 = .ok (.ifCond .ne 10, 3) := by decide +kernel
theorem dX9_puts_4 : decode cX9_puts 4 = .ok (.aload_n 1, 1) := by decide +kernel
theorem dX9_puts_5 : decode cX9_puts 5 = .ok (.aload_n 0, 1) := by decide +kernel
theorem dX9_puts_6 : decode cX9_puts 6 = .ok (.getfield 434, 3) := by decide +kernel
theorem dX9_puts_9 : decode cX9_puts 9 = .ok (.iload_n 2, 1) := by decide +kernel
theorem dX9_puts_10 : decode cX9_puts 10 = .ok (.iastore, 1) := by decide +kernel
theorem dX9_puts_11 : decode cX9_puts 11 = .ok (.aload_n 0, 1) := by decide +kernel
theorem dX9_puts_12 : decode cX9_puts 12 = .ok (.dup, 1) := by decide +kernel
theorem dX9_puts_13 : decode cX9_puts 13 = .ok (.getfield 434, 3) := by decide +kernel
theorem dX9_puts_16 : decode cX9_puts 16 = .ok (.iconst 1, 1) := by decide +kernel
theorem dX9_puts_17 : decode cX9_puts 17 = .ok (.iadd, 1) := by decide +kernel
theorem dX9_puts_18 : decode cX9_puts 18 = .ok (.putfield 434, 3) := by decide +kernel
theorem dX9_puts_21 : decode cX9_puts 21 = .ok (.aload_n 1, 1) := by decide +kernel
theorem dX9_puts_22 : decode cX9_puts 22 = .ok (.aload_n 0, 1) := by decide +kernel
theorem dX9_puts_23 : decode cX9_puts 23 = .ok (.getfield 434, 3) := by decide +kernel
theorem dX9_puts_26 : decode cX9_puts 26 = .ok (.iconst 1, 1) := by decide +kernel
theorem dX9_puts_27 : decode cX9_puts 27 = .ok (.isub, 1) := by decide +kernel
theorem dX9_puts_28 : decode cX9_puts 28 = .ok (.iaload, 1) := by decide +kernel
theorem dX9_puts_29 : decode cX9_puts 29 = .ok (.ireturn, 1) := by decide +kernel
theorem dX9_putsAll_0 : decode cX9_putsAll 0 = .ok (.aload_n 0, 1) := by decide +kernel
theorem dX9_putsAll_1 : decode cX9_putsAll 1 = .ok (.iconst 0, 1) := by decide +kernel
theorem dX9_putsAll_2 : decode cX9_putsAll 2 = .ok (.putfield 434, 3) := by decide +kernel
theorem dX9_putsAll_5 : decode cX9_putsAll 5 = .ok (.aload_n 0, 1) := by decide +kernel
theorem dX9_putsAll_6 : decode cX9_putsAll 6 = .ok (.aload_n 0, 1) := by decide +kernel
theorem dX9_putsAll_7 : decode cX9_putsAll 7 = .ok (.aload_n 1, 1) := by decide +kernel
theorem dX9_putsAll_8 : decode cX9_putsAll 8 = .ok (.aload_n 0, 1) := by decide +kernel
theorem dX9_putsAll_9 : decode cX9_putsAll 9 = .ok (.getfield 236, 3) := by decide +kernel
theorem dX9_putsAll_12 : decode cX9_putsAll 12 = .ok (.iload_n 2, 1) := by decide +kernel
theorem dX9_putsAll_13 : decode cX9_putsAll 13 = .ok (.invokevirtual 437, 3) := by decide +kernel
theorem dX9_putsAll_16 : decode cX9_putsAll 16 = .ok (.putfield 236, 3) := by decide +kernel
theorem dX9_putsAll_19 : decode cX9_putsAll 19 = .ok (.iconst 0, 1) := by decide +kernel
theorem dX9_putsAll_20 : decode cX9_putsAll 20 = .ok (.istore_n 3, 1) := by decide +kernel
theorem dX9_putsAll_21 : decode cX9_putsAll 21 = .ok (.iload_n 3, 1) := by decide +kernel
theorem dX9_putsAll_22 : decode cX9_putsAll 22 = .ok (.bipush 14, 2) := by decide +kernel
theorem dX9_putsAll_24 : decode cX9_putsAll 24 = .ok (.if_icmp .ge 27, 3) := by decide +kernel
theorem dX9_putsAll_27 : decode cX9_putsAll 27 = .ok (.aload_n 0, 1) := by decide +kernel
theorem dX9_putsAll_28 : decode cX9_putsAll 28 = .ok (.getfield 58, 3) := by decide +kernel
theorem dX9_putsAll_31 : decode cX9_putsAll 31 = .ok (.iload_n 3, 1) := by decide +kernel
theorem dX9_putsAll_32 : decode cX9_putsAll 32 = .ok (.aload_n 0, 1) := by decide +kernel
theorem dX9_putsAll_33 : decode cX9_putsAll 33 = .ok (.aload_n 1, 1) := by decide +kernel
theorem dX9_putsAll_34 : decode cX9_putsAll 34 = .ok (.aload_n 0, 1) := by decide +kernel
theorem dX9_putsAll_35 : decode cX9_putsAll 35 = .ok (.getfield 58, 3) := by decide +kernel
theorem dX9_putsAll_38 : decode cX9_putsAll 38 = .ok (.iload_n 3, 1) := by decide +kernel
theorem dX9_putsAll_39 : decode cX9_putsAll 39 = .ok (.iaload, 1) := by decide +kernel
theorem dX9_putsAll_40 : decode cX9_putsAll 40 = .ok (.iload_n 2, 1) := by decide +kernel
theorem dX9_putsAll_41 : decode cX9_putsAll 41 = .ok (.invokevirtual 437, 3) := by decide +kernel
theorem dX9_putsAll_44 : decode cX9_putsAll 44 = .ok (.iastore, 1) := by decide +kernel
theorem dX9_putsAll_45 : decode cX9_putsAll 45 = .ok (.iinc 3 1, 3) := by decide +kernel
theorem dX9_putsAll_48 : decode cX9_putsAll 48 = .ok (.goto (-27), 3) := by decide +kernel
theorem dX9_putsAll_51 : decode cX9_putsAll 51 = .ok (.iconst 0, 1) := by decide +kernel
theorem dX9_putsAll_52 : decode cX9_putsAll 52 = .ok (.istore_n 3, 1) := by decide +kernel
theorem dX9_putsAll_53 : decode cX9_putsAll 53 = .ok (.iload_n 3, 1) := by decide +kernel
theorem dX9_putsAll_54 : decode cX9_putsAll 54 = .ok (.bipush 16, 2) := by decide +kernel
theorem dX9_putsAll_56 : decode cX9_putsAll 56 = .ok (.if_icmp .ge 49, 3) := by decide +kernel
theorem dX9_putsAll_59 : decode cX9_putsAll 59 = .ok (.iconst 0, 1) := by decide +kernel
theorem dX9_putsAll_60 : decode cX9_putsAll 60 = .ok (.istore 4, 2) := by decide +kernel
theorem dX9_putsAll_62 : decode cX9_putsAll 62 = .ok (.iload 4, 2) := by decide +kernel
theorem dX9_putsAll_64 : decode cX9_putsAll 64 = .ok (.bipush 14, 2) := by decide +kernel
theorem dX9_putsAll_66 : decode cX9_putsAll 66 = .ok (.if_icmp .ge 33, 3) := by decide +kernel
theorem dX9_putsAll_69 : decode cX9_putsAll 69 = .ok (.aload_n 0, 1) := by decide +kernel
theorem dX9_putsAll_70 : decode cX9_putsAll 70 = .ok (.getfield 64, 3) := by decide +kernel
theorem dX9_putsAll_73 : decode cX9_putsAll 73 = .ok (.iload_n 3, 1) := by decide +kernel
theorem dX9_putsAll_74 : decode cX9_putsAll 74 = .ok (.aaload, 1) := by decide +kernel
theorem dX9_putsAll_75 : decode cX9_putsAll 75 = .ok (.iload 4, 2) := by decide +kernel
theorem dX9_putsAll_77 : decode cX9_putsAll 77 = .ok (.aload_n 0, 1) := by decide +kernel
theorem dX9_putsAll_78 : decode cX9_putsAll 78 = .ok (.aload_n 1, 1) := by decide +kernel
theorem dX9_putsAll_79 : decode cX9_putsAll 79 = .ok (.aload_n 0, 1) := by decide +kernel
theorem dX9_putsAll_80 : decode cX9_putsAll 80 = .ok (.getfield 64, 3) := by decide +kernel
theorem dX9_putsAll_83 : decode cX9_putsAll 83 = .ok (.iload_n 3, 1) := by decide +kernel
theorem dX9_putsAll_84 : decode cX9_putsAll 84 = .ok (.aaload, 1) := by decide +kernel
theorem dX9_putsAll_85 : decode cX9_putsAll 85 = .ok (.iload 4, 2) := by decide +kernel
theorem dX9_putsAll_87 : decode cX9_putsAll 87 = .ok (.iaload, 1) := by decide +kernel
theorem dX9_putsAll_88 : decode cX9_putsAll 88 = .ok (.iload_n 2, 1) := by decide +kernel
theorem dX9_putsAll_89 : decode cX9_putsAll 89 = .ok (.invokevirtual 437, 3) := by decide +kernel
theorem dX9_putsAll_92 : decode cX9_putsAll 92 = .ok (.iastore, 1) := by decide +kernel
theorem dX9_putsAll_93 : decode cX9_putsAll 93 = .ok (.iinc 4 1, 3) := by decide +kernel
theorem dX9_putsAll_96 : decode cX9_putsAll 96 = .ok (.goto (-34), 3) := by decide +kernel
theorem dX9_putsAll_99 : decode cX9_putsAll 99 = .ok (.iinc 3 1, 3) := by decide +kernel
theorem dX9_putsAll_102 : decode cX9_putsAll 102 = .ok (.goto (-49), 3) := by decide +kernel
theorem dX9_putsAll_105 : decode cX9_putsAll 105 = .ok (.return_, 1) := by decide +kernel
theorem dX9_image_0 : decode cX9_image 0 = .ok (.aload_n 0, 1) := by decide +kernel
theorem dX9_image_1 : decode cX9_image 1 = .ok (.iconst 0, 1) := by decide +kernel
theorem dX9_image_2 : decode cX9_image 2 = .ok (.putfield 128, 3) := by decide +kernel
theorem dX9_image_5 : decode cX9_image 5 = .ok (.aload_n 0, 1) := by decide +kernel
theorem dX9_image_6 : decode cX9_image 6 = .ok (.getfield 242, 3) := by decide +kernel
theorem dX9_image_9 : decode cX9_image 9 = .ok (.iconst 3, 1) := by decide +kernel
theorem dX9_image_10 : decode cX9_image 10 = .ok (.if_icmp .ne 5, 3) := by decide +kernel
theorem dX9_image_13 : decode cX9_image 13 = .ok (.iconst (-1), 1) := by decide +kernel
theorem dX9_image_14 : decode cX9_image 14 = .ok (.ireturn, 1) := by decide +kernel
theorem dX9_image_15 : decode cX9_image 15 = .ok (.aload_n 0, 1) := by decide +kernel
theorem dX9_image_16 : decode cX9_image 16 = .ok (.aload_n 0, 1) := by decide +kernel
theorem dX9_image_17 : decode cX9_image 17 = .ok (.getfield 67, 3) := by decide +kernel
theorem dX9_image_20 : decode cX9_image 20 = .ok (.aload_n 0, 1) := by decide +kernel
theorem dX9_image_21 : decode cX9_image 21 = .ok (.getfield 242, 3) := by decide +kernel
theorem dX9_image_24 : decode cX9_image 24 = .ok (.aaload, 1) := by decide +kernel
theorem dX9_image_25 : decode cX9_image 25 = .ok (.iconst 0, 1) := by decide +kernel
theorem dX9_image_26 : decode cX9_image 26 = .ok (.invokevirtual 441, 3) := by decide +kernel
theorem dX9_image_29 : decode cX9_image 29 = .ok (.aload_n 0, 1) := by decide +kernel
theorem dX9_image_30 : decode cX9_image 30 = .ok (.dup, 1) := by decide +kernel
theorem dX9_image_31 : decode cX9_image 31 = .ok (.getfield 242, 3) := by decide +kernel
theorem dX9_image_34 : decode cX9_image 34 = .ok (.iconst 1, 1) := by decide +kernel
theorem dX9_image_35 : decode cX9_image 35 = .ok (.iadd, 1) := by decide +kernel
theorem dX9_image_36 : decode cX9_image 36 = .ok (.putfield 242, 3) := by decide +kernel
theorem dX9_image_39 : decode cX9_image 39 = .ok (.aload_n 0, 1) := by decide +kernel
theorem dX9_image_40 : decode cX9_image 40 = .ok (.getfield 242, 3) := by decide +kernel
theorem dX9_image_43 : decode cX9_image 43 = .ok (.ireturn, 1) := by decide +kernel
theorem dX9_restore_0 : decode cX9_restore 0 = .ok (.aload_n 0, 1) := by decide +kernel
theorem dX9_restore_1 : decode cX9_restore 1 = .ok (.iconst 0, 1) := by decide +kernel
theorem dX9_restore_2 : decode cX9_restore 2 = .ok (.putfield 128, 3) := by decide +kernel
theorem dX9_restore_5 : decode cX9_restore 5 = .ok (.aload_n 0, 1) := by decide +kernel
theorem dX9_restore_6 : decode cX9_restore 6 = .ok (.getfield 242, 3) := by decide +kernel
theorem dX9_restore_9 : decode cX9_restore 9 = .ok (.ifCond .ne 5, 3) := by decide +kernel
theorem dX9_restore_12 : decode cX9_restore 12 = .ok (.iconst (-1), 1) := by decide +kernel
theorem dX9_restore_13 : decode cX9_restore 13 = .ok (.ireturn, 1) := by decide +kernel
theorem dX9_restore_14 : decode cX9_restore 14 = .ok (.aload_n 0, 1) := by decide +kernel
theorem dX9_restore_15 : decode cX9_restore 15 = .ok (.dup, 1) := by decide +kernel
theorem dX9_restore_16 : decode cX9_restore 16 = .ok (.getfield 242, 3) := by decide +kernel
theorem dX9_restore_19 : decode cX9_restore 19 = .ok (.iconst 1, 1) := by decide +kernel
theorem dX9_restore_20 : decode cX9_restore 20 = .ok (.isub, 1) := by decide +kernel
theorem dX9_restore_21 : decode cX9_restore 21 = .ok (.putfield 242, 3) := by decide +kernel
theorem dX9_restore_24 : decode cX9_restore 24 = .ok (.aload_n 0, 1) := by decide +kernel
theorem dX9_restore_25 : decode cX9_restore 25 = .ok (.aload_n 0, 1) := by decide +kernel
theorem dX9_restore_26 : decode cX9_restore 26 = .ok (.getfield 67, 3) := by decide +kernel
theorem dX9_restore_29 : decode cX9_restore 29 = .ok (.aload_n 0, 1) := by decide +kernel
theorem dX9_restore_30 : decode cX9_restore 30 = .ok (.getfield 242, 3) := by decide +kernel
theorem dX9_restore_33 : decode cX9_restore 33 = .ok (.aaload, 1) := by decide +kernel
theorem dX9_restore_34 : decode cX9_restore 34 = .ok (.iconst 1, 1) := by decide +kernel
theorem dX9_restore_35 : decode cX9_restore 35 = .ok (.invokevirtual 441, 3) := by decide +kernel
theorem dX9_restore_38 : decode cX9_restore 38 = .ok (.aload_n 0, 1) := by decide +kernel
theorem dX9_restore_39 : decode cX9_restore 39 = .ok (.iconst 0, 1) := by decide +kernel
theorem dX9_restore_40 : decode cX9_restore 40 = .ok (.putfield 239, 3) := by decide +kernel
theorem dX9_restore_43 : decode cX9_restore 43 = .ok (.aload_n 0, 1) := by decide +kernel
theorem dX9_restore_44 : decode cX9_restore 44 = .ok (.getfield 242, 3) := by decide +kernel
theorem dX9_restore_47 : decode cX9_restore 47 = .ok (.ireturn, 1) := by decide +kernel
theorem dX9_status_0 : decode cX9_status 0 = .ok (.aload_n 0, 1) := by decide +kernel
theorem dX9_status_1 : decode cX9_status 1 = .ok (.iconst 0, 1) := by decide +kernel
theorem dX9_status_2 : decode cX9_status 2 = .ok (.putfield 128, 3) := by decide +kernel
theorem dX9_status_5 : decode cX9_status 5 = .ok (.iload_n 1, 1) := by decide +kernel
theorem dX9_status_6 : decode cX9_status 6 = .ok (.iconst 0, 1) := by decide +kernel
theorem dX9_status_7 : decode cX9_status 7 = .ok (.iconst 1, 1) := by decide +kernel
theorem dX9_status_8 : decode cX9_status 8 = .ok (.invokestatic 162, 3) := by decide +kernel
theorem dX9_status_11 : decode cX9_status 11 = .ok (.ifCond .eq 12, 3) := by decide +kernel
theorem dX9_status_14 : decode cX9_status 14 = .ok (.aload_n 0, 1) := by decide +kernel
theorem dX9_status_15 : decode cX9_status 15 = .ok (.getfield 17, 3) := by decide +kernel
theorem dX9_status_18 : decode cX9_status 18 = .ok (.iload_n 1, 1) := by decide +kernel
theorem dX9_status_19 : decode cX9_status 19 = .ok (.iaload, 1) := by decide +kernel
theorem dX9_status_20 : decode cX9_status 20 = .ok (.goto 4, 3) := by decide +kernel
theorem dX9_status_23 : decode cX9_status 23 = .ok (.iconst (-1), 1) := by decide +kernel
theorem dX9_status_24 : decode cX9_status 24 = .ok (.ireturn, 1) := by decide +kernel
theorem dX9_count_0 : decode cX9_count 0 = .ok (.aload_n 0, 1) := by decide +kernel
theorem dX9_count_1 : decode cX9_count 1 = .ok (.iconst 0, 1) := by decide +kernel
theorem dX9_count_2 : decode cX9_count 2 = .ok (.putfield 128, 3) := by decide +kernel
theorem dX9_count_5 : decode cX9_count 5 = .ok (.iload_n 1, 1) := by decide +kernel
theorem dX9_count_6 : decode cX9_count 6 = .ok (.ifCond .ne 10, 3) := by decide +kernel
theorem dX9_count_9 : decode cX9_count 9 = .ok (.aload_n 0, 1) := by decide +kernel
theorem dX9_count_10 : decode cX9_count 10 = .ok (.getfield 242, 3) := by decide +kernel
theorem dX9_count_13 : decode cX9_count 13 = .ok (.goto 28, 3) := by decide +kernel
theorem dX9_count_16 : decode cX9_count 16 = .ok (.iload_n 1, 1) := by decide +kernel
theorem dX9_count_17 : decode cX9_count 17 = .ok (.iconst 1, 1) := by decide +kernel
theorem dX9_count_18 : decode cX9_count 18 = .ok (.if_icmp .ne 10, 3) := by decide +kernel
theorem dX9_count_21 : decode cX9_count 21 = .ok (.aload_n 0, 1) := by decide +kernel
theorem dX9_count_22 : decode cX9_count 22 = .ok (.getfield 131, 3) := by decide +kernel
theorem dX9_count_25 : decode cX9_count 25 = .ok (.goto 16, 3) := by decide +kernel
theorem dX9_count_28 : decode cX9_count 28 = .ok (.iload_n 1, 1) := by decide +kernel
theorem dX9_count_29 : decode cX9_count 29 = .ok (.iconst 2, 1) := by decide +kernel
theorem dX9_count_30 : decode cX9_count 30 = .ok (.if_icmp .ne 10, 3) := by decide +kernel
theorem dX9_count_33 : decode cX9_count 33 = .ok (.aload_n 0, 1) := by decide +kernel
theorem dX9_count_34 : decode cX9_count 34 = .ok (.getfield 236, 3) := by decide +kernel
theorem dX9_count_37 : decode cX9_count 37 = .ok (.goto 4, 3) := by decide +kernel
theorem dX9_count_40 : decode cX9_count 40 = .ok (.iconst (-1), 1) := by decide +kernel
theorem dX9_count_41 : decode cX9_count 41 = .ok (.ireturn, 1) := by decide +kernel
theorem dJ6_bitCount_0f7a4_0 : decode cJ6_bitCount_0f7a4 0 = .ok (.iload_n 0, 1) := by decide +kernel
theorem dJ6_bitCount_0f7a4_1 : decode cJ6_bitCount_0f7a4 1 = .ok (.iload_n 0, 1) := by decide +kernel
theorem dJ6_bitCount_0f7a4_2 : decode cJ6_bitCount_0f7a4 2 = .ok (.iconst 1, 1) := by decide +kernel
theorem dJ6_bitCount_0f7a4_3 : decode cJ6_bitCount_0f7a4 3 = .ok (.iushr, 1) := by decide +kernel
theorem dJ6_bitCount_0f7a4_4 : decode cJ6_bitCount_0f7a4 4 = .ok (.ldc_w 265, 3) := by decide +kernel
theorem dJ6_bitCount_0f7a4_7 : decode cJ6_bitCount_0f7a4 7 = .ok (.iand, 1) := by decide +kernel
theorem dJ6_bitCount_0f7a4_8 : decode cJ6_bitCount_0f7a4 8 = .ok (.isub, 1) := by decide +kernel
theorem dJ6_bitCount_0f7a4_9 : decode cJ6_bitCount_0f7a4 9 = .ok (.istore_n 0, 1) := by decide +kernel
theorem dJ6_bitCount_0f7a4_10 : decode cJ6_bitCount_0f7a4 10 = .ok (.iload_n 0, 1) := by decide +kernel
theorem dJ6_bitCount_0f7a4_11 : decode cJ6_bitCount_0f7a4 11 = .ok (.ldc_w 266, 3) := by decide +kernel
theorem dJ6_bitCount_0f7a4_14 : decode cJ6_bitCount_0f7a4 14 = .ok (.iand, 1) := by decide +kernel
theorem dJ6_bitCount_0f7a4_15 : decode cJ6_bitCount_0f7a4 15 = .ok (.iload_n 0, 1) := by decide +kernel
theorem dJ6_bitCount_0f7a4_16 : decode cJ6_bitCount_0f7a4 16 = .ok (.iconst 2, 1) := by decide +kernel
theorem dJ6_bitCount_0f7a4_17 : decode cJ6_bitCount_0f7a4 17 = .ok (.iushr, 1) := by decide +kernel
theorem dJ6_bitCount_0f7a4_18 : decode cJ6_bitCount_0f7a4 18 = .ok (.ldc_w 266, 3) := by decide +kernel
theorem dJ6_bitCount_0f7a4_21 : decode cJ6_bitCount_0f7a4 21 = .ok (.iand, 1) := by decide +kernel
theorem dJ6_bitCount_0f7a4_22 : decode cJ6_bitCount_0f7a4 22 = .ok (.iadd, 1) := by decide +kernel
theorem dJ6_bitCount_0f7a4_23 : decode cJ6_bitCount_0f7a4 23 = .ok (.istore_n 0, 1) := by decide +kernel
theorem dJ6_bitCount_0f7a4_24 : decode cJ6_bitCount_0f7a4 24 = .ok (.iload_n 0, 1) := by decide +kernel
theorem dJ6_bitCount_0f7a4_25 : decode cJ6_bitCount_0f7a4 25 = .ok (.iload_n 0, 1) := by decide +kernel
theorem dJ6_bitCount_0f7a4_26 : decode cJ6_bitCount_0f7a4 26 = .ok (.iconst 4, 1) := by decide +kernel
theorem dJ6_bitCount_0f7a4_27 : decode cJ6_bitCount_0f7a4 27 = .ok (.iushr, 1) := by decide +kernel
theorem dJ6_bitCount_0f7a4_28 : decode cJ6_bitCount_0f7a4 28 = .ok (.iadd, 1) := by decide +kernel
theorem dJ6_bitCount_0f7a4_29 : decode cJ6_bitCount_0f7a4 29 = .ok (.ldc_w 267, 3) := by decide +kernel
theorem dJ6_bitCount_0f7a4_32 : decode cJ6_bitCount_0f7a4 32 = .ok (.iand, 1) := by decide +kernel
theorem dJ6_bitCount_0f7a4_33 : decode cJ6_bitCount_0f7a4 33 = .ok (.istore_n 0, 1) := by decide +kernel
theorem dJ6_bitCount_0f7a4_34 : decode cJ6_bitCount_0f7a4 34 = .ok (.iload_n 0, 1) := by decide +kernel
theorem dJ6_bitCount_0f7a4_35 : decode cJ6_bitCount_0f7a4 35 = .ok (.iload_n 0, 1) := by decide +kernel
theorem dJ6_bitCount_0f7a4_36 : decode cJ6_bitCount_0f7a4 36 = .ok (.bipush 8, 2) := by decide +kernel
theorem dJ6_bitCount_0f7a4_38 : decode cJ6_bitCount_0f7a4 38 = .ok (.iushr, 1) := by decide +kernel
theorem dJ6_bitCount_0f7a4_39 : decode cJ6_bitCount_0f7a4 39 = .ok (.iadd, 1) := by decide +kernel
theorem dJ6_bitCount_0f7a4_40 : decode cJ6_bitCount_0f7a4 40 = .ok (.istore_n 0, 1) := by decide +kernel
theorem dJ6_bitCount_0f7a4_41 : decode cJ6_bitCount_0f7a4 41 = .ok (.iload_n 0, 1) := by decide +kernel
theorem dJ6_bitCount_0f7a4_42 : decode cJ6_bitCount_0f7a4 42 = .ok (.iload_n 0, 1) := by decide +kernel
theorem dJ6_bitCount_0f7a4_43 : decode cJ6_bitCount_0f7a4 43 = .ok (.bipush 16, 2) := by decide +kernel
theorem dJ6_bitCount_0f7a4_45 : decode cJ6_bitCount_0f7a4 45 = .ok (.iushr, 1) := by decide +kernel
theorem dJ6_bitCount_0f7a4_46 : decode cJ6_bitCount_0f7a4 46 = .ok (.iadd, 1) := by decide +kernel
theorem dJ6_bitCount_0f7a4_47 : decode cJ6_bitCount_0f7a4 47 = .ok (.istore_n 0, 1) := by decide +kernel
theorem dJ6_bitCount_0f7a4_48 : decode cJ6_bitCount_0f7a4 48 = .ok (.iload_n 0, 1) := by decide +kernel
theorem dJ6_bitCount_0f7a4_49 : decode cJ6_bitCount_0f7a4 49 = .ok (.bipush 63, 2) := by decide +kernel
theorem dJ6_bitCount_0f7a4_51 : decode cJ6_bitCount_0f7a4 51 = .ok (.iand, 1) := by decide +kernel
theorem dJ6_bitCount_0f7a4_52 : decode cJ6_bitCount_0f7a4 52 = .ok (.ireturn, 1) := by decide +kernel
theorem dJ9_max_7cf53_0 : decode cJ9_max_7cf53 0 = .ok (.iload_n 0, 1) := by decide +kernel
theorem dJ9_max_7cf53_1 : decode cJ9_max_7cf53 1 = .ok (.iload_n 1, 1) := by decide +kernel
theorem dJ9_max_7cf53_2 : decode cJ9_max_7cf53 2 = .ok (.if_icmp .lt 7, 3) := by decide +kernel
theorem dJ9_max_7cf53_5 : decode cJ9_max_7cf53 5 = .ok (.iload_n 0, 1) := by decide +kernel
theorem dJ9_max_7cf53_6 : decode cJ9_max_7cf53 6 = .ok (.goto 4, 3) := by decide +kernel
theorem dJ9_max_7cf53_9 : decode cJ9_max_7cf53 9 = .ok (.iload_n 1, 1) := by decide +kernel
theorem dJ9_max_7cf53_10 : decode cJ9_max_7cf53 10 = .ok (.ireturn, 1) := by decide +kernel
theorem dJ9_min_7cf53_0 : decode cJ9_min_7cf53 0 = .ok (.iload_n 0, 1) := by decide +kernel
theorem dJ9_min_7cf53_1 : decode cJ9_min_7cf53 1 = .ok (.iload_n 1, 1) := by decide +kernel
theorem dJ9_min_7cf53_2 : decode cJ9_min_7cf53 2 = .ok (.if_icmp .gt 7, 3) := by decide +kernel
theorem dJ9_min_7cf53_5 : decode cJ9_min_7cf53 5 = .ok (.iload_n 0, 1) := by decide +kernel
theorem dJ9_min_7cf53_6 : decode cJ9_min_7cf53 6 = .ok (.goto 4, 3) := by decide +kernel
theorem dJ9_min_7cf53_9 : decode cJ9_min_7cf53 9 = .ok (.iload_n 1, 1) := by decide +kernel
theorem dJ9_min_7cf53_10 : decode cJ9_min_7cf53 10 = .ok (.ireturn, 1) := by decide +kernel
theorem dJ0_length_8abf5_0 : decode cJ0_length_8abf5 0 = .ok (.aload_n 0, 1) := by decide +kernel
theorem dJ0_length_8abf5_1 : decode cJ0_length_8abf5 1 = .ok (.getfield 9, 3) := by decide +kernel
theorem dJ0_length_8abf5_4 : decode cJ0_length_8abf5 4 = .ok (.arraylength, 1) := by decide +kernel
theorem dJ0_length_8abf5_5 : decode cJ0_length_8abf5 5 = .ok (.aload_n 0, 1) := by decide +kernel
theorem dJ0_length_8abf5_6 : decode cJ0_length_8abf5 6 = .ok (.invokevirtual 335, 3) := by decide +kernel
theorem dJ0_length_8abf5_9 : decode cJ0_length_8abf5 9 = .ok (.ishr, 1) := by decide +kernel
theorem dJ0_length_8abf5_10 : decode cJ0_length_8abf5 10 = .ok (.ireturn, 1) := by decide +kernel
theorem dJ0_charAt_5068e_0 : decode cJ0_charAt_5068e 0 = .ok (.aload_n 0, 1) := by decide +kernel
theorem dJ0_charAt_5068e_1 : decode cJ0_charAt_5068e 1 = .ok (.invokevirtual 492, 3) := by decide +kernel
theorem dJ0_charAt_5068e_4 : decode cJ0_charAt_5068e 4 = .ok (.ifCond .eq 12, 3) := by decide +kernel
theorem dJ0_charAt_5068e_7 : decode cJ0_charAt_5068e 7 = .ok (.aload_n 0, 1) := by decide +kernel
theorem dJ0_charAt_5068e_8 : decode cJ0_charAt_5068e 8 = .ok (.getfield 9, 3) := by decide +kernel
theorem dJ0_charAt_5068e_11 : decode cJ0_charAt_5068e 11 = .ok (.iload_n 1, 1) := by decide +kernel
theorem dJ0_charAt_5068e_12 : decode cJ0_charAt_5068e 12 = .ok (.invokestatic 495, 3) := by decide +kernel
theorem dJ0_charAt_5068e_15 : decode cJ0_charAt_5068e 15 = .ok (.ireturn, 1) := by decide +kernel
theorem dJ0_charAt_5068e_16 : decode cJ0_charAt_5068e 16 = .ok (.aload_n 0, 1) := by decide +kernel
theorem dJ0_charAt_5068e_17 : decode cJ0_charAt_5068e 17 = .ok (.getfield 9, 3) := by decide +kernel
theorem dJ0_charAt_5068e_20 : decode cJ0_charAt_5068e 20 = .ok (.iload_n 1, 1) := by decide +kernel
theorem dJ0_charAt_5068e_21 : decode cJ0_charAt_5068e 21 = .ok (.invokestatic 498, 3) := by decide +kernel
theorem dJ0_charAt_5068e_24 : decode cJ0_charAt_5068e 24 = .ok (.ireturn, 1) := by decide +kernel
theorem dJ0_coder_7d493_0 : decode cJ0_coder_7d493 0 = .ok (.getstatic 38, 3) := by decide +kernel
theorem dJ0_coder_7d493_3 : decode cJ0_coder_7d493 3 = .ok (.ifCond .eq 10, 3) := by decide +kernel
theorem dJ0_coder_7d493_6 : decode cJ0_coder_7d493 6 = .ok (.aload_n 0, 1) := by decide +kernel
theorem dJ0_coder_7d493_7 : decode cJ0_coder_7d493 7 = .ok (.getfield 15, 3) := by decide +kernel
theorem dJ0_coder_7d493_10 : decode cJ0_coder_7d493 10 = .ok (.goto 4, 3) := by decide +kernel
theorem dJ0_coder_7d493_13 : decode cJ0_coder_7d493 13 = .ok (.iconst 1, 1) := by decide +kernel
theorem dJ0_coder_7d493_14 : decode cJ0_coder_7d493 14 = .ok (.ireturn, 1) := by decide +kernel
theorem dJ0_isLatin1_aae02_0 : decode cJ0_isLatin1_aae02 0 = .ok (.getstatic 38, 3) := by decide +kernel
theorem dJ0_isLatin1_aae02_3 : decode cJ0_isLatin1_aae02 3 = .ok (.ifCond .eq 14, 3) := by decide +kernel
theorem dJ0_isLatin1_aae02_6 : decode cJ0_isLatin1_aae02 6 = .ok (.aload_n 0, 1) := by decide +kernel
theorem dJ0_isLatin1_aae02_7 : decode cJ0_isLatin1_aae02 7 = .ok (.getfield 15, 3) := by decide +kernel
theorem dJ0_isLatin1_aae02_10 : decode cJ0_isLatin1_aae02 10 = .ok (.ifCond .ne 7, 3) := by decide +kernel
theorem dJ0_isLatin1_aae02_13 : decode cJ0_isLatin1_aae02 13 = .ok (.iconst 1, 1) := by decide +kernel
theorem dJ0_isLatin1_aae02_14 : decode cJ0_isLatin1_aae02 14 = .ok (.goto 4, 3) := by decide +kernel
theorem dJ0_isLatin1_aae02_17 : decode cJ0_isLatin1_aae02 17 = .ok (.iconst 0, 1) := by decide +kernel
theorem dJ0_isLatin1_aae02_18 : decode cJ0_isLatin1_aae02 18 = .ok (.ireturn, 1) := by decide +kernel
theorem dJ0_checkIndex_df160_0 : decode cJ0_checkIndex_df160 0 = .ok (.iload_n 0, 1) := by decide +kernel
theorem dJ0_checkIndex_df160_1 : decode cJ0_checkIndex_df160 1 = .ok (.iload_n 1, 1) := by decide +kernel
theorem dJ0_checkIndex_df160_2 : decode cJ0_checkIndex_df160 2 = .ok (.getstatic 1053, 3) := by decide +kernel
theorem dJ0_checkIndex_df160_5 : decode cJ0_checkIndex_df160 5 = .ok (.invokestatic 1059, 3) := by decide +kernel
theorem dJ0_checkIndex_df160_8 : decode cJ0_checkIndex_df160 8 = .ok (.pop, 1) := by decide +kernel
theorem dJ0_checkIndex_df160_9 : decode cJ0_checkIndex_df160 9 = .ok (.return_, 1) := by decide +kernel
theorem dJ1_charAt_3b067_0 : decode cJ1_charAt_3b067 0 = .ok (.iload_n 1, 1) := by decide +kernel
theorem dJ1_charAt_3b067_1 : decode cJ1_charAt_3b067 1 = .ok (.aload_n 0, 1) := by decide +kernel
theorem dJ1_charAt_3b067_2 : decode cJ1_charAt_3b067 2 = .ok (.arraylength, 1) := by decide +kernel
theorem dJ1_charAt_3b067_3 : decode cJ1_charAt_3b067 3 = .ok (.invokestatic 9, 3) := by decide +kernel
theorem dJ1_charAt_3b067_6 : decode cJ1_charAt_3b067 6 = .ok (.aload_n 0, 1) := by decide +kernel
theorem dJ1_charAt_3b067_7 : decode cJ1_charAt_3b067 7 = .ok (.iload_n 1, 1) := by decide +kernel
theorem dJ1_charAt_3b067_8 : decode cJ1_charAt_3b067 8 = .ok (.baload, 1) := by decide +kernel
theorem dJ1_charAt_3b067_9 : decode cJ1_charAt_3b067 9 = .ok (.sipush 255, 3) := by decide +kernel
theorem dJ1_charAt_3b067_12 : decode cJ1_charAt_3b067 12 = .ok (.iand, 1) := by decide +kernel
theorem dJ1_charAt_3b067_13 : decode cJ1_charAt_3b067 13 = .ok (.i2c, 1) := by decide +kernel
theorem dJ1_charAt_3b067_14 : decode cJ1_charAt_3b067 14 = .ok (.ireturn, 1) := by decide +kernel
theorem dJ2_getChar_3b067_0 : decode cJ2_getChar_3b067 0 = .ok (.getstatic 44, 3) := by decide +kernel
theorem dJ2_getChar_3b067_3 : decode cJ2_getChar_3b067 3 = .ok (.ifCond .ne 25, 3) := by decide +kernel
theorem dJ2_getChar_3b067_6 : decode cJ2_getChar_3b067 6 = .ok (.iload_n 1, 1) := by decide +kernel
theorem dJ2_getChar_3b067_7 : decode cJ2_getChar_3b067 7 = .ok (.ifCond .lt 11, 3) := by decide +kernel
theorem dJ2_getChar_3b067_10 : decode cJ2_getChar_3b067 10 = .ok (.iload_n 1, 1) := by decide +kernel
theorem dJ2_getChar_3b067_11 : decode cJ2_getChar_3b067 11 = .ok (.aload_n 0, 1) := by decide +kernel
theorem dJ2_getChar_3b067_12 : decode cJ2_getChar_3b067 12 = .ok (.invokestatic 48, 3) := by decide +kernel
theorem dJ2_getChar_3b067_15 : decode cJ2_getChar_3b067 15 = .ok (.if_icmp .lt 13, 3) := by decide +kernel
theorem dJ2_getChar_3b067_18 : decode cJ2_getChar_3b067 18 = .ok (.new 52, 3) := by decide +kernel
theorem dJ2_getChar_3b067_21 : decode cJ2_getChar_3b067 21 = .ok (.dup, 1) := by decide +kernel
theorem dJ2_getChar_3b067_22 : decode cJ2_getChar_3b067 22 = .ok (.ldc 54, 2) := by decide +kernel
theorem dJ2_getChar_3b067_24 : decode cJ2_getChar_3b067 24 = .ok (.invokespecial 56, 3) := by decide +kernel
theorem dJ2_getChar_3b067_27 : decode cJ2_getChar_3b067 27 = .ok (.athrow, 1) := by decide +kernel
theorem dJ2_getChar_3b067_28 : decode cJ2_getChar_3b067 28 = .ok (.iload_n 1, 1) := by decide +kernel
theorem dJ2_getChar_3b067_29 : decode cJ2_getChar_3b067 29 = .ok (.iconst 1, 1) := by decide +kernel
theorem dJ2_getChar_3b067_30 : decode cJ2_getChar_3b067 30 = .ok (.ishl, 1) := by decide +kernel
theorem dJ2_getChar_3b067_31 : decode cJ2_getChar_3b067 31 = .ok (.istore_n 1, 1) := by decide +kernel
theorem dJ2_getChar_3b067_32 : decode cJ2_getChar_3b067 32 = .ok (.aload_n 0, 1) := by decide +kernel
theorem dJ2_getChar_3b067_33 : decode cJ2_getChar_3b067 33 = .ok (.iload_n 1, 1) := by decide +kernel
theorem dJ2_getChar_3b067_34 : decode cJ2_getChar_3b067 34 = .ok (.iinc 1 1, 3) := by decide +kernel
theorem dJ2_getChar_3b067_37 : decode cJ2_getChar_3b067 37 = .ok (.baload, 1) := by decide +kernel
theorem dJ2_getChar_3b067_38 : decode cJ2_getChar_3b067 38 = .ok (.sipush 255, 3) := by decide +kernel
theorem dJ2_getChar_3b067_41 : decode cJ2_getChar_3b067 41 = .ok (.iand, 1) := by decide +kernel
theorem dJ2_getChar_3b067_42 : decode cJ2_getChar_3b067 42 = .ok (.getstatic 59, 3) := by decide +kernel
theorem dJ2_getChar_3b067_45 : decode cJ2_getChar_3b067 45 = .ok (.ishl, 1) := by decide +kernel
theorem dJ2_getChar_3b067_46 : decode cJ2_getChar_3b067 46 = .ok (.aload_n 0, 1) := by decide +kernel
theorem dJ2_getChar_3b067_47 : decode cJ2_getChar_3b067 47 = .ok (.iload_n 1, 1) := by decide +kernel
theorem dJ2_getChar_3b067_48 : decode cJ2_getChar_3b067 48 = .ok (.baload, 1) := by decide +kernel
theorem dJ2_getChar_3b067_49 : decode cJ2_getChar_3b067 49 = .ok (.sipush 255, 3) := by decide +kernel
theorem dJ2_getChar_3b067_52 : decode cJ2_getChar_3b067 52 = .ok (.iand, 1) := by decide +kernel
theorem dJ2_getChar_3b067_53 : decode cJ2_getChar_3b067 53 = .ok (.getstatic 63, 3) := by decide +kernel
theorem dJ2_getChar_3b067_56 : decode cJ2_getChar_3b067 56 = .ok (.ishl, 1) := by decide +kernel
theorem dJ2_getChar_3b067_57 : decode cJ2_getChar_3b067 57 = .ok (.ior, 1) := by decide +kernel
theorem dJ2_getChar_3b067_58 : decode cJ2_getChar_3b067 58 = .ok (.i2c, 1) := by decide +kernel
theorem dJ2_getChar_3b067_59 : decode cJ2_getChar_3b067 59 = .ok (.ireturn, 1) := by decide +kernel
theorem dJ2_length_9d52b_0 : decode cJ2_length_9d52b 0 = .ok (.aload_n 0, 1) := by decide +kernel
theorem dJ2_length_9d52b_1 : decode cJ2_length_9d52b 1 = .ok (.arraylength, 1) := by decide +kernel
theorem dJ2_length_9d52b_2 : decode cJ2_length_9d52b 2 = .ok (.iconst 1, 1) := by decide +kernel
theorem dJ2_length_9d52b_3 : decode cJ2_length_9d52b 3 = .ok (.ishr, 1) := by decide +kernel
theorem dJ2_length_9d52b_4 : decode cJ2_length_9d52b 4 = .ok (.ireturn, 1) := by decide +kernel
theorem dJ2_charAt_3b067_0 : decode cJ2_charAt_3b067 0 = .ok (.iload_n 1, 1) := by decide +kernel
theorem dJ2_charAt_3b067_1 : decode cJ2_charAt_3b067 1 = .ok (.aload_n 0, 1) := by decide +kernel
theorem dJ2_charAt_3b067_2 : decode cJ2_charAt_3b067 2 = .ok (.invokestatic 67, 3) := by decide +kernel
theorem dJ2_charAt_3b067_5 : decode cJ2_charAt_3b067 5 = .ok (.aload_n 0, 1) := by decide +kernel
theorem dJ2_charAt_3b067_6 : decode cJ2_charAt_3b067 6 = .ok (.iload_n 1, 1) := by decide +kernel
theorem dJ2_charAt_3b067_7 : decode cJ2_charAt_3b067 7 = .ok (.invokestatic 71, 3) := by decide +kernel
theorem dJ2_charAt_3b067_10 : decode cJ2_charAt_3b067 10 = .ok (.ireturn, 1) := by decide +kernel
theorem dJ2_checkIndex_2214a_0 : decode cJ2_checkIndex_2214a 0 = .ok (.iload_n 0, 1) := by decide +kernel
theorem dJ2_checkIndex_2214a_1 : decode cJ2_checkIndex_2214a 1 = .ok (.aload_n 1, 1) := by decide +kernel
theorem dJ2_checkIndex_2214a_2 : decode cJ2_checkIndex_2214a 2 = .ok (.invokestatic 48, 3) := by decide +kernel
theorem dJ2_checkIndex_2214a_5 : decode cJ2_checkIndex_2214a 5 = .ok (.invokestatic 414, 3) := by decide +kernel
theorem dJ2_checkIndex_2214a_8 : decode cJ2_checkIndex_2214a 8 = .ok (.return_, 1) := by decide +kernel
theorem dJ3_checkIndex_8e157_0 : decode cJ3_checkIndex_8e157 0 = .ok (.iload_n 0, 1) := by decide +kernel
theorem dJ3_checkIndex_8e157_1 : decode cJ3_checkIndex_8e157 1 = .ok (.ifCond .lt 8, 3) := by decide +kernel
theorem dJ3_checkIndex_8e157_4 : decode cJ3_checkIndex_8e157 4 = .ok (.iload_n 0, 1) := by decide +kernel
theorem dJ3_checkIndex_8e157_5 : decode cJ3_checkIndex_8e157 5 = .ok (.iload_n 1, 1) := by decide +kernel
theorem dJ3_checkIndex_8e157_6 : decode cJ3_checkIndex_8e157 6 = .ok (.if_icmp .lt 10, 3) := by decide +kernel
theorem dJ3_checkIndex_8e157_9 : decode cJ3_checkIndex_8e157 9 = .ok (.aload_n 2, 1) := by decide +kernel
theorem dJ3_checkIndex_8e157_10 : decode cJ3_checkIndex_8e157 10 = .ok (.iload_n 0, 1) := by decide +kernel
theorem dJ3_checkIndex_8e157_11 : decode cJ3_checkIndex_8e157 11 = .ok (.iload_n 1, 1) := by decide +kernel
theorem dJ3_checkIndex_8e157_12 : decode cJ3_checkIndex_8e157 12 = .ok (.invokestatic 95, 3) := by decide +kernel
theorem dJ3_checkIndex_8e157_15 : decode cJ3_checkIndex_8e157 15 = .ok (.athrow, 1) := by decide +kernel
theorem dJ3_checkIndex_8e157_16 : decode cJ3_checkIndex_8e157 16 = .ok (.iload_n 0, 1) := by decide +kernel
theorem dJ3_checkIndex_8e157_17 : decode cJ3_checkIndex_8e157 17 = .ok (.ireturn, 1) := by decide +kernel
theorem dL_page_0 : decode cL_page 0 = .ok (.aload_n 2, 1) := by decide +kernel
theorem dL_page_1 : decode cL_page 1 = .ok (.iconst 0, 1) := by decide +kernel
theorem dL_page_2 : decode cL_page 2 = .ok (.aload_n 0, 1) := by decide +kernel
theorem dL_page_3 : decode cL_page 3 = .ok (.iload_n 1, 1) := by decide +kernel
theorem dL_page_4 : decode cL_page 4 = .ok (.invokevirtual 7, 3) := by decide +kernel
theorem dL_page_7 : decode cL_page 7 = .ok (.i2l, 1) := by decide +kernel
theorem dL_page_8 : decode cL_page 8 = .ok (.lastore, 1) := by decide +kernel
theorem dL_page_9 : decode cL_page 9 = .ok (.goto 6, 3) := by decide +kernel
theorem dL_page_12 : decode cL_page 12 = .ok (.astore_n 3, 1) := by decide +kernel
theorem dL_page_13 : decode cL_page 13 = .ok (.iconst 1, 1) := by decide +kernel
theorem dL_page_14 : decode cL_page 14 = .ok (.ireturn, 1) := by decide +kernel
theorem dL_page_15 : decode cL_page 15 = .ok (.iconst 0, 1) := by decide +kernel
theorem dL_page_16 : decode cL_page 16 = .ok (.ireturn, 1) := by decide +kernel
theorem dL_law_0 : decode cL_law 0 = .ok (.aload_n 2, 1) := by decide +kernel
theorem dL_law_1 : decode cL_law 1 = .ok (.iconst 0, 1) := by decide +kernel
theorem dL_law_2 : decode cL_law 2 = .ok (.aload_n 0, 1) := by decide +kernel
theorem dL_law_3 : decode cL_law 3 = .ok (.iload_n 1, 1) := by decide +kernel
theorem dL_law_4 : decode cL_law 4 = .ok (.invokevirtual 15, 3) := by decide +kernel
theorem dL_law_7 : decode cL_law 7 = .ok (.i2l, 1) := by decide +kernel
theorem dL_law_8 : decode cL_law 8 = .ok (.lastore, 1) := by decide +kernel
theorem dL_law_9 : decode cL_law 9 = .ok (.goto 6, 3) := by decide +kernel
theorem dL_law_12 : decode cL_law 12 = .ok (.astore_n 3, 1) := by decide +kernel
theorem dL_law_13 : decode cL_law 13 = .ok (.iconst 1, 1) := by decide +kernel
theorem dL_law_14 : decode cL_law 14 = .ok (.ireturn, 1) := by decide +kernel
theorem dL_law_15 : decode cL_law 15 = .ok (.iconst 0, 1) := by decide +kernel
theorem dL_law_16 : decode cL_law 16 = .ok (.ireturn, 1) := by decide +kernel
theorem dL_work_0 : decode cL_work 0 = .ok (.aload_n 2, 1) := by decide +kernel
theorem dL_work_1 : decode cL_work 1 = .ok (.iconst 0, 1) := by decide +kernel
theorem dL_work_2 : decode cL_work 2 = .ok (.aload_n 0, 1) := by decide +kernel
theorem dL_work_3 : decode cL_work 3 = .ok (.iload_n 1, 1) := by decide +kernel
theorem dL_work_4 : decode cL_work 4 = .ok (.invokevirtual 18, 3) := by decide +kernel
theorem dL_work_7 : decode cL_work 7 = .ok (.i2l, 1) := by decide +kernel
theorem dL_work_8 : decode cL_work 8 = .ok (.lastore, 1) := by decide +kernel
theorem dL_work_9 : decode cL_work 9 = .ok (.goto 6, 3) := by decide +kernel
theorem dL_work_12 : decode cL_work 12 = .ok (.astore_n 3, 1) := by decide +kernel
theorem dL_work_13 : decode cL_work 13 = .ok (.iconst 1, 1) := by decide +kernel
theorem dL_work_14 : decode cL_work 14 = .ok (.ireturn, 1) := by decide +kernel
theorem dL_work_15 : decode cL_work 15 = .ok (.iconst 0, 1) := by decide +kernel
theorem dL_work_16 : decode cL_work 16 = .ok (.ireturn, 1) := by decide +kernel
theorem dL_sentence_0 : decode cL_sentence 0 = .ok (.aload_n 2, 1) := by decide +kernel
theorem dL_sentence_1 : decode cL_sentence 1 = .ok (.iconst 0, 1) := by decide +kernel
theorem dL_sentence_2 : decode cL_sentence 2 = .ok (.aload_n 0, 1) := by decide +kernel
theorem dL_sentence_3 : decode cL_sentence 3 = .ok (.iload_n 1, 1) := by decide +kernel
theorem dL_sentence_4 : decode cL_sentence 4 = .ok (.invokevirtual 21, 3) := by decide +kernel
theorem dL_sentence_7 : decode cL_sentence 7 = .ok (.i2l, 1) := by decide +kernel
theorem dL_sentence_8 : decode cL_sentence 8 = .ok (.lastore, 1) := by decide +kernel
theorem dL_sentence_9 : decode cL_sentence 9 = .ok (.goto 6, 3) := by decide +kernel
theorem dL_sentence_12 : decode cL_sentence 12 = .ok (.astore_n 3, 1) := by decide +kernel
theorem dL_sentence_13 : decode cL_sentence 13 = .ok (.iconst 1, 1) := by decide +kernel
theorem dL_sentence_14 : decode cL_sentence 14 = .ok (.ireturn, 1) := by decide +kernel
theorem dL_sentence_15 : decode cL_sentence 15 = .ok (.iconst 0, 1) := by decide +kernel
theorem dL_sentence_16 : decode cL_sentence 16 = .ok (.ireturn, 1) := by decide +kernel
theorem dL_told_0 : decode cL_told 0 = .ok (.aload_n 2, 1) := by decide +kernel
theorem dL_told_1 : decode cL_told 1 = .ok (.iconst 0, 1) := by decide +kernel
theorem dL_told_2 : decode cL_told 2 = .ok (.aload_n 0, 1) := by decide +kernel
theorem dL_told_3 : decode cL_told 3 = .ok (.iload_n 1, 1) := by decide +kernel
theorem dL_told_4 : decode cL_told 4 = .ok (.invokevirtual 24, 3) := by decide +kernel
theorem dL_told_7 : decode cL_told 7 = .ok (.i2l, 1) := by decide +kernel
theorem dL_told_8 : decode cL_told 8 = .ok (.lastore, 1) := by decide +kernel
theorem dL_told_9 : decode cL_told 9 = .ok (.goto 6, 3) := by decide +kernel
theorem dL_told_12 : decode cL_told 12 = .ok (.astore_n 3, 1) := by decide +kernel
theorem dL_told_13 : decode cL_told 13 = .ok (.iconst 1, 1) := by decide +kernel
theorem dL_told_14 : decode cL_told 14 = .ok (.ireturn, 1) := by decide +kernel
theorem dL_told_15 : decode cL_told 15 = .ok (.iconst 0, 1) := by decide +kernel
theorem dL_told_16 : decode cL_told 16 = .ok (.ireturn, 1) := by decide +kernel
theorem dL_line_0 : decode cL_line 0 = .ok (.aload_n 3, 1) := by decide +kernel
theorem dL_line_1 : decode cL_line 1 = .ok (.iconst 0, 1) := by decide +kernel
theorem dL_line_2 : decode cL_line 2 = .ok (.aload_n 0, 1) := by decide +kernel
theorem dL_line_3 : decode cL_line 3 = .ok (.iload_n 1, 1) := by decide +kernel
theorem dL_line_4 : decode cL_line 4 = .ok (.iload_n 2, 1) := by decide +kernel
theorem dL_line_5 : decode cL_line 5 = .ok (.invokevirtual 27, 3) := by decide +kernel
theorem dL_line_8 : decode cL_line 8 = .ok (.i2l, 1) := by decide +kernel
theorem dL_line_9 : decode cL_line 9 = .ok (.lastore, 1) := by decide +kernel
theorem dL_line_10 : decode cL_line 10 = .ok (.goto 11, 3) := by decide +kernel
theorem dL_line_13 : decode cL_line 13 = .ok (.astore 4, 2) := by decide +kernel
theorem dL_line_15 : decode cL_line 15 = .ok (.iconst 1, 1) := by decide +kernel
theorem dL_line_16 : decode cL_line 16 = .ok (.ireturn, 1) := by decide +kernel
theorem dL_line_17 : decode cL_line 17 = .ok (.astore 4, 2) := by decide +kernel
theorem dL_line_19 : decode cL_line 19 = .ok (.iconst 2, 1) := by decide +kernel
theorem dL_line_20 : decode cL_line 20 = .ok (.ireturn, 1) := by decide +kernel
theorem dL_line_21 : decode cL_line 21 = .ok (.iconst 0, 1) := by decide +kernel
theorem dL_line_22 : decode cL_line 22 = .ok (.ireturn, 1) := by decide +kernel
theorem dL_word_0 : decode cL_word 0 = .ok (.aload 4, 2) := by decide +kernel
theorem dL_word_2 : decode cL_word 2 = .ok (.iconst 0, 1) := by decide +kernel
theorem dL_word_3 : decode cL_word 3 = .ok (.aload_n 0, 1) := by decide +kernel
theorem dL_word_4 : decode cL_word 4 = .ok (.iload_n 1, 1) := by decide +kernel
theorem dL_word_5 : decode cL_word 5 = .ok (.iload_n 2, 1) := by decide +kernel
theorem dL_word_6 : decode cL_word 6 = .ok (.iload_n 3, 1) := by decide +kernel
theorem dL_word_7 : decode cL_word 7 = .ok (.invokevirtual 33, 3) := by decide +kernel
theorem dL_word_10 : decode cL_word 10 = .ok (.i2l, 1) := by decide +kernel
theorem dL_word_11 : decode cL_word 11 = .ok (.lastore, 1) := by decide +kernel
theorem dL_word_12 : decode cL_word 12 = .ok (.goto 11, 3) := by decide +kernel
theorem dL_word_15 : decode cL_word 15 = .ok (.astore 5, 2) := by decide +kernel
theorem dL_word_17 : decode cL_word 17 = .ok (.iconst 1, 1) := by decide +kernel
theorem dL_word_18 : decode cL_word 18 = .ok (.ireturn, 1) := by decide +kernel
theorem dL_word_19 : decode cL_word 19 = .ok (.astore 5, 2) := by decide +kernel
theorem dL_word_21 : decode cL_word 21 = .ok (.iconst 2, 1) := by decide +kernel
theorem dL_word_22 : decode cL_word 22 = .ok (.ireturn, 1) := by decide +kernel
theorem dL_word_23 : decode cL_word 23 = .ok (.iconst 0, 1) := by decide +kernel
theorem dL_word_24 : decode cL_word 24 = .ok (.ireturn, 1) := by decide +kernel
theorem dL_reads_0 : decode cL_reads 0 = .ok (.aload_n 2, 1) := by decide +kernel
theorem dL_reads_1 : decode cL_reads 1 = .ok (.iconst 0, 1) := by decide +kernel
theorem dL_reads_2 : decode cL_reads 2 = .ok (.aload_n 0, 1) := by decide +kernel
theorem dL_reads_3 : decode cL_reads 3 = .ok (.iload_n 1, 1) := by decide +kernel
theorem dL_reads_4 : decode cL_reads 4 = .ok (.invokevirtual 37, 3) := by decide +kernel
theorem dL_reads_7 : decode cL_reads 7 = .ok (.i2l, 1) := by decide +kernel
theorem dL_reads_8 : decode cL_reads 8 = .ok (.lastore, 1) := by decide +kernel
theorem dL_reads_9 : decode cL_reads 9 = .ok (.goto 6, 3) := by decide +kernel
theorem dL_reads_12 : decode cL_reads 12 = .ok (.astore_n 3, 1) := by decide +kernel
theorem dL_reads_13 : decode cL_reads 13 = .ok (.iconst 1, 1) := by decide +kernel
theorem dL_reads_14 : decode cL_reads 14 = .ok (.ireturn, 1) := by decide +kernel
theorem dL_reads_15 : decode cL_reads 15 = .ok (.iconst 0, 1) := by decide +kernel
theorem dL_reads_16 : decode cL_reads 16 = .ok (.ireturn, 1) := by decide +kernel
theorem dL_cell_0 : decode cL_cell 0 = .ok (.aload_n 2, 1) := by decide +kernel
theorem dL_cell_1 : decode cL_cell 1 = .ok (.iconst 0, 1) := by decide +kernel
theorem dL_cell_2 : decode cL_cell 2 = .ok (.aload_n 0, 1) := by decide +kernel
theorem dL_cell_3 : decode cL_cell 3 = .ok (.iload_n 1, 1) := by decide +kernel
theorem dL_cell_4 : decode cL_cell 4 = .ok (.invokevirtual 40, 3) := by decide +kernel
theorem dL_cell_7 : decode cL_cell 7 = .ok (.i2l, 1) := by decide +kernel
theorem dL_cell_8 : decode cL_cell 8 = .ok (.lastore, 1) := by decide +kernel
theorem dL_cell_9 : decode cL_cell 9 = .ok (.goto 6, 3) := by decide +kernel
theorem dL_cell_12 : decode cL_cell 12 = .ok (.astore_n 3, 1) := by decide +kernel
theorem dL_cell_13 : decode cL_cell 13 = .ok (.iconst 1, 1) := by decide +kernel
theorem dL_cell_14 : decode cL_cell 14 = .ok (.ireturn, 1) := by decide +kernel
theorem dL_cell_15 : decode cL_cell 15 = .ok (.iconst 0, 1) := by decide +kernel
theorem dL_cell_16 : decode cL_cell 16 = .ok (.ireturn, 1) := by decide +kernel
theorem dL_cost_0 : decode cL_cost 0 = .ok (.aload 4, 2) := by decide +kernel
theorem dL_cost_2 : decode cL_cost 2 = .ok (.iconst 0, 1) := by decide +kernel
theorem dL_cost_3 : decode cL_cost 3 = .ok (.aload_n 0, 1) := by decide +kernel
theorem dL_cost_4 : decode cL_cost 4 = .ok (.iload_n 1, 1) := by decide +kernel
theorem dL_cost_5 : decode cL_cost 5 = .ok (.iload_n 2, 1) := by decide +kernel
theorem dL_cost_6 : decode cL_cost 6 = .ok (.iload_n 3, 1) := by decide +kernel
theorem dL_cost_7 : decode cL_cost 7 = .ok (.invokevirtual 43, 3) := by decide +kernel
theorem dL_cost_10 : decode cL_cost 10 = .ok (.i2l, 1) := by decide +kernel
theorem dL_cost_11 : decode cL_cost 11 = .ok (.lastore, 1) := by decide +kernel
theorem dL_cost_12 : decode cL_cost 12 = .ok (.goto 11, 3) := by decide +kernel
theorem dL_cost_15 : decode cL_cost 15 = .ok (.astore 5, 2) := by decide +kernel
theorem dL_cost_17 : decode cL_cost 17 = .ok (.iconst 1, 1) := by decide +kernel
theorem dL_cost_18 : decode cL_cost 18 = .ok (.ireturn, 1) := by decide +kernel
theorem dL_cost_19 : decode cL_cost 19 = .ok (.astore 5, 2) := by decide +kernel
theorem dL_cost_21 : decode cL_cost 21 = .ok (.iconst 2, 1) := by decide +kernel
theorem dL_cost_22 : decode cL_cost 22 = .ok (.ireturn, 1) := by decide +kernel
theorem dL_cost_23 : decode cL_cost 23 = .ok (.iconst 0, 1) := by decide +kernel
theorem dL_cost_24 : decode cL_cost 24 = .ok (.ireturn, 1) := by decide +kernel
theorem dL_would_0 : decode cL_would 0 = .ok (.aload 8, 2) := by decide +kernel
theorem dL_would_2 : decode cL_would 2 = .ok (.iconst 0, 1) := by decide +kernel
theorem dL_would_3 : decode cL_would 3 = .ok (.aload_n 0, 1) := by decide +kernel
theorem dL_would_4 : decode cL_would 4 = .ok (.iload_n 1, 1) := by decide +kernel
theorem dL_would_5 : decode cL_would 5 = .ok (.iload_n 2, 1) := by decide +kernel
theorem dL_would_6 : decode cL_would 6 = .ok (.iload_n 3, 1) := by decide +kernel
theorem dL_would_7 : decode cL_would 7 = .ok (.iload 4, 2) := by decide +kernel
theorem dL_would_9 : decode cL_would 9 = .ok (.iload 5, 2) := by decide +kernel
theorem dL_would_11 : decode cL_would 11 = .ok (.iload 6, 2) := by decide +kernel
theorem dL_would_13 : decode cL_would 13 = .ok (.iload 7, 2) := by decide +kernel
theorem dL_would_15 : decode cL_would 15 = .ok (.invokevirtual 46, 3) := by decide +kernel
theorem dL_would_18 : decode cL_would 18 = .ok (.i2l, 1) := by decide +kernel
theorem dL_would_19 : decode cL_would 19 = .ok (.lastore, 1) := by decide +kernel
theorem dL_would_20 : decode cL_would 20 = .ok (.goto 7, 3) := by decide +kernel
theorem dL_would_23 : decode cL_would 23 = .ok (.astore 9, 2) := by decide +kernel
theorem dL_would_25 : decode cL_would 25 = .ok (.iconst 1, 1) := by decide +kernel
theorem dL_would_26 : decode cL_would 26 = .ok (.ireturn, 1) := by decide +kernel
theorem dL_would_27 : decode cL_would 27 = .ok (.iconst 0, 1) := by decide +kernel
theorem dL_would_28 : decode cL_would 28 = .ok (.ireturn, 1) := by decide +kernel
theorem dL_ahead_0 : decode cL_ahead 0 = .ok (.aload_n 3, 1) := by decide +kernel
theorem dL_ahead_1 : decode cL_ahead 1 = .ok (.iconst 0, 1) := by decide +kernel
theorem dL_ahead_2 : decode cL_ahead 2 = .ok (.aload_n 0, 1) := by decide +kernel
theorem dL_ahead_3 : decode cL_ahead 3 = .ok (.iload_n 1, 1) := by decide +kernel
theorem dL_ahead_4 : decode cL_ahead 4 = .ok (.iload_n 2, 1) := by decide +kernel
theorem dL_ahead_5 : decode cL_ahead 5 = .ok (.invokevirtual 50, 3) := by decide +kernel
theorem dL_ahead_8 : decode cL_ahead 8 = .ok (.i2l, 1) := by decide +kernel
theorem dL_ahead_9 : decode cL_ahead 9 = .ok (.lastore, 1) := by decide +kernel
theorem dL_ahead_10 : decode cL_ahead 10 = .ok (.goto 7, 3) := by decide +kernel
theorem dL_ahead_13 : decode cL_ahead 13 = .ok (.astore 4, 2) := by decide +kernel
theorem dL_ahead_15 : decode cL_ahead 15 = .ok (.iconst 1, 1) := by decide +kernel
theorem dL_ahead_16 : decode cL_ahead 16 = .ok (.ireturn, 1) := by decide +kernel
theorem dL_ahead_17 : decode cL_ahead 17 = .ok (.iconst 0, 1) := by decide +kernel
