theorem dX9_ways_0 : decode cX9_ways 0 = .ok (.aload_n 0, 1) := by decide +kernel
theorem dX9_ways_1 : decode cX9_ways 1 = .ok (.iconst 0, 1) := by decide +kernel
theorem dX9_ways_2 : decode cX9_ways 2 = .ok (.putfield 128, 3) := by decide +kernel
theorem dX9_ways_5 : decode cX9_ways 5 = .ok (.aload_n 0, 1) := by decide +kernel
theorem dX9_ways_6 : decode cX9_ways 6 = .ok (.invokevirtual 380, 3) := by decide +kernel
theorem dX9_ways_9 : decode cX9_ways 9 = .ok (.istore_n 1, 1) := by decide +kernel
theorem dX9_ways_10 : decode cX9_ways 10 = .ok (.iconst 0, 1) := by decide +kernel
theorem dX9_ways_11 : decode cX9_ways 11 = .ok (.istore_n 2, 1) := by decide +kernel
theorem dX9_ways_12 : decode cX9_ways 12 = .ok (.iload_n 2, 1) := by decide +kernel
theorem dX9_ways_13 : decode cX9_ways 13 = .ok (.bipush 12, 2) := by decide +kernel
theorem dX9_ways_15 : decode cX9_ways 15 = .ok (.if_icmp .gt 24, 3) := by decide +kernel
theorem dX9_ways_18 : decode cX9_ways 18 = .ok (.aload_n 0, 1) := by decide +kernel
theorem dX9_ways_19 : decode cX9_ways 19 = .ok (.getfield 92, 3) := by decide +kernel
theorem dX9_ways_22 : decode cX9_ways 22 = .ok (.iload_n 2, 1) := by decide +kernel
theorem dX9_ways_23 : decode cX9_ways 23 = .ok (.iload_n 2, 1) := by decide +kernel
theorem dX9_ways_24 : decode cX9_ways 24 = .ok (.ifCond .ne 7, 3) := by decide +kernel
theorem dX9_ways_27 : decode cX9_ways 27 = .ok (.lconst 1, 1) := by decide +kernel
theorem dX9_ways_28 : decode cX9_ways 28 = .ok (.goto 4, 3) := by decide +kernel
theorem dX9_ways_31 : decode cX9_ways 31 = .ok (.lconst 0, 1) := by decide +kernel
theorem dX9_ways_32 : decode cX9_ways 32 = .ok (.lastore, 1) := by decide +kernel
theorem dX9_ways_33 : decode cX9_ways 33 = .ok (.iinc 2 1, 3) := by decide +kernel
theorem dX9_ways_36 : decode cX9_ways 36 = .ok (.goto (-24), 3) := by decide +kernel
theorem dX9_ways_39 : decode cX9_ways 39 = .ok (.iconst 0, 1) := by decide +kernel
theorem dX9_ways_40 : decode cX9_ways 40 = .ok (.istore_n 2, 1) := by decide +kernel
theorem dX9_ways_41 : decode cX9_ways 41 = .ok (.iload_n 2, 1) := by decide +kernel
theorem dX9_ways_42 : decode cX9_ways 42 = .ok (.iload_n 1, 1) := by decide +kernel
theorem dX9_ways_43 : decode cX9_ways 43 = .ok (.if_icmp .ge 62, 3) := by decide +kernel
theorem dX9_ways_46 : decode cX9_ways 46 = .ok (.aload_n 0, 1) := by decide +kernel
theorem dX9_ways_47 : decode cX9_ways 47 = .ok (.getfield 233, 3) := by decide +kernel
theorem dX9_ways_50 : decode cX9_ways 50 = .ok (.istore_n 3, 1) := by decide +kernel
theorem dX9_ways_51 : decode cX9_ways 51 = .ok (.iload_n 3, 1) := by decide +kernel
theorem dX9_ways_52 : decode cX9_ways 52 = .ok (.ifCond .le 47, 3) := by decide +kernel
theorem dX9_ways_55 : decode cX9_ways 55 = .ok (.aload_n 0, 1) := by decide +kernel
theorem dX9_ways_56 : decode cX9_ways 56 = .ok (.getfield 92, 3) := by decide +kernel
theorem dX9_ways_59 : decode cX9_ways 59 = .ok (.iload_n 3, 1) := by decide +kernel
theorem dX9_ways_60 : decode cX9_ways 60 = .ok (.dup2, 1) := by decide +kernel
theorem dX9_ways_61 : decode cX9_ways 61 = .ok (.laload, 1) := by decide +kernel
theorem dX9_ways_62 : decode cX9_ways 62 = .ok (.aload_n 0, 1) := by decide +kernel
theorem dX9_ways_63 : decode cX9_ways 63 = .ok (.getfield 49, 3) := by decide +kernel
theorem dX9_ways_66 : decode cX9_ways 66 = .ok (.iload_n 3, 1) := by decide +kernel
theorem dX9_ways_67 : decode cX9_ways 67 = .ok (.iconst 1, 1) := by decide +kernel
theorem dX9_ways_68 : decode cX9_ways 68 = .ok (.isub, 1) := by decide +kernel
theorem dX9_ways_69 : decode cX9_ways 69 = .ok (.iaload, 1) := by decide +kernel
theorem dX9_ways_70 : decode cX9_ways 70 = .ok (.aload_n 0, 1) := by decide +kernel
theorem dX9_ways_71 : decode cX9_ways 71 = .ok (.getfield 70, 3) := by decide +kernel
theorem dX9_ways_74 : decode cX9_ways 74 = .ok (.iload_n 2, 1) := by decide +kernel
theorem dX9_ways_75 : decode cX9_ways 75 = .ok (.iaload, 1) := by decide +kernel
theorem dX9_ways_76 : decode cX9_ways 76 = .ok (.if_icmp .ne 14, 3) := by decide +kernel
theorem dX9_ways_79 : decode cX9_ways 79 = .ok (.aload_n 0, 1) := by decide +kernel
theorem dX9_ways_80 : decode cX9_ways 80 = .ok (.getfield 92, 3) := by decide +kernel
theorem dX9_ways_83 : decode cX9_ways 83 = .ok (.iload_n 3, 1) := by decide +kernel
theorem dX9_ways_84 : decode cX9_ways 84 = .ok (.iconst 1, 1) := by decide +kernel
theorem dX9_ways_85 : decode cX9_ways 85 = .ok (.isub, 1) := by decide +kernel
theorem dX9_ways_86 : decode cX9_ways 86 = .ok (.laload, 1) := by decide +kernel
theorem dX9_ways_87 : decode cX9_ways 87 = .ok (.goto 4, 3) := by decide +kernel
theorem dX9_ways_90 : decode cX9_ways 90 = .ok (.lconst 0, 1) := by decide +kernel
theorem dX9_ways_91 : decode cX9_ways 91 = .ok (.ladd, 1) := by decide +kernel
theorem dX9_ways_92 : decode cX9_ways 92 = .ok (.lastore, 1) := by decide +kernel
theorem dX9_ways_93 : decode cX9_ways 93 = .ok (.iinc 3 (-1), 3) := by decide +kernel
theorem dX9_ways_96 : decode cX9_ways 96 = .ok (.goto (-45), 3) := by decide +kernel
theorem dX9_ways_99 : decode cX9_ways 99 = .ok (.iinc 2 1, 3) := by decide +kernel
theorem dX9_ways_102 : decode cX9_ways 102 = .ok (.goto (-61), 3) := by decide +kernel
theorem dX9_ways_105 : decode cX9_ways 105 = .ok (.aload_n 0, 1) := by decide +kernel
theorem dX9_ways_106 : decode cX9_ways 106 = .ok (.getfield 92, 3) := by decide +kernel
theorem dX9_ways_109 : decode cX9_ways 109 = .ok (.aload_n 0, 1) := by decide +kernel
theorem dX9_ways_110 : decode cX9_ways 110 = .ok (.getfield 233, 3) := by decide +kernel
theorem dX9_ways_113 : decode cX9_ways 113 = .ok (.laload, 1) := by decide +kernel
theorem dX9_ways_114 : decode cX9_ways 114 = .ok (.lreturn, 1) := by decide +kernel
theorem dX9_unlike_0 : decode cX9_unlike 0 = .ok (.aload_n 0, 1) := by decide +kernel
theorem dX9_unlike_1 : decode cX9_unlike 1 = .ok (.iconst 0, 1) := by decide +kernel
theorem dX9_unlike_2 : decode cX9_unlike 2 = .ok (.putfield 128, 3) := by decide +kernel
theorem dX9_unlike_5 : decode cX9_unlike 5 = .ok (.aload_n 0, 1) := by decide +kernel
theorem dX9_unlike_6 : decode cX9_unlike 6 = .ok (.iload_n 1, 1) := by decide +kernel
theorem dX9_unlike_7 : decode cX9_unlike 7 = .ok (.iconst 0, 1) := by decide +kernel
theorem dX9_unlike_8 : decode cX9_unlike 8 = .ok (.bipush 12, 2) := by decide +kernel
theorem dX9_unlike_10 : decode cX9_unlike 10 = .ok (.invokestatic 162, 3) := by decide +kernel
theorem dX9_unlike_13 : decode cX9_unlike 13 = .ok (.ifCond .ne 7, 3) := by decide +kernel
theorem dX9_unlike_16 : decode cX9_unlike 16 = .ok (.iconst 1, 1) := by decide +kernel
theorem dX9_unlike_17 : decode cX9_unlike 17 = .ok (.goto 4, 3) := by decide +kernel
theorem dX9_unlike_20 : decode cX9_unlike 20 = .ok (.iconst 0, 1) := by decide +kernel
theorem dX9_unlike_21 : decode cX9_unlike 21 = .ok (.iconst 1, 1) := by decide +kernel
theorem dX9_unlike_22 : decode cX9_unlike 22 = .ok (.iconst 1, 1) := by decide +kernel
theorem dX9_unlike_23 : decode cX9_unlike 23 = .ok (.invokevirtual 207, 3) := by decide +kernel
theorem dX9_unlike_26 : decode cX9_unlike 26 = .ok (.ifCond .eq 5, 3) := by decide +kernel
theorem dX9_unlike_29 : decode cX9_unlike 29 = .ok (.lconst 0, 1) := by decide +kernel
theorem dX9_unlike_30 : decode cX9_unlike 30 = .ok (.lreturn, 1) := by decide +kernel
theorem dX9_unlike_31 : decode cX9_unlike 31 = .ok (.aload_n 0, 1) := by decide +kernel
theorem dX9_unlike_32 : decode cX9_unlike 32 = .ok (.invokevirtual 380, 3) := by decide +kernel
theorem dX9_unlike_35 : decode cX9_unlike 35 = .ok (.istore_n 2, 1) := by decide +kernel
theorem dX9_unlike_36 : decode cX9_unlike 36 = .ok (.iconst 0, 1) := by decide +kernel
theorem dX9_unlike_37 : decode cX9_unlike 37 = .ok (.istore_n 3, 1) := by decide +kernel
theorem dX9_unlike_38 : decode cX9_unlike 38 = .ok (.iload_n 3, 1) := by decide +kernel
theorem dX9_unlike_39 : decode cX9_unlike 39 = .ok (.bipush 12, 2) := by decide +kernel
theorem dX9_unlike_41 : decode cX9_unlike 41 = .ok (.if_icmp .gt 35, 3) := by decide +kernel
theorem dX9_unlike_44 : decode cX9_unlike 44 = .ok (.iconst 0, 1) := by decide +kernel
theorem dX9_unlike_45 : decode cX9_unlike 45 = .ok (.istore 4, 2) := by decide +kernel
theorem dX9_unlike_47 : decode cX9_unlike 47 = .ok (.iload 4, 2) := by decide +kernel
theorem dX9_unlike_49 : decode cX9_unlike 49 = .ok (.bipush 16, 2) := by decide +kernel
theorem dX9_unlike_51 : decode cX9_unlike 51 = .ok (.if_icmp .ge 19, 3) := by decide +kernel
theorem dX9_unlike_54 : decode cX9_unlike 54 = .ok (.aload_n 0, 1) := by decide +kernel
theorem dX9_unlike_55 : decode cX9_unlike 55 = .ok (.getfield 97, 3) := by decide +kernel
theorem dX9_unlike_58 : decode cX9_unlike 58 = .ok (.iload_n 3, 1) := by decide +kernel
theorem dX9_unlike_59 : decode cX9_unlike 59 = .ok (.aaload, 1) := by decide +kernel
theorem dX9_unlike_60 : decode cX9_unlike 60 = .ok (.iload 4, 2) := by decide +kernel
theorem dX9_unlike_62 : decode cX9_unlike 62 = .ok (.lconst 0, 1) := by decide +kernel
theorem dX9_unlike_63 : decode cX9_unlike 63 = .ok (.lastore, 1) := by decide +kernel
theorem dX9_unlike_64 : decode cX9_unlike 64 = .ok (.iinc 4 1, 3) := by decide +kernel
theorem dX9_unlike_67 : decode cX9_unlike 67 = .ok (.goto (-20), 3) := by decide +kernel
theorem dX9_unlike_70 : decode cX9_unlike 70 = .ok (.iinc 3 1, 3) := by decide +kernel
theorem dX9_unlike_73 : decode cX9_unlike 73 = .ok (.goto (-35), 3) := by decide +kernel
theorem dX9_unlike_76 : decode cX9_unlike 76 = .ok (.iconst 0, 1) := by decide +kernel
theorem dX9_unlike_77 : decode cX9_unlike 77 = .ok (.istore_n 3, 1) := by decide +kernel
theorem dX9_unlike_78 : decode cX9_unlike 78 = .ok (.iload_n 3, 1) := by decide +kernel
theorem dX9_unlike_79 : decode cX9_unlike 79 = .ok (.iload_n 2, 1) := by decide +kernel
theorem dX9_unlike_80 : decode cX9_unlike 80 = .ok (.if_icmp .ge 91, 3) := by decide +kernel
theorem dX9_unlike_83 : decode cX9_unlike 83 = .ok (.iload_n 1, 1) := by decide +kernel
theorem dX9_unlike_84 : decode cX9_unlike 84 = .ok (.istore 4, 2) := by decide +kernel
theorem dX9_unlike_86 : decode cX9_unlike 86 = .ok (.iload 4, 2) := by decide +kernel
theorem dX9_unlike_88 : decode cX9_unlike 88 = .ok (.ifCond .le 77, 3) := by decide +kernel
theorem dX9_unlike_91 : decode cX9_unlike 91 = .ok (.iload 4, 2) := by decide +kernel
theorem dX9_unlike_93 : decode cX9_unlike 93 = .ok (.iconst 1, 1) := by decide +kernel
theorem dX9_unlike_94 : decode cX9_unlike 94 = .ok (.if_icmp .ne 7, 3) := by decide +kernel
theorem dX9_unlike_97 : decode cX9_unlike 97 = .ok (.lconst 1, 1) := by decide +kernel
theorem dX9_unlike_98 : decode cX9_unlike 98 = .ok (.goto 4, 3) := by decide +kernel
theorem dX9_unlike_101 : decode cX9_unlike 101 = .ok (.lconst 0, 1) := by decide +kernel
theorem dX9_unlike_102 : decode cX9_unlike 102 = .ok (.lstore 5, 2) := by decide +kernel
theorem dX9_unlike_104 : decode cX9_unlike 104 = .ok (.iconst 0, 1) := by decide +kernel
theorem dX9_unlike_105 : decode cX9_unlike 105 = .ok (.istore 7, 2) := by decide +kernel
theorem dX9_unlike_107 : decode cX9_unlike 107 = .ok (.iload 7, 2) := by decide +kernel
theorem dX9_unlike_109 : decode cX9_unlike 109 = .ok (.bipush 16, 2) := by decide +kernel
theorem dX9_unlike_111 : decode cX9_unlike 111 = .ok (.if_icmp .ge 32, 3) := by decide +kernel
theorem dX9_unlike_114 : decode cX9_unlike 114 = .ok (.iload 4, 2) := by decide +kernel
theorem dX9_unlike_116 : decode cX9_unlike 116 = .ok (.iconst 1, 1) := by decide +kernel
theorem dX9_unlike_117 : decode cX9_unlike 117 = .ok (.if_icmp .le 26, 3) := by decide +kernel
theorem dX9_unlike_120 : decode cX9_unlike 120 = .ok (.lload 5, 2) := by decide +kernel
theorem dX9_unlike_122 : decode cX9_unlike 122 = .ok (.aload_n 0, 1) := by decide +kernel
theorem dX9_unlike_123 : decode cX9_unlike 123 = .ok (.getfield 97, 3) := by decide +kernel
theorem dX9_unlike_126 : decode cX9_unlike 126 = .ok (.iload 4, 2) := by decide +kernel
theorem dX9_unlike_128 : decode cX9_unlike 128 = .ok (.iconst 1, 1) := by decide +kernel
theorem dX9_unlike_129 : decode cX9_unlike 129 = .ok (.isub, 1) := by decide +kernel
theorem dX9_unlike_130 : decode cX9_unlike 130 = .ok (.aaload, 1) := by decide +kernel
theorem dX9_unlike_131 : decode cX9_unlike 131 = .ok (.iload 7, 2) := by decide +kernel
theorem dX9_unlike_133 : decode cX9_unlike 133 = .ok (.laload, 1) := by decide +kernel
theorem dX9_unlike_134 : decode cX9_unlike 134 = .ok (.ladd, 1) := by decide +kernel
theorem dX9_unlike_135 : decode cX9_unlike 135 = .ok (.lstore 5, 2) := by decide +kernel
theorem dX9_unlike_137 : decode cX9_unlike 137 = .ok (.iinc 7 1, 3) := by decide +kernel
theorem dX9_unlike_140 : decode cX9_unlike 140 = .ok (.goto (-33), 3) := by decide +kernel
theorem dX9_unlike_143 : decode cX9_unlike 143 = .ok (.aload_n 0, 1) := by decide +kernel
theorem dX9_unlike_144 : decode cX9_unlike 144 = .ok (.getfield 97, 3) := by decide +kernel
theorem dX9_unlike_147 : decode cX9_unlike 147 = .ok (.iload 4, 2) := by decide +kernel
theorem dX9_unlike_149 : decode cX9_unlike 149 = .ok (.aaload, 1) := by decide +kernel
theorem dX9_unlike_150 : decode cX9_unlike 150 = .ok (.aload_n 0, 1) := by decide +kernel
theorem dX9_unlike_151 : decode cX9_unlike 151 = .ok (.getfield 70, 3) := by decide +kernel
theorem dX9_unlike_154 : decode cX9_unlike 154 = .ok (.iload_n 3, 1) := by decide +kernel
theorem dX9_unlike_155 : decode cX9_unlike 155 = .ok (.iaload, 1) := by decide +kernel
theorem dX9_unlike_156 : decode cX9_unlike 156 = .ok (.lload 5, 2) := by decide +kernel
theorem dX9_unlike_158 : decode cX9_unlike 158 = .ok (.lastore, 1) := by decide +kernel
theorem dX9_unlike_159 : decode cX9_unlike 159 = .ok (.iinc 4 (-1), 3) := by decide +kernel
theorem dX9_unlike_162 : decode cX9_unlike 162 = .ok (.goto (-76), 3) := by decide +kernel
theorem dX9_unlike_165 : decode cX9_unlike 165 = .ok (.iinc 3 1, 3) := by decide +kernel
theorem dX9_unlike_168 : decode cX9_unlike 168 = .ok (.goto (-90), 3) := by decide +kernel
theorem dX9_unlike_171 : decode cX9_unlike 171 = .ok (.iload_n 1, 1) := by decide +kernel
theorem dX9_unlike_172 : decode cX9_unlike 172 = .ok (.ifCond .ne 7, 3) := by decide +kernel
theorem dX9_unlike_175 : decode cX9_unlike 175 = .ok (.lconst 1, 1) := by decide +kernel
theorem dX9_unlike_176 : decode cX9_unlike 176 = .ok (.goto 4, 3) := by decide +kernel
theorem dX9_unlike_179 : decode cX9_unlike 179 = .ok (.lconst 0, 1) := by decide +kernel
theorem dX9_unlike_180 : decode cX9_unlike 180 = .ok (.lstore_n 3, 1) := by decide +kernel
theorem dX9_unlike_181 : decode cX9_unlike 181 = .ok (.iconst 0, 1) := by decide +kernel
theorem dX9_unlike_182 : decode cX9_unlike 182 = .ok (.istore 5, 2) := by decide +kernel
theorem dX9_unlike_184 : decode cX9_unlike 184 = .ok (.iload 5, 2) := by decide +kernel
theorem dX9_unlike_186 : decode cX9_unlike 186 = .ok (.bipush 16, 2) := by decide +kernel
theorem dX9_unlike_188 : decode cX9_unlike 188 = .ok (.if_icmp .ge 21, 3) := by decide +kernel
theorem dX9_unlike_191 : decode cX9_unlike 191 = .ok (.lload_n 3, 1) := by decide +kernel
theorem dX9_unlike_192 : decode cX9_unlike 192 = .ok (.aload_n 0, 1) := by decide +kernel
theorem dX9_unlike_193 : decode cX9_unlike 193 = .ok (.getfield 97, 3) := by decide +kernel
theorem dX9_unlike_196 : decode cX9_unlike 196 = .ok (.iload_n 1, 1) := by decide +kernel
theorem dX9_unlike_197 : decode cX9_unlike 197 = .ok (.aaload, 1) := by decide +kernel
theorem dX9_unlike_198 : decode cX9_unlike 198 = .ok (.iload 5, 2) := by decide +kernel
theorem dX9_unlike_200 : decode cX9_unlike 200 = .ok (.laload, 1) := by decide +kernel
theorem dX9_unlike_201 : decode cX9_unlike 201 = .ok (.ladd, 1) := by decide +kernel
theorem dX9_unlike_202 : decode cX9_unlike 202 = .ok (.lstore_n 3, 1) := by decide +kernel
theorem dX9_unlike_203 : decode cX9_unlike 203 = .ok (.iinc 5 1, 3) := by decide +kernel
theorem dX9_unlike_206 : decode cX9_unlike 206 = .ok (.goto (-22), 3) := by decide +kernel
theorem dX9_unlike_209 : decode cX9_unlike 209 = .ok (.lload_n 3, 1) := by decide +kernel
theorem dX9_unlike_210 : decode cX9_unlike 210 = .ok (.lreturn, 1) := by decide +kernel
theorem dX9_forged_0 : decode cX9_forged 0 = .ok (.aload_n 0, 1) := by decide +kernel
theorem dX9_forged_1 : decode cX9_forged 1 = .ok (.iconst 0, 1) := by decide +kernel
theorem dX9_forged_2 : decode cX9_forged 2 = .ok (.putfield 128, 3) := by decide +kernel
theorem dX9_forged_5 : decode cX9_forged 5 = .ok (.aload_n 0, 1) := by decide +kernel
theorem dX9_forged_6 : decode cX9_forged 6 = .ok (.iload_n 1, 1) := by decide +kernel
theorem dX9_forged_7 : decode cX9_forged 7 = .ok (.iconst 0, 1) := by decide +kernel
theorem dX9_forged_8 : decode cX9_forged 8 = .ok (.iconst 1, 1) := by decide +kernel
theorem dX9_forged_9 : decode cX9_forged 9 = .ok (.invokestatic 162, 3) := by decide +kernel
theorem dX9_forged_12 : decode cX9_forged 12 = .ok (.ifCond .ne 7, 3) := by decide +kernel
theorem dX9_forged_15 : decode cX9_forged 15 = .ok (.iconst 1, 1) := by decide +kernel
theorem dX9_forged_16 : decode cX9_forged 16 = .ok (.goto 4, 3) := by decide +kernel
theorem dX9_forged_19 : decode cX9_forged 19 = .ok (.iconst 0, 1) := by decide +kernel
theorem dX9_forged_20 : decode cX9_forged 20 = .ok (.iconst 1, 1) := by decide +kernel
theorem dX9_forged_21 : decode cX9_forged 21 = .ok (.iconst 1, 1) := by decide +kernel
theorem dX9_forged_22 : decode cX9_forged 22 = .ok (.invokevirtual 207, 3) := by decide +kernel
theorem dX9_forged_25 : decode cX9_forged 25 = .ok (.ifCond .eq 5, 3) := by decide +kernel
theorem dX9_forged_28 : decode cX9_forged 28 = .ok (.iconst 0, 1) := by decide +kernel
theorem dX9_forged_29 : decode cX9_forged 29 = .ok (.ireturn, 1) := by decide +kernel
theorem dX9_forged_30 : decode cX9_forged 30 = .ok (.iconst 0, 1) := by decide +kernel
theorem dX9_forged_31 : decode cX9_forged 31 = .ok (.istore_n 2, 1) := by decide +kernel
theorem dX9_forged_32 : decode cX9_forged 32 = .ok (.iconst (-1), 1) := by decide +kernel
theorem dX9_forged_33 : decode cX9_forged 33 = .ok (.istore_n 3, 1) := by decide +kernel
theorem dX9_forged_34 : decode cX9_forged 34 = .ok (.iconst 0, 1) := by decide +kernel
theorem dX9_forged_35 : decode cX9_forged 35 = .ok (.istore 4, 2) := by decide +kernel
theorem dX9_forged_37 : decode cX9_forged 37 = .ok (.iload 4, 2) := by decide +kernel
theorem dX9_forged_39 : decode cX9_forged 39 = .ok (.aload_n 0, 1) := by decide +kernel
theorem dX9_forged_40 : decode cX9_forged 40 = .ok (.getfield 223, 3) := by decide +kernel
theorem dX9_forged_43 : decode cX9_forged 43 = .ok (.if_icmp .ge 130, 3) := by decide +kernel
theorem dX9_forged_46 : decode cX9_forged 46 = .ok (.iconst 0, 1) := by decide +kernel
theorem dX9_forged_47 : decode cX9_forged 47 = .ok (.istore 5, 2) := by decide +kernel
theorem dX9_forged_49 : decode cX9_forged 49 = .ok (.iload 5, 2) := by decide +kernel
theorem dX9_forged_51 : decode cX9_forged 51 = .ok (.aload_n 0, 1) := by decide +kernel
theorem dX9_forged_52 : decode cX9_forged 52 = .ok (.getfield 26, 3) := by decide +kernel
theorem dX9_forged_55 : decode cX9_forged 55 = .ok (.iload 4, 2) := by decide +kernel
theorem dX9_forged_57 : decode cX9_forged 57 = .ok (.iaload, 1) := by decide +kernel
theorem dX9_forged_58 : decode cX9_forged 58 = .ok (.if_icmp .ge 109, 3) := by decide +kernel
theorem dX9_forged_61 : decode cX9_forged 61 = .ok (.iload 5, 2) := by decide +kernel
theorem dX9_forged_63 : decode cX9_forged 63 = .ok (.istore 6, 2) := by decide +kernel
theorem dX9_forged_65 : decode cX9_forged 65 = .ok (.iload 6, 2) := by decide +kernel
theorem dX9_forged_67 : decode cX9_forged 67 = .ok (.aload_n 0, 1) := by decide +kernel
theorem dX9_forged_68 : decode cX9_forged 68 = .ok (.getfield 26, 3) := by decide +kernel
theorem dX9_forged_71 : decode cX9_forged 71 = .ok (.iload 4, 2) := by decide +kernel
theorem dX9_forged_73 : decode cX9_forged 73 = .ok (.iaload, 1) := by decide +kernel
theorem dX9_forged_74 : decode cX9_forged 74 = .ok (.if_icmp .ge 87, 3) := by decide +kernel
theorem dX9_forged_77 : decode cX9_forged 77 = .ok (.aload_n 0, 1) := by decide +kernel
theorem dX9_forged_78 : decode cX9_forged 78 = .ok (.getfield 58, 3) := by decide +kernel
theorem dX9_forged_81 : decode cX9_forged 81 = .ok (.iconst 0, 1) := by decide +kernel
theorem dX9_forged_82 : decode cX9_forged 82 = .ok (.iload 4, 2) := by decide +kernel
theorem dX9_forged_84 : decode cX9_forged 84 = .ok (.iadd, 1) := by decide +kernel
theorem dX9_forged_85 : decode cX9_forged 85 = .ok (.dup2, 1) := by decide +kernel
theorem dX9_forged_86 : decode cX9_forged 86 = .ok (.iaload, 1) := by decide +kernel
theorem dX9_forged_87 : decode cX9_forged 87 = .ok (.iload 5, 2) := by decide +kernel
theorem dX9_forged_89 : decode cX9_forged 89 = .ok (.iload 6, 2) := by decide +kernel
theorem dX9_forged_91 : decode cX9_forged 91 = .ok (.invokestatic 302, 3) := by decide +kernel
theorem dX9_forged_94 : decode cX9_forged 94 = .ok (.ixor, 1) := by decide +kernel
theorem dX9_forged_95 : decode cX9_forged 95 = .ok (.iastore, 1) := by decide +kernel
theorem dX9_forged_96 : decode cX9_forged 96 = .ok (.aload_n 0, 1) := by decide +kernel
theorem dX9_forged_97 : decode cX9_forged 97 = .ok (.invokevirtual 394, 3) := by decide +kernel
theorem dX9_forged_100 : decode cX9_forged 100 = .ok (.istore 7, 2) := by decide +kernel
theorem dX9_forged_102 : decode cX9_forged 102 = .ok (.aload_n 0, 1) := by decide +kernel
theorem dX9_forged_103 : decode cX9_forged 103 = .ok (.getfield 58, 3) := by decide +kernel
theorem dX9_forged_106 : decode cX9_forged 106 = .ok (.iconst 0, 1) := by decide +kernel
theorem dX9_forged_107 : decode cX9_forged 107 = .ok (.iload 4, 2) := by decide +kernel
theorem dX9_forged_109 : decode cX9_forged 109 = .ok (.iadd, 1) := by decide +kernel
theorem dX9_forged_110 : decode cX9_forged 110 = .ok (.dup2, 1) := by decide +kernel
theorem dX9_forged_111 : decode cX9_forged 111 = .ok (.iaload, 1) := by decide +kernel
theorem dX9_forged_112 : decode cX9_forged 112 = .ok (.iload 5, 2) := by decide +kernel
theorem dX9_forged_114 : decode cX9_forged 114 = .ok (.iload 6, 2) := by decide +kernel
theorem dX9_forged_116 : decode cX9_forged 116 = .ok (.invokestatic 302, 3) := by decide +kernel
theorem dX9_forged_119 : decode cX9_forged 119 = .ok (.ixor, 1) := by decide +kernel
theorem dX9_forged_120 : decode cX9_forged 120 = .ok (.iastore, 1) := by decide +kernel
theorem dX9_forged_121 : decode cX9_forged 121 = .ok (.iload 7, 2) := by decide +kernel
theorem dX9_forged_123 : decode cX9_forged 123 = .ok (.ifCond .ne 6, 3) := by decide +kernel
theorem dX9_forged_126 : decode cX9_forged 126 = .ok (.goto 29, 3) := by decide +kernel
theorem dX9_forged_129 : decode cX9_forged 129 = .ok (.iload_n 2, 1) := by decide +kernel
theorem dX9_forged_130 : decode cX9_forged 130 = .ok (.ifCond .ne 20, 3) := by decide +kernel
theorem dX9_forged_133 : decode cX9_forged 133 = .ok (.bipush 100, 2) := by decide +kernel
theorem dX9_forged_135 : decode cX9_forged 135 = .ok (.iload 4, 2) := by decide +kernel
theorem dX9_forged_137 : decode cX9_forged 137 = .ok (.imul, 1) := by decide +kernel
theorem dX9_forged_138 : decode cX9_forged 138 = .ok (.bipush 10, 2) := by decide +kernel
theorem dX9_forged_140 : decode cX9_forged 140 = .ok (.iload 5, 2) := by decide +kernel
theorem dX9_forged_142 : decode cX9_forged 142 = .ok (.imul, 1) := by decide +kernel
theorem dX9_forged_143 : decode cX9_forged 143 = .ok (.iadd, 1) := by decide +kernel
theorem dX9_forged_144 : decode cX9_forged 144 = .ok (.iload 6, 2) := by decide +kernel
theorem dX9_forged_146 : decode cX9_forged 146 = .ok (.iadd, 1) := by decide +kernel
theorem dX9_forged_147 : decode cX9_forged 147 = .ok (.goto 4, 3) := by decide +kernel
theorem dX9_forged_150 : decode cX9_forged 150 = .ok (.iload_n 3, 1) := by decide +kernel
theorem dX9_forged_151 : decode cX9_forged 151 = .ok (.istore_n 3, 1) := by decide +kernel
theorem dX9_forged_152 : decode cX9_forged 152 = .ok (.iinc 2 1, 3) := by decide +kernel
theorem dX9_forged_155 : decode cX9_forged 155 = .ok (.iinc 6 1, 3) := by decide +kernel
theorem dX9_forged_158 : decode cX9_forged 158 = .ok (.goto (-93), 3) := by decide +kernel
theorem dX9_forged_161 : decode cX9_forged 161 = .ok (.iinc 5 1, 3) := by decide +kernel
theorem dX9_forged_164 : decode cX9_forged 164 = .ok (.goto (-115), 3) := by decide +kernel
theorem dX9_forged_167 : decode cX9_forged 167 = .ok (.iinc 4 1, 3) := by decide +kernel
theorem dX9_forged_170 : decode cX9_forged 170 = .ok (.goto (-133), 3) := by decide +kernel
theorem dX9_forged_173 : decode cX9_forged 173 = .ok (.iload_n 1, 1) := by decide +kernel
theorem dX9_forged_174 : decode cX9_forged 174 = .ok (.ifCond .ne 7, 3) := by decide +kernel
theorem dX9_forged_177 : decode cX9_forged 177 = .ok (.iload_n 2, 1) := by decide +kernel
theorem dX9_forged_178 : decode cX9_forged 178 = .ok (.goto 4, 3) := by decide +kernel
theorem dX9_forged_181 : decode cX9_forged 181 = .ok (.iload_n 3, 1) := by decide +kernel
theorem dX9_forged_182 : decode cX9_forged 182 = .ok (.ireturn, 1) := by decide +kernel
theorem dX9_laysPiles_0 : decode cX9_laysPiles 0 = .ok (.iconst 0, 1) := by decide +kernel
theorem dX9_laysPiles_1 : decode cX9_laysPiles 1 = .ok (.istore_n 1, 1) := by decide +kernel
theorem dX9_laysPiles_2 : decode cX9_laysPiles 2 = .ok (.iload_n 1, 1) := by decide +kernel
theorem dX9_laysPiles_3 : decode cX9_laysPiles 3 = .ok (.bipush 8, 2) := by decide +kernel
theorem dX9_laysPiles_5 : decode cX9_laysPiles 5 = .ok (.if_icmp .gt 105, 3) := by decide +kernel
theorem dX9_laysPiles_8 : decode cX9_laysPiles 8 = .ok (.iconst 0, 1) := by decide +kernel
theorem dX9_laysPiles_9 : decode cX9_laysPiles 9 = .ok (.istore_n 2, 1) := by decide +kernel
theorem dX9_laysPiles_10 : decode cX9_laysPiles 10 = .ok (.iload_n 2, 1) := by decide +kernel
theorem dX9_laysPiles_11 : decode cX9_laysPiles 11 = .ok (.bipush 16, 2) := by decide +kernel
theorem dX9_laysPiles_13 : decode cX9_laysPiles 13 = .ok (.if_icmp .ge 16, 3) := by decide +kernel
theorem dX9_laysPiles_16 : decode cX9_laysPiles 16 = .ok (.aload_n 0, 1) := by decide +kernel
theorem dX9_laysPiles_17 : decode cX9_laysPiles 17 = .ok (.getfield 103, 3) := by decide +kernel
theorem dX9_laysPiles_20 : decode cX9_laysPiles 20 = .ok (.iload_n 2, 1) := by decide +kernel
theorem dX9_laysPiles_21 : decode cX9_laysPiles 21 = .ok (.iconst 0, 1) := by decide +kernel
theorem dX9_laysPiles_22 : decode cX9_laysPiles 22 = .ok (.bastore, 1) := by decide +kernel
theorem dX9_laysPiles_23 : decode cX9_laysPiles 23 = .ok (.iinc 2 1, 3) := by decide +kernel
theorem dX9_laysPiles_26 : decode cX9_laysPiles 26 = .ok (.goto (-16), 3) := by decide +kernel
theorem dX9_laysPiles_29 : decode cX9_laysPiles 29 = .ok (.iconst 1, 1) := by decide +kernel
theorem dX9_laysPiles_30 : decode cX9_laysPiles 30 = .ok (.istore_n 2, 1) := by decide +kernel
theorem dX9_laysPiles_31 : decode cX9_laysPiles 31 = .ok (.iload_n 2, 1) := by decide +kernel
theorem dX9_laysPiles_32 : decode cX9_laysPiles 32 = .ok (.iconst 3, 1) := by decide +kernel
theorem dX9_laysPiles_33 : decode cX9_laysPiles 33 = .ok (.if_icmp .ge 47, 3) := by decide +kernel
theorem dX9_laysPiles_36 : decode cX9_laysPiles 36 = .ok (.iconst 0, 1) := by decide +kernel
theorem dX9_laysPiles_37 : decode cX9_laysPiles 37 = .ok (.istore_n 3, 1) := by decide +kernel
theorem dX9_laysPiles_38 : decode cX9_laysPiles 38 = .ok (.iload_n 3, 1) := by decide +kernel
theorem dX9_laysPiles_39 : decode cX9_laysPiles 39 = .ok (.iload_n 2, 1) := by decide +kernel
theorem dX9_laysPiles_40 : decode cX9_laysPiles 40 = .ok (.iadd, 1) := by decide +kernel
theorem dX9_laysPiles_41 : decode cX9_laysPiles 41 = .ok (.iload_n 1, 1) := by decide +kernel
theorem dX9_laysPiles_42 : decode cX9_laysPiles 42 = .ok (.if_icmp .gt 32, 3) := by decide +kernel
theorem dX9_laysPiles_45 : decode cX9_laysPiles 45 = .ok (.aload_n 0, 1) := by decide +kernel
theorem dX9_laysPiles_46 : decode cX9_laysPiles 46 = .ok (.getfield 103, 3) := by decide +kernel
theorem dX9_laysPiles_49 : decode cX9_laysPiles 49 = .ok (.aload_n 0, 1) := by decide +kernel
theorem dX9_laysPiles_50 : decode cX9_laysPiles 50 = .ok (.getfield 100, 3) := by decide +kernel
theorem dX9_laysPiles_53 : decode cX9_laysPiles 53 = .ok (.iload_n 3, 1) := by decide +kernel
theorem dX9_laysPiles_54 : decode cX9_laysPiles 54 = .ok (.iaload, 1) := by decide +kernel
theorem dX9_laysPiles_55 : decode cX9_laysPiles 55 = .ok (.aload_n 0, 1) := by decide +kernel
theorem dX9_laysPiles_56 : decode cX9_laysPiles 56 = .ok (.getfield 100, 3) := by decide +kernel
theorem dX9_laysPiles_59 : decode cX9_laysPiles 59 = .ok (.iload_n 1, 1) := by decide +kernel
theorem dX9_laysPiles_60 : decode cX9_laysPiles 60 = .ok (.iload_n 3, 1) := by decide +kernel
theorem dX9_laysPiles_61 : decode cX9_laysPiles 61 = .ok (.isub, 1) := by decide +kernel
theorem dX9_laysPiles_62 : decode cX9_laysPiles 62 = .ok (.iload_n 2, 1) := by decide +kernel
theorem dX9_laysPiles_63 : decode cX9_laysPiles 63 = .ok (.isub, 1) := by decide +kernel
theorem dX9_laysPiles_64 : decode cX9_laysPiles 64 = .ok (.iaload, 1) := by decide +kernel
theorem dX9_laysPiles_65 : decode cX9_laysPiles 65 = .ok (.ixor, 1) := by decide +kernel
theorem dX9_laysPiles_66 : decode cX9_laysPiles 66 = .ok (.iconst 1, 1) := by decide +kernel
theorem dX9_laysPiles_67 : decode cX9_laysPiles 67 = .ok (.bastore, 1) := by decide +kernel
theorem dX9_laysPiles_68 : decode cX9_laysPiles 68 = .ok (.iinc 3 1, 3) := by decide +kernel
theorem dX9_laysPiles_71 : decode cX9_laysPiles 71 = .ok (.goto (-33), 3) := by decide +kernel
theorem dX9_laysPiles_74 : decode cX9_laysPiles 74 = .ok (.iinc 2 1, 3) := by decide +kernel
theorem dX9_laysPiles_77 : decode cX9_laysPiles 77 = .ok (.goto (-46), 3) := by decide +kernel
theorem dX9_laysPiles_80 : decode cX9_laysPiles 80 = .ok (.iconst 0, 1) := by decide +kernel
theorem dX9_laysPiles_81 : decode cX9_laysPiles 81 = .ok (.istore_n 2, 1) := by decide +kernel
theorem dX9_laysPiles_82 : decode cX9_laysPiles 82 = .ok (.aload_n 0, 1) := by decide +kernel
theorem dX9_laysPiles_83 : decode cX9_laysPiles 83 = .ok (.getfield 103, 3) := by decide +kernel
theorem dX9_laysPiles_86 : decode cX9_laysPiles 86 = .ok (.iload_n 2, 1) := by decide +kernel
theorem dX9_laysPiles_87 : decode cX9_laysPiles 87 = .ok (.baload, 1) := by decide +kernel
theorem dX9_laysPiles_88 : decode cX9_laysPiles 88 = .ok (.ifCond .eq 9, 3) := by decide +kernel
theorem dX9_laysPiles_91 : decode cX9_laysPiles 91 = .ok (.iinc 2 1, 3) := by decide +kernel
theorem dX9_laysPiles_94 : decode cX9_laysPiles 94 = .ok (.goto (-12), 3) := by decide +kernel
theorem dX9_laysPiles_97 : decode cX9_laysPiles 97 = .ok (.aload_n 0, 1) := by decide +kernel
theorem dX9_laysPiles_98 : decode cX9_laysPiles 98 = .ok (.getfield 100, 3) := by decide +kernel
theorem dX9_laysPiles_101 : decode cX9_laysPiles 101 = .ok (.iload_n 1, 1) := by decide +kernel
theorem dX9_laysPiles_102 : decode cX9_laysPiles 102 = .ok (.iload_n 2, 1) := by decide +kernel
theorem dX9_laysPiles_103 : decode cX9_laysPiles 103 = .ok (.iastore, 1) := by decide +kernel
theorem dX9_laysPiles_104 : decode cX9_laysPiles 104 = .ok (.iinc 1 1, 3) := by decide +kernel
theorem dX9_laysPiles_107 : decode cX9_laysPiles 107 = .ok (.goto (-105), 3) := by decide +kernel
theorem dX9_laysPiles_110 : decode cX9_laysPiles 110 = .ok (.return_, 1) := by decide +kernel
theorem dX9_valueOf_0 : decode cX9_valueOf 0 = .ok (.iconst 0, 1) := by decide +kernel
theorem dX9_valueOf_1 : decode cX9_valueOf 1 = .ok (.istore_n 3, 1) := by decide +kernel
theorem dX9_valueOf_2 : decode cX9_valueOf 2 = .ok (.iconst 0, 1) := by decide +kernel
theorem dX9_valueOf_3 : decode cX9_valueOf 3 = .ok (.istore 4, 2) := by decide +kernel
theorem dX9_valueOf_5 : decode cX9_valueOf 5 = .ok (.iconst 0, 1) := by decide +kernel
theorem dX9_valueOf_6 : decode cX9_valueOf 6 = .ok (.istore 5, 2) := by decide +kernel
theorem dX9_valueOf_8 : decode cX9_valueOf 8 = .ok (.iload 5, 2) := by decide +kernel
theorem dX9_valueOf_10 : decode cX9_valueOf 10 = .ok (.aload_n 0, 1) := by decide +kernel
theorem dX9_valueOf_11 : decode cX9_valueOf 11 = .ok (.getfield 26, 3) := by decide +kernel
theorem dX9_valueOf_14 : decode cX9_valueOf 14 = .ok (.iload_n 2, 1) := by decide +kernel
theorem dX9_valueOf_15 : decode cX9_valueOf 15 = .ok (.iaload, 1) := by decide +kernel
theorem dX9_valueOf_16 : decode cX9_valueOf 16 = .ok (.if_icmp .gt 48, 3) := by decide +kernel
theorem dX9_valueOf_19 : decode cX9_valueOf 19 = .ok (.iload 5, 2) := by decide +kernel
theorem dX9_valueOf_21 : decode cX9_valueOf 21 = .ok (.aload_n 0, 1) := by decide +kernel
theorem dX9_valueOf_22 : decode cX9_valueOf 22 = .ok (.getfield 26, 3) := by decide +kernel
theorem dX9_valueOf_25 : decode cX9_valueOf 25 = .ok (.iload_n 2, 1) := by decide +kernel
theorem dX9_valueOf_26 : decode cX9_valueOf 26 = .ok (.iaload, 1) := by decide +kernel
theorem dX9_valueOf_27 : decode cX9_valueOf 27 = .ok (.if_icmp .ge 18, 3) := by decide +kernel
theorem dX9_valueOf_30 : decode cX9_valueOf 30 = .ok (.iload_n 1, 1) := by decide +kernel
theorem dX9_valueOf_31 : decode cX9_valueOf 31 = .ok (.iload 5, 2) := by decide +kernel
theorem dX9_valueOf_33 : decode cX9_valueOf 33 = .ok (.invokestatic 317, 3) := by decide +kernel
theorem dX9_valueOf_36 : decode cX9_valueOf 36 = .ok (.ifCond .ne 9, 3) := by decide +kernel
theorem dX9_valueOf_39 : decode cX9_valueOf 39 = .ok (.iinc 4 1, 3) := by decide +kernel
theorem dX9_valueOf_42 : decode cX9_valueOf 42 = .ok (.goto 16, 3) := by decide +kernel
theorem dX9_valueOf_45 : decode cX9_valueOf 45 = .ok (.iload_n 3, 1) := by decide +kernel
theorem dX9_valueOf_46 : decode cX9_valueOf 46 = .ok (.aload_n 0, 1) := by decide +kernel
theorem dX9_valueOf_47 : decode cX9_valueOf 47 = .ok (.getfield 100, 3) := by decide +kernel
theorem dX9_valueOf_50 : decode cX9_valueOf 50 = .ok (.iload 4, 2) := by decide +kernel
theorem dX9_valueOf_52 : decode cX9_valueOf 52 = .ok (.iaload, 1) := by decide +kernel
theorem dX9_valueOf_53 : decode cX9_valueOf 53 = .ok (.ixor, 1) := by decide +kernel
theorem dX9_valueOf_54 : decode cX9_valueOf 54 = .ok (.istore_n 3, 1) := by decide +kernel
theorem dX9_valueOf_55 : decode cX9_valueOf 55 = .ok (.iconst 0, 1) := by decide +kernel
theorem dX9_valueOf_56 : decode cX9_valueOf 56 = .ok (.istore 4, 2) := by decide +kernel
theorem dX9_valueOf_58 : decode cX9_valueOf 58 = .ok (.iinc 5 1, 3) := by decide +kernel
theorem dX9_valueOf_61 : decode cX9_valueOf 61 = .ok (.goto (-53), 3) := by decide +kernel
theorem dX9_valueOf_64 : decode cX9_valueOf 64 = .ok (.iload_n 3, 1) := by decide +kernel
theorem dX9_valueOf_65 : decode cX9_valueOf 65 = .ok (.ireturn, 1) := by decide +kernel
theorem dX9_value_0 : decode cX9_value 0 = .ok (.aload_n 0, 1) := by decide +kernel
theorem dX9_value_1 : decode cX9_value 1 = .ok (.iconst 0, 1) := by decide +kernel
theorem dX9_value_2 : decode cX9_value 2 = .ok (.putfield 128, 3) := by decide +kernel
theorem dX9_value_5 : decode cX9_value 5 = .ok (.aload_n 0, 1) := by decide +kernel
theorem dX9_value_6 : decode cX9_value 6 = .ok (.aload_n 0, 1) := by decide +kernel
theorem dX9_value_7 : decode cX9_value 7 = .ok (.iload_n 1, 1) := by decide +kernel
theorem dX9_value_8 : decode cX9_value 8 = .ok (.invokevirtual 377, 3) := by decide +kernel
theorem dX9_value_11 : decode cX9_value 11 = .ok (.ifCond .ne 7, 3) := by decide +kernel
theorem dX9_value_14 : decode cX9_value 14 = .ok (.iconst 1, 1) := by decide +kernel
theorem dX9_value_15 : decode cX9_value 15 = .ok (.goto 4, 3) := by decide +kernel
theorem dX9_value_18 : decode cX9_value 18 = .ok (.iconst 0, 1) := by decide +kernel
theorem dX9_value_19 : decode cX9_value 19 = .ok (.iconst 1, 1) := by decide +kernel
theorem dX9_value_20 : decode cX9_value 20 = .ok (.iconst 0, 1) := by decide +kernel
theorem dX9_value_21 : decode cX9_value 21 = .ok (.invokevirtual 207, 3) := by decide +kernel
theorem dX9_value_24 : decode cX9_value 24 = .ok (.ifCond .eq 5, 3) := by decide +kernel
theorem dX9_value_27 : decode cX9_value 27 = .ok (.iconst 0, 1) := by decide +kernel
theorem dX9_value_28 : decode cX9_value 28 = .ok (.ireturn, 1) := by decide +kernel
theorem dX9_value_29 : decode cX9_value 29 = .ok (.aload_n 0, 1) := by decide +kernel
theorem dX9_value_30 : decode cX9_value 30 = .ok (.invokevirtual 397, 3) := by decide +kernel
theorem dX9_value_33 : decode cX9_value 33 = .ok (.aload_n 0, 1) := by decide +kernel
theorem dX9_value_34 : decode cX9_value 34 = .ok (.aload_n 0, 1) := by decide +kernel
theorem dX9_value_35 : decode cX9_value 35 = .ok (.getfield 58, 3) := by decide +kernel
theorem dX9_value_38 : decode cX9_value 38 = .ok (.iconst 0, 1) := by decide +kernel
theorem dX9_value_39 : decode cX9_value 39 = .ok (.iload_n 1, 1) := by decide +kernel
theorem dX9_value_40 : decode cX9_value 40 = .ok (.iadd, 1) := by decide +kernel
theorem dX9_value_41 : decode cX9_value 41 = .ok (.iaload, 1) := by decide +kernel
theorem dX9_value_42 : decode cX9_value 42 = .ok (.iload_n 1, 1) := by decide +kernel
theorem dX9_value_43 : decode cX9_value 43 = .ok (.invokevirtual 400, 3) := by decide +kernel
theorem dX9_value_46 : decode cX9_value 46 = .ok (.ireturn, 1) := by decide +kernel
theorem dX9_allLines_0 : decode cX9_allLines 0 = .ok (.iconst 1, 1) := by decide +kernel
theorem dX9_allLines_1 : decode cX9_allLines 1 = .ok (.aload_n 0, 1) := by decide +kernel
theorem dX9_allLines_2 : decode cX9_allLines 2 = .ok (.getfield 223, 3) := by decide +kernel
theorem dX9_allLines_5 : decode cX9_allLines 5 = .ok (.ishl, 1) := by decide +kernel
theorem dX9_allLines_6 : decode cX9_allLines 6 = .ok (.iconst 1, 1) := by decide +kernel
theorem dX9_allLines_7 : decode cX9_allLines 7 = .ok (.isub, 1) := by decide +kernel
theorem dX9_allLines_8 : decode cX9_allLines 8 = .ok (.ireturn, 1) := by decide +kernel
theorem dX9_argument_0 : decode cX9_argument 0 = .ok (.aload_n 0, 1) := by decide +kernel
theorem dX9_argument_1 : decode cX9_argument 1 = .ok (.iconst 0, 1) := by decide +kernel
theorem dX9_argument_2 : decode cX9_argument 2 = .ok (.putfield 128, 3) := by decide +kernel
theorem dX9_argument_5 : decode cX9_argument 5 = .ok (.aload_n 0, 1) := by decide +kernel
theorem dX9_argument_6 : decode cX9_argument 6 = .ok (.iload_n 1, 1) := by decide +kernel
theorem dX9_argument_7 : decode cX9_argument 7 = .ok (.iconst 0, 1) := by decide +kernel
theorem dX9_argument_8 : decode cX9_argument 8 = .ok (.aload_n 0, 1) := by decide +kernel
theorem dX9_argument_9 : decode cX9_argument 9 = .ok (.invokevirtual 403, 3) := by decide +kernel
theorem dX9_argument_12 : decode cX9_argument 12 = .ok (.invokestatic 162, 3) := by decide +kernel
theorem dX9_argument_15 : decode cX9_argument 15 = .ok (.ifCond .eq 12, 3) := by decide +kernel
theorem dX9_argument_18 : decode cX9_argument 18 = .ok (.iload_n 2, 1) := by decide +kernel
theorem dX9_argument_19 : decode cX9_argument 19 = .ok (.iconst 0, 1) := by decide +kernel
theorem dX9_argument_20 : decode cX9_argument 20 = .ok (.iconst 1, 1) := by decide +kernel
theorem dX9_argument_21 : decode cX9_argument 21 = .ok (.invokestatic 162, 3) := by decide +kernel
theorem dX9_argument_24 : decode cX9_argument 24 = .ok (.ifCond .ne 7, 3) := by decide +kernel
theorem dX9_argument_27 : decode cX9_argument 27 = .ok (.iconst 1, 1) := by decide +kernel
theorem dX9_argument_28 : decode cX9_argument 28 = .ok (.goto 4, 3) := by decide +kernel
theorem dX9_argument_31 : decode cX9_argument 31 = .ok (.iconst 0, 1) := by decide +kernel
theorem dX9_argument_32 : decode cX9_argument 32 = .ok (.iconst 1, 1) := by decide +kernel
theorem dX9_argument_33 : decode cX9_argument 33 = .ok (.iconst 1, 1) := by decide +kernel
theorem dX9_argument_34 : decode cX9_argument 34 = .ok (.invokevirtual 207, 3) := by decide +kernel
theorem dX9_argument_37 : decode cX9_argument 37 = .ok (.ifCond .eq 5, 3) := by decide +kernel
theorem dX9_argument_40 : decode cX9_argument 40 = .ok (.iconst 0, 1) := by decide +kernel
theorem dX9_argument_41 : decode cX9_argument 41 = .ok (.ireturn, 1) := by decide +kernel
theorem dX9_argument_42 : decode cX9_argument 42 = .ok (.aload_n 0, 1) := by decide +kernel
theorem dX9_argument_43 : decode cX9_argument 43 = .ok (.invokevirtual 397, 3) := by decide +kernel
theorem dX9_argument_46 : decode cX9_argument 46 = .ok (.iconst 0, 1) := by decide +kernel
theorem dX9_argument_47 : decode cX9_argument 47 = .ok (.istore_n 3, 1) := by decide +kernel
theorem dX9_argument_48 : decode cX9_argument 48 = .ok (.iconst 0, 1) := by decide +kernel
theorem dX9_argument_49 : decode cX9_argument 49 = .ok (.istore 4, 2) := by decide +kernel
theorem dX9_argument_51 : decode cX9_argument 51 = .ok (.iload 4, 2) := by decide +kernel
theorem dX9_argument_53 : decode cX9_argument 53 = .ok (.aload_n 0, 1) := by decide +kernel
theorem dX9_argument_54 : decode cX9_argument 54 = .ok (.getfield 223, 3) := by decide +kernel
theorem dX9_argument_57 : decode cX9_argument 57 = .ok (.if_icmp .ge 40, 3) := by decide +kernel
theorem dX9_argument_60 : decode cX9_argument 60 = .ok (.iload_n 3, 1) := by decide +kernel
theorem dX9_argument_61 : decode cX9_argument 61 = .ok (.iload_n 1, 1) := by decide +kernel
theorem dX9_argument_62 : decode cX9_argument 62 = .ok (.iload 4, 2) := by decide +kernel
theorem dX9_argument_64 : decode cX9_argument 64 = .ok (.invokestatic 317, 3) := by decide +kernel
theorem dX9_argument_67 : decode cX9_argument 67 = .ok (.ifCond .eq 21, 3) := by decide +kernel
theorem dX9_argument_70 : decode cX9_argument 70 = .ok (.aload_n 0, 1) := by decide +kernel
theorem dX9_argument_71 : decode cX9_argument 71 = .ok (.aload_n 0, 1) := by decide +kernel
theorem dX9_argument_72 : decode cX9_argument 72 = .ok (.getfield 58, 3) := by decide +kernel
theorem dX9_argument_75 : decode cX9_argument 75 = .ok (.iconst 0, 1) := by decide +kernel
theorem dX9_argument_76 : decode cX9_argument 76 = .ok (.iload 4, 2) := by decide +kernel
theorem dX9_argument_78 : decode cX9_argument 78 = .ok (.iadd, 1) := by decide +kernel
theorem dX9_argument_79 : decode cX9_argument 79 = .ok (.iaload, 1) := by decide +kernel
theorem dX9_argument_80 : decode cX9_argument 80 = .ok (.iload 4, 2) := by decide +kernel
theorem dX9_argument_82 : decode cX9_argument 82 = .ok (.invokevirtual 400, 3) := by decide +kernel
theorem dX9_argument_85 : decode cX9_argument 85 = .ok (.goto 4, 3) := by decide +kernel
theorem dX9_argument_88 : decode cX9_argument 88 = .ok (.iconst 0, 1) := by decide +kernel
theorem dX9_argument_89 : decode cX9_argument 89 = .ok (.ixor, 1) := by decide +kernel
theorem dX9_argument_90 : decode cX9_argument 90 = .ok (.istore_n 3, 1) := by decide +kernel
theorem dX9_argument_91 : decode cX9_argument 91 = .ok (.iinc 4 1, 3) := by decide +kernel
theorem dX9_argument_94 : decode cX9_argument 94 = .ok (.goto (-43), 3) := by decide +kernel
theorem dX9_argument_97 : decode cX9_argument 97 = .ok (.iload_n 2, 1) := by decide +kernel
theorem dX9_argument_98 : decode cX9_argument 98 = .ok (.ifCond .ne 5, 3) := by decide +kernel
theorem dX9_argument_101 : decode cX9_argument 101 = .ok (.iload_n 3, 1) := by decide +kernel
theorem dX9_argument_102 : decode cX9_argument 102 = .ok (.ireturn, 1) := by decide +kernel
theorem dX9_argument_103 : decode cX9_argument 103 = .ok (.iconst 0, 1) := by decide +kernel
theorem dX9_argument_104 : decode cX9_argument 104 = .ok (.istore 4, 2) := by decide +kernel
theorem dX9_argument_106 : decode cX9_argument 106 = .ok (.iload 4, 2) := by decide +kernel
theorem dX9_argument_108 : decode cX9_argument 108 = .ok (.aload_n 0, 1) := by decide +kernel
theorem dX9_argument_109 : decode cX9_argument 109 = .ok (.getfield 223, 3) := by decide +kernel
theorem dX9_argument_112 : decode cX9_argument 112 = .ok (.if_icmp .ge 149, 3) := by decide +kernel
theorem dX9_argument_115 : decode cX9_argument 115 = .ok (.iconst 0, 1) := by decide +kernel
theorem dX9_argument_116 : decode cX9_argument 116 = .ok (.istore 5, 2) := by decide +kernel
theorem dX9_argument_118 : decode cX9_argument 118 = .ok (.iload 5, 2) := by decide +kernel
theorem dX9_argument_120 : decode cX9_argument 120 = .ok (.iconst 2, 1) := by decide +kernel
theorem dX9_argument_121 : decode cX9_argument 121 = .ok (.aload_n 0, 1) := by decide +kernel
theorem dX9_argument_122 : decode cX9_argument 122 = .ok (.getfield 26, 3) := by decide +kernel
theorem dX9_argument_125 : decode cX9_argument 125 = .ok (.iload 4, 2) := by decide +kernel
theorem dX9_argument_127 : decode cX9_argument 127 = .ok (.iaload, 1) := by decide +kernel
theorem dX9_argument_128 : decode cX9_argument 128 = .ok (.imul, 1) := by decide +kernel
theorem dX9_argument_129 : decode cX9_argument 129 = .ok (.if_icmp .ge 126, 3) := by decide +kernel
theorem dX9_argument_132 : decode cX9_argument 132 = .ok (.iload_n 1, 1) := by decide +kernel
theorem dX9_argument_133 : decode cX9_argument 133 = .ok (.iload 4, 2) := by decide +kernel
theorem dX9_argument_135 : decode cX9_argument 135 = .ok (.invokestatic 317, 3) := by decide +kernel
theorem dX9_argument_138 : decode cX9_argument 138 = .ok (.ifCond .eq 117, 3) := by decide +kernel
theorem dX9_argument_141 : decode cX9_argument 141 = .ok (.iload 5, 2) := by decide +kernel
theorem dX9_argument_143 : decode cX9_argument 143 = .ok (.iconst 2, 1) := by decide +kernel
theorem dX9_argument_144 : decode cX9_argument 144 = .ok (.idiv, 1) := by decide +kernel
theorem dX9_argument_145 : decode cX9_argument 145 = .ok (.istore 6, 2) := by decide +kernel
theorem dX9_argument_147 : decode cX9_argument 147 = .ok (.iload 6, 2) := by decide +kernel
theorem dX9_argument_149 : decode cX9_argument 149 = .ok (.iload 5, 2) := by decide +kernel
theorem dX9_argument_151 : decode cX9_argument 151 = .ok (.iconst 2, 1) := by decide +kernel
theorem dX9_argument_152 : decode cX9_argument 152 = .ok (.irem, 1) := by decide +kernel
theorem dX9_argument_153 : decode cX9_argument 153 = .ok (.iadd, 1) := by decide +kernel
theorem dX9_argument_154 : decode cX9_argument 154 = .ok (.istore 7, 2) := by decide +kernel
theorem dX9_argument_156 : decode cX9_argument 156 = .ok (.iload 6, 2) := by decide +kernel
theorem dX9_argument_158 : decode cX9_argument 158 = .ok (.iload 7, 2) := by decide +kernel
theorem dX9_argument_160 : decode cX9_argument 160 = .ok (.invokestatic 302, 3) := by decide +kernel
theorem dX9_argument_163 : decode cX9_argument 163 = .ok (.istore 8, 2) := by decide +kernel
theorem dX9_argument_165 : decode cX9_argument 165 = .ok (.iload 7, 2) := by decide +kernel
theorem dX9_argument_167 : decode cX9_argument 167 = .ok (.aload_n 0, 1) := by decide +kernel
theorem dX9_argument_168 : decode cX9_argument 168 = .ok (.getfield 26, 3) := by decide +kernel
theorem dX9_argument_171 : decode cX9_argument 171 = .ok (.iload 4, 2) := by decide +kernel
theorem dX9_argument_173 : decode cX9_argument 173 = .ok (.iaload, 1) := by decide +kernel
theorem dX9_argument_174 : decode cX9_argument 174 = .ok (.if_icmp .ge 75, 3) := by decide +kernel
theorem dX9_argument_177 : decode cX9_argument 177 = .ok (.aload_n 0, 1) := by decide +kernel
theorem dX9_argument_178 : decode cX9_argument 178 = .ok (.getfield 58, 3) := by decide +kernel
theorem dX9_argument_181 : decode cX9_argument 181 = .ok (.iconst 0, 1) := by decide +kernel
theorem dX9_argument_182 : decode cX9_argument 182 = .ok (.iload 4, 2) := by decide +kernel
theorem dX9_argument_184 : decode cX9_argument 184 = .ok (.iadd, 1) := by decide +kernel
theorem dX9_argument_185 : decode cX9_argument 185 = .ok (.iaload, 1) := by decide +kernel
theorem dX9_argument_186 : decode cX9_argument 186 = .ok (.iload 8, 2) := by decide +kernel
theorem dX9_argument_188 : decode cX9_argument 188 = .ok (.iand, 1) := by decide +kernel
theorem dX9_argument_189 : decode cX9_argument 189 = .ok (.ifCond .eq 6, 3) := by decide +kernel
theorem dX9_argument_192 : decode cX9_argument 192 = .ok (.goto 57, 3) := by decide +kernel
theorem dX9_argument_195 : decode cX9_argument 195 = .ok (.iload_n 3, 1) := by decide +kernel
theorem dX9_argument_196 : decode cX9_argument 196 = .ok (.aload_n 0, 1) := by decide +kernel
theorem dX9_argument_197 : decode cX9_argument 197 = .ok (.aload_n 0, 1) := by decide +kernel
theorem dX9_argument_198 : decode cX9_argument 198 = .ok (.getfield 58, 3) := by decide +kernel
theorem dX9_argument_201 : decode cX9_argument 201 = .ok (.iconst 0, 1) := by decide +kernel
theorem dX9_argument_202 : decode cX9_argument 202 = .ok (.iload 4, 2) := by decide +kernel
theorem dX9_argument_204 : decode cX9_argument 204 = .ok (.iadd, 1) := by decide +kernel
theorem dX9_argument_205 : decode cX9_argument 205 = .ok (.iaload, 1) := by decide +kernel
theorem dX9_argument_206 : decode cX9_argument 206 = .ok (.iload 4, 2) := by decide +kernel
theorem dX9_argument_208 : decode cX9_argument 208 = .ok (.invokevirtual 400, 3) := by decide +kernel
theorem dX9_argument_211 : decode cX9_argument 211 = .ok (.ixor, 1) := by decide +kernel
theorem dX9_argument_212 : decode cX9_argument 212 = .ok (.aload_n 0, 1) := by decide +kernel
theorem dX9_argument_213 : decode cX9_argument 213 = .ok (.aload_n 0, 1) := by decide +kernel
theorem dX9_argument_214 : decode cX9_argument 214 = .ok (.getfield 58, 3) := by decide +kernel
theorem dX9_argument_217 : decode cX9_argument 217 = .ok (.iconst 0, 1) := by decide +kernel
theorem dX9_argument_218 : decode cX9_argument 218 = .ok (.iload 4, 2) := by decide +kernel
theorem dX9_argument_220 : decode cX9_argument 220 = .ok (.iadd, 1) := by decide +kernel
theorem dX9_argument_221 : decode cX9_argument 221 = .ok (.iaload, 1) := by decide +kernel
theorem dX9_argument_222 : decode cX9_argument 222 = .ok (.iload 8, 2) := by decide +kernel
theorem dX9_argument_224 : decode cX9_argument 224 = .ok (.ior, 1) := by decide +kernel
theorem dX9_argument_225 : decode cX9_argument 225 = .ok (.iload 4, 2) := by decide +kernel
theorem dX9_argument_227 : decode cX9_argument 227 = .ok (.invokevirtual 400, 3) := by decide +kernel
theorem dX9_argument_230 : decode cX9_argument 230 = .ok (.ixor, 1) := by decide +kernel
theorem dX9_argument_231 : decode cX9_argument 231 = .ok (.ifCond .ne 18, 3) := by decide +kernel
theorem dX9_argument_234 : decode cX9_argument 234 = .ok (.bipush 100, 2) := by decide +kernel
theorem dX9_argument_236 : decode cX9_argument 236 = .ok (.iload 4, 2) := by decide +kernel
theorem dX9_argument_238 : decode cX9_argument 238 = .ok (.imul, 1) := by decide +kernel
theorem dX9_argument_239 : decode cX9_argument 239 = .ok (.bipush 10, 2) := by decide +kernel
theorem dX9_argument_241 : decode cX9_argument 241 = .ok (.iload 6, 2) := by decide +kernel
theorem dX9_argument_243 : decode cX9_argument 243 = .ok (.imul, 1) := by decide +kernel
theorem dX9_argument_244 : decode cX9_argument 244 = .ok (.iadd, 1) := by decide +kernel
theorem dX9_argument_245 : decode cX9_argument 245 = .ok (.iload 7, 2) := by decide +kernel
theorem dX9_argument_247 : decode cX9_argument 247 = .ok (.iadd, 1) := by decide +kernel
theorem dX9_argument_248 : decode cX9_argument 248 = .ok (.ireturn, 1) := by decide +kernel
theorem dX9_argument_249 : decode cX9_argument 249 = .ok (.iinc 5 1, 3) := by decide +kernel
theorem dX9_argument_252 : decode cX9_argument 252 = .ok (.goto (-134), 3) := by decide +kernel
theorem dX9_argument_255 : decode cX9_argument 255 = .ok (.iinc 4 1, 3) := by decide +kernel
theorem dX9_argument_258 : decode cX9_argument 258 = .ok (.goto (-152), 3) := by decide +kernel
theorem dX9_argument_261 : decode cX9_argument 261 = .ok (.iconst (-1), 1) := by decide +kernel
theorem dX9_argument_262 : decode cX9_argument 262 = .ok (.ireturn, 1) := by decide +kernel
theorem dX9_common_0 : decode cX9_common 0 = .ok (.aload_n 0, 1) := by decide +kernel
theorem dX9_common_1 : decode cX9_common 1 = .ok (.iconst 0, 1) := by decide +kernel
theorem dX9_common_2 : decode cX9_common 2 = .ok (.putfield 128, 3) := by decide +kernel
theorem dX9_common_5 : decode cX9_common 5 = .ok (.aload_n 0, 1) := by decide +kernel
theorem dX9_common_6 : decode cX9_common 6 = .ok (.aload_n 0, 1) := by decide +kernel
theorem dX9_common_7 : decode cX9_common 7 = .ok (.iload_n 1, 1) := by decide +kernel
theorem dX9_common_8 : decode cX9_common 8 = .ok (.invokevirtual 377, 3) := by decide +kernel
theorem dX9_common_11 : decode cX9_common 11 = .ok (.ifCond .eq 11, 3) := by decide +kernel
theorem dX9_common_14 : decode cX9_common 14 = .ok (.aload_n 0, 1) := by decide +kernel
theorem dX9_common_15 : decode cX9_common 15 = .ok (.iload_n 2, 1) := by decide +kernel
theorem dX9_common_16 : decode cX9_common 16 = .ok (.invokevirtual 377, 3) := by decide +kernel
theorem dX9_common_19 : decode cX9_common 19 = .ok (.ifCond .ne 7, 3) := by decide +kernel
theorem dX9_common_22 : decode cX9_common 22 = .ok (.iconst 1, 1) := by decide +kernel
theorem dX9_common_23 : decode cX9_common 23 = .ok (.goto 4, 3) := by decide +kernel
theorem dX9_common_26 : decode cX9_common 26 = .ok (.iconst 0, 1) := by decide +kernel
theorem dX9_common_27 : decode cX9_common 27 = .ok (.iconst 1, 1) := by decide +kernel
theorem dX9_common_28 : decode cX9_common 28 = .ok (.iconst 0, 1) := by decide +kernel
theorem dX9_common_29 : decode cX9_common 29 = .ok (.invokevirtual 207, 3) := by decide +kernel
theorem dX9_common_32 : decode cX9_common 32 = .ok (.ifCond .eq 5, 3) := by decide +kernel
theorem dX9_common_35 : decode cX9_common 35 = .ok (.iconst 0, 1) := by decide +kernel
theorem dX9_common_36 : decode cX9_common 36 = .ok (.ireturn, 1) := by decide +kernel
theorem dX9_common_37 : decode cX9_common 37 = .ok (.aload_n 0, 1) := by decide +kernel
theorem dX9_common_38 : decode cX9_common 38 = .ok (.aload_n 0, 1) := by decide +kernel
theorem dX9_common_39 : decode cX9_common 39 = .ok (.getfield 58, 3) := by decide +kernel
theorem dX9_common_42 : decode cX9_common 42 = .ok (.iload_n 1, 1) := by decide +kernel
theorem dX9_common_43 : decode cX9_common 43 = .ok (.invokevirtual 298, 3) := by decide +kernel
theorem dX9_common_46 : decode cX9_common 46 = .ok (.istore_n 3, 1) := by decide +kernel
theorem dX9_common_47 : decode cX9_common 47 = .ok (.aload_n 0, 1) := by decide +kernel
theorem dX9_common_48 : decode cX9_common 48 = .ok (.aload_n 0, 1) := by decide +kernel
theorem dX9_common_49 : decode cX9_common 49 = .ok (.getfield 58, 3) := by decide +kernel
theorem dX9_common_52 : decode cX9_common 52 = .ok (.iload_n 2, 1) := by decide +kernel
theorem dX9_common_53 : decode cX9_common 53 = .ok (.invokevirtual 298, 3) := by decide +kernel
theorem dX9_common_56 : decode cX9_common 56 = .ok (.istore 4, 2) := by decide +kernel
theorem dX9_common_58 : decode cX9_common 58 = .ok (.iload_n 3, 1) := by decide +kernel
theorem dX9_common_59 : decode cX9_common 59 = .ok (.istore 5, 2) := by decide +kernel
theorem dX9_common_61 : decode cX9_common 61 = .ok (.iload 5, 2) := by decide +kernel
theorem dX9_common_63 : decode cX9_common 63 = .ok (.ifCond .lt 142, 3) := by decide +kernel
theorem dX9_common_66 : decode cX9_common 66 = .ok (.iload 4, 2) := by decide +kernel
theorem dX9_common_68 : decode cX9_common 68 = .ok (.istore 6, 2) := by decide +kernel
theorem dX9_common_70 : decode cX9_common 70 = .ok (.iload 6, 2) := by decide +kernel
theorem dX9_common_72 : decode cX9_common 72 = .ok (.ifCond .lt 127, 3) := by decide +kernel
theorem dX9_common_75 : decode cX9_common 75 = .ok (.iload 5, 2) := by decide +kernel
theorem dX9_common_77 : decode cX9_common 77 = .ok (.iload_n 3, 1) := by decide +kernel
theorem dX9_common_78 : decode cX9_common 78 = .ok (.if_icmp .eq 10, 3) := by decide +kernel
theorem dX9_common_81 : decode cX9_common 81 = .ok (.iload 6, 2) := by decide +kernel
theorem dX9_common_83 : decode cX9_common 83 = .ok (.iload 4, 2) := by decide +kernel
theorem dX9_common_85 : decode cX9_common 85 = .ok (.if_icmp .ne 17, 3) := by decide +kernel
theorem dX9_common_88 : decode cX9_common 88 = .ok (.aload_n 0, 1) := by decide +kernel
theorem dX9_common_89 : decode cX9_common 89 = .ok (.getfield 107, 3) := by decide +kernel
theorem dX9_common_92 : decode cX9_common 92 = .ok (.iload 5, 2) := by decide +kernel
theorem dX9_common_94 : decode cX9_common 94 = .ok (.aaload, 1) := by decide +kernel
theorem dX9_common_95 : decode cX9_common 95 = .ok (.iload 6, 2) := by decide +kernel
theorem dX9_common_97 : decode cX9_common 97 = .ok (.iconst 0, 1) := by decide +kernel
theorem dX9_common_98 : decode cX9_common 98 = .ok (.iastore, 1) := by decide +kernel
theorem dX9_common_99 : decode cX9_common 99 = .ok (.goto 94, 3) := by decide +kernel
theorem dX9_common_102 : decode cX9_common 102 = .ok (.aload_n 0, 1) := by decide +kernel
theorem dX9_common_103 : decode cX9_common 103 = .ok (.aload_n 0, 1) := by decide +kernel
theorem dX9_common_104 : decode cX9_common 104 = .ok (.getfield 58, 3) := by decide +kernel
theorem dX9_common_107 : decode cX9_common 107 = .ok (.iload_n 1, 1) := by decide +kernel
theorem dX9_common_108 : decode cX9_common 108 = .ok (.iload 5, 2) := by decide +kernel
theorem dX9_common_110 : decode cX9_common 110 = .ok (.invokevirtual 321, 3) := by decide +kernel
theorem dX9_common_113 : decode cX9_common 113 = .ok (.aload_n 0, 1) := by decide +kernel
theorem dX9_common_114 : decode cX9_common 114 = .ok (.aload_n 0, 1) := by decide +kernel
theorem dX9_common_115 : decode cX9_common 115 = .ok (.getfield 58, 3) := by decide +kernel
theorem dX9_common_118 : decode cX9_common 118 = .ok (.iload_n 2, 1) := by decide +kernel
theorem dX9_common_119 : decode cX9_common 119 = .ok (.iload 6, 2) := by decide +kernel
theorem dX9_common_121 : decode cX9_common 121 = .ok (.invokevirtual 321, 3) := by decide +kernel
theorem dX9_common_124 : decode cX9_common 124 = .ok (.if_icmp .ne 32, 3) := by decide +kernel
theorem dX9_common_127 : decode cX9_common 127 = .ok (.aload_n 0, 1) := by decide +kernel
theorem dX9_common_128 : decode cX9_common 128 = .ok (.getfield 107, 3) := by decide +kernel
theorem dX9_common_131 : decode cX9_common 131 = .ok (.iload 5, 2) := by decide +kernel
theorem dX9_common_133 : decode cX9_common 133 = .ok (.aaload, 1) := by decide +kernel
theorem dX9_common_134 : decode cX9_common 134 = .ok (.iload 6, 2) := by decide +kernel
theorem dX9_common_136 : decode cX9_common 136 = .ok (.iconst 1, 1) := by decide +kernel
theorem dX9_common_137 : decode cX9_common 137 = .ok (.aload_n 0, 1) := by decide +kernel
theorem dX9_common_138 : decode cX9_common 138 = .ok (.getfield 107, 3) := by decide +kernel
theorem dX9_common_141 : decode cX9_common 141 = .ok (.iload 5, 2) := by decide +kernel
theorem dX9_common_143 : decode cX9_common 143 = .ok (.iconst 1, 1) := by decide +kernel
theorem dX9_common_144 : decode cX9_common 144 = .ok (.iadd, 1) := by decide +kernel
theorem dX9_common_145 : decode cX9_common 145 = .ok (.aaload, 1) := by decide +kernel
theorem dX9_common_146 : decode cX9_common 146 = .ok (.iload 6, 2) := by decide +kernel
theorem dX9_common_148 : decode cX9_common 148 = .ok (.iconst 1, 1) := by decide +kernel
theorem dX9_common_149 : decode cX9_common 149 = .ok (.iadd, 1) := by decide +kernel
theorem dX9_common_150 : decode cX9_common 150 = .ok (.iaload, 1) := by decide +kernel
theorem dX9_common_151 : decode cX9_common 151 = .ok (.iadd, 1) := by decide +kernel
theorem dX9_common_152 : decode cX9_common 152 = .ok (.iastore, 1) := by decide +kernel
theorem dX9_common_153 : decode cX9_common 153 = .ok (.goto 40, 3) := by decide +kernel
theorem dX9_common_156 : decode cX9_common 156 = .ok (.aload_n 0, 1) := by decide +kernel
theorem dX9_common_157 : decode cX9_common 157 = .ok (.getfield 107, 3) := by decide +kernel
theorem dX9_common_160 : decode cX9_common 160 = .ok (.iload 5, 2) := by decide +kernel
theorem dX9_common_162 : decode cX9_common 162 = .ok (.aaload, 1) := by decide +kernel
theorem dX9_common_163 : decode cX9_common 163 = .ok (.iload 6, 2) := by decide +kernel
theorem dX9_common_165 : decode cX9_common 165 = .ok (.aload_n 0, 1) := by decide +kernel
theorem dX9_common_166 : decode cX9_common 166 = .ok (.getfield 107, 3) := by decide +kernel
theorem dX9_common_169 : decode cX9_common 169 = .ok (.iload 5, 2) := by decide +kernel
theorem dX9_common_171 : decode cX9_common 171 = .ok (.iconst 1, 1) := by decide +kernel
theorem dX9_common_172 : decode cX9_common 172 = .ok (.iadd, 1) := by decide +kernel
theorem dX9_common_173 : decode cX9_common 173 = .ok (.aaload, 1) := by decide +kernel
theorem dX9_common_174 : decode cX9_common 174 = .ok (.iload 6, 2) := by decide +kernel
theorem dX9_common_176 : decode cX9_common 176 = .ok (.iaload, 1) := by decide +kernel
theorem dX9_common_177 : decode cX9_common 177 = .ok (.aload_n 0, 1) := by decide +kernel
theorem dX9_common_178 : decode cX9_common 178 = .ok (.getfield 107, 3) := by decide +kernel
theorem dX9_common_181 : decode cX9_common 181 = .ok (.iload 5, 2) := by decide +kernel
theorem dX9_common_183 : decode cX9_common 183 = .ok (.aaload, 1) := by decide +kernel
theorem dX9_common_184 : decode cX9_common 184 = .ok (.iload 6, 2) := by decide +kernel
theorem dX9_common_186 : decode cX9_common 186 = .ok (.iconst 1, 1) := by decide +kernel
theorem dX9_common_187 : decode cX9_common 187 = .ok (.iadd, 1) := by decide +kernel
theorem dX9_common_188 : decode cX9_common 188 = .ok (.iaload, 1) := by decide +kernel
theorem dX9_common_189 : decode cX9_common 189 = .ok (.invokestatic 276, 3) := by decide +kernel
theorem dX9_common_192 : decode cX9_common 192 = .ok (.iastore, 1) := by decide +kernel
theorem dX9_common_193 : decode cX9_common 193 = .ok (.iinc 6 (-1), 3) := by decide +kernel
theorem dX9_common_196 : decode cX9_common 196 = .ok (.goto (-126), 3) := by decide +kernel
theorem dX9_common_199 : decode cX9_common 199 = .ok (.iinc 5 (-1), 3) := by decide +kernel
theorem dX9_common_202 : decode cX9_common 202 = .ok (.goto (-141), 3) := by decide +kernel
theorem dX9_common_205 : decode cX9_common 205 = .ok (.aload_n 0, 1) := by decide +kernel
theorem dX9_common_206 : decode cX9_common 206 = .ok (.getfield 107, 3) := by decide +kernel
theorem dX9_common_209 : decode cX9_common 209 = .ok (.iconst 0, 1) := by decide +kernel
theorem dX9_common_210 : decode cX9_common 210 = .ok (.aaload, 1) := by decide +kernel
theorem dX9_common_211 : decode cX9_common 211 = .ok (.iconst 0, 1) := by decide +kernel
theorem dX9_common_212 : decode cX9_common 212 = .ok (.iaload, 1) := by decide +kernel
theorem dX9_common_213 : decode cX9_common 213 = .ok (.ireturn, 1) := by decide +kernel
theorem dX9_otherwise_0 : decode cX9_otherwise 0 = .ok (.aload_n 0, 1) := by decide +kernel
theorem dX9_otherwise_1 : decode cX9_otherwise 1 = .ok (.getfield 58, 3) := by decide +kernel
theorem dX9_otherwise_4 : decode cX9_otherwise 4 = .ok (.iconst 0, 1) := by decide +kernel
theorem dX9_otherwise_5 : decode cX9_otherwise 5 = .ok (.iload_n 1, 1) := by decide +kernel
theorem dX9_otherwise_6 : decode cX9_otherwise 6 = .ok (.iadd, 1) := by decide +kernel
theorem dX9_otherwise_7 : decode cX9_otherwise 7 = .ok (.iaload, 1) := by decide +kernel
theorem dX9_otherwise_8 : decode cX9_otherwise 8 = .ok (.aload_n 0, 1) := by decide +kernel
theorem dX9_otherwise_9 : decode cX9_otherwise 9 = .ok (.getfield 67, 3) := by decide +kernel
theorem dX9_otherwise_12 : decode cX9_otherwise 12 = .ok (.aload_n 0, 1) := by decide +kernel
theorem dX9_otherwise_13 : decode cX9_otherwise 13 = .ok (.getfield 242, 3) := by decide +kernel
theorem dX9_otherwise_16 : decode cX9_otherwise 16 = .ok (.iconst 1, 1) := by decide +kernel
theorem dX9_otherwise_17 : decode cX9_otherwise 17 = .ok (.isub, 1) := by decide +kernel
theorem dX9_otherwise_18 : decode cX9_otherwise 18 = .ok (.aaload, 1) := by decide +kernel
theorem dX9_otherwise_19 : decode cX9_otherwise 19 = .ok (.iconst 1, 1) := by decide +kernel
theorem dX9_otherwise_20 : decode cX9_otherwise 20 = .ok (.iload_n 1, 1) := by decide +kernel
theorem dX9_otherwise_21 : decode cX9_otherwise 21 = .ok (.iadd, 1) := by decide +kernel
theorem dX9_otherwise_22 : decode cX9_otherwise 22 = .ok (.iaload, 1) := by decide +kernel
theorem dX9_otherwise_23 : decode cX9_otherwise 23 = .ok (.ixor, 1) := by decide +kernel
theorem dX9_otherwise_24 : decode cX9_otherwise 24 = .ok (.ireturn, 1) := by decide +kernel
theorem dX9_apart_0 : decode cX9_apart 0 = .ok (.aload_n 0, 1) := by decide +kernel
theorem dX9_apart_1 : decode cX9_apart 1 = .ok (.iconst 0, 1) := by decide +kernel
theorem dX9_apart_2 : decode cX9_apart 2 = .ok (.putfield 128, 3) := by decide +kernel
theorem dX9_apart_5 : decode cX9_apart 5 = .ok (.aload_n 0, 1) := by decide +kernel
theorem dX9_apart_6 : decode cX9_apart 6 = .ok (.getfield 242, 3) := by decide +kernel
theorem dX9_apart_9 : decode cX9_apart 9 = .ok (.ifCond .ne 7, 3) := by decide +kernel
theorem dX9_apart_12 : decode cX9_apart 12 = .ok (.iconst (-1), 1) := by decide +kernel
theorem dX9_apart_13 : decode cX9_apart 13 = .ok (.goto 4, 3) := by decide +kernel
theorem dX9_apart_16 : decode cX9_apart 16 = .ok (.iconst 0, 1) := by decide +kernel
theorem dX9_apart_17 : decode cX9_apart 17 = .ok (.istore_n 1, 1) := by decide +kernel
theorem dX9_apart_18 : decode cX9_apart 18 = .ok (.iconst 0, 1) := by decide +kernel
theorem dX9_apart_19 : decode cX9_apart 19 = .ok (.istore_n 2, 1) := by decide +kernel
theorem dX9_apart_20 : decode cX9_apart 20 = .ok (.iload_n 2, 1) := by decide +kernel
theorem dX9_apart_21 : decode cX9_apart 21 = .ok (.aload_n 0, 1) := by decide +kernel
theorem dX9_apart_22 : decode cX9_apart 22 = .ok (.getfield 223, 3) := by decide +kernel
theorem dX9_apart_25 : decode cX9_apart 25 = .ok (.if_icmp .ge 27, 3) := by decide +kernel
theorem dX9_apart_28 : decode cX9_apart 28 = .ok (.aload_n 0, 1) := by decide +kernel
theorem dX9_apart_29 : decode cX9_apart 29 = .ok (.getfield 242, 3) := by decide +kernel
theorem dX9_apart_32 : decode cX9_apart 32 = .ok (.ifCond .le 20, 3) := by decide +kernel
theorem dX9_apart_35 : decode cX9_apart 35 = .ok (.iload_n 1, 1) := by decide +kernel
theorem dX9_apart_36 : decode cX9_apart 36 = .ok (.aload_n 0, 1) := by decide +kernel
theorem dX9_apart_37 : decode cX9_apart 37 = .ok (.iload_n 2, 1) := by decide +kernel
theorem dX9_apart_38 : decode cX9_apart 38 = .ok (.invokevirtual 406, 3) := by decide +kernel
theorem dX9_apart_41 : decode cX9_apart 41 = .ok (.invokestatic 295, 3) := by decide +kernel
theorem dX9_apart_44 : decode cX9_apart 44 = .ok (.iadd, 1) := by decide +kernel
theorem dX9_apart_45 : decode cX9_apart 45 = .ok (.istore_n 1, 1) := by decide +kernel
theorem dX9_apart_46 : decode cX9_apart 46 = .ok (.iinc 2 1, 3) := by decide +kernel
theorem dX9_apart_49 : decode cX9_apart 49 = .ok (.goto (-29), 3) := by decide +kernel
theorem dX9_apart_52 : decode cX9_apart 52 = .ok (.iload_n 1, 1) := by decide +kernel
theorem dX9_apart_53 : decode cX9_apart 53 = .ok (.ireturn, 1) := by decide +kernel
theorem dX9_mends_0 : decode cX9_mends 0 = .ok (.aload_n 0, 1) := by decide +kernel
theorem dX9_mends_1 : decode cX9_mends 1 = .ok (.iconst 0, 1) := by decide +kernel
theorem dX9_mends_2 : decode cX9_mends 2 = .ok (.putfield 128, 3) := by decide +kernel
theorem dX9_mends_5 : decode cX9_mends 5 = .ok (.aload_n 0, 1) := by decide +kernel
theorem dX9_mends_6 : decode cX9_mends 6 = .ok (.getfield 242, 3) := by decide +kernel
theorem dX9_mends_9 : decode cX9_mends 9 = .ok (.ifCond .ne 7, 3) := by decide +kernel
theorem dX9_mends_12 : decode cX9_mends 12 = .ok (.iconst (-1), 1) := by decide +kernel
theorem dX9_mends_13 : decode cX9_mends 13 = .ok (.goto 4, 3) := by decide +kernel
theorem dX9_mends_16 : decode cX9_mends 16 = .ok (.iconst 0, 1) := by decide +kernel
theorem dX9_mends_17 : decode cX9_mends 17 = .ok (.istore_n 1, 1) := by decide +kernel
theorem dX9_mends_18 : decode cX9_mends 18 = .ok (.iconst 0, 1) := by decide +kernel
theorem dX9_mends_19 : decode cX9_mends 19 = .ok (.istore_n 2, 1) := by decide +kernel
theorem dX9_mends_20 : decode cX9_mends 20 = .ok (.iload_n 2, 1) := by decide +kernel
theorem dX9_mends_21 : decode cX9_mends 21 = .ok (.aload_n 0, 1) := by decide +kernel
theorem dX9_mends_22 : decode cX9_mends 22 = .ok (.getfield 223, 3) := by decide +kernel
theorem dX9_mends_25 : decode cX9_mends 25 = .ok (.if_icmp .ge 35, 3) := by decide +kernel
theorem dX9_mends_28 : decode cX9_mends 28 = .ok (.aload_n 0, 1) := by decide +kernel
theorem dX9_mends_29 : decode cX9_mends 29 = .ok (.getfield 242, 3) := by decide +kernel
theorem dX9_mends_32 : decode cX9_mends 32 = .ok (.ifCond .le 28, 3) := by decide +kernel
theorem dX9_mends_35 : decode cX9_mends 35 = .ok (.aload_n 0, 1) := by decide +kernel
theorem dX9_mends_36 : decode cX9_mends 36 = .ok (.iload_n 2, 1) := by decide +kernel
theorem dX9_mends_37 : decode cX9_mends 37 = .ok (.invokevirtual 406, 3) := by decide +kernel
theorem dX9_mends_40 : decode cX9_mends 40 = .ok (.istore_n 3, 1) := by decide +kernel
theorem dX9_mends_41 : decode cX9_mends 41 = .ok (.iload_n 1, 1) := by decide +kernel
theorem dX9_mends_42 : decode cX9_mends 42 = .ok (.iload_n 3, 1) := by decide +kernel
theorem dX9_mends_43 : decode cX9_mends 43 = .ok (.iload_n 3, 1) := by decide +kernel
theorem dX9_mends_44 : decode cX9_mends 44 = .ok (.iconst 1, 1) := by decide +kernel
theorem dX9_mends_45 : decode cX9_mends 45 = .ok (.ishl, 1) := by decide +kernel
theorem dX9_mends_46 : decode cX9_mends 46 = .ok (.iconst (-1), 1) := by decide +kernel
theorem dX9_mends_47 : decode cX9_mends 47 = .ok (.ixor, 1) := by decide +kernel
theorem dX9_mends_48 : decode cX9_mends 48 = .ok (.iand, 1) := by decide +kernel
theorem dX9_mends_49 : decode cX9_mends 49 = .ok (.invokestatic 295, 3) := by decide +kernel
theorem dX9_mends_52 : decode cX9_mends 52 = .ok (.iadd, 1) := by decide +kernel
theorem dX9_mends_53 : decode cX9_mends 53 = .ok (.istore_n 1, 1) := by decide +kernel
theorem dX9_mends_54 : decode cX9_mends 54 = .ok (.iinc 2 1, 3) := by decide +kernel
theorem dX9_mends_57 : decode cX9_mends 57 = .ok (.goto (-37), 3) := by decide +kernel
theorem dX9_mends_60 : decode cX9_mends 60 = .ok (.iload_n 1, 1) := by decide +kernel
theorem dX9_mends_61 : decode cX9_mends 61 = .ok (.ireturn, 1) := by decide +kernel
theorem dX9_hasBy_0 : decode cX9_hasBy 0 = .ok (.iload_n 0, 1) := by decide +kernel
theorem dX9_hasBy_1 : decode cX9_hasBy 1 = .ok (.iload_n 1, 1) := by decide +kernel
theorem dX9_hasBy_2 : decode cX9_hasBy 2 = .ok (.if_icmp .ne 16, 3) := by decide +kernel
theorem dX9_hasBy_5 : decode cX9_hasBy 5 = .ok (.iload_n 0, 1) := by decide +kernel
theorem dX9_hasBy_6 : decode cX9_hasBy 6 = .ok (.ifCond .ne 8, 3) := by decide +kernel
theorem dX9_hasBy_9 : decode cX9_hasBy 9 = .ok (.iload_n 3, 1) := by decide +kernel
theorem dX9_hasBy_10 : decode cX9_hasBy 10 = .ok (.ineg, 1) := by decide +kernel
theorem dX9_hasBy_11 : decode cX9_hasBy 11 = .ok (.goto 16, 3) := by decide +kernel
theorem dX9_hasBy_14 : decode cX9_hasBy 14 = .ok (.iload_n 3, 1) := by decide +kernel
theorem dX9_hasBy_15 : decode cX9_hasBy 15 = .ok (.goto 12, 3) := by decide +kernel
theorem dX9_hasBy_18 : decode cX9_hasBy 18 = .ok (.iload_n 0, 1) := by decide +kernel
theorem dX9_hasBy_19 : decode cX9_hasBy 19 = .ok (.ifCond .ne 7, 3) := by decide +kernel
theorem dX9_hasBy_22 : decode cX9_hasBy 22 = .ok (.iload_n 2, 1) := by decide +kernel
theorem dX9_hasBy_23 : decode cX9_hasBy 23 = .ok (.goto 4, 3) := by decide +kernel
theorem dX9_hasBy_26 : decode cX9_hasBy 26 = .ok (.iconst 0, 1) := by decide +kernel
theorem dX9_hasBy_27 : decode cX9_hasBy 27 = .ok (.ireturn, 1) := by decide +kernel
theorem dX9_isBest_0 : decode cX9_isBest 0 = .ok (.iload_n 0, 1) := by decide +kernel
theorem dX9_isBest_1 : decode cX9_isBest 1 = .ok (.iload_n 1, 1) := by decide +kernel
theorem dX9_isBest_2 : decode cX9_isBest 2 = .ok (.iload_n 2, 1) := by decide +kernel
theorem dX9_isBest_3 : decode cX9_isBest 3 = .ok (.iload_n 3, 1) := by decide +kernel
theorem dX9_isBest_4 : decode cX9_isBest 4 = .ok (.invokestatic 409, 3) := by decide +kernel
theorem dX9_isBest_7 : decode cX9_isBest 7 = .ok (.iconst 1, 1) := by decide +kernel
theorem dX9_isBest_8 : decode cX9_isBest 8 = .ok (.iload_n 0, 1) := by decide +kernel
theorem dX9_isBest_9 : decode cX9_isBest 9 = .ok (.isub, 1) := by decide +kernel
theorem dX9_isBest_10 : decode cX9_isBest 10 = .ok (.iload_n 1, 1) := by decide +kernel
theorem dX9_isBest_11 : decode cX9_isBest 11 = .ok (.iload_n 2, 1) := by decide +kernel
theorem dX9_isBest_12 : decode cX9_isBest 12 = .ok (.iload_n 3, 1) := by decide +kernel
theorem dX9_isBest_13 : decode cX9_isBest 13 = .ok (.invokestatic 409, 3) := by decide +kernel
theorem dX9_isBest_16 : decode cX9_isBest 16 = .ok (.if_icmp .lt 7, 3) := by decide +kernel
theorem dX9_isBest_19 : decode cX9_isBest 19 = .ok (.iconst 1, 1) := by decide +kernel
theorem dX9_isBest_20 : decode cX9_isBest 20 = .ok (.goto 4, 3) := by decide +kernel
theorem dX9_isBest_23 : decode cX9_isBest 23 = .ok (.iconst 0, 1) := by decide +kernel
theorem dX9_isBest_24 : decode cX9_isBest 24 = .ok (.ireturn, 1) := by decide +kernel
